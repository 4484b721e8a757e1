section FW
set_option maxRecDepth 100000 in
set_option maxHeartbeats 4000000 in
theorem l_X6_leastRow_10 {Φ : gwC} {hb : gwHp} {M : Nat} {sh : Nat → Option gSh} {th : Nat} {p1 : Int} {c : W0} {κ : Int → Option Int} {r : Int} {K : Option Value → gwHp → Prop} (h0 : sT sh th) (hK : K (some (vI r)) (hp Φ hb M sh c)) (hκ : ∀ (x2 : Int), κ x2 = some r → G Φ mX6_leastRow (gw_M Φ mX6_leastRow K) none 0 0 122 [(2, vI x2)] [] (hp Φ hb M sh c)) : ∀ (n : Nat) (l2 : Int) (l3 : Int) (l5 : Int) (l7 : Int), f_X6_leastRow_10 th p1 c κ n l2 l3 l5 l7 = some r → G Φ mX6_leastRow (gw_M Φ mX6_leastRow K) none 0 0 10 [(0, .ref (M + th)), (1, vI p1), (2, vI l2), (3, vL l3), (5, vL l5), (7, vI l7)] [] (hp Φ hb M sh c) := by
  intro n
  induction n with
  | zero => intro l2 l3 l5 l7 H; cases H
  | succ n ih =>
    intro l2 l3 l5 l7 H
    have H : b_X6_leastRow_10 th p1 c κ (f_X6_leastRow_10 th p1 c κ n) l2 l3 l5 l7 = some r := H
    unfold b_X6_leastRow_10 at H
    refine gw_iload dX6_leastRow_10 rfl rfl ?_
    refine gw_aload_n dX6_leastRow_12 rfl rfl ?_
    refine gs_getI cl6 0 0 dX6_leastRow_13 rfl kw_188 (by decide) (h0.1) rfl rfl ?_
    obtain ⟨g, H⟩ := gd_i H
    refine gw_icmp_geZ (tgt := 122) dX6_leastRow_16 rfl (by decide) g.1 g.2 (fun q => ?_) (fun q => ?_)
    · have H := bq_t q H
      exact gw_L (hκ _ H) ((lvA_c rfl lvA_n))
    · have H := bq_f q H
      refine gw_aload_n dX6_leastRow_19 rfl rfl ?_
      refine gs_getR cl6 4 dX6_leastRow_20 rfl kw_195 (by decide) (h0.1) rfl ?_
      refine gw_iload dX6_leastRow_23 rfl rfl ?_
      refine gw_iload_n dX6_leastRow_25 rfl rfl ?_
      obtain ⟨g, H⟩ := gd_i H
      refine gw_V2 okX1_at dX6_leastRow_26 kw_450 kw_415 kw_416 (hp_o (h0.2.2.1)) rfl ⟨by decide, by decide⟩ ⟨by decide, by decide⟩ (Nat.le_of_ble_eq_true rfl) (k_at (h0.2.2) (by decide) (by omega) (by omega) (by omega) (by decide) ?_)
      refine gw_lstore dX6_leastRow_29 rfl (by decide) ?_
      refine gw_aload_n dX6_leastRow_31 rfl rfl ?_
      refine gs_getR cl6 4 dX6_leastRow_32 rfl kw_195 (by decide) (h0.1) rfl ?_
      refine gw_iload dX6_leastRow_35 rfl rfl ?_
      refine gw_aload_n dX6_leastRow_37 rfl rfl ?_
      refine gs_getI cl6 1 1 dX6_leastRow_38 rfl kw_190 (by decide) (h0.1) rfl rfl ?_
      obtain ⟨g, H⟩ := gd_i H
      refine gw_V2 okX1_at dX6_leastRow_41 kw_450 kw_415 kw_416 (hp_o (h0.2.2.1)) rfl ⟨by decide, by decide⟩ ⟨by decide, by decide⟩ (Nat.le_of_ble_eq_true rfl) (k_at (h0.2.2) (by decide) (by omega) (by omega) (by omega) (by decide) ?_)
      refine gw_lstore dX6_leastRow_44 rfl (by decide) ?_
      refine gw_lload dX6_leastRow_46 rfl rfl ?_
      refine gw_lload_n dX6_leastRow_48 rfl rfl ?_
      refine gw_lmulZ dX6_leastRow_49 rfl ?_
      refine gw_lload dX6_leastRow_50 rfl rfl ?_
      refine gw_lload dX6_leastRow_52 rfl rfl ?_
      refine gw_lmulZ dX6_leastRow_54 rfl ?_
      refine gw_lsubZ dX6_leastRow_55 rfl ?_
      refine gw_lstore dX6_leastRow_56 rfl (by decide) ?_
      refine gw_lload dX6_leastRow_58 rfl rfl ?_
      refine gw_lconst0Z dX6_leastRow_60 rfl ?_
      obtain ⟨g, H⟩ := gd_i H
      refine gw_lc_leZ (tgt := 116) dX6_leastRow_61 rfl dX6_leastRow_62 rfl (by decide) g (by decide) (fun q => ?_) (fun q => ?_)
      · have H := bq_t q H
        refine gw_iincZ dX6_leastRow_116 rfl rfl (by decide) ?_
        refine gw_goto (tgt := 10) dX6_leastRow_119 (by decide) ?_
        exact gw_L (ih _ _ _ _ H) ((lvA_c rfl (lvA_c rfl (lvA_c rfl (lvA_c rfl (lvA_c rfl (lvA_c rfl lvA_n)))))))
      · have H := bq_f q H
        refine gw_iload_n dX6_leastRow_65 rfl rfl ?_
        obtain ⟨g, H⟩ := gd_i H
        obtain ⟨k1, e_k1, H⟩ := jn_i H
        have hJ : ∀ (u2 : Unit), k1 u2 = some r → G Φ mX6_leastRow (gw_M Φ mX6_leastRow K) none 0 0 106 [(0, .ref (M + th)), (1, vI p1), (7, vI l7), (8, vL (c (th + 4) (l7 * 9 + p1))), (10, vL (c (th + 4) (l7 * 9 + (c th 1))))] [] (hp Φ hb M sh c) := by
          intro u2 H
          subst e_k1
          refine gw_iload dX6_leastRow_106 rfl rfl ?_
          refine gw_istore_n dX6_leastRow_108 rfl (by decide) ?_
          refine gw_lload dX6_leastRow_109 rfl rfl ?_
          refine gw_lstore_n dX6_leastRow_111 rfl (by decide) ?_
          refine gw_lload dX6_leastRow_112 rfl rfl ?_
          refine gw_lstore dX6_leastRow_114 rfl (by decide) ?_
          refine gw_iincZ dX6_leastRow_116 rfl rfl (by decide) ?_
          refine gw_goto (tgt := 10) dX6_leastRow_119 (by decide) ?_
          exact gw_L (ih _ _ _ _ H) ((lvA_c rfl (lvA_c rfl (lvA_c rfl (lvA_c rfl (lvA_c rfl (lvA_c rfl lvA_n)))))))
        refine gw_if_ltZ (tgt := 106) dX6_leastRow_66 rfl (by decide) g (fun q => ?_) (fun q => ?_)
        · have H := bq_t q H
          exact gw_L (hJ _ H) ((lvA_c rfl (lvA_c rfl (lvA_c rfl (lvA_c rfl (lvA_c rfl lvA_n))))))
        · have H := bq_f q H
          refine gw_lload dX6_leastRow_69 rfl rfl ?_
          refine gw_lconst0Z dX6_leastRow_71 rfl ?_
          obtain ⟨g, H⟩ := gd_i H
          refine gw_lc_ltZ (tgt := 106) dX6_leastRow_72 rfl dX6_leastRow_73 rfl (by decide) g (by decide) (fun q => ?_) (fun q => ?_)
          · have H := bq_t q H
            exact gw_L (hJ _ H) ((lvA_c rfl (lvA_c rfl (lvA_c rfl (lvA_c rfl (lvA_c rfl lvA_n))))))
          · have H := bq_f q H
            refine gw_lload dX6_leastRow_76 rfl rfl ?_
            refine gw_lconst0Z dX6_leastRow_78 rfl ?_
            obtain ⟨g, H⟩ := gd_i H
            refine gw_lc_neZ (tgt := 116) dX6_leastRow_79 rfl dX6_leastRow_80 rfl (by decide) g (by decide) (fun q => ?_) (fun q => ?_)
            · have H := bq_f q H
              refine gw_iincZ dX6_leastRow_116 rfl rfl (by decide) ?_
              refine gw_goto (tgt := 10) dX6_leastRow_119 (by decide) ?_
              exact gw_L (ih _ _ _ _ H) ((lvA_c rfl (lvA_c rfl (lvA_c rfl (lvA_c rfl (lvA_c rfl (lvA_c rfl lvA_n)))))))
            · have H := bq_t q H
              refine gw_aload_n dX6_leastRow_83 rfl rfl ?_
              refine gs_getR cl6 3 dX6_leastRow_84 rfl kw_194 (by decide) (h0.1) rfl ?_
              refine gw_iconstZ dX6_leastRow_87 rfl ?_
              refine gw_iload dX6_leastRow_88 rfl rfl ?_
              obtain ⟨g, H⟩ := gd_i H
              refine gw_V2 okX1_at dX6_leastRow_90 kw_450 kw_415 kw_416 (hp_o (h0.2.1.1)) rfl ⟨by decide, by decide⟩ ⟨by decide, by decide⟩ (Nat.le_of_ble_eq_true rfl) (k_at0 (h0.2.1) (by decide) (by omega) (by omega) (by decide) ?_)
              refine gw_aload_n dX6_leastRow_93 rfl rfl ?_
              refine gs_getR cl6 3 dX6_leastRow_94 rfl kw_194 (by decide) (h0.1) rfl ?_
              refine gw_iconstZ dX6_leastRow_97 rfl ?_
              refine gw_iload_n dX6_leastRow_98 rfl rfl ?_
              obtain ⟨g, H⟩ := gd_i H
              refine gw_V2 okX1_at dX6_leastRow_99 kw_450 kw_415 kw_416 (hp_o (h0.2.1.1)) rfl ⟨by decide, by decide⟩ ⟨by decide, by decide⟩ (Nat.le_of_ble_eq_true rfl) (k_at0 (h0.2.1) (by decide) (by omega) (by omega) (by decide) ?_)
              obtain ⟨g, H⟩ := gd_i H
              refine gw_lc_geZ (tgt := 116) dX6_leastRow_102 rfl dX6_leastRow_103 rfl (by decide) g.1 g.2 (fun q => ?_) (fun q => ?_)
              · have H := bq_t q H
                refine gw_iincZ dX6_leastRow_116 rfl rfl (by decide) ?_
                refine gw_goto (tgt := 10) dX6_leastRow_119 (by decide) ?_
                exact gw_L (ih _ _ _ _ H) ((lvA_c rfl (lvA_c rfl (lvA_c rfl (lvA_c rfl (lvA_c rfl (lvA_c rfl lvA_n)))))))
              · have H := bq_f q H
                exact gw_L (hJ _ H) ((lvA_c rfl (lvA_c rfl (lvA_c rfl (lvA_c rfl (lvA_c rfl lvA_n))))))
set_option maxRecDepth 100000 in
set_option maxHeartbeats 4000000 in
theorem w_X6_leastRow {Φ : gwC} {hb : gwHp} {M : Nat} {sh : Nat → Option gSh} {th : Nat} {p1 : Int} {c : W0} {r : Int} {K : Option Value → gwHp → Prop} (h0 : sT sh th) (H : f_X6_leastRow th p1 c = some r) (hK : K (some (vI r)) (hp Φ hb M sh c)) : gw_Con Φ mX6_leastRow none [.ref (M + th), vI p1] (hp Φ hb M sh c) K := by
  unfold f_X6_leastRow at H
  refine gw_start okX6_leastRow (Nat.le_of_ble_eq_true rfl) ?_
  refine gw_iconstZ dX6_leastRow_0 rfl ?_
  refine gw_istore_n dX6_leastRow_1 rfl (by decide) ?_
  refine gw_lconst0Z dX6_leastRow_2 rfl ?_
  refine gw_lstore_n dX6_leastRow_3 rfl (by decide) ?_
  refine gw_lconst0Z dX6_leastRow_4 rfl ?_
  refine gw_lstore dX6_leastRow_5 rfl (by decide) ?_
  refine gw_iconstZ dX6_leastRow_7 rfl ?_
  refine gw_istore dX6_leastRow_8 rfl (by decide) ?_
  refine gw_L (l_X6_leastRow_10 h0 hK (fun v1 H => ?_) LF _ _ _ _ H) ((lvA_c rfl (lvA_c rfl (lvA_c rfl (lvA_c rfl (lvA_c rfl (lvA_c rfl lvA_n)))))))
  refine gw_iload_n dX6_leastRow_122 rfl rfl ?_
  cases H
  exact gw_iret dX6_leastRow_123 rfl (by decide) (by decide) hK
set_option maxRecDepth 100000 in
set_option maxHeartbeats 4000000 in
theorem w_X6_side {Φ : gwC} {hb : gwHp} {M : Nat} {sh : Nat → Option gSh} {th : Nat} {p1 : Int} {c : W0} {r : Int} {K : Option Value → gwHp → Prop} (h0 : sT sh th) (H : f_X6_side th p1 c = some r) (hK : K (some (vL r)) (hp Φ hb M sh c)) : gw_Con Φ mX6_side none [.ref (M + th), vI p1] (hp Φ hb M sh c) K := by
  unfold f_X6_side at H
  refine gw_start okX6_side (Nat.le_of_ble_eq_true rfl) ?_
  refine gw_aload_n dX6_side_0 rfl rfl ?_
  refine gs_getR cl6 4 dX6_side_1 rfl kw_195 (by decide) (h0.1) rfl ?_
  refine gw_iload_n dX6_side_4 rfl rfl ?_
  refine gw_aload_n dX6_side_5 rfl rfl ?_
  refine gs_getI cl6 1 1 dX6_side_6 rfl kw_190 (by decide) (h0.1) rfl rfl ?_
  obtain ⟨g, H⟩ := gd_i H
  refine gw_V2 okX1_at dX6_side_9 kw_450 kw_415 kw_416 (hp_o (h0.2.2.1)) rfl ⟨by decide, by decide⟩ ⟨by decide, by decide⟩ (Nat.le_of_ble_eq_true rfl) (k_at (h0.2.2) (by decide) (by omega) (by omega) (by omega) (by decide) ?_)
  cases H
  exact gw_lret dX6_side_12 rfl (by decide) (by decide) hK
set_option maxRecDepth 100000 in
set_option maxHeartbeats 4000000 in
theorem w_X6_entry {Φ : gwC} {hb : gwHp} {M : Nat} {sh : Nat → Option gSh} {th : Nat} {p1 : Int} {p2 : Int} {c : W0} {r : Int} {K : Option Value → gwHp → Prop} (h0 : sT sh th) (H : f_X6_entry th p1 p2 c = some r) (hK : K (some (vL r)) (hp Φ hb M sh c)) : gw_Con Φ mX6_entry none [.ref (M + th), vI p1, vI p2] (hp Φ hb M sh c) K := by
  unfold f_X6_entry at H
  refine gw_start okX6_entry (Nat.le_of_ble_eq_true rfl) ?_
  refine gw_aload_n dX6_entry_0 rfl rfl ?_
  refine gs_getR cl6 4 dX6_entry_1 rfl kw_195 (by decide) (h0.1) rfl ?_
  refine gw_iload_n dX6_entry_4 rfl rfl ?_
  refine gw_iload_n dX6_entry_5 rfl rfl ?_
  obtain ⟨g, H⟩ := gd_i H
  refine gw_V2 okX1_at dX6_entry_6 kw_450 kw_415 kw_416 (hp_o (h0.2.2.1)) rfl ⟨by decide, by decide⟩ ⟨by decide, by decide⟩ (Nat.le_of_ble_eq_true rfl) (k_at (h0.2.2) (by decide) (by omega) (by omega) (by omega) (by decide) ?_)
  cases H
  exact gw_lret dX6_entry_9 rfl (by decide) (by decide) hK
set_option maxRecDepth 100000 in
set_option maxHeartbeats 4000000 in
theorem w_X6_gainsMore {Φ : gwC} {hb : gwHp} {M : Nat} {sh : Nat → Option gSh} {th : Nat} {p1 : Int} {p2 : Int} {c : W0} {r : Int} {K : Option Value → gwHp → Prop} (h0 : sT sh th) (H : f_X6_gainsMore th p1 p2 c = some r) (hK : K (some (vI r)) (hp Φ hb M sh c)) : gw_Con Φ mX6_gainsMore none [.ref (M + th), vI p1, vI p2] (hp Φ hb M sh c) K := by
  unfold f_X6_gainsMore at H
  refine gw_start okX6_gainsMore (Nat.le_of_ble_eq_true rfl) ?_
  refine gw_aload_n dX6_gainsMore_0 rfl rfl ?_
  refine gw_iload_n dX6_gainsMore_1 rfl rfl ?_
  obtain ⟨v1, e_v1, H⟩ := cv_i H
  refine gw_V1 okX6_leastRow dX6_gainsMore_2 kw_455 kw_456 kw_457 (hp_o (h0.1)) rfl ⟨by decide, by decide⟩ ⟨by decide, by decide⟩ (Nat.le_of_ble_eq_true rfl) (w_X6_leastRow (h0) e_v1 ?_)
  refine gw_istore_n dX6_gainsMore_5 rfl (by decide) ?_
  refine gw_aload_n dX6_gainsMore_6 rfl rfl ?_
  refine gw_iload_n dX6_gainsMore_7 rfl rfl ?_
  obtain ⟨v2, e_v2, H⟩ := cv_i H
  refine gw_V1 okX6_leastRow dX6_gainsMore_8 kw_455 kw_456 kw_457 (hp_o (h0.1)) rfl ⟨by decide, by decide⟩ ⟨by decide, by decide⟩ (Nat.le_of_ble_eq_true rfl) (w_X6_leastRow (h0) e_v2 ?_)
  refine gw_istore dX6_gainsMore_11 rfl (by decide) ?_
  refine gw_aload_n dX6_gainsMore_13 rfl rfl ?_
  refine gw_iload_n dX6_gainsMore_14 rfl rfl ?_
  obtain ⟨v3, e_v3, H⟩ := cv_i H
  refine gw_V1 okX6_reduced dX6_gainsMore_15 kw_446 kw_447 kw_448 (hp_o (h0.1)) rfl ⟨by decide, by decide⟩ ⟨by decide, by decide⟩ (Nat.le_of_ble_eq_true rfl) (w_X6_reduced (h0) e_v3 ?_)
  refine gw_aload_n dX6_gainsMore_18 rfl rfl ?_
  refine gw_iload_n dX6_gainsMore_19 rfl rfl ?_
  obtain ⟨v4, e_v4, H⟩ := cv_i H
  refine gw_V1 okX6_side dX6_gainsMore_20 kw_467 kw_468 kw_469 (hp_o (h0.1)) rfl ⟨by decide, by decide⟩ ⟨by decide, by decide⟩ (Nat.le_of_ble_eq_true rfl) (w_X6_side (h0) e_v4 ?_)
  refine gw_lmulZ dX6_gainsMore_23 rfl ?_
  refine gw_aload_n dX6_gainsMore_24 rfl rfl ?_
  refine gw_iload dX6_gainsMore_25 rfl rfl ?_
  refine gw_iload_n dX6_gainsMore_27 rfl rfl ?_
  obtain ⟨v5, e_v5, H⟩ := cv_i H
  refine gw_V2 okX6_entry dX6_gainsMore_28 kw_471 kw_472 kw_473 (hp_o (h0.1)) rfl ⟨by decide, by decide⟩ ⟨by decide, by decide⟩ (Nat.le_of_ble_eq_true rfl) (w_X6_entry (h0) e_v5 ?_)
  refine gw_lmulZ dX6_gainsMore_31 rfl ?_
  refine gw_lstore dX6_gainsMore_32 rfl (by decide) ?_
  refine gw_aload_n dX6_gainsMore_34 rfl rfl ?_
  refine gw_iload_n dX6_gainsMore_35 rfl rfl ?_
  obtain ⟨v6, e_v6, H⟩ := cv_i H
  refine gw_V1 okX6_reduced dX6_gainsMore_36 kw_446 kw_447 kw_448 (hp_o (h0.1)) rfl ⟨by decide, by decide⟩ ⟨by decide, by decide⟩ (Nat.le_of_ble_eq_true rfl) (w_X6_reduced (h0) e_v6 ?_)
  refine gw_aload_n dX6_gainsMore_39 rfl rfl ?_
  refine gw_iload dX6_gainsMore_40 rfl rfl ?_
  obtain ⟨v7, e_v7, H⟩ := cv_i H
  refine gw_V1 okX6_side dX6_gainsMore_42 kw_467 kw_468 kw_469 (hp_o (h0.1)) rfl ⟨by decide, by decide⟩ ⟨by decide, by decide⟩ (Nat.le_of_ble_eq_true rfl) (w_X6_side (h0) e_v7 ?_)
  refine gw_lmulZ dX6_gainsMore_45 rfl ?_
  refine gw_aload_n dX6_gainsMore_46 rfl rfl ?_
  refine gw_iload_n dX6_gainsMore_47 rfl rfl ?_
  refine gw_iload_n dX6_gainsMore_48 rfl rfl ?_
  obtain ⟨v8, e_v8, H⟩ := cv_i H
  refine gw_V2 okX6_entry dX6_gainsMore_49 kw_471 kw_472 kw_473 (hp_o (h0.1)) rfl ⟨by decide, by decide⟩ ⟨by decide, by decide⟩ (Nat.le_of_ble_eq_true rfl) (w_X6_entry (h0) e_v8 ?_)
  refine gw_lmulZ dX6_gainsMore_52 rfl ?_
  refine gw_lstore dX6_gainsMore_53 rfl (by decide) ?_
  refine gw_lload dX6_gainsMore_55 rfl rfl ?_
  refine gw_lload dX6_gainsMore_57 rfl rfl ?_
  obtain ⟨g, H⟩ := gd_i H
  refine gw_lc_leZ (tgt := 67) dX6_gainsMore_59 rfl dX6_gainsMore_60 rfl (by decide) g.1 g.2 (fun q => ?_) (fun q => ?_)
  · have H := bq_t q H
    refine gw_iconstZ dX6_gainsMore_67 rfl ?_
    cases H
    exact gw_zret rfl dX6_gainsMore_68 rfl (by decide) (by decide) hK
  · have H := bq_f q H
    refine gw_iconstZ dX6_gainsMore_63 rfl ?_
    refine gw_goto (tgt := 68) dX6_gainsMore_64 (by decide) ?_
    cases H
    exact gw_zret rfl dX6_gainsMore_68 rfl (by decide) (by decide) hK
set_option maxRecDepth 100000 in
set_option maxHeartbeats 4000000 in
theorem l_X6_chosenColumn_4 {Φ : gwC} {hb : gwHp} {M : Nat} {sh : Nat → Option gSh} {th : Nat} {p1 : Int} {c : W0} {κ : Int → Option Int} {r : Int} {K : Option Value → gwHp → Prop} (h0 : sT sh th) (hK : K (some (vI r)) (hp Φ hb M sh c)) (hκ : ∀ (x2 : Int), κ x2 = some r → G Φ mX6_chosenColumn (gw_M Φ mX6_chosenColumn K) none 0 0 67 [(2, vI x2)] [] (hp Φ hb M sh c)) : ∀ (n : Nat) (l2 : Int) (l3 : Int), f_X6_chosenColumn_4 th p1 c κ n l2 l3 = some r → G Φ mX6_chosenColumn (gw_M Φ mX6_chosenColumn K) none 0 0 4 [(0, .ref (M + th)), (1, vI p1), (2, vI l2), (3, vI l3)] [] (hp Φ hb M sh c) := by
  intro n
  induction n with
  | zero => intro l2 l3 H; cases H
  | succ n ih =>
    intro l2 l3 H
    have H : b_X6_chosenColumn_4 th p1 c κ (f_X6_chosenColumn_4 th p1 c κ n) l2 l3 = some r := H
    unfold b_X6_chosenColumn_4 at H
    refine gw_iload_n dX6_chosenColumn_4 rfl rfl ?_
    refine gw_aload_n dX6_chosenColumn_5 rfl rfl ?_
    refine gs_getI cl6 1 1 dX6_chosenColumn_6 rfl kw_190 (by decide) (h0.1) rfl rfl ?_
    obtain ⟨g, H⟩ := gd_i H
    refine gw_icmp_geZ (tgt := 67) dX6_chosenColumn_9 rfl (by decide) g.1 g.2 (fun q => ?_) (fun q => ?_)
    · have H := bq_t q H
      exact gw_L (hκ _ H) ((lvA_c rfl lvA_n))
    · have H := bq_f q H
      refine gw_aload_n dX6_chosenColumn_12 rfl rfl ?_
      refine gw_iload_n dX6_chosenColumn_13 rfl rfl ?_
      obtain ⟨v1, e_v1, H⟩ := cv_i H
      refine gw_V1 okX6_reduced dX6_chosenColumn_14 kw_446 kw_447 kw_448 (hp_o (h0.1)) rfl ⟨by decide, by decide⟩ ⟨by decide, by decide⟩ (Nat.le_of_ble_eq_true rfl) (w_X6_reduced (h0) e_v1 ?_)
      refine gw_lconst0Z dX6_chosenColumn_17 rfl ?_
      obtain ⟨g, H⟩ := gd_i H
      refine gw_lc_leZ (tgt := 61) dX6_chosenColumn_18 rfl dX6_chosenColumn_19 rfl (by decide) g (by decide) (fun q => ?_) (fun q => ?_)
      · have H := bq_t q H
        refine gw_iincZ dX6_chosenColumn_61 rfl rfl (by decide) ?_
        refine gw_goto (tgt := 4) dX6_chosenColumn_64 (by decide) ?_
        exact gw_L (ih _ _ H) ((lvA_c rfl (lvA_c rfl (lvA_c rfl (lvA_c rfl lvA_n)))))
      · have H := bq_f q H
        refine gw_iload_n dX6_chosenColumn_22 rfl rfl ?_
        obtain ⟨g, H⟩ := gd_i H
        refine gw_if_ltZ (tgt := 59) dX6_chosenColumn_23 rfl (by decide) g (fun q => ?_) (fun q => ?_)
        · have H := bq_t q H
          refine gw_iload_n dX6_chosenColumn_59 rfl rfl ?_
          refine gw_istore_n dX6_chosenColumn_60 rfl (by decide) ?_
          refine gw_iincZ dX6_chosenColumn_61 rfl rfl (by decide) ?_
          refine gw_goto (tgt := 4) dX6_chosenColumn_64 (by decide) ?_
          exact gw_L (ih _ _ H) ((lvA_c rfl (lvA_c rfl (lvA_c rfl (lvA_c rfl lvA_n)))))
        · have H := bq_f q H
          refine gw_iload_n dX6_chosenColumn_26 rfl rfl ?_
          refine gw_iconstZ dX6_chosenColumn_27 rfl ?_
          obtain ⟨g, H⟩ := gd_i H
          obtain ⟨k2, e_k2, H⟩ := jn_i H
          have hJ : ∀ (u3 : Unit), k2 u3 = some r → G Φ mX6_chosenColumn (gw_M Φ mX6_chosenColumn K) none 0 0 45 [(0, .ref (M + th)), (1, vI p1), (2, vI l2), (3, vI l3)] [] (hp Φ hb M sh c) := by
            intro u3 H
            subst e_k2
            refine gw_iload_n dX6_chosenColumn_45 rfl rfl ?_
            refine gw_iconstZ dX6_chosenColumn_46 rfl ?_
            obtain ⟨g, H⟩ := gd_i H
            refine gw_icmp_neZ (tgt := 61) dX6_chosenColumn_47 rfl (by decide) g (by decide) (fun q => ?_) (fun q => ?_)
            · have H := bq_f q H
              refine gw_iincZ dX6_chosenColumn_61 rfl rfl (by decide) ?_
              refine gw_goto (tgt := 4) dX6_chosenColumn_64 (by decide) ?_
              exact gw_L (ih _ _ H) ((lvA_c rfl (lvA_c rfl (lvA_c rfl (lvA_c rfl lvA_n)))))
            · have H := bq_t q H
              refine gw_aload_n dX6_chosenColumn_50 rfl rfl ?_
              refine gw_iload_n dX6_chosenColumn_51 rfl rfl ?_
              refine gw_iload_n dX6_chosenColumn_52 rfl rfl ?_
              obtain ⟨v4, e_v4, H⟩ := cv_i H
              refine gw_V2 okX6_gainsMore dX6_chosenColumn_53 kw_463 kw_465 kw_2 (hp_o (h0.1)) rfl ⟨by decide, by decide⟩ ⟨by decide, by decide⟩ (Nat.le_of_ble_eq_true rfl) (w_X6_gainsMore (h0) e_v4 ?_)
              obtain ⟨g, H⟩ := gd_i H
              refine gw_if_eqZ (tgt := 61) dX6_chosenColumn_56 rfl (by decide) g (fun q => ?_) (fun q => ?_)
              · have H := bq_t q H
                refine gw_iincZ dX6_chosenColumn_61 rfl rfl (by decide) ?_
                refine gw_goto (tgt := 4) dX6_chosenColumn_64 (by decide) ?_
                exact gw_L (ih _ _ H) ((lvA_c rfl (lvA_c rfl (lvA_c rfl (lvA_c rfl lvA_n)))))
              · have H := bq_f q H
                refine gw_iload_n dX6_chosenColumn_59 rfl rfl ?_
                refine gw_istore_n dX6_chosenColumn_60 rfl (by decide) ?_
                refine gw_iincZ dX6_chosenColumn_61 rfl rfl (by decide) ?_
                refine gw_goto (tgt := 4) dX6_chosenColumn_64 (by decide) ?_
                exact gw_L (ih _ _ H) ((lvA_c rfl (lvA_c rfl (lvA_c rfl (lvA_c rfl lvA_n)))))
          refine gw_icmp_neZ (tgt := 45) dX6_chosenColumn_28 rfl (by decide) g (by decide) (fun q => ?_) (fun q => ?_)
          · have H := bq_f q H
            exact gw_L (hJ _ H) ((lvA_c rfl (lvA_c rfl (lvA_c rfl (lvA_c rfl lvA_n)))))
          · have H := bq_t q H
            refine gw_aload_n dX6_chosenColumn_31 rfl rfl ?_
            refine gw_iload_n dX6_chosenColumn_32 rfl rfl ?_
            obtain ⟨v5, e_v5, H⟩ := cv_i H
            refine gw_V1 okX6_reduced dX6_chosenColumn_33 kw_446 kw_447 kw_448 (hp_o (h0.1)) rfl ⟨by decide, by decide⟩ ⟨by decide, by decide⟩ (Nat.le_of_ble_eq_true rfl) (w_X6_reduced (h0) e_v5 ?_)
            refine gw_aload_n dX6_chosenColumn_36 rfl rfl ?_
            refine gw_iload_n dX6_chosenColumn_37 rfl rfl ?_
            obtain ⟨v6, e_v6, H⟩ := cv_i H
            refine gw_V1 okX6_reduced dX6_chosenColumn_38 kw_446 kw_447 kw_448 (hp_o (h0.1)) rfl ⟨by decide, by decide⟩ ⟨by decide, by decide⟩ (Nat.le_of_ble_eq_true rfl) (w_X6_reduced (h0) e_v6 ?_)
            obtain ⟨g, H⟩ := gd_i H
            refine gw_lc_gtZ (tgt := 59) dX6_chosenColumn_41 rfl dX6_chosenColumn_42 rfl (by decide) g.1 g.2 (fun q => ?_) (fun q => ?_)
            · have H := bq_t q H
              refine gw_iload_n dX6_chosenColumn_59 rfl rfl ?_
              refine gw_istore_n dX6_chosenColumn_60 rfl (by decide) ?_
              refine gw_iincZ dX6_chosenColumn_61 rfl rfl (by decide) ?_
              refine gw_goto (tgt := 4) dX6_chosenColumn_64 (by decide) ?_
              exact gw_L (ih _ _ H) ((lvA_c rfl (lvA_c rfl (lvA_c rfl (lvA_c rfl lvA_n)))))
            · have H := bq_f q H
              exact gw_L (hJ _ H) ((lvA_c rfl (lvA_c rfl (lvA_c rfl (lvA_c rfl lvA_n)))))
set_option maxRecDepth 100000 in
set_option maxHeartbeats 4000000 in
theorem w_X6_chosenColumn {Φ : gwC} {hb : gwHp} {M : Nat} {sh : Nat → Option gSh} {th : Nat} {p1 : Int} {c : W0} {r : Int} {K : Option Value → gwHp → Prop} (h0 : sT sh th) (H : f_X6_chosenColumn th p1 c = some r) (hK : K (some (vI r)) (hp Φ hb M sh c)) : gw_Con Φ mX6_chosenColumn none [.ref (M + th), vI p1] (hp Φ hb M sh c) K := by
  unfold f_X6_chosenColumn at H
  refine gw_start okX6_chosenColumn (Nat.le_of_ble_eq_true rfl) ?_
  refine gw_iconstZ dX6_chosenColumn_0 rfl ?_
  refine gw_istore_n dX6_chosenColumn_1 rfl (by decide) ?_
  refine gw_iconstZ dX6_chosenColumn_2 rfl ?_
  refine gw_istore_n dX6_chosenColumn_3 rfl (by decide) ?_
  refine gw_L (l_X6_chosenColumn_4 h0 hK (fun v1 H => ?_) LF _ _ H) ((lvA_c rfl (lvA_c rfl (lvA_c rfl (lvA_c rfl lvA_n)))))
  refine gw_iload_n dX6_chosenColumn_67 rfl rfl ?_
  cases H
  exact gw_iret dX6_chosenColumn_68 rfl (by decide) (by decide) hK
set_option maxRecDepth 100000 in
set_option maxHeartbeats 4000000 in
theorem w_X4_chosenColumn {Φ : gwC} {hb : gwHp} {M : Nat} {sh : Nat → Option gSh} {th : Nat} {c : W0} {r : Int} {K : Option Value → gwHp → Prop} (h0 : sS sh th) (H : f_X4_chosenColumn th c = some r) (hK : K (some (vI r)) (hp Φ hb M sh c)) : gw_Con Φ mX4_chosenColumn none [.ref (M + th)] (hp Φ hb M sh c) K := by
  unfold f_X4_chosenColumn at H
  refine gw_start okX4_chosenColumn (Nat.le_of_ble_eq_true rfl) ?_
  refine gw_aload_n dX4_chosenColumn_0 rfl rfl ?_
  refine gs_getR cl4 1 dX4_chosenColumn_1 rfl kw_210 (by decide) (h0.1) rfl ?_
  refine gw_aload_n dX4_chosenColumn_4 rfl rfl ?_
  refine gs_getI cl4 2 2 dX4_chosenColumn_5 rfl kw_213 (by decide) (h0.1) rfl rfl ?_
  obtain ⟨v1, e_v1, H⟩ := cv_i H
  refine gw_V1 okX6_chosenColumn dX4_chosenColumn_8 kw_459 kw_460 kw_461 (hp_o (h0.2.2.1)) rfl ⟨by decide, by decide⟩ ⟨by decide, by decide⟩ (Nat.le_of_ble_eq_true rfl) (w_X6_chosenColumn (h0.2.2) e_v1 ?_)
  cases H
  exact gw_iret dX4_chosenColumn_11 rfl (by decide) (by decide) hK
set_option maxRecDepth 100000 in
set_option maxHeartbeats 4000000 in
theorem l_X6_turn_17 {Φ : gwC} {hb : gwHp} {M : Nat} {sh : Nat → Option gSh} {th : Nat} {p1 : Int} {p2 : Int} {l3 : Int} {κ : W0 → Option (Int × W0)} {r : Int × W0} {K : Option Value → gwHp → Prop} (h0 : sT sh th) (hK : K none (hp Φ hb M sh r.2)) (hκ : ∀ (c : W0), κ c = some r → G Φ mX6_turn (gw_M Φ mX6_turn K) none 0 0 57 [(0, .ref (M + th)), (1, vI p1), (2, vI p2), (3, vL l3)] [] (hp Φ hb M sh c)) : ∀ (n : Nat) (l5 : Int) (c : W0), f_X6_turn_17 th p1 p2 l3 κ n l5 c = some r → G Φ mX6_turn (gw_M Φ mX6_turn K) none 0 0 17 [(0, .ref (M + th)), (1, vI p1), (2, vI p2), (3, vL l3), (5, vI l5)] [] (hp Φ hb M sh c) := by
  intro n
  induction n with
  | zero => intro l5 c H; cases H
  | succ n ih =>
    intro l5 c H
    have H : b_X6_turn_17 th p1 p2 l3 κ (f_X6_turn_17 th p1 p2 l3 κ n) l5 c = some r := H
    unfold b_X6_turn_17 at H
    refine gw_iload dX6_turn_17 rfl rfl ?_
    refine gw_aload_n dX6_turn_19 rfl rfl ?_
    refine gs_getI cl6 0 0 dX6_turn_20 rfl kw_188 (by decide) (h0.1) rfl rfl ?_
    obtain ⟨g, H⟩ := gd_i H
    refine gw_icmp_gtZ (tgt := 57) dX6_turn_23 rfl (by decide) g.1 g.2 (fun q => ?_) (fun q => ?_)
    · have H := bq_t q H
      exact gw_L (hκ _ H) ((lvA_c rfl (lvA_c rfl (lvA_c rfl (lvA_c rfl lvA_n)))))
    · have H := bq_f q H
      refine gw_iload dX6_turn_26 rfl rfl ?_
      refine gw_iload_n dX6_turn_28 rfl rfl ?_
      obtain ⟨g, H⟩ := gd_i H
      refine gw_icmp_eqZ (tgt := 51) dX6_turn_29 rfl (by decide) g.1 g.2 (fun q => ?_) (fun q => ?_)
      · have H := bq_t q H
        refine gw_iincZ dX6_turn_51 rfl rfl (by decide) ?_
        refine gw_goto (tgt := 17) dX6_turn_54 (by decide) ?_
        exact gw_L (ih _ _ H) ((lvA_c rfl (lvA_c rfl (lvA_c rfl (lvA_c rfl (lvA_c rfl lvA_n))))))
      · have H := bq_f q H
        refine gw_aload_n dX6_turn_32 rfl rfl ?_
        refine gs_getR cl6 4 dX6_turn_33 rfl kw_195 (by decide) (h0.1) rfl ?_
        refine gw_iload dX6_turn_36 rfl rfl ?_
        refine gw_iload_n dX6_turn_38 rfl rfl ?_
        refine gw_iload_n dX6_turn_39 rfl rfl ?_
        refine gw_aload_n dX6_turn_40 rfl rfl ?_
        refine gs_getI cl6 1 1 dX6_turn_41 rfl kw_190 (by decide) (h0.1) rfl rfl ?_
        refine gw_aload_n dX6_turn_44 rfl rfl ?_
        refine gs_getL cl6 2 2 dX6_turn_45 rfl kw_192 (by decide) (h0.1) rfl rfl ?_
        obtain ⟨g, H⟩ := gd_i H
        obtain ⟨c1, e_c1, H⟩ := stw_i H
        refine gw_V5 okX1_clear dX6_turn_48 kw_485 kw_486 kw_487 (hp_o (h0.2.2.1)) rfl ⟨by decide, by decide⟩ ⟨by decide, by decide⟩ (Nat.le_of_ble_eq_true rfl) (k_clearE (h0.2.2) (by decide) (by decide) (by decide) (by decide) g e_c1 ?_)
        refine gw_iincZ dX6_turn_51 rfl rfl (by decide) ?_
        refine gw_goto (tgt := 17) dX6_turn_54 (by decide) ?_
        exact gw_L (ih _ _ H) ((lvA_c rfl (lvA_c rfl (lvA_c rfl (lvA_c rfl (lvA_c rfl lvA_n))))))
set_option maxRecDepth 100000 in
set_option maxHeartbeats 4000000 in
theorem w_X6_turn {Φ : gwC} {hb : gwHp} {M : Nat} {sh : Nat → Option gSh} {th : Nat} {p1 : Int} {p2 : Int} {c : W0} {r : Int × W0} {K : Option Value → gwHp → Prop} (h0 : sT sh th) (H : f_X6_turn th p1 p2 c = some r) (hK : K none (hp Φ hb M sh r.2)) : gw_Con Φ mX6_turn none [.ref (M + th), vI p1, vI p2] (hp Φ hb M sh c) K := by
  unfold f_X6_turn at H
  refine gw_start okX6_turn (Nat.le_of_ble_eq_true rfl) ?_
  refine gw_aload_n dX6_turn_0 rfl rfl ?_
  refine gw_iload_n dX6_turn_1 rfl rfl ?_
  refine gw_iload_n dX6_turn_2 rfl rfl ?_
  obtain ⟨v1, e_v1, H⟩ := cv_i H
  refine gw_V2 okX6_entry dX6_turn_3 kw_471 kw_472 kw_473 (hp_o (h0.1)) rfl ⟨by decide, by decide⟩ ⟨by decide, by decide⟩ (Nat.le_of_ble_eq_true rfl) (w_X6_entry (h0) e_v1 ?_)
  refine gw_lstore_n dX6_turn_6 rfl (by decide) ?_
  refine gw_lload_n dX6_turn_7 rfl rfl ?_
  refine gw_lconst0Z dX6_turn_8 rfl ?_
  obtain ⟨g, H⟩ := gd_i H
  refine gw_lc_gtZ (tgt := 14) dX6_turn_9 rfl dX6_turn_10 rfl (by decide) g (by decide) (fun q => ?_) (fun q => ?_)
  · have H := bq_t q H
    refine gw_iconstZ dX6_turn_14 rfl ?_
    refine gw_istore dX6_turn_15 rfl (by decide) ?_
    refine gw_L (l_X6_turn_17 h0 hK (fun c2 H => ?_) LF _ _ H) ((lvA_c rfl (lvA_c rfl (lvA_c rfl (lvA_c rfl (lvA_c rfl lvA_n))))))
    refine gw_aload_n dX6_turn_57 rfl rfl ?_
    refine gs_getR cl6 3 dX6_turn_58 rfl kw_194 (by decide) (h0.1) rfl ?_
    refine gw_iconstZ dX6_turn_61 rfl ?_
    refine gw_iload_n dX6_turn_62 rfl rfl ?_
    refine gw_iload_n dX6_turn_63 rfl rfl ?_
    obtain ⟨g, H⟩ := gd_i H
    refine gw_i2lZ dX6_turn_64 rfl g ?_
    obtain ⟨g, H⟩ := gd_i H
    obtain ⟨c3, e_c3, H⟩ := sto_i H
    refine gw_V3 okX1_put dX6_turn_65 kw_402 kw_403 kw_404 (hp_o (h0.2.1.1)) rfl ⟨by decide, by decide⟩ ⟨by decide, by decide⟩ (Nat.le_of_ble_eq_true rfl) (k_put0E (h0.2.1) (by decide) (by omega) (by omega) (by decide) e_c3 ?_)
    refine gw_aload_n dX6_turn_68 rfl rfl ?_
    refine gw_lload_n dX6_turn_69 rfl rfl ?_
    obtain ⟨c4, e_c4, H⟩ := sto_i H
    refine gs_putLE cl6 2 2 dX6_turn_70 rfl kw_192 (by decide) rfl rfl (h0.1) rfl rfl e_c4 ?_
    cases H
    exact gw_vret dX6_turn_73 rfl (by decide) (by decide) hK
  · have H := bq_f q H
    cases H
    exact gw_vret dX6_turn_13 rfl (by decide) (by decide) hK
set_option maxRecDepth 100000 in
set_option maxHeartbeats 4000000 in
theorem w_X4_turn {Φ : gwC} {hb : gwHp} {M : Nat} {sh : Nat → Option gSh} {th : Nat} {p1 : Int} {p2 : Int} {c : W0} {r : Int × W0} {K : Option Value → gwHp → Prop} (h0 : sS sh th) (H : f_X4_turn th p1 p2 c = some r) (hK : K none (hp Φ hb M sh r.2)) : gw_Con Φ mX4_turn none [.ref (M + th), vI p1, vI p2] (hp Φ hb M sh c) K := by
  unfold f_X4_turn at H
  refine gw_start okX4_turn (Nat.le_of_ble_eq_true rfl) ?_
  refine gw_aload_n dX4_turn_0 rfl rfl ?_
  refine gs_getR cl4 1 dX4_turn_1 rfl kw_210 (by decide) (h0.1) rfl ?_
  refine gw_iload_n dX4_turn_4 rfl rfl ?_
  obtain ⟨v1, e_v1, H⟩ := cv_i H
  refine gw_V1 okX6_side dX4_turn_5 kw_480 kw_468 kw_469 (hp_o (h0.2.2.1)) rfl ⟨by decide, by decide⟩ ⟨by decide, by decide⟩ (Nat.le_of_ble_eq_true rfl) (w_X6_side (h0.2.2) e_v1 ?_)
  refine gw_lconst0Z dX4_turn_8 rfl ?_
  obtain ⟨g, H⟩ := gd_i H
  obtain ⟨k2, e_k2, H⟩ := jn_i H
  have hJ : ∀ (c3 : W0), k2 c3 = some r → G Φ mX4_turn (gw_M Φ mX4_turn K) none 0 0 23 [(0, .ref (M + th)), (1, vI p1), (2, vI p2)] [] (hp Φ hb M sh c3) := by
    intro c3 H
    subst e_k2
    refine gw_aload_n dX4_turn_23 rfl rfl ?_
    refine gs_getR cl4 1 dX4_turn_24 rfl kw_210 (by decide) (h0.1) rfl ?_
    refine gw_iload_n dX4_turn_27 rfl rfl ?_
    refine gw_iload_n dX4_turn_28 rfl rfl ?_
    obtain ⟨v5, c4, e_c4, H⟩ := cl_i H
    refine gw_V2 okX6_turn dX4_turn_29 kw_481 kw_482 kw_483 (hp_o (h0.2.2.1)) rfl ⟨by decide, by decide⟩ ⟨by decide, by decide⟩ (Nat.le_of_ble_eq_true rfl) (w_X6_turn (h0.2.2) e_c4 ?_)
    refine gw_aload_n dX4_turn_32 rfl rfl ?_
    refine gw_dup dX4_turn_33 rfl rfl ?_
    refine gs_getI cl4 3 3 dX4_turn_34 rfl kw_215 (by decide) (h0.1) rfl rfl ?_
    refine gw_iconstZ dX4_turn_37 rfl ?_
    refine gw_iaddZ dX4_turn_38 rfl ?_
    obtain ⟨c6, e_c6, H⟩ := sto_i H
    refine gs_putIE cl4 3 3 dX4_turn_39 rfl kw_215 (by decide) rfl rfl (h0.1) rfl rfl e_c6 ?_
    refine gw_aload_n dX4_turn_42 rfl rfl ?_
    refine gw_dup dX4_turn_43 rfl rfl ?_
    refine gs_getI cl4 4 4 dX4_turn_44 rfl kw_217 (by decide) (h0.1) rfl rfl ?_
    refine gw_iconstZ dX4_turn_47 rfl ?_
    refine gw_iaddZ dX4_turn_48 rfl ?_
    obtain ⟨c7, e_c7, H⟩ := sto_i H
    refine gs_putIE cl4 4 4 dX4_turn_49 rfl kw_217 (by decide) rfl rfl (h0.1) rfl rfl e_c7 ?_
    cases H
    exact gw_vret dX4_turn_52 rfl (by decide) (by decide) hK
  refine gw_lc_neZ (tgt := 23) dX4_turn_9 rfl dX4_turn_10 rfl (by decide) g (by decide) (fun q => ?_) (fun q => ?_)
  · have H := bq_f q H
    exact gw_L (hJ _ H) ((lvA_c rfl (lvA_c rfl (lvA_c rfl lvA_n))))
  · have H := bq_t q H
    refine gw_aload_n dX4_turn_13 rfl rfl ?_
    refine gw_dup dX4_turn_14 rfl rfl ?_
    refine gs_getI cl4 5 5 dX4_turn_15 rfl kw_219 (by decide) (h0.1) rfl rfl ?_
    refine gw_iconstZ dX4_turn_18 rfl ?_
    refine gw_iaddZ dX4_turn_19 rfl ?_
    obtain ⟨c8, e_c8, H⟩ := sto_i H
    refine gs_putIE cl4 5 5 dX4_turn_20 rfl kw_219 (by decide) rfl rfl (h0.1) rfl rfl e_c8 ?_
    exact gw_L (hJ _ H) ((lvA_c rfl (lvA_c rfl (lvA_c rfl lvA_n))))
set_option maxRecDepth 100000 in
set_option maxHeartbeats 4000000 in
theorem l_X6_isBest_2 {Φ : gwC} {hb : gwHp} {M : Nat} {sh : Nat → Option gSh} {th : Nat} {c : W0} {κ : Option Int} {r : Int} {K : Option Value → gwHp → Prop} (h0 : sT sh th) (hK : K (some (vI r)) (hp Φ hb M sh c)) (hκ : κ  = some r → G Φ mX6_isBest (gw_M Φ mX6_isBest K) none 0 0 28 [] [] (hp Φ hb M sh c)) : ∀ (n : Nat) (l1 : Int), f_X6_isBest_2 th c κ n l1 = some r → G Φ mX6_isBest (gw_M Φ mX6_isBest K) none 0 0 2 [(0, .ref (M + th)), (1, vI l1)] [] (hp Φ hb M sh c) := by
  intro n
  induction n with
  | zero => intro l1 H; cases H
  | succ n ih =>
    intro l1 H
    have H : b_X6_isBest_2 th c κ (f_X6_isBest_2 th c κ n) l1 = some r := H
    unfold b_X6_isBest_2 at H
    refine gw_iload_n dX6_isBest_2 rfl rfl ?_
    refine gw_aload_n dX6_isBest_3 rfl rfl ?_
    refine gs_getI cl6 1 1 dX6_isBest_4 rfl kw_190 (by decide) (h0.1) rfl rfl ?_
    obtain ⟨g, H⟩ := gd_i H
    refine gw_icmp_geZ (tgt := 28) dX6_isBest_7 rfl (by decide) g.1 g.2 (fun q => ?_) (fun q => ?_)
    · have H := bq_t q H
      exact gw_L (hκ H) (lvA_n)
    · have H := bq_f q H
      refine gw_aload_n dX6_isBest_10 rfl rfl ?_
      refine gw_iload_n dX6_isBest_11 rfl rfl ?_
      obtain ⟨v1, e_v1, H⟩ := cv_i H
      refine gw_V1 okX6_reduced dX6_isBest_12 kw_446 kw_447 kw_448 (hp_o (h0.1)) rfl ⟨by decide, by decide⟩ ⟨by decide, by decide⟩ (Nat.le_of_ble_eq_true rfl) (w_X6_reduced (h0) e_v1 ?_)
      refine gw_lconst0Z dX6_isBest_15 rfl ?_
      obtain ⟨g, H⟩ := gd_i H
      refine gw_lc_leZ (tgt := 22) dX6_isBest_16 rfl dX6_isBest_17 rfl (by decide) g (by decide) (fun q => ?_) (fun q => ?_)
      · have H := bq_t q H
        refine gw_iincZ dX6_isBest_22 rfl rfl (by decide) ?_
        refine gw_goto (tgt := 2) dX6_isBest_25 (by decide) ?_
        exact gw_L (ih _ H) ((lvA_c rfl (lvA_c rfl lvA_n)))
      · have H := bq_f q H
        refine gw_iconstZ dX6_isBest_20 rfl ?_
        cases H
        exact gw_zret rfl dX6_isBest_21 rfl (by decide) (by decide) hK
set_option maxRecDepth 100000 in
set_option maxHeartbeats 4000000 in
theorem w_X6_isBest {Φ : gwC} {hb : gwHp} {M : Nat} {sh : Nat → Option gSh} {th : Nat} {c : W0} {r : Int} {K : Option Value → gwHp → Prop} (h0 : sT sh th) (H : f_X6_isBest th c = some r) (hK : K (some (vI r)) (hp Φ hb M sh c)) : gw_Con Φ mX6_isBest none [.ref (M + th)] (hp Φ hb M sh c) K := by
  unfold f_X6_isBest at H
  refine gw_start okX6_isBest (Nat.le_of_ble_eq_true rfl) ?_
  refine gw_iconstZ dX6_isBest_0 rfl ?_
  refine gw_istore_n dX6_isBest_1 rfl (by decide) ?_
  refine gw_L (l_X6_isBest_2 h0 hK (fun H => ?_) LF _ H) ((lvA_c rfl (lvA_c rfl lvA_n)))
  refine gw_iconstZ dX6_isBest_28 rfl ?_
  cases H
  exact gw_zret rfl dX6_isBest_29 rfl (by decide) (by decide) hK
set_option maxRecDepth 100000 in
set_option maxHeartbeats 4000000 in
theorem l_X6_openColumn_2 {Φ : gwC} {hb : gwHp} {M : Nat} {sh : Nat → Option gSh} {th : Nat} {c : W0} {κ : Option Int} {r : Int} {K : Option Value → gwHp → Prop} (h0 : sT sh th) (hK : K (some (vI r)) (hp Φ hb M sh c)) (hκ : κ  = some r → G Φ mX6_openColumn (gw_M Φ mX6_openColumn K) none 0 0 36 [] [] (hp Φ hb M sh c)) : ∀ (n : Nat) (l1 : Int), f_X6_openColumn_2 th c κ n l1 = some r → G Φ mX6_openColumn (gw_M Φ mX6_openColumn K) none 0 0 2 [(0, .ref (M + th)), (1, vI l1)] [] (hp Φ hb M sh c) := by
  intro n
  induction n with
  | zero => intro l1 H; cases H
  | succ n ih =>
    intro l1 H
    have H : b_X6_openColumn_2 th c κ (f_X6_openColumn_2 th c κ n) l1 = some r := H
    unfold b_X6_openColumn_2 at H
    refine gw_iload_n dX6_openColumn_2 rfl rfl ?_
    refine gw_aload_n dX6_openColumn_3 rfl rfl ?_
    refine gs_getI cl6 1 1 dX6_openColumn_4 rfl kw_190 (by decide) (h0.1) rfl rfl ?_
    obtain ⟨g, H⟩ := gd_i H
    refine gw_icmp_geZ (tgt := 36) dX6_openColumn_7 rfl (by decide) g.1 g.2 (fun q => ?_) (fun q => ?_)
    · have H := bq_t q H
      exact gw_L (hκ H) (lvA_n)
    · have H := bq_f q H
      refine gw_aload_n dX6_openColumn_10 rfl rfl ?_
      refine gw_iload_n dX6_openColumn_11 rfl rfl ?_
      obtain ⟨v1, e_v1, H⟩ := cv_i H
      refine gw_V1 okX6_reduced dX6_openColumn_12 kw_446 kw_447 kw_448 (hp_o (h0.1)) rfl ⟨by decide, by decide⟩ ⟨by decide, by decide⟩ (Nat.le_of_ble_eq_true rfl) (w_X6_reduced (h0) e_v1 ?_)
      refine gw_lconst0Z dX6_openColumn_15 rfl ?_
      obtain ⟨g, H⟩ := gd_i H
      refine gw_lc_leZ (tgt := 30) dX6_openColumn_16 rfl dX6_openColumn_17 rfl (by decide) g (by decide) (fun q => ?_) (fun q => ?_)
      · have H := bq_t q H
        refine gw_iincZ dX6_openColumn_30 rfl rfl (by decide) ?_
        refine gw_goto (tgt := 2) dX6_openColumn_33 (by decide) ?_
        exact gw_L (ih _ H) ((lvA_c rfl (lvA_c rfl lvA_n)))
      · have H := bq_f q H
        refine gw_aload_n dX6_openColumn_20 rfl rfl ?_
        refine gw_iload_n dX6_openColumn_21 rfl rfl ?_
        obtain ⟨v2, e_v2, H⟩ := cv_i H
        refine gw_V1 okX6_leastRow dX6_openColumn_22 kw_455 kw_456 kw_457 (hp_o (h0.1)) rfl ⟨by decide, by decide⟩ ⟨by decide, by decide⟩ (Nat.le_of_ble_eq_true rfl) (w_X6_leastRow (h0) e_v2 ?_)
        obtain ⟨g, H⟩ := gd_i H
        refine gw_if_geZ (tgt := 30) dX6_openColumn_25 rfl (by decide) g (fun q => ?_) (fun q => ?_)
        · have H := bq_t q H
          refine gw_iincZ dX6_openColumn_30 rfl rfl (by decide) ?_
          refine gw_goto (tgt := 2) dX6_openColumn_33 (by decide) ?_
          exact gw_L (ih _ H) ((lvA_c rfl (lvA_c rfl lvA_n)))
        · have H := bq_f q H
          refine gw_iload_n dX6_openColumn_28 rfl rfl ?_
          cases H
          exact gw_iret dX6_openColumn_29 rfl (by decide) (by decide) hK
set_option maxRecDepth 100000 in
set_option maxHeartbeats 4000000 in
theorem w_X6_openColumn {Φ : gwC} {hb : gwHp} {M : Nat} {sh : Nat → Option gSh} {th : Nat} {c : W0} {r : Int} {K : Option Value → gwHp → Prop} (h0 : sT sh th) (H : f_X6_openColumn th c = some r) (hK : K (some (vI r)) (hp Φ hb M sh c)) : gw_Con Φ mX6_openColumn none [.ref (M + th)] (hp Φ hb M sh c) K := by
  unfold f_X6_openColumn at H
  refine gw_start okX6_openColumn (Nat.le_of_ble_eq_true rfl) ?_
  refine gw_iconstZ dX6_openColumn_0 rfl ?_
  refine gw_istore_n dX6_openColumn_1 rfl (by decide) ?_
  refine gw_L (l_X6_openColumn_2 h0 hK (fun H => ?_) LF _ H) ((lvA_c rfl (lvA_c rfl lvA_n)))
  refine gw_iconstZ dX6_openColumn_36 rfl ?_
  cases H
  exact gw_iret dX6_openColumn_37 rfl (by decide) (by decide) hK
set_option maxRecDepth 100000 in
set_option maxHeartbeats 4000000 in
theorem w_X6_isOpen {Φ : gwC} {hb : gwHp} {M : Nat} {sh : Nat → Option gSh} {th : Nat} {c : W0} {r : Int} {K : Option Value → gwHp → Prop} (h0 : sT sh th) (H : f_X6_isOpen th c = some r) (hK : K (some (vI r)) (hp Φ hb M sh c)) : gw_Con Φ mX6_isOpen none [.ref (M + th)] (hp Φ hb M sh c) K := by
  unfold f_X6_isOpen at H
  refine gw_start okX6_isOpen (Nat.le_of_ble_eq_true rfl) ?_
  refine gw_aload_n dX6_isOpen_0 rfl rfl ?_
  obtain ⟨v1, e_v1, H⟩ := cv_i H
  refine gw_V0 okX6_isBest dX6_isOpen_1 kw_442 kw_443 kw_444 (hp_o (h0.1)) rfl ⟨by decide, by decide⟩ ⟨by decide, by decide⟩ (Nat.le_of_ble_eq_true rfl) (w_X6_isBest (h0) e_v1 ?_)
  obtain ⟨g, H⟩ := gd_i H
  refine gw_if_neZ (tgt := 18) dX6_isOpen_4 rfl (by decide) g (fun q => ?_) (fun q => ?_)
  · have H := bq_f q H
    refine gw_iconstZ dX6_isOpen_18 rfl ?_
    cases H
    exact gw_zret rfl dX6_isOpen_19 rfl (by decide) (by decide) hK
  · have H := bq_t q H
    refine gw_aload_n dX6_isOpen_7 rfl rfl ?_
    obtain ⟨v2, e_v2, H⟩ := cv_i H
    refine gw_V0 okX6_openColumn dX6_isOpen_8 kw_451 kw_452 kw_453 (hp_o (h0.1)) rfl ⟨by decide, by decide⟩ ⟨by decide, by decide⟩ (Nat.le_of_ble_eq_true rfl) (w_X6_openColumn (h0) e_v2 ?_)
    obtain ⟨g, H⟩ := gd_i H
    refine gw_if_geZ (tgt := 18) dX6_isOpen_11 rfl (by decide) g (fun q => ?_) (fun q => ?_)
    · have H := bq_t q H
      refine gw_iconstZ dX6_isOpen_18 rfl ?_
      cases H
      exact gw_zret rfl dX6_isOpen_19 rfl (by decide) (by decide) hK
    · have H := bq_f q H
      refine gw_iconstZ dX6_isOpen_14 rfl ?_
      refine gw_goto (tgt := 19) dX6_isOpen_15 (by decide) ?_
      cases H
      exact gw_zret rfl dX6_isOpen_19 rfl (by decide) (by decide) hK
set_option maxRecDepth 100000 in
set_option maxHeartbeats 4000000 in
theorem l_X4_run_2 {Φ : gwC} {hb : gwHp} {M : Nat} {sh : Nat → Option gSh} {th : Nat} {κ : Int → W0 → Option (Int × W0)} {r : Int × W0} {K : Option Value → gwHp → Prop} (h0 : sS sh th) (hK : K (some (vI r.1)) (hp Φ hb M sh r.2)) (hκ : ∀ (x1 : Int) (c : W0), κ x1 c = some r → G Φ mX4_run (gw_M Φ mX4_run K) none 0 0 49 [(1, vI x1)] [] (hp Φ hb M sh c)) : ∀ (n : Nat) (l1 : Int) (c : W0), f_X4_run_2 th κ n l1 c = some r → G Φ mX4_run (gw_M Φ mX4_run K) none 0 0 2 [(0, .ref (M + th)), (1, vI l1)] [] (hp Φ hb M sh c) := by
  intro n
  induction n with
  | zero => intro l1 c H; cases H
  | succ n ih =>
    intro l1 c H
    have H : b_X4_run_2 th κ (f_X4_run_2 th κ n) l1 c = some r := H
    unfold b_X4_run_2 at H
    refine gw_iload_n dX4_run_2 rfl rfl ?_
    refine gw_bipushZ dX4_run_3 rfl (by decide) ?_
    obtain ⟨g, H⟩ := gd_i H
    refine gw_icmp_geZ (tgt := 49) dX4_run_5 rfl (by decide) g (by decide) (fun q => ?_) (fun q => ?_)
    · have H := bq_t q H
      exact gw_L (hκ _ _ H) ((lvA_c rfl lvA_n))
    · have H := bq_f q H
      refine gw_aload_n dX4_run_8 rfl rfl ?_
      refine gs_getR cl4 1 dX4_run_9 rfl kw_210 (by decide) (h0.1) rfl ?_
      obtain ⟨v1, e_v1, H⟩ := cv_i H
      refine gw_V0 okX6_isOpen dX4_run_12 kw_438 kw_439 kw_440 (hp_o (h0.2.2.1)) rfl ⟨by decide, by decide⟩ ⟨by decide, by decide⟩ (Nat.le_of_ble_eq_true rfl) (w_X6_isOpen (h0.2.2) e_v1 ?_)
      obtain ⟨g, H⟩ := gd_i H
      refine gw_if_eqZ (tgt := 49) dX4_run_15 rfl (by decide) g (fun q => ?_) (fun q => ?_)
      · have H := bq_t q H
        exact gw_L (hκ _ _ H) ((lvA_c rfl lvA_n))
      · have H := bq_f q H
        refine gw_aload_n dX4_run_18 rfl rfl ?_
        refine gs_getR cl4 1 dX4_run_19 rfl kw_210 (by decide) (h0.1) rfl ?_
        refine gw_aload_n dX4_run_22 rfl rfl ?_
        refine gs_getI cl4 2 2 dX4_run_23 rfl kw_213 (by decide) (h0.1) rfl rfl ?_
        obtain ⟨v2, e_v2, H⟩ := cv_i H
        refine gw_V1 okX6_chosenColumn dX4_run_26 kw_459 kw_460 kw_461 (hp_o (h0.2.2.1)) rfl ⟨by decide, by decide⟩ ⟨by decide, by decide⟩ (Nat.le_of_ble_eq_true rfl) (w_X6_chosenColumn (h0.2.2) e_v2 ?_)
        refine gw_istore_n dX4_run_29 rfl (by decide) ?_
        refine gw_aload_n dX4_run_30 rfl rfl ?_
        refine gw_aload_n dX4_run_31 rfl rfl ?_
        refine gs_getR cl4 1 dX4_run_32 rfl kw_210 (by decide) (h0.1) rfl ?_
        refine gw_iload_n dX4_run_35 rfl rfl ?_
        obtain ⟨v3, e_v3, H⟩ := cv_i H
        refine gw_V1 okX6_leastRow dX4_run_36 kw_475 kw_456 kw_457 (hp_o (h0.2.2.1)) rfl ⟨by decide, by decide⟩ ⟨by decide, by decide⟩ (Nat.le_of_ble_eq_true rfl) (w_X6_leastRow (h0.2.2) e_v3 ?_)
        refine gw_iload_n dX4_run_39 rfl rfl ?_
        obtain ⟨v5, c4, e_c4, H⟩ := cl_i H
        refine gw_V2 okX4_turn dX4_run_40 kw_476 kw_477 kw_478 (hp_o (h0.1)) rfl ⟨by decide, by decide⟩ ⟨by decide, by decide⟩ (Nat.le_of_ble_eq_true rfl) (w_X4_turn (h0) e_c4 ?_)
        refine gw_iincZ dX4_run_43 rfl rfl (by decide) ?_
        refine gw_goto (tgt := 2) dX4_run_46 (by decide) ?_
        exact gw_L (ih _ _ H) ((lvA_c rfl (lvA_c rfl lvA_n)))
set_option maxRecDepth 100000 in
set_option maxHeartbeats 4000000 in
theorem w_X4_run {Φ : gwC} {hb : gwHp} {M : Nat} {sh : Nat → Option gSh} {th : Nat} {c : W0} {r : Int × W0} {K : Option Value → gwHp → Prop} (h0 : sS sh th) (H : f_X4_run th c = some r) (hK : K (some (vI r.1)) (hp Φ hb M sh r.2)) : gw_Con Φ mX4_run none [.ref (M + th)] (hp Φ hb M sh c) K := by
  unfold f_X4_run at H
  refine gw_start okX4_run (Nat.le_of_ble_eq_true rfl) ?_
  refine gw_iconstZ dX4_run_0 rfl ?_
  refine gw_istore_n dX4_run_1 rfl (by decide) ?_
  refine gw_L (l_X4_run_2 h0 hK (fun v1 c2 H => ?_) LF _ _ H) ((lvA_c rfl (lvA_c rfl lvA_n)))
  refine gw_iload_n dX4_run_49 rfl rfl ?_
  cases H
  exact gw_iret dX4_run_50 rfl (by decide) (by decide) hK
set_option maxRecDepth 100000 in
set_option maxHeartbeats 4000000 in
theorem w_X4_dual {Φ : gwC} {hb : gwHp} {M : Nat} {sh : Nat → Option gSh} {th : Nat} {p1 : Int} {c : W0} {r : Int} {K : Option Value → gwHp → Prop} (h0 : sS sh th) (H : f_X4_dual th p1 c = some r) (hK : K (some (vL r)) (hp Φ hb M sh c)) : gw_Con Φ mX4_dual none [.ref (M + th), vI p1] (hp Φ hb M sh c) K := by
  unfold f_X4_dual at H
  refine gw_start okX4_dual (Nat.le_of_ble_eq_true rfl) ?_
  refine gw_aload_n dX4_dual_0 rfl rfl ?_
  refine gs_getR cl4 1 dX4_dual_1 rfl kw_210 (by decide) (h0.1) rfl ?_
  refine gw_aload_n dX4_dual_4 rfl rfl ?_
  refine gs_getR cl4 0 dX4_dual_5 rfl kw_207 (by decide) (h0.1) rfl ?_
  refine gs_getIN cl2 0 0 dX4_dual_8 rfl kw_163 (by decide) (h0.2.1.1) rfl rfl ?_
  refine gw_iload_n dX4_dual_11 rfl rfl ?_
  refine gw_iaddZ dX4_dual_12 rfl ?_
  obtain ⟨v1, e_v1, H⟩ := cv_i H
  refine gw_V1 okX6_reduced dX4_dual_13 kw_648 kw_447 kw_448 (hp_o (h0.2.2.1)) rfl ⟨by decide, by decide⟩ ⟨by decide, by decide⟩ (Nat.le_of_ble_eq_true rfl) (w_X6_reduced (h0.2.2) e_v1 ?_)
  refine gw_lnegZ dX4_dual_16 rfl ?_
  cases H
  exact gw_lret dX4_dual_17 rfl (by decide) (by decide) hK
set_option maxRecDepth 100000 in
set_option maxHeartbeats 4000000 in
theorem l_X4_dualWorth_4 {Φ : gwC} {hb : gwHp} {M : Nat} {sh : Nat → Option gSh} {th : Nat} {c : W0} {κ : Int → Option Int} {r : Int} {K : Option Value → gwHp → Prop} (h0 : sS sh th) (hK : K (some (vL r)) (hp Φ hb M sh c)) (hκ : ∀ (x1 : Int), κ x1 = some r → G Φ mX4_dualWorth (gw_M Φ mX4_dualWorth K) none 0 0 39 [(1, vL x1)] [] (hp Φ hb M sh c)) : ∀ (n : Nat) (l1 : Int) (l3 : Int), f_X4_dualWorth_4 th c κ n l1 l3 = some r → G Φ mX4_dualWorth (gw_M Φ mX4_dualWorth K) none 0 0 4 [(0, .ref (M + th)), (1, vL l1), (3, vI l3)] [] (hp Φ hb M sh c) := by
  intro n
  induction n with
  | zero => intro l1 l3 H; cases H
  | succ n ih =>
    intro l1 l3 H
    have H : b_X4_dualWorth_4 th c κ (f_X4_dualWorth_4 th c κ n) l1 l3 = some r := H
    unfold b_X4_dualWorth_4 at H
    refine gw_iload_n dX4_dualWorth_4 rfl rfl ?_
    refine gw_aload_n dX4_dualWorth_5 rfl rfl ?_
    refine gs_getR cl4 0 dX4_dualWorth_6 rfl kw_207 (by decide) (h0.1) rfl ?_
    refine gs_getIN cl2 1 1 dX4_dualWorth_9 rfl kw_169 (by decide) (h0.2.1.1) rfl rfl ?_
    obtain ⟨g, H⟩ := gd_i H
    refine gw_icmp_geZ (tgt := 39) dX4_dualWorth_12 rfl (by decide) g.1 g.2 (fun q => ?_) (fun q => ?_)
    · have H := bq_t q H
      exact gw_L (hκ _ H) ((lvA_c rfl lvA_n))
    · have H := bq_f q H
      refine gw_lload_n dX4_dualWorth_15 rfl rfl ?_
      refine gw_aload_n dX4_dualWorth_16 rfl rfl ?_
      refine gw_iload_n dX4_dualWorth_17 rfl rfl ?_
      obtain ⟨v1, e_v1, H⟩ := cv_i H
      refine gw_V1 okX4_dual dX4_dualWorth_18 kw_644 kw_645 kw_646 (hp_o (h0.1)) rfl ⟨by decide, by decide⟩ ⟨by decide, by decide⟩ (Nat.le_of_ble_eq_true rfl) (w_X4_dual (h0) e_v1 ?_)
      refine gw_aload_n dX4_dualWorth_21 rfl rfl ?_
      refine gs_getR cl4 0 dX4_dualWorth_22 rfl kw_207 (by decide) (h0.1) rfl ?_
      refine gw_iload_n dX4_dualWorth_25 rfl rfl ?_
      obtain ⟨v2, e_v2, H⟩ := cv_i H
      refine gw_V1 okX2_bound dX4_dualWorth_26 kw_649 kw_419 kw_420 (hp_o (h0.2.1.1)) rfl ⟨by decide, by decide⟩ ⟨by decide, by decide⟩ (Nat.le_of_ble_eq_true rfl) (w_X2_bound (h0.2.1) e_v2 ?_)
      obtain ⟨g, H⟩ := gd_i H
      refine gw_i2lZ dX4_dualWorth_29 rfl g ?_
      refine gw_lmulZ dX4_dualWorth_30 rfl ?_
      refine gw_laddZ dX4_dualWorth_31 rfl ?_
      refine gw_lstore_n dX4_dualWorth_32 rfl (by decide) ?_
      refine gw_iincZ dX4_dualWorth_33 rfl rfl (by decide) ?_
      refine gw_goto (tgt := 4) dX4_dualWorth_36 (by decide) ?_
      exact gw_L (ih _ _ H) ((lvA_c rfl (lvA_c rfl (lvA_c rfl lvA_n))))
set_option maxRecDepth 100000 in
set_option maxHeartbeats 4000000 in
theorem w_X4_dualWorth {Φ : gwC} {hb : gwHp} {M : Nat} {sh : Nat → Option gSh} {th : Nat} {c : W0} {r : Int} {K : Option Value → gwHp → Prop} (h0 : sS sh th) (H : f_X4_dualWorth th c = some r) (hK : K (some (vL r)) (hp Φ hb M sh c)) : gw_Con Φ mX4_dualWorth none [.ref (M + th)] (hp Φ hb M sh c) K := by
  unfold f_X4_dualWorth at H
  refine gw_start okX4_dualWorth (Nat.le_of_ble_eq_true rfl) ?_
  refine gw_lconst0Z dX4_dualWorth_0 rfl ?_
  refine gw_lstore_n dX4_dualWorth_1 rfl (by decide) ?_
  refine gw_iconstZ dX4_dualWorth_2 rfl ?_
  refine gw_istore_n dX4_dualWorth_3 rfl (by decide) ?_
  refine gw_L (l_X4_dualWorth_4 h0 hK (fun v1 H => ?_) LF _ _ H) ((lvA_c rfl (lvA_c rfl (lvA_c rfl lvA_n))))
  refine gw_lload_n dX4_dualWorth_39 rfl rfl ?_
  cases H
  exact gw_lret dX4_dualWorth_40 rfl (by decide) (by decide) hK
set_option maxRecDepth 100000 in
set_option maxHeartbeats 4000000 in
theorem l_X6_room_7 {Φ : gwC} {hb : gwHp} {M : Nat} {sh : Nat → Option gSh} {th : Nat} {p1 : Int} {p2 : Int} {c : W0} {κ : Int → Option Int} {r : Int} {K : Option Value → gwHp → Prop} (h0 : sT sh th) (hK : K (some (vI r)) (hp Φ hb M sh c)) (hκ : ∀ (x3 : Int), κ x3 = some r → G Φ mX6_room (gw_M Φ mX6_room K) none 0 0 55 [(3, vL x3)] [] (hp Φ hb M sh c)) : ∀ (n : Nat) (l3 : Int) (l5 : Int), f_X6_room_7 th p1 p2 c κ n l3 l5 = some r → G Φ mX6_room (gw_M Φ mX6_room K) none 0 0 7 [(0, .ref (M + th)), (1, vI p1), (2, vI p2), (3, vL l3), (5, vI l5)] [] (hp Φ hb M sh c) := by
  intro n
  induction n with
  | zero => intro l3 l5 H; cases H
  | succ n ih =>
    intro l3 l5 H
    have H : b_X6_room_7 th p1 p2 c κ (f_X6_room_7 th p1 p2 c κ n) l3 l5 = some r := H
    unfold b_X6_room_7 at H
    refine gw_iload dX6_room_7 rfl rfl ?_
    refine gw_aload_n dX6_room_9 rfl rfl ?_
    refine gs_getI cl6 0 0 dX6_room_10 rfl kw_188 (by decide) (h0.1) rfl rfl ?_
    obtain ⟨g, H⟩ := gd_i H
    refine gw_icmp_geZ (tgt := 55) dX6_room_13 rfl (by decide) g.1 g.2 (fun q => ?_) (fun q => ?_)
    · have H := bq_t q H
      exact gw_L (hκ _ H) ((lvA_c rfl lvA_n))
    · have H := bq_f q H
      refine gw_iload_n dX6_room_16 rfl rfl ?_
      obtain ⟨g, H⟩ := gd_i H
      refine gw_i2lZ dX6_room_17 rfl g ?_
      refine gw_aload_n dX6_room_18 rfl rfl ?_
      refine gw_iload dX6_room_19 rfl rfl ?_
      refine gw_iload_n dX6_room_21 rfl rfl ?_
      obtain ⟨v1, e_v1, H⟩ := cv_i H
      refine gw_V2 okX6_entry dX6_room_22 kw_471 kw_472 kw_473 (hp_o (h0.1)) rfl ⟨by decide, by decide⟩ ⟨by decide, by decide⟩ (Nat.le_of_ble_eq_true rfl) (w_X6_entry (h0) e_v1 ?_)
      refine gw_lmulZ dX6_room_25 rfl ?_
      refine gw_lstore dX6_room_26 rfl (by decide) ?_
      refine gw_lload dX6_room_28 rfl rfl ?_
      refine gw_lconst0Z dX6_room_30 rfl ?_
      obtain ⟨g, H⟩ := gd_i H
      refine gw_lc_leZ (tgt := 49) dX6_room_31 rfl dX6_room_32 rfl (by decide) g (by decide) (fun q => ?_) (fun q => ?_)
      · have H := bq_t q H
        refine gw_iincZ dX6_room_49 rfl rfl (by decide) ?_
        refine gw_goto (tgt := 7) dX6_room_52 (by decide) ?_
        exact gw_L (ih _ _ H) ((lvA_c rfl (lvA_c rfl (lvA_c rfl (lvA_c rfl (lvA_c rfl lvA_n))))))
      · have H := bq_f q H
        refine gw_lload_n dX6_room_35 rfl rfl ?_
        refine gw_aload_n dX6_room_36 rfl rfl ?_
        refine gw_iload dX6_room_37 rfl rfl ?_
        obtain ⟨v2, e_v2, H⟩ := cv_i H
        refine gw_V1 okX6_side dX6_room_39 kw_467 kw_468 kw_469 (hp_o (h0.1)) rfl ⟨by decide, by decide⟩ ⟨by decide, by decide⟩ (Nat.le_of_ble_eq_true rfl) (w_X6_side (h0) e_v2 ?_)
        refine gw_lload dX6_room_42 rfl rfl ?_
        obtain ⟨g, H⟩ := gd_i H
        refine gw_ldivZ dX6_room_44 rfl g.1 g.2.1 g.2.2 ?_
        obtain ⟨g, H⟩ := gd_i H
        refine gw_mminlZ dX6_room_45 rfl kw_862 kw_863 kw_104 kw_864 (by decide) (Nat.le_of_ble_eq_true rfl) (by decide) (by decide) g.1 g.2 ?_
        refine gw_lstore_n dX6_room_48 rfl (by decide) ?_
        refine gw_iincZ dX6_room_49 rfl rfl (by decide) ?_
        refine gw_goto (tgt := 7) dX6_room_52 (by decide) ?_
        exact gw_L (ih _ _ H) ((lvA_c rfl (lvA_c rfl (lvA_c rfl (lvA_c rfl (lvA_c rfl lvA_n))))))
set_option maxRecDepth 100000 in
set_option maxHeartbeats 4000000 in
theorem w_X6_room {Φ : gwC} {hb : gwHp} {M : Nat} {sh : Nat → Option gSh} {th : Nat} {p1 : Int} {p2 : Int} {c : W0} {r : Int} {K : Option Value → gwHp → Prop} (h0 : sT sh th) (H : f_X6_room th p1 p2 c = some r) (hK : K (some (vI r)) (hp Φ hb M sh c)) : gw_Con Φ mX6_room none [.ref (M + th), vI p1, vI p2] (hp Φ hb M sh c) K := by
  unfold f_X6_room at H
  refine gw_start okX6_room (Nat.le_of_ble_eq_true rfl) ?_
  refine gw_ldc2Z (z := 99) dX6_room_0 rfl kw_861 (by decide) ?_
  refine gw_lstore_n dX6_room_3 rfl (by decide) ?_
  refine gw_iconstZ dX6_room_4 rfl ?_
  refine gw_istore dX6_room_5 rfl (by decide) ?_
  refine gw_L (l_X6_room_7 h0 hK (fun v1 H => ?_) LF _ _ H) ((lvA_c rfl (lvA_c rfl (lvA_c rfl (lvA_c rfl (lvA_c rfl lvA_n))))))
  refine gw_lload_n dX6_room_55 rfl rfl ?_
  refine gw_l2iZ dX6_room_56 rfl ?_
  cases H
  exact gw_iret dX6_room_57 rfl (by decide) (by decide) hK
set_option maxRecDepth 100000 in
set_option maxHeartbeats 4000000 in
theorem w_X4_roomToFall {Φ : gwC} {hb : gwHp} {M : Nat} {sh : Nat → Option gSh} {th : Nat} {p1 : Int} {c : W0} {r : Int} {K : Option Value → gwHp → Prop} (h0 : sS sh th) (H : f_X4_roomToFall th p1 c = some r) (hK : K (some (vI r)) (hp Φ hb M sh c)) : gw_Con Φ mX4_roomToFall none [.ref (M + th), vI p1] (hp Φ hb M sh c) K := by
  unfold f_X4_roomToFall at H
  refine gw_start okX4_roomToFall (Nat.le_of_ble_eq_true rfl) ?_
  refine gw_aload_n dX4_roomToFall_0 rfl rfl ?_
  refine gs_getR cl4 1 dX4_roomToFall_1 rfl kw_210 (by decide) (h0.1) rfl ?_
  refine gw_aload_n dX4_roomToFall_4 rfl rfl ?_
  refine gs_getR cl4 0 dX4_roomToFall_5 rfl kw_207 (by decide) (h0.1) rfl ?_
  refine gs_getIN cl2 0 0 dX4_roomToFall_8 rfl kw_163 (by decide) (h0.2.1.1) rfl rfl ?_
  refine gw_iload_n dX4_roomToFall_11 rfl rfl ?_
  refine gw_iaddZ dX4_roomToFall_12 rfl ?_
  refine gw_iconstZ dX4_roomToFall_13 rfl ?_
  obtain ⟨v1, e_v1, H⟩ := cv_i H
  refine gw_V2 okX6_room dX4_roomToFall_14 kw_857 kw_858 kw_859 (hp_o (h0.2.2.1)) rfl ⟨by decide, by decide⟩ ⟨by decide, by decide⟩ (Nat.le_of_ble_eq_true rfl) (w_X6_room (h0.2.2) e_v1 ?_)
  cases H
  exact gw_iret dX4_roomToFall_17 rfl (by decide) (by decide) hK
set_option maxRecDepth 100000 in
set_option maxHeartbeats 4000000 in
theorem w_X4_roomToRise {Φ : gwC} {hb : gwHp} {M : Nat} {sh : Nat → Option gSh} {th : Nat} {p1 : Int} {c : W0} {r : Int} {K : Option Value → gwHp → Prop} (h0 : sS sh th) (H : f_X4_roomToRise th p1 c = some r) (hK : K (some (vI r)) (hp Φ hb M sh c)) : gw_Con Φ mX4_roomToRise none [.ref (M + th), vI p1] (hp Φ hb M sh c) K := by
  unfold f_X4_roomToRise at H
  refine gw_start okX4_roomToRise (Nat.le_of_ble_eq_true rfl) ?_
  refine gw_aload_n dX4_roomToRise_0 rfl rfl ?_
  refine gs_getR cl4 1 dX4_roomToRise_1 rfl kw_210 (by decide) (h0.1) rfl ?_
  refine gw_aload_n dX4_roomToRise_4 rfl rfl ?_
  refine gs_getR cl4 0 dX4_roomToRise_5 rfl kw_207 (by decide) (h0.1) rfl ?_
  refine gs_getIN cl2 0 0 dX4_roomToRise_8 rfl kw_163 (by decide) (h0.2.1.1) rfl rfl ?_
  refine gw_iload_n dX4_roomToRise_11 rfl rfl ?_
  refine gw_iaddZ dX4_roomToRise_12 rfl ?_
  refine gw_iconstZ dX4_roomToRise_13 rfl ?_
  obtain ⟨v1, e_v1, H⟩ := cv_i H
  refine gw_V2 okX6_room dX4_roomToRise_14 kw_857 kw_858 kw_859 (hp_o (h0.2.2.1)) rfl ⟨by decide, by decide⟩ ⟨by decide, by decide⟩ (Nat.le_of_ble_eq_true rfl) (w_X6_room (h0.2.2) e_v1 ?_)
  cases H
  exact gw_iret dX4_roomToRise_17 rfl (by decide) (by decide) hK
set_option maxRecDepth 100000 in
set_option maxHeartbeats 4000000 in
theorem w_J6_bitCount_0f7a4 {Φ : gwC} {hb : gwHp} {M : Nat} {sh : Nat → Option gSh} {p1 : Int} {c : W0} {r : Int} {K : Option Value → gwHp → Prop}  (H : f_J6_bitCount_0f7a4 p1 = some r) (hK : K (some (vI r)) (hp Φ hb M sh c)) : gw_Con Φ mJ6_bitCount_0f7a4 none [vI p1] (hp Φ hb M sh c) K := by
  unfold f_J6_bitCount_0f7a4 at H
  refine gw_start okJ6_bitCount_0f7a4 (Nat.le_of_ble_eq_true rfl) ?_
  refine gw_iload_n dJ6_bitCount_0f7a4_0 rfl rfl ?_
  refine gw_iload_n dJ6_bitCount_0f7a4_1 rfl rfl ?_
  refine gw_iconstZ dJ6_bitCount_0f7a4_2 rfl ?_
  refine gw_iushrZ dJ6_bitCount_0f7a4_3 rfl ?_
  refine gw_ldcwZ (z := 1431655765) dJ6_bitCount_0f7a4_4 rfl kw_668 (by decide) ?_
  refine gw_iandZ dJ6_bitCount_0f7a4_7 rfl ?_
  refine gw_isubZ dJ6_bitCount_0f7a4_8 rfl ?_
  refine gw_istore_n dJ6_bitCount_0f7a4_9 rfl (by decide) ?_
  refine gw_iload_n dJ6_bitCount_0f7a4_10 rfl rfl ?_
  refine gw_ldcwZ (z := 858993459) dJ6_bitCount_0f7a4_11 rfl kw_669 (by decide) ?_
  refine gw_iandZ dJ6_bitCount_0f7a4_14 rfl ?_
  refine gw_iload_n dJ6_bitCount_0f7a4_15 rfl rfl ?_
  refine gw_iconstZ dJ6_bitCount_0f7a4_16 rfl ?_
  refine gw_iushrZ dJ6_bitCount_0f7a4_17 rfl ?_
  refine gw_ldcwZ (z := 858993459) dJ6_bitCount_0f7a4_18 rfl kw_669 (by decide) ?_
  refine gw_iandZ dJ6_bitCount_0f7a4_21 rfl ?_
  refine gw_iaddZ dJ6_bitCount_0f7a4_22 rfl ?_
  refine gw_istore_n dJ6_bitCount_0f7a4_23 rfl (by decide) ?_
  refine gw_iload_n dJ6_bitCount_0f7a4_24 rfl rfl ?_
  refine gw_iload_n dJ6_bitCount_0f7a4_25 rfl rfl ?_
  refine gw_iconstZ dJ6_bitCount_0f7a4_26 rfl ?_
  refine gw_iushrZ dJ6_bitCount_0f7a4_27 rfl ?_
  refine gw_iaddZ dJ6_bitCount_0f7a4_28 rfl ?_
  refine gw_ldcwZ (z := 252645135) dJ6_bitCount_0f7a4_29 rfl kw_670 (by decide) ?_
  refine gw_iandZ dJ6_bitCount_0f7a4_32 rfl ?_
  refine gw_istore_n dJ6_bitCount_0f7a4_33 rfl (by decide) ?_
  refine gw_iload_n dJ6_bitCount_0f7a4_34 rfl rfl ?_
  refine gw_iload_n dJ6_bitCount_0f7a4_35 rfl rfl ?_
  refine gw_bipushZ dJ6_bitCount_0f7a4_36 rfl (by decide) ?_
  refine gw_iushrZ dJ6_bitCount_0f7a4_38 rfl ?_
  refine gw_iaddZ dJ6_bitCount_0f7a4_39 rfl ?_
  refine gw_istore_n dJ6_bitCount_0f7a4_40 rfl (by decide) ?_
  refine gw_iload_n dJ6_bitCount_0f7a4_41 rfl rfl ?_
  refine gw_iload_n dJ6_bitCount_0f7a4_42 rfl rfl ?_
  refine gw_bipushZ dJ6_bitCount_0f7a4_43 rfl (by decide) ?_
  refine gw_iushrZ dJ6_bitCount_0f7a4_45 rfl ?_
  refine gw_iaddZ dJ6_bitCount_0f7a4_46 rfl ?_
  refine gw_istore_n dJ6_bitCount_0f7a4_47 rfl (by decide) ?_
  refine gw_iload_n dJ6_bitCount_0f7a4_48 rfl rfl ?_
  refine gw_bipushZ dJ6_bitCount_0f7a4_49 rfl (by decide) ?_
  refine gw_iandZ dJ6_bitCount_0f7a4_51 rfl ?_
  cases H
  exact gw_iret dJ6_bitCount_0f7a4_52 rfl (by decide) (by decide) hK
set_option maxRecDepth 100000 in
set_option maxHeartbeats 4000000 in
theorem l_X5_isFeasible_2 {Φ : gwC} {hb : gwHp} {M : Nat} {sh : Nat → Option gSh} {th : Nat} {c : W0} {κ : Option Int} {r : Int} {K : Option Value → gwHp → Prop} (h0 : sV sh th) (hK : K (some (vI r)) (hp Φ hb M sh c)) (hκ : κ  = some r → G Φ mX5_isFeasible (gw_M Φ mX5_isFeasible K) none 0 0 57 [] [] (hp Φ hb M sh c)) : ∀ (n : Nat) (l1 : Int), f_X5_isFeasible_2 th c κ n l1 = some r → G Φ mX5_isFeasible (gw_M Φ mX5_isFeasible K) none 0 0 2 [(0, .ref (M + th)), (1, vI l1)] [] (hp Φ hb M sh c) := by
  intro n
  induction n with
  | zero => intro l1 H; cases H
  | succ n ih =>
    intro l1 H
    have H : b_X5_isFeasible_2 th c κ (f_X5_isFeasible_2 th c κ n) l1 = some r := H
    unfold b_X5_isFeasible_2 at H
    refine gw_iload_n dX5_isFeasible_2 rfl rfl ?_
    refine gw_aload_n dX5_isFeasible_3 rfl rfl ?_
    refine gs_getR cl5 0 dX5_isFeasible_4 rfl kw_305 (by decide) (h0.1) rfl ?_
    refine gs_getIN cl0 0 0 dX5_isFeasible_7 rfl kw_283 (by decide) (h0.2.1.1) rfl rfl ?_
    obtain ⟨g, H⟩ := gd_i H
    refine gw_icmp_geZ (tgt := 57) dX5_isFeasible_10 rfl (by decide) g.1 g.2 (fun q => ?_) (fun q => ?_)
    · have H := bq_t q H
      exact gw_L (hκ H) (lvA_n)
    · have H := bq_f q H
      refine gw_aload_n dX5_isFeasible_13 rfl rfl ?_
      refine gs_getR cl5 0 dX5_isFeasible_14 rfl kw_305 (by decide) (h0.1) rfl ?_
      refine gw_iload_n dX5_isFeasible_17 rfl rfl ?_
      obtain ⟨v1, e_v1, H⟩ := cv_i H
      refine gw_V1 okX0_unknown dX5_isFeasible_18 kw_696 kw_697 kw_698 (hp_o (h0.2.1.1)) rfl ⟨by decide, by decide⟩ ⟨by decide, by decide⟩ (Nat.le_of_ble_eq_true rfl) (w_X0_unknown (h0.2.1) e_v1 ?_)
      refine gw_lstore_n dX5_isFeasible_21 rfl (by decide) ?_
      refine gw_aload_n dX5_isFeasible_22 rfl rfl ?_
      refine gs_getR cl5 0 dX5_isFeasible_23 rfl kw_305 (by decide) (h0.1) rfl ?_
      refine gs_getLN cl0 1 1 dX5_isFeasible_26 rfl kw_285 (by decide) (h0.2.1.1) rfl rfl ?_
      refine gw_lconst0Z dX5_isFeasible_29 rfl ?_
      obtain ⟨g, H⟩ := gd_i H
      refine gw_lc_geZ (tgt := 43) dX5_isFeasible_30 rfl dX5_isFeasible_31 rfl (by decide) g (by decide) (fun q => ?_) (fun q => ?_)
      · have H := bq_t q H
        refine gw_lload_n dX5_isFeasible_43 rfl rfl ?_
        refine gw_lconst0Z dX5_isFeasible_44 rfl ?_
        obtain ⟨g, H⟩ := gd_i H
        refine gw_lc_geZ (tgt := 51) dX5_isFeasible_45 rfl dX5_isFeasible_46 rfl (by decide) g (by decide) (fun q => ?_) (fun q => ?_)
        · have H := bq_t q H
          refine gw_iincZ dX5_isFeasible_51 rfl rfl (by decide) ?_
          refine gw_goto (tgt := 2) dX5_isFeasible_54 (by decide) ?_
          exact gw_L (ih _ H) ((lvA_c rfl (lvA_c rfl lvA_n)))
        · have H := bq_f q H
          refine gw_iconstZ dX5_isFeasible_49 rfl ?_
          cases H
          exact gw_zret rfl dX5_isFeasible_50 rfl (by decide) (by decide) hK
      · have H := bq_f q H
        refine gw_lload_n dX5_isFeasible_34 rfl rfl ?_
        refine gw_lconst0Z dX5_isFeasible_35 rfl ?_
        obtain ⟨g, H⟩ := gd_i H
        refine gw_lc_leZ (tgt := 51) dX5_isFeasible_36 rfl dX5_isFeasible_37 rfl (by decide) g (by decide) (fun q => ?_) (fun q => ?_)
        · have H := bq_t q H
          refine gw_iincZ dX5_isFeasible_51 rfl rfl (by decide) ?_
          refine gw_goto (tgt := 2) dX5_isFeasible_54 (by decide) ?_
          exact gw_L (ih _ H) ((lvA_c rfl (lvA_c rfl lvA_n)))
        · have H := bq_f q H
          refine gw_goto (tgt := 49) dX5_isFeasible_40 (by decide) ?_
          refine gw_iconstZ dX5_isFeasible_49 rfl ?_
          cases H
          exact gw_zret rfl dX5_isFeasible_50 rfl (by decide) (by decide) hK
set_option maxRecDepth 100000 in
set_option maxHeartbeats 4000000 in
theorem w_X5_isFeasible {Φ : gwC} {hb : gwHp} {M : Nat} {sh : Nat → Option gSh} {th : Nat} {c : W0} {r : Int} {K : Option Value → gwHp → Prop} (h0 : sV sh th) (H : f_X5_isFeasible th c = some r) (hK : K (some (vI r)) (hp Φ hb M sh c)) : gw_Con Φ mX5_isFeasible none [.ref (M + th)] (hp Φ hb M sh c) K := by
  unfold f_X5_isFeasible at H
  refine gw_start okX5_isFeasible (Nat.le_of_ble_eq_true rfl) ?_
  refine gw_iconstZ dX5_isFeasible_0 rfl ?_
  refine gw_istore_n dX5_isFeasible_1 rfl (by decide) ?_
  refine gw_L (l_X5_isFeasible_2 h0 hK (fun H => ?_) LF _ H) ((lvA_c rfl (lvA_c rfl lvA_n)))
  refine gw_iconstZ dX5_isFeasible_57 rfl ?_
  cases H
  exact gw_zret rfl dX5_isFeasible_58 rfl (by decide) (by decide) hK
set_option maxRecDepth 100000 in
set_option maxHeartbeats 4000000 in
theorem l_X5_sumOfProfits_14 {Φ : gwC} {hb : gwHp} {M : Nat} {sh : Nat → Option gSh} {th : Nat} {p1 : Nat} {p2 : Int} {c : W0} {κ : Int → Option Int} {r : Int} {K : Option Value → gwHp → Prop} (h0 : sV sh th) (h1 : sP sh p1) (hK : K (some (vL r)) (hp Φ hb M sh c)) (hκ : ∀ (x3 : Int), κ x3 = some r → G Φ mX5_sumOfProfits (gw_M Φ mX5_sumOfProfits K) none 0 0 67 [(3, vL x3)] [] (hp Φ hb M sh c)) : ∀ (n : Nat) (l3 : Int) (l5 : Int) (l6 : Int), f_X5_sumOfProfits_14 th p1 p2 c κ n l3 l5 l6 = some r → G Φ mX5_sumOfProfits (gw_M Φ mX5_sumOfProfits K) none 0 0 14 [(0, .ref (M + th)), (1, .ref (M + p1)), (2, vI p2), (3, vL l3), (5, vI l5), (6, vI l6)] [] (hp Φ hb M sh c) := by
  intro n
  induction n with
  | zero => intro l3 l5 l6 H; cases H
  | succ n ih =>
    intro l3 l5 l6 H
    have H : b_X5_sumOfProfits_14 th p1 p2 c κ (f_X5_sumOfProfits_14 th p1 p2 c κ n) l3 l5 l6 = some r := H
    unfold b_X5_sumOfProfits_14 at H
    refine gw_iload dX5_sumOfProfits_14 rfl rfl ?_
    refine gw_aload_n dX5_sumOfProfits_16 rfl rfl ?_
    refine gs_getIN cl2 0 0 dX5_sumOfProfits_17 rfl kw_158 (by decide) (h1.1) rfl rfl ?_
    refine gw_aload_n dX5_sumOfProfits_20 rfl rfl ?_
    refine gs_getIN cl2 1 1 dX5_sumOfProfits_21 rfl kw_165 (by decide) (h1.1) rfl rfl ?_
    refine gw_iaddZ dX5_sumOfProfits_24 rfl ?_
    obtain ⟨g, H⟩ := gd_i H
    refine gw_icmp_geZ (tgt := 67) dX5_sumOfProfits_25 rfl (by decide) g.1 g.2 (fun q => ?_) (fun q => ?_)
    · have H := bq_t q H
      exact gw_L (hκ _ H) ((lvA_c rfl lvA_n))
    · have H := bq_f q H
      refine gw_iload_n dX5_sumOfProfits_28 rfl rfl ?_
      refine gw_iload dX5_sumOfProfits_29 rfl rfl ?_
      refine gw_ishrZ dX5_sumOfProfits_31 rfl ?_
      refine gw_iconstZ dX5_sumOfProfits_32 rfl ?_
      refine gw_iandZ dX5_sumOfProfits_33 rfl ?_
      refine gw_iconstZ dX5_sumOfProfits_34 rfl ?_
      obtain ⟨g, H⟩ := gd_i H
      refine gw_icmp_neZ (tgt := 61) dX5_sumOfProfits_35 rfl (by decide) g (by decide) (fun q => ?_) (fun q => ?_)
      · have H := bq_f q H
        refine gw_iincZ dX5_sumOfProfits_61 rfl rfl (by decide) ?_
        refine gw_goto (tgt := 14) dX5_sumOfProfits_64 (by decide) ?_
        exact gw_L (ih _ _ _ H) ((lvA_c rfl (lvA_c rfl (lvA_c rfl (lvA_c rfl (lvA_c rfl (lvA_c rfl lvA_n)))))))
      · have H := bq_t q H
        refine gw_lload_n dX5_sumOfProfits_38 rfl rfl ?_
        refine gw_aload_n dX5_sumOfProfits_39 rfl rfl ?_
        refine gw_iload dX5_sumOfProfits_40 rfl rfl ?_
        obtain ⟨v1, e_v1, H⟩ := cv_i H
        refine gw_V1 okX2_columnProfit dX5_sumOfProfits_42 kw_704 kw_423 kw_424 (hp_o (h1.1)) rfl ⟨by decide, by decide⟩ ⟨by decide, by decide⟩ (Nat.le_of_ble_eq_true rfl) (w_X2_columnProfit (h1) e_v1 ?_)
        obtain ⟨g, H⟩ := gd_i H
        refine gw_i2lZ dX5_sumOfProfits_45 rfl g ?_
        refine gw_aload_n dX5_sumOfProfits_46 rfl rfl ?_
        refine gs_getR cl5 0 dX5_sumOfProfits_47 rfl kw_305 (by decide) (h0.1) rfl ?_
        refine gw_iload dX5_sumOfProfits_50 rfl rfl ?_
        obtain ⟨v2, e_v2, H⟩ := cv_i H
        refine gw_V1 okX0_unknown dX5_sumOfProfits_52 kw_696 kw_697 kw_698 (hp_o (h0.2.1.1)) rfl ⟨by decide, by decide⟩ ⟨by decide, by decide⟩ (Nat.le_of_ble_eq_true rfl) (w_X0_unknown (h0.2.1) e_v2 ?_)
        refine gw_lmulZ dX5_sumOfProfits_55 rfl ?_
        refine gw_laddZ dX5_sumOfProfits_56 rfl ?_
        refine gw_lstore_n dX5_sumOfProfits_57 rfl (by decide) ?_
        refine gw_iincZ dX5_sumOfProfits_58 rfl rfl (by decide) ?_
        refine gw_iincZ dX5_sumOfProfits_61 rfl rfl (by decide) ?_
        refine gw_goto (tgt := 14) dX5_sumOfProfits_64 (by decide) ?_
        exact gw_L (ih _ _ _ H) ((lvA_c rfl (lvA_c rfl (lvA_c rfl (lvA_c rfl (lvA_c rfl (lvA_c rfl lvA_n)))))))
set_option maxRecDepth 100000 in
set_option maxHeartbeats 4000000 in
theorem w_X5_sumOfProfits {Φ : gwC} {hb : gwHp} {M : Nat} {sh : Nat → Option gSh} {th : Nat} {p1 : Nat} {p2 : Int} {c : W0} {r : Int} {K : Option Value → gwHp → Prop} (h0 : sV sh th) (h1 : sP sh p1) (H : f_X5_sumOfProfits th p1 p2 c = some r) (hK : K (some (vL r)) (hp Φ hb M sh c)) : gw_Con Φ mX5_sumOfProfits none [.ref (M + th), .ref (M + p1), vI p2] (hp Φ hb M sh c) K := by
  unfold f_X5_sumOfProfits at H
  refine gw_start okX5_sumOfProfits (Nat.le_of_ble_eq_true rfl) ?_
  refine gw_aload_n dX5_sumOfProfits_0 rfl rfl ?_
  refine gw_ifnonnull (tgt := 6) dX5_sumOfProfits_1 (by decide) ?_
  refine gw_lconst0Z dX5_sumOfProfits_6 rfl ?_
  refine gw_lstore_n dX5_sumOfProfits_7 rfl (by decide) ?_
  refine gw_iconstZ dX5_sumOfProfits_8 rfl ?_
  refine gw_istore dX5_sumOfProfits_9 rfl (by decide) ?_
  refine gw_iconstZ dX5_sumOfProfits_11 rfl ?_
  refine gw_istore dX5_sumOfProfits_12 rfl (by decide) ?_
  refine gw_L (l_X5_sumOfProfits_14 h0 h1 hK (fun v1 H => ?_) LF _ _ _ H) ((lvA_c rfl (lvA_c rfl (lvA_c rfl (lvA_c rfl (lvA_c rfl (lvA_c rfl lvA_n)))))))
  refine gw_lload_n dX5_sumOfProfits_67 rfl rfl ?_
  cases H
  exact gw_lret dX5_sumOfProfits_68 rfl (by decide) (by decide) hK
set_option maxRecDepth 100000 in
set_option maxHeartbeats 4000000 in
theorem l_X8_commonDivisor_15 {Φ : gwC} {hb : gwHp} {M : Nat} {sh : Nat → Option gSh} {c : W0} {κ : Int → Option Int} {r : Int} {K : Option Value → gwHp → Prop}  (hK : K (some (vL r)) (hp Φ hb M sh c)) (hκ : ∀ (x4 : Int), κ x4 = some r → G Φ mX8_commonDivisor (gw_M Φ mX8_commonDivisor K) none 0 0 50 [(4, vL x4)] [] (hp Φ hb M sh c)) : ∀ (n : Nat) (l4 : Int) (l6 : Int) (l8 : Int), f_X8_commonDivisor_15  κ n l4 l6 l8 = some r → G Φ mX8_commonDivisor (gw_M Φ mX8_commonDivisor K) none 0 0 15 [(4, vL l4), (6, vL l6), (8, vI l8)] [] (hp Φ hb M sh c) := by
  intro n
  induction n with
  | zero => intro l4 l6 l8 H; cases H
  | succ n ih =>
    intro l4 l6 l8 H
    have H : b_X8_commonDivisor_15  κ (f_X8_commonDivisor_15  κ n) l4 l6 l8 = some r := H
    unfold b_X8_commonDivisor_15 at H
    refine gw_iload dX8_commonDivisor_15 rfl rfl ?_
    refine gw_bipushZ dX8_commonDivisor_17 rfl (by decide) ?_
    obtain ⟨g, H⟩ := gd_i H
    refine gw_icmp_geZ (tgt := 50) dX8_commonDivisor_19 rfl (by decide) g (by decide) (fun q => ?_) (fun q => ?_)
    · have H := bq_t q H
      exact gw_L (hκ _ H) ((lvA_c rfl lvA_n))
    · have H := bq_f q H
      refine gw_lload dX8_commonDivisor_22 rfl rfl ?_
      refine gw_lconst0Z dX8_commonDivisor_24 rfl ?_
      obtain ⟨g, H⟩ := gd_i H
      refine gw_lc_eqZ (tgt := 50) dX8_commonDivisor_25 rfl dX8_commonDivisor_26 rfl (by decide) g (by decide) (fun q => ?_) (fun q => ?_)
      · have H := bq_t q H
        exact gw_L (hκ _ H) ((lvA_c rfl lvA_n))
      · have H := bq_f q H
        refine gw_lload dX8_commonDivisor_29 rfl rfl ?_
        refine gw_lload dX8_commonDivisor_31 rfl rfl ?_
        obtain ⟨g, H⟩ := gd_i H
        refine gw_lremZ dX8_commonDivisor_33 rfl g.1 g.2.1 g.2.2 ?_
        refine gw_lstore dX8_commonDivisor_34 rfl (by decide) ?_
        refine gw_lload dX8_commonDivisor_36 rfl rfl ?_
        refine gw_lstore dX8_commonDivisor_38 rfl (by decide) ?_
        refine gw_lload dX8_commonDivisor_40 rfl rfl ?_
        refine gw_lstore dX8_commonDivisor_42 rfl (by decide) ?_
        refine gw_iincZ dX8_commonDivisor_44 rfl rfl (by decide) ?_
        refine gw_goto (tgt := 15) dX8_commonDivisor_47 (by decide) ?_
        exact gw_L (ih _ _ _ H) ((lvA_c rfl (lvA_c rfl (lvA_c rfl lvA_n))))
set_option maxRecDepth 100000 in
set_option maxHeartbeats 4000000 in
theorem w_X8_commonDivisor {Φ : gwC} {hb : gwHp} {M : Nat} {sh : Nat → Option gSh} {p1 : Int} {p2 : Int} {c : W0} {r : Int} {K : Option Value → gwHp → Prop}  (H : f_X8_commonDivisor p1 p2 = some r) (hK : K (some (vL r)) (hp Φ hb M sh c)) : gw_Con Φ mX8_commonDivisor none [vL p1, vL p2] (hp Φ hb M sh c) K := by
  unfold f_X8_commonDivisor at H
  refine gw_start okX8_commonDivisor (Nat.le_of_ble_eq_true rfl) ?_
  refine gw_lload_n dX8_commonDivisor_0 rfl rfl ?_
  obtain ⟨g, H⟩ := gd_i H
  refine gw_mabslZ dX8_commonDivisor_1 rfl kw_620 kw_621 kw_104 kw_622 (by decide) (Nat.le_of_ble_eq_true rfl) (by decide) (by decide) g ?_
  refine gw_lstore dX8_commonDivisor_4 rfl (by decide) ?_
  refine gw_lload_n dX8_commonDivisor_6 rfl rfl ?_
  obtain ⟨g, H⟩ := gd_i H
  refine gw_mabslZ dX8_commonDivisor_7 rfl kw_620 kw_621 kw_104 kw_622 (by decide) (Nat.le_of_ble_eq_true rfl) (by decide) (by decide) g ?_
  refine gw_lstore dX8_commonDivisor_10 rfl (by decide) ?_
  refine gw_iconstZ dX8_commonDivisor_12 rfl ?_
  refine gw_istore dX8_commonDivisor_13 rfl (by decide) ?_
  refine gw_L (l_X8_commonDivisor_15  hK (fun v1 H => ?_) LF _ _ _ H) ((lvA_c rfl (lvA_c rfl (lvA_c rfl lvA_n))))
  refine gw_lload dX8_commonDivisor_50 rfl rfl ?_
  cases H
  exact gw_lret dX8_commonDivisor_52 rfl (by decide) (by decide) hK
set_option maxRecDepth 100000 in
set_option maxHeartbeats 4000000 in
theorem w_X8_lowNumerator {Φ : gwC} {hb : gwHp} {M : Nat} {sh : Nat → Option gSh} {p1 : Int} {p2 : Int} {c : W0} {r : Int} {K : Option Value → gwHp → Prop}  (H : f_X8_lowNumerator p1 p2 = some r) (hK : K (some (vL r)) (hp Φ hb M sh c)) : gw_Con Φ mX8_lowNumerator none [vL p1, vL p2] (hp Φ hb M sh c) K := by
  unfold f_X8_lowNumerator at H
  refine gw_start okX8_lowNumerator (Nat.le_of_ble_eq_true rfl) ?_
  refine gw_lload_n dX8_lowNumerator_0 rfl rfl ?_
  refine gw_lload_n dX8_lowNumerator_1 rfl rfl ?_
  obtain ⟨v1, e_v1, H⟩ := cv_i H
  refine gw_S2 okX8_commonDivisor dX8_lowNumerator_2 kw_617 kw_618 ⟨by decide, by decide⟩ ⟨by decide, by decide⟩ (Nat.le_of_ble_eq_true rfl) (w_X8_commonDivisor  e_v1 ?_)
  refine gw_lstore dX8_lowNumerator_5 rfl (by decide) ?_
  refine gw_lload dX8_lowNumerator_7 rfl rfl ?_
  refine gw_lconst0Z dX8_lowNumerator_9 rfl ?_
  obtain ⟨g, H⟩ := gd_i H
  refine gw_lc_neZ (tgt := 16) dX8_lowNumerator_10 rfl dX8_lowNumerator_11 rfl (by decide) g (by decide) (fun q => ?_) (fun q => ?_)
  · have H := bq_f q H
    refine gw_lload_n dX8_lowNumerator_16 rfl rfl ?_
    refine gw_lconst0Z dX8_lowNumerator_17 rfl ?_
    obtain ⟨g, H⟩ := gd_i H
    refine gw_lc_geZ (tgt := 30) dX8_lowNumerator_18 rfl dX8_lowNumerator_19 rfl (by decide) g (by decide) (fun q => ?_) (fun q => ?_)
    · have H := bq_t q H
      refine gw_lload_n dX8_lowNumerator_30 rfl rfl ?_
      refine gw_lload dX8_lowNumerator_31 rfl rfl ?_
      obtain ⟨g, H⟩ := gd_i H
      refine gw_ldivZ dX8_lowNumerator_33 rfl g.1 g.2.1 g.2.2 ?_
      cases H
      exact gw_lret dX8_lowNumerator_34 rfl (by decide) (by decide) hK
    · have H := bq_f q H
      refine gw_lload_n dX8_lowNumerator_22 rfl rfl ?_
      refine gw_lload dX8_lowNumerator_23 rfl rfl ?_
      obtain ⟨g, H⟩ := gd_i H
      refine gw_ldivZ dX8_lowNumerator_25 rfl g.1 g.2.1 g.2.2 ?_
      refine gw_lnegZ dX8_lowNumerator_26 rfl ?_
      refine gw_goto (tgt := 34) dX8_lowNumerator_27 (by decide) ?_
      cases H
      exact gw_lret dX8_lowNumerator_34 rfl (by decide) (by decide) hK
  · have H := bq_t q H
    refine gw_lconst0Z dX8_lowNumerator_14 rfl ?_
    cases H
    exact gw_lret dX8_lowNumerator_15 rfl (by decide) (by decide) hK
set_option maxRecDepth 100000 in
set_option maxHeartbeats 4000000 in
theorem w_X8_lowDenominator {Φ : gwC} {hb : gwHp} {M : Nat} {sh : Nat → Option gSh} {p1 : Int} {p2 : Int} {c : W0} {r : Int} {K : Option Value → gwHp → Prop}  (H : f_X8_lowDenominator p1 p2 = some r) (hK : K (some (vL r)) (hp Φ hb M sh c)) : gw_Con Φ mX8_lowDenominator none [vL p1, vL p2] (hp Φ hb M sh c) K := by
  unfold f_X8_lowDenominator at H
  refine gw_start okX8_lowDenominator (Nat.le_of_ble_eq_true rfl) ?_
  refine gw_lload_n dX8_lowDenominator_0 rfl rfl ?_
  refine gw_lload_n dX8_lowDenominator_1 rfl rfl ?_
  obtain ⟨v1, e_v1, H⟩ := cv_i H
  refine gw_S2 okX8_commonDivisor dX8_lowDenominator_2 kw_617 kw_618 ⟨by decide, by decide⟩ ⟨by decide, by decide⟩ (Nat.le_of_ble_eq_true rfl) (w_X8_commonDivisor  e_v1 ?_)
  refine gw_lstore dX8_lowDenominator_5 rfl (by decide) ?_
  refine gw_lload dX8_lowDenominator_7 rfl rfl ?_
  refine gw_lconst0Z dX8_lowDenominator_9 rfl ?_
  obtain ⟨g, H⟩ := gd_i H
  refine gw_lc_neZ (tgt := 16) dX8_lowDenominator_10 rfl dX8_lowDenominator_11 rfl (by decide) g (by decide) (fun q => ?_) (fun q => ?_)
  · have H := bq_f q H
    refine gw_lload_n dX8_lowDenominator_16 rfl rfl ?_
    obtain ⟨g, H⟩ := gd_i H
    refine gw_mabslZ dX8_lowDenominator_17 rfl kw_620 kw_621 kw_104 kw_622 (by decide) (Nat.le_of_ble_eq_true rfl) (by decide) (by decide) g ?_
    refine gw_lload dX8_lowDenominator_20 rfl rfl ?_
    obtain ⟨g, H⟩ := gd_i H
    refine gw_ldivZ dX8_lowDenominator_22 rfl g.1 g.2.1 g.2.2 ?_
    cases H
    exact gw_lret dX8_lowDenominator_23 rfl (by decide) (by decide) hK
  · have H := bq_t q H
    refine gw_lconst1Z dX8_lowDenominator_14 rfl ?_
    cases H
    exact gw_lret dX8_lowDenominator_15 rfl (by decide) (by decide) hK
set_option maxRecDepth 100000 in
set_option maxHeartbeats 4000000 in
theorem l_X5_isNoted_3 {Φ : gwC} {hb : gwHp} {M : Nat} {sh : Nat → Option gSh} {th : Nat} {p1 : Int} {p2 : Int} {c : W0} {κ : Option Int} {r : Int} {K : Option Value → gwHp → Prop} (h0 : sV sh th) (hK : K (some (vI r)) (hp Φ hb M sh c)) (hκ : κ  = some r → G Φ mX5_isNoted (gw_M Φ mX5_isNoted K) none 0 0 50 [] [] (hp Φ hb M sh c)) : ∀ (n : Nat) (l5 : Int), f_X5_isNoted_3 th p1 p2 c κ n l5 = some r → G Φ mX5_isNoted (gw_M Φ mX5_isNoted K) none 0 0 3 [(0, .ref (M + th)), (1, vL p1), (3, vL p2), (5, vI l5)] [] (hp Φ hb M sh c) := by
  intro n
  induction n with
  | zero => intro l5 H; cases H
  | succ n ih =>
    intro l5 H
    have H : b_X5_isNoted_3 th p1 p2 c κ (f_X5_isNoted_3 th p1 p2 c κ n) l5 = some r := H
    unfold b_X5_isNoted_3 at H
    refine gw_iload dX5_isNoted_3 rfl rfl ?_
    refine gw_aload_n dX5_isNoted_5 rfl rfl ?_
    refine gs_getI cl5 3 3 dX5_isNoted_6 rfl kw_309 (by decide) (h0.1) rfl rfl ?_
    obtain ⟨g, H⟩ := gd_i H
    refine gw_icmp_geZ (tgt := 50) dX5_isNoted_9 rfl (by decide) g.1 g.2 (fun q => ?_) (fun q => ?_)
    · have H := bq_t q H
      exact gw_L (hκ H) (lvA_n)
    · have H := bq_f q H
      refine gw_aload_n dX5_isNoted_12 rfl rfl ?_
      refine gs_getR cl5 1 dX5_isNoted_13 rfl kw_306 (by decide) (h0.1) rfl ?_
      refine gw_iconstZ dX5_isNoted_16 rfl ?_
      refine gw_iload dX5_isNoted_17 rfl rfl ?_
      obtain ⟨g, H⟩ := gd_i H
      refine gw_V2 okX1_at dX5_isNoted_19 kw_715 kw_415 kw_416 (hp_o (h0.2.2.1)) rfl ⟨by decide, by decide⟩ ⟨by decide, by decide⟩ (Nat.le_of_ble_eq_true rfl) (k_at0 (h0.2.2) (by decide) (by omega) (by omega) (by decide) ?_)
      refine gw_lload_n dX5_isNoted_22 rfl rfl ?_
      obtain ⟨g, H⟩ := gd_i H
      refine gw_lc_neZ (tgt := 44) dX5_isNoted_23 rfl dX5_isNoted_24 rfl (by decide) g.1 g.2 (fun q => ?_) (fun q => ?_)
      · have H := bq_f q H
        refine gw_iincZ dX5_isNoted_44 rfl rfl (by decide) ?_
        refine gw_goto (tgt := 3) dX5_isNoted_47 (by decide) ?_
        exact gw_L (ih _ H) ((lvA_c rfl (lvA_c rfl (lvA_c rfl (lvA_c rfl lvA_n)))))
      · have H := bq_t q H
        refine gw_aload_n dX5_isNoted_27 rfl rfl ?_
        refine gs_getR cl5 1 dX5_isNoted_28 rfl kw_306 (by decide) (h0.1) rfl ?_
        refine gw_iconstZ dX5_isNoted_31 rfl ?_
        refine gw_iload dX5_isNoted_32 rfl rfl ?_
        obtain ⟨g, H⟩ := gd_i H
        refine gw_V2 okX1_at dX5_isNoted_34 kw_715 kw_415 kw_416 (hp_o (h0.2.2.1)) rfl ⟨by decide, by decide⟩ ⟨by decide, by decide⟩ (Nat.le_of_ble_eq_true rfl) (k_at (h0.2.2) (by decide) (by omega) (by omega) (by omega) (by decide) ?_)
        refine gw_lload_n dX5_isNoted_37 rfl rfl ?_
        obtain ⟨g, H⟩ := gd_i H
        refine gw_lc_neZ (tgt := 44) dX5_isNoted_38 rfl dX5_isNoted_39 rfl (by decide) g.1 g.2 (fun q => ?_) (fun q => ?_)
        · have H := bq_f q H
          refine gw_iincZ dX5_isNoted_44 rfl rfl (by decide) ?_
          refine gw_goto (tgt := 3) dX5_isNoted_47 (by decide) ?_
          exact gw_L (ih _ H) ((lvA_c rfl (lvA_c rfl (lvA_c rfl (lvA_c rfl lvA_n)))))
        · have H := bq_t q H
          refine gw_iconstZ dX5_isNoted_42 rfl ?_
          cases H
          exact gw_zret rfl dX5_isNoted_43 rfl (by decide) (by decide) hK
set_option maxRecDepth 100000 in
set_option maxHeartbeats 4000000 in
theorem w_X5_isNoted {Φ : gwC} {hb : gwHp} {M : Nat} {sh : Nat → Option gSh} {th : Nat} {p1 : Int} {p2 : Int} {c : W0} {r : Int} {K : Option Value → gwHp → Prop} (h0 : sV sh th) (H : f_X5_isNoted th p1 p2 c = some r) (hK : K (some (vI r)) (hp Φ hb M sh c)) : gw_Con Φ mX5_isNoted none [.ref (M + th), vL p1, vL p2] (hp Φ hb M sh c) K := by
  unfold f_X5_isNoted at H
  refine gw_start okX5_isNoted (Nat.le_of_ble_eq_true rfl) ?_
  refine gw_iconstZ dX5_isNoted_0 rfl ?_
  refine gw_istore dX5_isNoted_1 rfl (by decide) ?_
  refine gw_L (l_X5_isNoted_3 h0 hK (fun H => ?_) LF _ H) ((lvA_c rfl (lvA_c rfl (lvA_c rfl (lvA_c rfl lvA_n)))))
  refine gw_iconstZ dX5_isNoted_50 rfl ?_
  cases H
  exact gw_zret rfl dX5_isNoted_51 rfl (by decide) (by decide) hK
set_option maxRecDepth 100000 in
set_option maxHeartbeats 4000000 in
theorem w_X5_noteValue {Φ : gwC} {hb : gwHp} {M : Nat} {sh : Nat → Option gSh} {th : Nat} {p1 : Int} {p2 : Int} {c : W0} {r : Int × W0} {K : Option Value → gwHp → Prop} (h0 : sV sh th) (H : f_X5_noteValue th p1 p2 c = some r) (hK : K none (hp Φ hb M sh r.2)) : gw_Con Φ mX5_noteValue none [.ref (M + th), vL p1, vL p2] (hp Φ hb M sh c) K := by
  unfold f_X5_noteValue at H
  refine gw_start okX5_noteValue (Nat.le_of_ble_eq_true rfl) ?_
  refine gw_lload_n dX5_noteValue_0 rfl rfl ?_
  refine gw_lload_n dX5_noteValue_1 rfl rfl ?_
  obtain ⟨v1, e_v1, H⟩ := cv_i H
  refine gw_SN2 okX8_lowNumerator dX5_noteValue_2 kw_709 kw_615 ⟨by decide, by decide⟩ ⟨by decide, by decide⟩ (Nat.le_of_ble_eq_true rfl) (w_X8_lowNumerator  e_v1 ?_)
  refine gw_lstore dX5_noteValue_5 rfl (by decide) ?_
  refine gw_lload_n dX5_noteValue_7 rfl rfl ?_
  refine gw_lload_n dX5_noteValue_8 rfl rfl ?_
  obtain ⟨v2, e_v2, H⟩ := cv_i H
  refine gw_SN2 okX8_lowDenominator dX5_noteValue_9 kw_710 kw_628 ⟨by decide, by decide⟩ ⟨by decide, by decide⟩ (Nat.le_of_ble_eq_true rfl) (w_X8_lowDenominator  e_v2 ?_)
  refine gw_lstore dX5_noteValue_12 rfl (by decide) ?_
  refine gw_aload_n dX5_noteValue_14 rfl rfl ?_
  refine gw_lload dX5_noteValue_15 rfl rfl ?_
  refine gw_lload dX5_noteValue_17 rfl rfl ?_
  obtain ⟨v3, e_v3, H⟩ := cv_i H
  refine gw_V2 okX5_isNoted dX5_noteValue_19 kw_711 kw_713 kw_15 (hp_o (h0.1)) rfl ⟨by decide, by decide⟩ ⟨by decide, by decide⟩ (Nat.le_of_ble_eq_true rfl) (w_X5_isNoted (h0) e_v3 ?_)
  obtain ⟨g, H⟩ := gd_i H
  refine gw_if_eqZ (tgt := 26) dX5_noteValue_22 rfl (by decide) g (fun q => ?_) (fun q => ?_)
  · have H := bq_t q H
    refine gw_aload_n dX5_noteValue_26 rfl rfl ?_
    refine gs_getI cl5 3 3 dX5_noteValue_27 rfl kw_309 (by decide) (h0.1) rfl rfl ?_
    obtain ⟨g, H⟩ := gd_i H
    obtain ⟨k4, e_k4, H⟩ := jn_i H
    have hJ : ∀ (u5 : Unit), k4 u5 = some r → G Φ mX5_noteValue (gw_M Φ mX5_noteValue K) none 0 0 51 [(0, .ref (M + th)), (5, vL v1), (7, vL v2)] [] (hp Φ hb M sh c) := by
      intro u5 H
      subst e_k4
      refine gw_aload_n dX5_noteValue_51 rfl rfl ?_
      refine gw_lload dX5_noteValue_52 rfl rfl ?_
      obtain ⟨c6, e_c6, H⟩ := sto_i H
      refine gs_putLE cl5 4 4 dX5_noteValue_54 rfl kw_311 (by decide) rfl rfl (h0.1) rfl rfl e_c6 ?_
      refine gw_aload_n dX5_noteValue_57 rfl rfl ?_
      refine gw_lload dX5_noteValue_58 rfl rfl ?_
      obtain ⟨c7, e_c7, H⟩ := sto_i H
      refine gs_putLE cl5 5 5 dX5_noteValue_60 rfl kw_313 (by decide) rfl rfl (h0.1) rfl rfl e_c7 ?_
      refine gw_aload_n dX5_noteValue_63 rfl rfl ?_
      refine gs_getR cl5 1 dX5_noteValue_64 rfl kw_306 (by decide) (h0.1) rfl ?_
      refine gw_iconstZ dX5_noteValue_67 rfl ?_
      refine gw_aload_n dX5_noteValue_68 rfl rfl ?_
      refine gs_getI cl5 3 3 dX5_noteValue_69 rfl kw_309 (by decide) (h0.1) rfl rfl ?_
      refine gw_lload dX5_noteValue_72 rfl rfl ?_
      obtain ⟨g, H⟩ := gd_i H
      obtain ⟨c8, e_c8, H⟩ := sto_i H
      refine gw_V3 okX1_put dX5_noteValue_74 kw_716 kw_403 kw_404 (hp_o (h0.2.2.1)) rfl ⟨by decide, by decide⟩ ⟨by decide, by decide⟩ (Nat.le_of_ble_eq_true rfl) (k_put0E (h0.2.2) (by decide) (by omega) (by omega) (by decide) e_c8 ?_)
      refine gw_aload_n dX5_noteValue_77 rfl rfl ?_
      refine gs_getR cl5 1 dX5_noteValue_78 rfl kw_306 (by decide) (h0.1) rfl ?_
      refine gw_iconstZ dX5_noteValue_81 rfl ?_
      refine gw_aload_n dX5_noteValue_82 rfl rfl ?_
      refine gs_getI cl5 3 3 dX5_noteValue_83 rfl kw_309 (by decide) (h0.1) rfl rfl ?_
      refine gw_lload dX5_noteValue_86 rfl rfl ?_
      obtain ⟨g, H⟩ := gd_i H
      obtain ⟨c9, e_c9, H⟩ := sto_i H
      refine gw_V3 okX1_put dX5_noteValue_88 kw_716 kw_403 kw_404 (hp_o (h0.2.2.1)) rfl ⟨by decide, by decide⟩ ⟨by decide, by decide⟩ (Nat.le_of_ble_eq_true rfl) (k_putE (h0.2.2) (by decide) (by omega) (by omega) (by omega) (by decide) e_c9 ?_)
      refine gw_aload_n dX5_noteValue_91 rfl rfl ?_
      refine gw_dup dX5_noteValue_92 rfl rfl ?_
      refine gs_getI cl5 3 3 dX5_noteValue_93 rfl kw_309 (by decide) (h0.1) rfl rfl ?_
      refine gw_iconstZ dX5_noteValue_96 rfl ?_
      refine gw_iaddZ dX5_noteValue_97 rfl ?_
      obtain ⟨c10, e_c10, H⟩ := sto_i H
      refine gs_putIE cl5 3 3 dX5_noteValue_98 rfl kw_309 (by decide) rfl rfl (h0.1) rfl rfl e_c10 ?_
      cases H
      exact gw_vret dX5_noteValue_101 rfl (by decide) (by decide) hK
    refine gw_if_eqZ (tgt := 51) dX5_noteValue_30 rfl (by decide) g (fun q => ?_) (fun q => ?_)
    · have H := bq_t q H
      exact gw_L (hJ _ H) ((lvA_c rfl (lvA_c rfl (lvA_c rfl lvA_n))))
    · have H := bq_f q H
      refine gw_lload dX5_noteValue_33 rfl rfl ?_
      refine gw_aload_n dX5_noteValue_35 rfl rfl ?_
      refine gs_getL cl5 5 5 dX5_noteValue_36 rfl kw_313 (by decide) (h0.1) rfl rfl ?_
      refine gw_lmulZ dX5_noteValue_39 rfl ?_
      refine gw_aload_n dX5_noteValue_40 rfl rfl ?_
      refine gs_getL cl5 4 4 dX5_noteValue_41 rfl kw_311 (by decide) (h0.1) rfl rfl ?_
      refine gw_lload dX5_noteValue_44 rfl rfl ?_
      refine gw_lmulZ dX5_noteValue_46 rfl ?_
      obtain ⟨g, H⟩ := gd_i H
      refine gw_lc_leZ (tgt := 63) dX5_noteValue_47 rfl dX5_noteValue_48 rfl (by decide) g.1 g.2 (fun q => ?_) (fun q => ?_)
      · have H := bq_t q H
        refine gw_aload_n dX5_noteValue_63 rfl rfl ?_
        refine gs_getR cl5 1 dX5_noteValue_64 rfl kw_306 (by decide) (h0.1) rfl ?_
        refine gw_iconstZ dX5_noteValue_67 rfl ?_
        refine gw_aload_n dX5_noteValue_68 rfl rfl ?_
        refine gs_getI cl5 3 3 dX5_noteValue_69 rfl kw_309 (by decide) (h0.1) rfl rfl ?_
        refine gw_lload dX5_noteValue_72 rfl rfl ?_
        obtain ⟨g, H⟩ := gd_i H
        obtain ⟨c11, e_c11, H⟩ := sto_i H
        refine gw_V3 okX1_put dX5_noteValue_74 kw_716 kw_403 kw_404 (hp_o (h0.2.2.1)) rfl ⟨by decide, by decide⟩ ⟨by decide, by decide⟩ (Nat.le_of_ble_eq_true rfl) (k_put0E (h0.2.2) (by decide) (by omega) (by omega) (by decide) e_c11 ?_)
        refine gw_aload_n dX5_noteValue_77 rfl rfl ?_
        refine gs_getR cl5 1 dX5_noteValue_78 rfl kw_306 (by decide) (h0.1) rfl ?_
        refine gw_iconstZ dX5_noteValue_81 rfl ?_
        refine gw_aload_n dX5_noteValue_82 rfl rfl ?_
        refine gs_getI cl5 3 3 dX5_noteValue_83 rfl kw_309 (by decide) (h0.1) rfl rfl ?_
        refine gw_lload dX5_noteValue_86 rfl rfl ?_
        obtain ⟨g, H⟩ := gd_i H
        obtain ⟨c12, e_c12, H⟩ := sto_i H
        refine gw_V3 okX1_put dX5_noteValue_88 kw_716 kw_403 kw_404 (hp_o (h0.2.2.1)) rfl ⟨by decide, by decide⟩ ⟨by decide, by decide⟩ (Nat.le_of_ble_eq_true rfl) (k_putE (h0.2.2) (by decide) (by omega) (by omega) (by omega) (by decide) e_c12 ?_)
        refine gw_aload_n dX5_noteValue_91 rfl rfl ?_
        refine gw_dup dX5_noteValue_92 rfl rfl ?_
        refine gs_getI cl5 3 3 dX5_noteValue_93 rfl kw_309 (by decide) (h0.1) rfl rfl ?_
        refine gw_iconstZ dX5_noteValue_96 rfl ?_
        refine gw_iaddZ dX5_noteValue_97 rfl ?_
        obtain ⟨c13, e_c13, H⟩ := sto_i H
        refine gs_putIE cl5 3 3 dX5_noteValue_98 rfl kw_309 (by decide) rfl rfl (h0.1) rfl rfl e_c13 ?_
        cases H
        exact gw_vret dX5_noteValue_101 rfl (by decide) (by decide) hK
      · have H := bq_f q H
        exact gw_L (hJ _ H) ((lvA_c rfl (lvA_c rfl (lvA_c rfl lvA_n))))
  · have H := bq_f q H
    cases H
    exact gw_vret dX5_noteValue_25 rfl (by decide) (by decide) hK
end FW
