section FW
set_option maxRecDepth 100000 in
set_option maxHeartbeats 4000000 in
theorem l_X5_look_34 {Φ : gwC} {hb : gwHp} {M : Nat} {sh : Nat → Option gSh} {th : Nat} {p1 : Nat} {l2 : Int} {κ : W0 → Option (Int × W0)} {r : Int × W0} {K : Option Value → gwHp → Prop} (h0 : sV sh th) (h1 : sP sh p1) (hK : K none (hp Φ hb M sh r.2)) (hκ : ∀ (c : W0), κ c = some r → G Φ mX5_look (gw_M Φ mX5_look K) none 0 0 102 [] [] (hp Φ hb M sh c)) : ∀ (n : Nat) (l3 : Int) (c : W0), f_X5_look_34 th p1 l2 κ n l3 c = some r → G Φ mX5_look (gw_M Φ mX5_look K) none 0 0 34 [(0, .ref (M + th)), (1, .ref (M + p1)), (2, vI l2), (3, vI l3)] [] (hp Φ hb M sh c) := by
  intro n
  induction n with
  | zero => intro l3 c H; cases H
  | succ n ih =>
    intro l3 c H
    have H : b_X5_look_34 th p1 l2 κ (f_X5_look_34 th p1 l2 κ n) l3 c = some r := H
    unfold b_X5_look_34 at H
    refine gw_iload_n dX5_look_34 rfl rfl ?_
    refine gw_iload_n dX5_look_35 rfl rfl ?_
    obtain ⟨g, H⟩ := gd_i H
    refine gw_icmp_geZ (tgt := 102) dX5_look_36 rfl (by decide) g.1 g.2 (fun q => ?_) (fun q => ?_)
    · have H := bq_t q H
      exact gw_L (hκ _ H) (lvA_n)
    · have H := bq_f q H
      refine gw_iload_n dX5_look_39 rfl rfl ?_
      obtain ⟨v1, e_v1, H⟩ := cv_i H
      refine gw_S1 okJ6_bitCount_0f7a4 dX5_look_40 kw_665 kw_666 ⟨by decide, by decide⟩ ⟨by decide, by decide⟩ (Nat.le_of_ble_eq_true rfl) (w_J6_bitCount_0f7a4  e_v1 ?_)
      refine gw_aload_n dX5_look_43 rfl rfl ?_
      refine gs_getIN cl2 1 1 dX5_look_44 rfl kw_165 (by decide) (h1.1) rfl rfl ?_
      obtain ⟨g, H⟩ := gd_i H
      refine gw_icmp_neZ (tgt := 96) dX5_look_47 rfl (by decide) g.1 g.2 (fun q => ?_) (fun q => ?_)
      · have H := bq_f q H
        refine gw_iincZ dX5_look_96 rfl rfl (by decide) ?_
        refine gw_goto (tgt := 34) dX5_look_99 (by decide) ?_
        exact gw_L (ih _ _ H) ((lvA_c rfl (lvA_c rfl (lvA_c rfl (lvA_c rfl lvA_n)))))
      · have H := bq_t q H
        refine gw_aload_n dX5_look_50 rfl rfl ?_
        refine gs_getR cl5 0 dX5_look_51 rfl kw_305 (by decide) (h0.1) rfl ?_
        refine gw_aload_n dX5_look_54 rfl rfl ?_
        refine gw_iload_n dX5_look_55 rfl rfl ?_
        obtain ⟨v2, c3, e_c3, H⟩ := cl_i H
        refine gw_V2 okX0_solveBasis dX5_look_56 kw_671 kw_672 kw_673 (hp_o (h0.2.1.1)) rfl ⟨by decide, by decide⟩ ⟨by decide, by decide⟩ (Nat.le_of_ble_eq_true rfl) (w_X0_solveBasis (h0.2.1) (h1) e_c3 ?_)
        obtain ⟨g, H⟩ := gd_i H
        refine gw_if_eqZ (tgt := 96) dX5_look_59 rfl (by decide) g (fun q => ?_) (fun q => ?_)
        · have H := bq_t q H
          refine gw_iincZ dX5_look_96 rfl rfl (by decide) ?_
          refine gw_goto (tgt := 34) dX5_look_99 (by decide) ?_
          exact gw_L (ih _ _ H) ((lvA_c rfl (lvA_c rfl (lvA_c rfl (lvA_c rfl lvA_n)))))
        · have H := bq_f q H
          refine gw_aload_n dX5_look_62 rfl rfl ?_
          obtain ⟨v4, e_v4, H⟩ := cv_i H
          refine gw_V0 okX5_isFeasible dX5_look_63 kw_692 kw_694 kw_12 (hp_o (h0.1)) rfl ⟨by decide, by decide⟩ ⟨by decide, by decide⟩ (Nat.le_of_ble_eq_true rfl) (w_X5_isFeasible (h0) e_v4 ?_)
          obtain ⟨g, H⟩ := gd_i H
          refine gw_if_eqZ (tgt := 96) dX5_look_66 rfl (by decide) g (fun q => ?_) (fun q => ?_)
          · have H := bq_t q H
            refine gw_iincZ dX5_look_96 rfl rfl (by decide) ?_
            refine gw_goto (tgt := 34) dX5_look_99 (by decide) ?_
            exact gw_L (ih _ _ H) ((lvA_c rfl (lvA_c rfl (lvA_c rfl (lvA_c rfl lvA_n)))))
          · have H := bq_f q H
            refine gw_aload_n dX5_look_69 rfl rfl ?_
            refine gw_dup dX5_look_70 rfl rfl ?_
            refine gs_getI cl5 2 2 dX5_look_71 rfl kw_307 (by decide) (h0.1) rfl rfl ?_
            refine gw_iconstZ dX5_look_74 rfl ?_
            refine gw_iaddZ dX5_look_75 rfl ?_
            obtain ⟨c5, e_c5, H⟩ := sto_i H
            refine gs_putIE cl5 2 2 dX5_look_76 rfl kw_307 (by decide) rfl rfl (h0.1) rfl rfl e_c5 ?_
            refine gw_aload_n dX5_look_79 rfl rfl ?_
            refine gw_aload_n dX5_look_80 rfl rfl ?_
            refine gw_aload_n dX5_look_81 rfl rfl ?_
            refine gw_iload_n dX5_look_82 rfl rfl ?_
            obtain ⟨v6, e_v6, H⟩ := cv_i H
            refine gw_V2 okX5_sumOfProfits dX5_look_83 kw_700 kw_702 kw_13 (hp_o (h0.1)) rfl ⟨by decide, by decide⟩ ⟨by decide, by decide⟩ (Nat.le_of_ble_eq_true rfl) (w_X5_sumOfProfits (h0) (h1) e_v6 ?_)
            refine gw_aload_n dX5_look_86 rfl rfl ?_
            refine gs_getR cl5 0 dX5_look_87 rfl kw_305 (by decide) (h0.1) rfl ?_
            refine gs_getLN cl0 1 1 dX5_look_90 rfl kw_285 (by decide) (h0.2.1.1) rfl rfl ?_
            obtain ⟨v8, c7, e_c7, H⟩ := cl_i H
            refine gw_V2 okX5_noteValue dX5_look_93 kw_705 kw_707 kw_14 (hp_o (h0.1)) rfl ⟨by decide, by decide⟩ ⟨by decide, by decide⟩ (Nat.le_of_ble_eq_true rfl) (w_X5_noteValue (h0) e_c7 ?_)
            refine gw_iincZ dX5_look_96 rfl rfl (by decide) ?_
            refine gw_goto (tgt := 34) dX5_look_99 (by decide) ?_
            exact gw_L (ih _ _ H) ((lvA_c rfl (lvA_c rfl (lvA_c rfl (lvA_c rfl lvA_n)))))
set_option maxRecDepth 100000 in
set_option maxHeartbeats 4000000 in
theorem w_X5_look {Φ : gwC} {hb : gwHp} {M : Nat} {sh : Nat → Option gSh} {th : Nat} {p1 : Nat} {c : W0} {r : Int × W0} {K : Option Value → gwHp → Prop} (h0 : sV sh th) (h1 : sP sh p1) (H : f_X5_look th p1 c = some r) (hK : K none (hp Φ hb M sh r.2)) : gw_Con Φ mX5_look none [.ref (M + th), .ref (M + p1)] (hp Φ hb M sh c) K := by
  unfold f_X5_look at H
  refine gw_start okX5_look (Nat.le_of_ble_eq_true rfl) ?_
  refine gw_aload_n dX5_look_0 rfl rfl ?_
  refine gw_iconstZ dX5_look_1 rfl ?_
  obtain ⟨c1, e_c1, H⟩ := sto_i H
  refine gs_putIE cl5 2 2 dX5_look_2 rfl kw_307 (by decide) rfl rfl (h0.1) rfl rfl e_c1 ?_
  refine gw_aload_n dX5_look_5 rfl rfl ?_
  refine gw_iconstZ dX5_look_6 rfl ?_
  obtain ⟨c2, e_c2, H⟩ := sto_i H
  refine gs_putIE cl5 3 3 dX5_look_7 rfl kw_309 (by decide) rfl rfl (h0.1) rfl rfl e_c2 ?_
  refine gw_aload_n dX5_look_10 rfl rfl ?_
  refine gw_ifnonnull (tgt := 15) dX5_look_11 (by decide) ?_
  refine gw_iconstZ dX5_look_15 rfl ?_
  refine gw_bipushZ dX5_look_16 rfl (by decide) ?_
  refine gw_aload_n dX5_look_18 rfl rfl ?_
  refine gs_getIN cl2 0 0 dX5_look_19 rfl kw_158 (by decide) (h1.1) rfl rfl ?_
  refine gw_aload_n dX5_look_22 rfl rfl ?_
  refine gs_getIN cl2 1 1 dX5_look_23 rfl kw_165 (by decide) (h1.1) rfl rfl ?_
  refine gw_iaddZ dX5_look_26 rfl ?_
  obtain ⟨g, H⟩ := gd_i H
  refine gw_mminZ dX5_look_27 rfl kw_662 kw_663 kw_104 kw_664 (by decide) (Nat.le_of_ble_eq_true rfl) (by decide) (by decide) (by decide) g ?_
  refine gw_ishlZ dX5_look_30 rfl ?_
  refine gw_istore_n dX5_look_31 rfl (by decide) ?_
  refine gw_iconstZ dX5_look_32 rfl ?_
  refine gw_istore_n dX5_look_33 rfl (by decide) ?_
  refine gw_L (l_X5_look_34 h0 h1 hK (fun c3 H => ?_) LF _ _ H) ((lvA_c rfl (lvA_c rfl (lvA_c rfl (lvA_c rfl lvA_n)))))
  cases H
  exact gw_vret dX5_look_102 rfl (by decide) (by decide) hK
set_option maxRecDepth 100000 in
set_option maxHeartbeats 4000000 in
theorem w_X6_worth {Φ : gwC} {hb : gwHp} {M : Nat} {sh : Nat → Option gSh} {th : Nat} {c : W0} {r : Int} {K : Option Value → gwHp → Prop} (h0 : sT sh th) (H : f_X6_worth th c = some r) (hK : K (some (vL r)) (hp Φ hb M sh c)) : gw_Con Φ mX6_worth none [.ref (M + th)] (hp Φ hb M sh c) K := by
  unfold f_X6_worth at H
  refine gw_start okX6_worth (Nat.le_of_ble_eq_true rfl) ?_
  refine gw_aload_n dX6_worth_0 rfl rfl ?_
  refine gs_getR cl6 4 dX6_worth_1 rfl kw_195 (by decide) (h0.1) rfl ?_
  refine gw_aload_n dX6_worth_4 rfl rfl ?_
  refine gs_getI cl6 0 0 dX6_worth_5 rfl kw_188 (by decide) (h0.1) rfl rfl ?_
  refine gw_aload_n dX6_worth_8 rfl rfl ?_
  refine gs_getI cl6 1 1 dX6_worth_9 rfl kw_190 (by decide) (h0.1) rfl rfl ?_
  obtain ⟨g, H⟩ := gd_i H
  refine gw_V2 okX1_at dX6_worth_12 kw_450 kw_415 kw_416 (hp_o (h0.2.2.1)) rfl ⟨by decide, by decide⟩ ⟨by decide, by decide⟩ (Nat.le_of_ble_eq_true rfl) (k_at (h0.2.2) (by decide) (by omega) (by omega) (by omega) (by decide) ?_)
  refine gw_lnegZ dX6_worth_15 rfl ?_
  cases H
  exact gw_lret dX6_worth_16 rfl (by decide) (by decide) hK
set_option maxRecDepth 100000 in
set_option maxHeartbeats 4000000 in
theorem l_X6_rowNaming_2 {Φ : gwC} {hb : gwHp} {M : Nat} {sh : Nat → Option gSh} {th : Nat} {p1 : Int} {c : W0} {κ : Option Int} {r : Int} {K : Option Value → gwHp → Prop} (h0 : sT sh th) (hK : K (some (vI r)) (hp Φ hb M sh c)) (hκ : κ  = some r → G Φ mX6_rowNaming (gw_M Φ mX6_rowNaming K) none 0 0 27 [] [] (hp Φ hb M sh c)) : ∀ (n : Nat) (l2 : Int), f_X6_rowNaming_2 th p1 c κ n l2 = some r → G Φ mX6_rowNaming (gw_M Φ mX6_rowNaming K) none 0 0 2 [(0, .ref (M + th)), (1, vI p1), (2, vI l2)] [] (hp Φ hb M sh c) := by
  intro n
  induction n with
  | zero => intro l2 H; cases H
  | succ n ih =>
    intro l2 H
    have H : b_X6_rowNaming_2 th p1 c κ (f_X6_rowNaming_2 th p1 c κ n) l2 = some r := H
    unfold b_X6_rowNaming_2 at H
    refine gw_iload_n dX6_rowNaming_2 rfl rfl ?_
    refine gw_aload_n dX6_rowNaming_3 rfl rfl ?_
    refine gs_getI cl6 0 0 dX6_rowNaming_4 rfl kw_188 (by decide) (h0.1) rfl rfl ?_
    obtain ⟨g, H⟩ := gd_i H
    refine gw_icmp_geZ (tgt := 27) dX6_rowNaming_7 rfl (by decide) g.1 g.2 (fun q => ?_) (fun q => ?_)
    · have H := bq_t q H
      exact gw_L (hκ H) (lvA_n)
    · have H := bq_f q H
      refine gw_aload_n dX6_rowNaming_10 rfl rfl ?_
      refine gw_iload_n dX6_rowNaming_11 rfl rfl ?_
      obtain ⟨v1, e_v1, H⟩ := cv_i H
      refine gw_V1 okX6_namedBy dX6_rowNaming_12 kw_883 kw_769 kw_770 (hp_o (h0.1)) rfl ⟨by decide, by decide⟩ ⟨by decide, by decide⟩ (Nat.le_of_ble_eq_true rfl) (w_X6_namedBy (h0) e_v1 ?_)
      refine gw_iload_n dX6_rowNaming_15 rfl rfl ?_
      obtain ⟨g, H⟩ := gd_i H
      refine gw_icmp_neZ (tgt := 21) dX6_rowNaming_16 rfl (by decide) g.1 g.2 (fun q => ?_) (fun q => ?_)
      · have H := bq_f q H
        refine gw_iincZ dX6_rowNaming_21 rfl rfl (by decide) ?_
        refine gw_goto (tgt := 2) dX6_rowNaming_24 (by decide) ?_
        exact gw_L (ih _ H) ((lvA_c rfl (lvA_c rfl (lvA_c rfl lvA_n))))
      · have H := bq_t q H
        refine gw_iload_n dX6_rowNaming_19 rfl rfl ?_
        cases H
        exact gw_iret dX6_rowNaming_20 rfl (by decide) (by decide) hK
set_option maxRecDepth 100000 in
set_option maxHeartbeats 4000000 in
theorem w_X6_rowNaming {Φ : gwC} {hb : gwHp} {M : Nat} {sh : Nat → Option gSh} {th : Nat} {p1 : Int} {c : W0} {r : Int} {K : Option Value → gwHp → Prop} (h0 : sT sh th) (H : f_X6_rowNaming th p1 c = some r) (hK : K (some (vI r)) (hp Φ hb M sh c)) : gw_Con Φ mX6_rowNaming none [.ref (M + th), vI p1] (hp Φ hb M sh c) K := by
  unfold f_X6_rowNaming at H
  refine gw_start okX6_rowNaming (Nat.le_of_ble_eq_true rfl) ?_
  refine gw_iconstZ dX6_rowNaming_0 rfl ?_
  refine gw_istore_n dX6_rowNaming_1 rfl (by decide) ?_
  refine gw_L (l_X6_rowNaming_2 h0 hK (fun H => ?_) LF _ H) ((lvA_c rfl (lvA_c rfl (lvA_c rfl lvA_n))))
  refine gw_iconstZ dX6_rowNaming_27 rfl ?_
  cases H
  exact gw_iret dX6_rowNaming_28 rfl (by decide) (by decide) hK
set_option maxRecDepth 100000 in
set_option maxHeartbeats 4000000 in
theorem w_X6_given {Φ : gwC} {hb : gwHp} {M : Nat} {sh : Nat → Option gSh} {th : Nat} {p1 : Int} {c : W0} {r : Int} {K : Option Value → gwHp → Prop} (h0 : sT sh th) (H : f_X6_given th p1 c = some r) (hK : K (some (vL r)) (hp Φ hb M sh c)) : gw_Con Φ mX6_given none [.ref (M + th), vI p1] (hp Φ hb M sh c) K := by
  unfold f_X6_given at H
  refine gw_start okX6_given (Nat.le_of_ble_eq_true rfl) ?_
  refine gw_aload_n dX6_given_0 rfl rfl ?_
  refine gw_iload_n dX6_given_1 rfl rfl ?_
  obtain ⟨v1, e_v1, H⟩ := cv_i H
  refine gw_V1 okX6_rowNaming dX6_given_2 kw_889 kw_880 kw_881 (hp_o (h0.1)) rfl ⟨by decide, by decide⟩ ⟨by decide, by decide⟩ (Nat.le_of_ble_eq_true rfl) (w_X6_rowNaming (h0) e_v1 ?_)
  refine gw_istore_n dX6_given_5 rfl (by decide) ?_
  refine gw_iload_n dX6_given_6 rfl rfl ?_
  obtain ⟨g, H⟩ := gd_i H
  refine gw_if_geZ (tgt := 14) dX6_given_7 rfl (by decide) g (fun q => ?_) (fun q => ?_)
  · have H := bq_t q H
    refine gw_aload_n dX6_given_14 rfl rfl ?_
    refine gw_iload_n dX6_given_15 rfl rfl ?_
    obtain ⟨v2, e_v2, H⟩ := cv_i H
    refine gw_V1 okX6_side dX6_given_16 kw_467 kw_468 kw_469 (hp_o (h0.1)) rfl ⟨by decide, by decide⟩ ⟨by decide, by decide⟩ (Nat.le_of_ble_eq_true rfl) (w_X6_side (h0) e_v2 ?_)
    cases H
    exact gw_lret dX6_given_19 rfl (by decide) (by decide) hK
  · have H := bq_f q H
    refine gw_lconst0Z dX6_given_10 rfl ?_
    refine gw_goto (tgt := 19) dX6_given_11 (by decide) ?_
    cases H
    exact gw_lret dX6_given_19 rfl (by decide) (by decide) hK
set_option maxRecDepth 100000 in
set_option maxHeartbeats 4000000 in
theorem w_X6_obstacle {Φ : gwC} {hb : gwHp} {M : Nat} {sh : Nat → Option gSh} {th : Nat} {p1 : Int} {p2 : Int} {c : W0} {r : Int} {K : Option Value → gwHp → Prop} (h0 : sT sh th) (H : f_X6_obstacle th p1 p2 c = some r) (hK : K (some (vI r)) (hp Φ hb M sh c)) : gw_Con Φ mX6_obstacle none [.ref (M + th), vI p1, vI p2] (hp Φ hb M sh c) K := by
  unfold f_X6_obstacle at H
  refine gw_start okX6_obstacle (Nat.le_of_ble_eq_true rfl) ?_
  refine gw_aload_n dX6_obstacle_0 rfl rfl ?_
  refine gw_iload_n dX6_obstacle_1 rfl rfl ?_
  obtain ⟨v1, e_v1, H⟩ := cv_i H
  refine gw_V1 okX6_rowNaming dX6_obstacle_2 kw_889 kw_880 kw_881 (hp_o (h0.1)) rfl ⟨by decide, by decide⟩ ⟨by decide, by decide⟩ (Nat.le_of_ble_eq_true rfl) (w_X6_rowNaming (h0) e_v1 ?_)
  obtain ⟨g, H⟩ := gd_i H
  refine gw_if_ltZ (tgt := 10) dX6_obstacle_5 rfl (by decide) g (fun q => ?_) (fun q => ?_)
  · have H := bq_t q H
    refine gw_aload_n dX6_obstacle_10 rfl rfl ?_
    refine gw_iload_n dX6_obstacle_11 rfl rfl ?_
    obtain ⟨v2, e_v2, H⟩ := cv_i H
    refine gw_V1 okX6_reduced dX6_obstacle_12 kw_446 kw_447 kw_448 (hp_o (h0.1)) rfl ⟨by decide, by decide⟩ ⟨by decide, by decide⟩ (Nat.le_of_ble_eq_true rfl) (w_X6_reduced (h0) e_v2 ?_)
    refine gw_lconst0Z dX6_obstacle_15 rfl ?_
    obtain ⟨g, H⟩ := gd_i H
    refine gw_lc_gtZ (tgt := 22) dX6_obstacle_16 rfl dX6_obstacle_17 rfl (by decide) g (by decide) (fun q => ?_) (fun q => ?_)
    · have H := bq_t q H
      refine gw_aload_n dX6_obstacle_22 rfl rfl ?_
      refine gw_iload_n dX6_obstacle_23 rfl rfl ?_
      refine gw_iload_n dX6_obstacle_24 rfl rfl ?_
      obtain ⟨v3, e_v3, H⟩ := cv_i H
      refine gw_V2 okX6_entry dX6_obstacle_25 kw_471 kw_472 kw_473 (hp_o (h0.1)) rfl ⟨by decide, by decide⟩ ⟨by decide, by decide⟩ (Nat.le_of_ble_eq_true rfl) (w_X6_entry (h0) e_v3 ?_)
      refine gw_lconst0Z dX6_obstacle_28 rfl ?_
      obtain ⟨g, H⟩ := gd_i H
      refine gw_lc_gtZ (tgt := 35) dX6_obstacle_29 rfl dX6_obstacle_30 rfl (by decide) g (by decide) (fun q => ?_) (fun q => ?_)
      · have H := bq_t q H
        refine gw_aload_n dX6_obstacle_35 rfl rfl ?_
        refine gw_iload_n dX6_obstacle_36 rfl rfl ?_
        obtain ⟨v4, e_v4, H⟩ := cv_i H
        refine gw_V1 okX6_leastRow dX6_obstacle_37 kw_455 kw_456 kw_457 (hp_o (h0.1)) rfl ⟨by decide, by decide⟩ ⟨by decide, by decide⟩ (Nat.le_of_ble_eq_true rfl) (w_X6_leastRow (h0) e_v4 ?_)
        refine gw_istore_n dX6_obstacle_40 rfl (by decide) ?_
        refine gw_aload_n dX6_obstacle_41 rfl rfl ?_
        refine gw_iload_n dX6_obstacle_42 rfl rfl ?_
        obtain ⟨v5, e_v5, H⟩ := cv_i H
        refine gw_V1 okX6_side dX6_obstacle_43 kw_467 kw_468 kw_469 (hp_o (h0.1)) rfl ⟨by decide, by decide⟩ ⟨by decide, by decide⟩ (Nat.le_of_ble_eq_true rfl) (w_X6_side (h0) e_v5 ?_)
        refine gw_aload_n dX6_obstacle_46 rfl rfl ?_
        refine gw_iload_n dX6_obstacle_47 rfl rfl ?_
        refine gw_iload_n dX6_obstacle_48 rfl rfl ?_
        obtain ⟨v6, e_v6, H⟩ := cv_i H
        refine gw_V2 okX6_entry dX6_obstacle_49 kw_471 kw_472 kw_473 (hp_o (h0.1)) rfl ⟨by decide, by decide⟩ ⟨by decide, by decide⟩ (Nat.le_of_ble_eq_true rfl) (w_X6_entry (h0) e_v6 ?_)
        refine gw_lmulZ dX6_obstacle_52 rfl ?_
        refine gw_aload_n dX6_obstacle_53 rfl rfl ?_
        refine gw_iload_n dX6_obstacle_54 rfl rfl ?_
        obtain ⟨v7, e_v7, H⟩ := cv_i H
        refine gw_V1 okX6_side dX6_obstacle_55 kw_467 kw_468 kw_469 (hp_o (h0.1)) rfl ⟨by decide, by decide⟩ ⟨by decide, by decide⟩ (Nat.le_of_ble_eq_true rfl) (w_X6_side (h0) e_v7 ?_)
        refine gw_aload_n dX6_obstacle_58 rfl rfl ?_
        refine gw_iload_n dX6_obstacle_59 rfl rfl ?_
        refine gw_iload_n dX6_obstacle_60 rfl rfl ?_
        obtain ⟨v8, e_v8, H⟩ := cv_i H
        refine gw_V2 okX6_entry dX6_obstacle_61 kw_471 kw_472 kw_473 (hp_o (h0.1)) rfl ⟨by decide, by decide⟩ ⟨by decide, by decide⟩ (Nat.le_of_ble_eq_true rfl) (w_X6_entry (h0) e_v8 ?_)
        refine gw_lmulZ dX6_obstacle_64 rfl ?_
        obtain ⟨g, H⟩ := gd_i H
        refine gw_lc_geZ (tgt := 73) dX6_obstacle_65 rfl dX6_obstacle_66 rfl (by decide) g.1 g.2 (fun q => ?_) (fun q => ?_)
        · have H := bq_t q H
          refine gw_iconstZ dX6_obstacle_73 rfl ?_
          cases H
          exact gw_iret dX6_obstacle_74 rfl (by decide) (by decide) hK
        · have H := bq_f q H
          refine gw_iconstZ dX6_obstacle_69 rfl ?_
          refine gw_goto (tgt := 74) dX6_obstacle_70 (by decide) ?_
          cases H
          exact gw_iret dX6_obstacle_74 rfl (by decide) (by decide) hK
      · have H := bq_f q H
        refine gw_iconstZ dX6_obstacle_33 rfl ?_
        cases H
        exact gw_iret dX6_obstacle_34 rfl (by decide) (by decide) hK
    · have H := bq_f q H
      refine gw_iconstZ dX6_obstacle_20 rfl ?_
      cases H
      exact gw_iret dX6_obstacle_21 rfl (by decide) (by decide) hK
  · have H := bq_f q H
    refine gw_iconstZ dX6_obstacle_8 rfl ?_
    cases H
    exact gw_iret dX6_obstacle_9 rfl (by decide) (by decide) hK
set_option maxRecDepth 100000 in
set_option maxHeartbeats 4000000 in
theorem w_X6_growth {Φ : gwC} {hb : gwHp} {M : Nat} {sh : Nat → Option gSh} {th : Nat} {p1 : Int} {c : W0} {r : Int} {K : Option Value → gwHp → Prop} (h0 : sT sh th) (H : f_X6_growth th p1 c = some r) (hK : K (some (vL r)) (hp Φ hb M sh c)) : gw_Con Φ mX6_growth none [.ref (M + th), vI p1] (hp Φ hb M sh c) K := by
  unfold f_X6_growth at H
  refine gw_start okX6_growth (Nat.le_of_ble_eq_true rfl) ?_
  refine gw_aload_n dX6_growth_0 rfl rfl ?_
  obtain ⟨v1, e_v1, H⟩ := cv_i H
  refine gw_V0 okX6_openColumn dX6_growth_1 kw_451 kw_452 kw_453 (hp_o (h0.1)) rfl ⟨by decide, by decide⟩ ⟨by decide, by decide⟩ (Nat.le_of_ble_eq_true rfl) (w_X6_openColumn (h0) e_v1 ?_)
  refine gw_istore_n dX6_growth_4 rfl (by decide) ?_
  refine gw_iload_n dX6_growth_5 rfl rfl ?_
  refine gw_iload_n dX6_growth_6 rfl rfl ?_
  obtain ⟨g, H⟩ := gd_i H
  refine gw_icmp_neZ (tgt := 15) dX6_growth_7 rfl (by decide) g.1 g.2 (fun q => ?_) (fun q => ?_)
  · have H := bq_f q H
    refine gw_aload_n dX6_growth_15 rfl rfl ?_
    refine gw_iload_n dX6_growth_16 rfl rfl ?_
    obtain ⟨v2, e_v2, H⟩ := cv_i H
    refine gw_V1 okX6_rowNaming dX6_growth_17 kw_889 kw_880 kw_881 (hp_o (h0.1)) rfl ⟨by decide, by decide⟩ ⟨by decide, by decide⟩ (Nat.le_of_ble_eq_true rfl) (w_X6_rowNaming (h0) e_v2 ?_)
    refine gw_istore_n dX6_growth_20 rfl (by decide) ?_
    refine gw_iload_n dX6_growth_21 rfl rfl ?_
    obtain ⟨g, H⟩ := gd_i H
    refine gw_if_geZ (tgt := 29) dX6_growth_22 rfl (by decide) g (fun q => ?_) (fun q => ?_)
    · have H := bq_t q H
      refine gw_aload_n dX6_growth_29 rfl rfl ?_
      refine gw_iload_n dX6_growth_30 rfl rfl ?_
      refine gw_iload_n dX6_growth_31 rfl rfl ?_
      obtain ⟨v3, e_v3, H⟩ := cv_i H
      refine gw_V2 okX6_entry dX6_growth_32 kw_471 kw_472 kw_473 (hp_o (h0.1)) rfl ⟨by decide, by decide⟩ ⟨by decide, by decide⟩ (Nat.le_of_ble_eq_true rfl) (w_X6_entry (h0) e_v3 ?_)
      refine gw_lnegZ dX6_growth_35 rfl ?_
      cases H
      exact gw_lret dX6_growth_36 rfl (by decide) (by decide) hK
    · have H := bq_f q H
      refine gw_lconst0Z dX6_growth_25 rfl ?_
      refine gw_goto (tgt := 36) dX6_growth_26 (by decide) ?_
      cases H
      exact gw_lret dX6_growth_36 rfl (by decide) (by decide) hK
  · have H := bq_t q H
    refine gw_aload_n dX6_growth_10 rfl rfl ?_
    refine gs_getL cl6 2 2 dX6_growth_11 rfl kw_192 (by decide) (h0.1) rfl rfl ?_
    cases H
    exact gw_lret dX6_growth_14 rfl (by decide) (by decide) hK
set_option maxRecDepth 100000 in
set_option maxHeartbeats 4000000 in
theorem w_X7_add {Φ : gwC} {hb : gwHp} {M : Nat} {sh : Nat → Option gSh} {th : Nat} {p1 : Int} {c : W0} {r : Int × W0} {K : Option Value → gwHp → Prop} (h0 : sX sh th) (H : f_X7_add th p1 c = some r) (hK : K none (hp Φ hb M sh r.2)) : gw_Con Φ mX7_add none [.ref (M + th), vI p1] (hp Φ hb M sh c) K := by
  unfold f_X7_add at H
  refine gw_start okX7_add (Nat.le_of_ble_eq_true rfl) ?_
  refine gw_aload_n dX7_add_0 rfl rfl ?_
  refine gs_getR cl7 1 dX7_add_1 rfl kw_246 (by decide) (h0.1) rfl ?_
  refine gw_iconstZ dX7_add_4 rfl ?_
  refine gw_aload_n dX7_add_5 rfl rfl ?_
  refine gs_getI cl7 0 0 dX7_add_6 rfl kw_244 (by decide) (h0.1) rfl rfl ?_
  refine gw_iload_n dX7_add_9 rfl rfl ?_
  obtain ⟨g, H⟩ := gd_i H
  refine gw_i2lZ dX7_add_10 rfl g ?_
  obtain ⟨g, H⟩ := gd_i H
  obtain ⟨c1, e_c1, H⟩ := sto_i H
  refine gw_V3 okX1_put dX7_add_11 kw_1076 kw_403 kw_404 (hp_o (h0.2.1)) rfl ⟨by decide, by decide⟩ ⟨by decide, by decide⟩ (Nat.le_of_ble_eq_true rfl) (k_put0E (h0.2) (by decide) (by omega) (by omega) (by decide) e_c1 ?_)
  refine gw_aload_n dX7_add_14 rfl rfl ?_
  refine gw_dup dX7_add_15 rfl rfl ?_
  refine gs_getI cl7 0 0 dX7_add_16 rfl kw_244 (by decide) (h0.1) rfl rfl ?_
  refine gw_iconstZ dX7_add_19 rfl ?_
  refine gw_iaddZ dX7_add_20 rfl ?_
  obtain ⟨c2, e_c2, H⟩ := sto_i H
  refine gs_putIE cl7 0 0 dX7_add_21 rfl kw_244 (by decide) rfl rfl (h0.1) rfl rfl e_c2 ?_
  cases H
  exact gw_vret dX7_add_24 rfl (by decide) (by decide) hK
set_option maxRecDepth 100000 in
set_option maxHeartbeats 4000000 in
theorem w_X7_clear {Φ : gwC} {hb : gwHp} {M : Nat} {sh : Nat → Option gSh} {th : Nat} {c : W0} {r : Int × W0} {K : Option Value → gwHp → Prop} (h0 : sX sh th) (H : f_X7_clear th c = some r) (hK : K none (hp Φ hb M sh r.2)) : gw_Con Φ mX7_clear none [.ref (M + th)] (hp Φ hb M sh c) K := by
  unfold f_X7_clear at H
  refine gw_start okX7_clear (Nat.le_of_ble_eq_true rfl) ?_
  refine gw_aload_n dX7_clear_0 rfl rfl ?_
  refine gw_iconstZ dX7_clear_1 rfl ?_
  obtain ⟨c1, e_c1, H⟩ := sto_i H
  refine gs_putIE cl7 0 0 dX7_clear_2 rfl kw_244 (by decide) rfl rfl (h0.1) rfl rfl e_c1 ?_
  cases H
  exact gw_vret dX7_clear_5 rfl (by decide) (by decide) hK
set_option maxRecDepth 100000 in
set_option maxHeartbeats 4000000 in
theorem w_X7_addFactor {Φ : gwC} {hb : gwHp} {M : Nat} {sh : Nat → Option gSh} {th : Nat} {p1 : Int} {p2 : Int} {c : W0} {r : Int × W0} {K : Option Value → gwHp → Prop} (h0 : sX sh th) (H : f_X7_addFactor th p1 p2 c = some r) (hK : K none (hp Φ hb M sh r.2)) : gw_Con Φ mX7_addFactor none [.ref (M + th), vI p1, vI p2] (hp Φ hb M sh c) K := by
  unfold f_X7_addFactor at H
  refine gw_start okX7_addFactor (Nat.le_of_ble_eq_true rfl) ?_
  refine gw_iload_n dX7_addFactor_0 rfl rfl ?_
  obtain ⟨g, H⟩ := gd_i H
  obtain ⟨k1, e_k1, H⟩ := jn_i H
  have hJ : ∀ (c2 : W0), k1 c2 = some r → G Φ mX7_addFactor (gw_M Φ mX7_addFactor K) none 0 0 10 [(0, .ref (M + th)), (2, vI p2)] [] (hp Φ hb M sh c2) := by
    intro c2 H
    subst e_k1
    refine gw_iload_n dX7_addFactor_10 rfl rfl ?_
    obtain ⟨g, H⟩ := gd_i H
    obtain ⟨k3, e_k3, H⟩ := jn_i H
    have hJ : ∀ (c4 : W0), k3 c4 = some r → G Φ mX7_addFactor (gw_M Φ mX7_addFactor K) none 0 0 20 [(0, .ref (M + th)), (2, vI p2)] [] (hp Φ hb M sh c4) := by
      intro c4 H
      subst e_k3
      refine gw_aload_n dX7_addFactor_20 rfl rfl ?_
      refine gw_bipushZ dX7_addFactor_21 rfl (by decide) ?_
      refine gw_iload_n dX7_addFactor_23 rfl rfl ?_
      obtain ⟨g, H⟩ := gd_i H
      refine gw_mabsZ dX7_addFactor_24 rfl kw_1103 kw_1104 kw_104 kw_1105 (by decide) (Nat.le_of_ble_eq_true rfl) (by decide) (by decide) g ?_
      refine gw_iaddZ dX7_addFactor_27 rfl ?_
      obtain ⟨v6, c5, e_c5, H⟩ := cl_i H
      refine gw_V1 okX7_add dX7_addFactor_28 kw_1097 kw_1073 kw_1074 (hp_o (h0.1)) rfl ⟨by decide, by decide⟩ ⟨by decide, by decide⟩ (Nat.le_of_ble_eq_true rfl) (w_X7_add (h0) e_c5 ?_)
      cases H
      exact gw_vret dX7_addFactor_31 rfl (by decide) (by decide) hK
    refine gw_if_geZ (tgt := 20) dX7_addFactor_11 rfl (by decide) g (fun q => ?_) (fun q => ?_)
    · have H := bq_t q H
      exact gw_L (hJ _ H) ((lvA_c rfl (lvA_c rfl lvA_n)))
    · have H := bq_f q H
      refine gw_aload_n dX7_addFactor_14 rfl rfl ?_
      refine gw_bipushZ dX7_addFactor_15 rfl (by decide) ?_
      obtain ⟨v8, c7, e_c7, H⟩ := cl_i H
      refine gw_V1 okX7_add dX7_addFactor_17 kw_1097 kw_1073 kw_1074 (hp_o (h0.1)) rfl ⟨by decide, by decide⟩ ⟨by decide, by decide⟩ (Nat.le_of_ble_eq_true rfl) (w_X7_add (h0) e_c7 ?_)
      exact gw_L (hJ _ H) ((lvA_c rfl (lvA_c rfl lvA_n)))
  refine gw_if_leZ (tgt := 10) dX7_addFactor_1 rfl (by decide) g (fun q => ?_) (fun q => ?_)
  · have H := bq_t q H
    exact gw_L (hJ _ H) ((lvA_c rfl (lvA_c rfl lvA_n)))
  · have H := bq_f q H
    refine gw_aload_n dX7_addFactor_4 rfl rfl ?_
    refine gw_bipushZ dX7_addFactor_5 rfl (by decide) ?_
    obtain ⟨v10, c9, e_c9, H⟩ := cl_i H
    refine gw_V1 okX7_add dX7_addFactor_7 kw_1097 kw_1073 kw_1074 (hp_o (h0.1)) rfl ⟨by decide, by decide⟩ ⟨by decide, by decide⟩ (Nat.le_of_ble_eq_true rfl) (w_X7_add (h0) e_c9 ?_)
    exact gw_L (hJ _ H) ((lvA_c rfl (lvA_c rfl lvA_n)))
set_option maxRecDepth 100000 in
set_option maxHeartbeats 4000000 in
theorem w_X7_addBound {Φ : gwC} {hb : gwHp} {M : Nat} {sh : Nat → Option gSh} {th : Nat} {p1 : Int} {c : W0} {r : Int × W0} {K : Option Value → gwHp → Prop} (h0 : sX sh th) (H : f_X7_addBound th p1 c = some r) (hK : K none (hp Φ hb M sh r.2)) : gw_Con Φ mX7_addBound none [.ref (M + th), vI p1] (hp Φ hb M sh c) K := by
  unfold f_X7_addBound at H
  refine gw_start okX7_addBound (Nat.le_of_ble_eq_true rfl) ?_
  refine gw_iload_n dX7_addBound_0 rfl rfl ?_
  refine gw_bipushZ dX7_addBound_1 rfl (by decide) ?_
  obtain ⟨g, H⟩ := gd_i H
  obtain ⟨k1, e_k1, H⟩ := jn_i H
  have hJ : ∀ (c2 : W0), k1 c2 = some r → G Φ mX7_addBound (gw_M Φ mX7_addBound K) none 0 0 17 [(0, .ref (M + th)), (1, vI p1)] [] (hp Φ hb M sh c2) := by
    intro c2 H
    subst e_k1
    refine gw_aload_n dX7_addBound_17 rfl rfl ?_
    refine gw_bipushZ dX7_addBound_18 rfl (by decide) ?_
    refine gw_iload_n dX7_addBound_20 rfl rfl ?_
    refine gw_bipushZ dX7_addBound_21 rfl (by decide) ?_
    obtain ⟨g, H⟩ := gd_i H
    refine gw_iremZ dX7_addBound_23 rfl (by decide) g (by decide) ?_
    refine gw_iaddZ dX7_addBound_24 rfl ?_
    obtain ⟨v4, c3, e_c3, H⟩ := cl_i H
    refine gw_V1 okX7_add dX7_addBound_25 kw_1097 kw_1073 kw_1074 (hp_o (h0.1)) rfl ⟨by decide, by decide⟩ ⟨by decide, by decide⟩ (Nat.le_of_ble_eq_true rfl) (w_X7_add (h0) e_c3 ?_)
    cases H
    exact gw_vret dX7_addBound_28 rfl (by decide) (by decide) hK
  refine gw_icmp_leZ (tgt := 17) dX7_addBound_3 rfl (by decide) g (by decide) (fun q => ?_) (fun q => ?_)
  · have H := bq_t q H
    exact gw_L (hJ _ H) ((lvA_c rfl (lvA_c rfl lvA_n)))
  · have H := bq_f q H
    refine gw_aload_n dX7_addBound_6 rfl rfl ?_
    refine gw_bipushZ dX7_addBound_7 rfl (by decide) ?_
    refine gw_iload_n dX7_addBound_9 rfl rfl ?_
    refine gw_bipushZ dX7_addBound_10 rfl (by decide) ?_
    obtain ⟨g, H⟩ := gd_i H
    refine gw_idivZ dX7_addBound_12 rfl (by decide) g (by decide) ?_
    refine gw_iaddZ dX7_addBound_13 rfl ?_
    obtain ⟨v6, c5, e_c5, H⟩ := cl_i H
    refine gw_V1 okX7_add dX7_addBound_14 kw_1097 kw_1073 kw_1074 (hp_o (h0.1)) rfl ⟨by decide, by decide⟩ ⟨by decide, by decide⟩ (Nat.le_of_ble_eq_true rfl) (w_X7_add (h0) e_c5 ?_)
    exact gw_L (hJ _ H) ((lvA_c rfl (lvA_c rfl lvA_n)))
set_option maxRecDepth 100000 in
set_option maxHeartbeats 4000000 in
theorem l_X7_addProblem_36 {Φ : gwC} {hb : gwHp} {M : Nat} {sh : Nat → Option gSh} {th : Nat} {p1 : Nat} {κ : W0 → Option (Int × W0)} {r : Int × W0} {K : Option Value → gwHp → Prop} (h0 : sX sh th) (h1 : sP sh p1) (hK : K none (hp Φ hb M sh r.2)) (hκ : ∀ (c : W0), κ c = some r → G Φ mX7_addProblem (gw_M Φ mX7_addProblem K) none 0 0 60 [(0, .ref (M + th)), (1, .ref (M + p1))] [] (hp Φ hb M sh c)) : ∀ (n : Nat) (l2 : Int) (c : W0), f_X7_addProblem_36 th p1 κ n l2 c = some r → G Φ mX7_addProblem (gw_M Φ mX7_addProblem K) none 0 0 36 [(0, .ref (M + th)), (1, .ref (M + p1)), (2, vI l2)] [] (hp Φ hb M sh c) := by
  intro n
  induction n with
  | zero => intro l2 c H; cases H
  | succ n ih =>
    intro l2 c H
    have H : b_X7_addProblem_36 th p1 κ (f_X7_addProblem_36 th p1 κ n) l2 c = some r := H
    unfold b_X7_addProblem_36 at H
    refine gw_iload_n dX7_addProblem_36 rfl rfl ?_
    refine gw_aload_n dX7_addProblem_37 rfl rfl ?_
    refine gs_getIN cl2 0 0 dX7_addProblem_38 rfl kw_161 (by decide) (h1.1) rfl rfl ?_
    obtain ⟨g, H⟩ := gd_i H
    refine gw_icmp_geZ (tgt := 60) dX7_addProblem_41 rfl (by decide) g.1 g.2 (fun q => ?_) (fun q => ?_)
    · have H := bq_t q H
      exact gw_L (hκ _ H) ((lvA_c rfl (lvA_c rfl lvA_n)))
    · have H := bq_f q H
      refine gw_aload_n dX7_addProblem_44 rfl rfl ?_
      refine gw_iload_n dX7_addProblem_45 rfl rfl ?_
      refine gw_aload_n dX7_addProblem_46 rfl rfl ?_
      refine gw_iload_n dX7_addProblem_47 rfl rfl ?_
      obtain ⟨v1, e_v1, H⟩ := cv_i H
      refine gw_V1 okX2_profit dX7_addProblem_48 kw_1098 kw_427 kw_428 (hp_o (h1.1)) rfl ⟨by decide, by decide⟩ ⟨by decide, by decide⟩ (Nat.le_of_ble_eq_true rfl) (w_X2_profit (h1) e_v1 ?_)
      obtain ⟨v3, c2, e_c2, H⟩ := cl_i H
      refine gw_V2 okX7_addFactor dX7_addProblem_51 kw_1099 kw_1101 kw_29 (hp_o (h0.1)) rfl ⟨by decide, by decide⟩ ⟨by decide, by decide⟩ (Nat.le_of_ble_eq_true rfl) (w_X7_addFactor (h0) e_c2 ?_)
      refine gw_iincZ dX7_addProblem_54 rfl rfl (by decide) ?_
      refine gw_goto (tgt := 36) dX7_addProblem_57 (by decide) ?_
      exact gw_L (ih _ _ H) ((lvA_c rfl (lvA_c rfl (lvA_c rfl lvA_n))))
set_option maxRecDepth 100000 in
set_option maxHeartbeats 4000000 in
theorem l_X7_addProblem_84 {Φ : gwC} {hb : gwHp} {M : Nat} {sh : Nat → Option gSh} {th : Nat} {p1 : Nat} {l2 : Int} {κ : W0 → Option (Int × W0)} {r : Int × W0} {K : Option Value → gwHp → Prop} (h0 : sX sh th) (h1 : sP sh p1) (hK : K none (hp Φ hb M sh r.2)) (hκ : ∀ (c : W0), κ c = some r → G Φ mX7_addProblem (gw_M Φ mX7_addProblem K) none 0 0 109 [(0, .ref (M + th)), (1, .ref (M + p1)), (2, vI l2)] [] (hp Φ hb M sh c)) : ∀ (n : Nat) (l3 : Int) (c : W0), f_X7_addProblem_84 th p1 l2 κ n l3 c = some r → G Φ mX7_addProblem (gw_M Φ mX7_addProblem K) none 0 0 84 [(0, .ref (M + th)), (1, .ref (M + p1)), (2, vI l2), (3, vI l3)] [] (hp Φ hb M sh c) := by
  intro n
  induction n with
  | zero => intro l3 c H; cases H
  | succ n ih =>
    intro l3 c H
    have H : b_X7_addProblem_84 th p1 l2 κ (f_X7_addProblem_84 th p1 l2 κ n) l3 c = some r := H
    unfold b_X7_addProblem_84 at H
    refine gw_iload_n dX7_addProblem_84 rfl rfl ?_
    refine gw_aload_n dX7_addProblem_85 rfl rfl ?_
    refine gs_getIN cl2 0 0 dX7_addProblem_86 rfl kw_161 (by decide) (h1.1) rfl rfl ?_
    obtain ⟨g, H⟩ := gd_i H
    refine gw_icmp_geZ (tgt := 109) dX7_addProblem_89 rfl (by decide) g.1 g.2 (fun q => ?_) (fun q => ?_)
    · have H := bq_t q H
      exact gw_L (hκ _ H) ((lvA_c rfl (lvA_c rfl (lvA_c rfl lvA_n))))
    · have H := bq_f q H
      refine gw_aload_n dX7_addProblem_92 rfl rfl ?_
      refine gw_iload_n dX7_addProblem_93 rfl rfl ?_
      refine gw_aload_n dX7_addProblem_94 rfl rfl ?_
      refine gw_iload_n dX7_addProblem_95 rfl rfl ?_
      refine gw_iload_n dX7_addProblem_96 rfl rfl ?_
      obtain ⟨v1, e_v1, H⟩ := cv_i H
      refine gw_V2 okX2_coefficient dX7_addProblem_97 kw_1106 kw_411 kw_412 (hp_o (h1.1)) rfl ⟨by decide, by decide⟩ ⟨by decide, by decide⟩ (Nat.le_of_ble_eq_true rfl) (w_X2_coefficient (h1) e_v1 ?_)
      obtain ⟨v3, c2, e_c2, H⟩ := cl_i H
      refine gw_V2 okX7_addFactor dX7_addProblem_100 kw_1099 kw_1101 kw_29 (hp_o (h0.1)) rfl ⟨by decide, by decide⟩ ⟨by decide, by decide⟩ (Nat.le_of_ble_eq_true rfl) (w_X7_addFactor (h0) e_c2 ?_)
      refine gw_iincZ dX7_addProblem_103 rfl rfl (by decide) ?_
      refine gw_goto (tgt := 84) dX7_addProblem_106 (by decide) ?_
      exact gw_L (ih _ _ H) ((lvA_c rfl (lvA_c rfl (lvA_c rfl (lvA_c rfl lvA_n)))))
set_option maxRecDepth 100000 in
set_option maxHeartbeats 4000000 in
theorem l_X7_addProblem_62 {Φ : gwC} {hb : gwHp} {M : Nat} {sh : Nat → Option gSh} {th : Nat} {p1 : Nat} {κ : W0 → Option (Int × W0)} {r : Int × W0} {K : Option Value → gwHp → Prop} (h0 : sX sh th) (h1 : sP sh p1) (hK : K none (hp Φ hb M sh r.2)) (hκ : ∀ (c : W0), κ c = some r → G Φ mX7_addProblem (gw_M Φ mX7_addProblem K) none 0 0 130 [] [] (hp Φ hb M sh c)) : ∀ (n : Nat) (l2 : Int) (c : W0), f_X7_addProblem_62 th p1 κ n l2 c = some r → G Φ mX7_addProblem (gw_M Φ mX7_addProblem K) none 0 0 62 [(0, .ref (M + th)), (1, .ref (M + p1)), (2, vI l2)] [] (hp Φ hb M sh c) := by
  intro n
  induction n with
  | zero => intro l2 c H; cases H
  | succ n ih =>
    intro l2 c H
    have H : b_X7_addProblem_62 th p1 κ (f_X7_addProblem_62 th p1 κ n) l2 c = some r := H
    unfold b_X7_addProblem_62 at H
    refine gw_iload_n dX7_addProblem_62 rfl rfl ?_
    refine gw_aload_n dX7_addProblem_63 rfl rfl ?_
    refine gs_getIN cl2 1 1 dX7_addProblem_64 rfl kw_168 (by decide) (h1.1) rfl rfl ?_
    obtain ⟨g, H⟩ := gd_i H
    refine gw_icmp_geZ (tgt := 130) dX7_addProblem_67 rfl (by decide) g.1 g.2 (fun q => ?_) (fun q => ?_)
    · have H := bq_t q H
      exact gw_L (hκ _ H) (lvA_n)
    · have H := bq_f q H
      refine gw_aload_n dX7_addProblem_70 rfl rfl ?_
      refine gw_bipushZ dX7_addProblem_71 rfl (by decide) ?_
      obtain ⟨v2, c1, e_c1, H⟩ := cl_i H
      refine gw_V1 okX7_add dX7_addProblem_73 kw_1097 kw_1073 kw_1074 (hp_o (h0.1)) rfl ⟨by decide, by decide⟩ ⟨by decide, by decide⟩ (Nat.le_of_ble_eq_true rfl) (w_X7_add (h0) e_c1 ?_)
      refine gw_aload_n dX7_addProblem_76 rfl rfl ?_
      refine gw_bipushZ dX7_addProblem_77 rfl (by decide) ?_
      obtain ⟨v4, c3, e_c3, H⟩ := cl_i H
      refine gw_V1 okX7_add dX7_addProblem_79 kw_1097 kw_1073 kw_1074 (hp_o (h0.1)) rfl ⟨by decide, by decide⟩ ⟨by decide, by decide⟩ (Nat.le_of_ble_eq_true rfl) (w_X7_add (h0) e_c3 ?_)
      refine gw_iconstZ dX7_addProblem_82 rfl ?_
      refine gw_istore_n dX7_addProblem_83 rfl (by decide) ?_
      refine gw_L (l_X7_addProblem_84 h0 h1 hK (fun c5 H => ?_) LF _ _ H) ((lvA_c rfl (lvA_c rfl (lvA_c rfl (lvA_c rfl lvA_n)))))
      refine gw_aload_n dX7_addProblem_109 rfl rfl ?_
      refine gw_bipushZ dX7_addProblem_110 rfl (by decide) ?_
      obtain ⟨v7, c6, e_c6, H⟩ := cl_i H
      refine gw_V1 okX7_add dX7_addProblem_112 kw_1097 kw_1073 kw_1074 (hp_o (h0.1)) rfl ⟨by decide, by decide⟩ ⟨by decide, by decide⟩ (Nat.le_of_ble_eq_true rfl) (w_X7_add (h0) e_c6 ?_)
      refine gw_aload_n dX7_addProblem_115 rfl rfl ?_
      refine gw_aload_n dX7_addProblem_116 rfl rfl ?_
      refine gw_iload_n dX7_addProblem_117 rfl rfl ?_
      obtain ⟨v8, e_v8, H⟩ := cv_i H
      refine gw_V1 okX2_bound dX7_addProblem_118 kw_1107 kw_419 kw_420 (hp_o (h1.1)) rfl ⟨by decide, by decide⟩ ⟨by decide, by decide⟩ (Nat.le_of_ble_eq_true rfl) (w_X2_bound (h1) e_v8 ?_)
      obtain ⟨v10, c9, e_c9, H⟩ := cl_i H
      refine gw_V1 okX7_addBound dX7_addProblem_121 kw_1108 kw_1110 kw_30 (hp_o (h0.1)) rfl ⟨by decide, by decide⟩ ⟨by decide, by decide⟩ (Nat.le_of_ble_eq_true rfl) (w_X7_addBound (h0) e_c9 ?_)
      refine gw_iincZ dX7_addProblem_124 rfl rfl (by decide) ?_
      refine gw_goto (tgt := 62) dX7_addProblem_127 (by decide) ?_
      exact gw_L (ih _ _ H) ((lvA_c rfl (lvA_c rfl (lvA_c rfl lvA_n))))
set_option maxRecDepth 100000 in
set_option maxHeartbeats 4000000 in
theorem w_X7_addProblem {Φ : gwC} {hb : gwHp} {M : Nat} {sh : Nat → Option gSh} {th : Nat} {p1 : Nat} {c : W0} {r : Int × W0} {K : Option Value → gwHp → Prop} (h0 : sX sh th) (h1 : sP sh p1) (H : f_X7_addProblem th p1 c = some r) (hK : K none (hp Φ hb M sh r.2)) : gw_Con Φ mX7_addProblem none [.ref (M + th), .ref (M + p1)] (hp Φ hb M sh c) K := by
  unfold f_X7_addProblem at H
  refine gw_start okX7_addProblem (Nat.le_of_ble_eq_true rfl) ?_
  refine gw_aload_n dX7_addProblem_0 rfl rfl ?_
  refine gw_ifnonnull (tgt := 5) dX7_addProblem_1 (by decide) ?_
  refine gw_aload_n dX7_addProblem_5 rfl rfl ?_
  refine gw_bipushZ dX7_addProblem_6 rfl (by decide) ?_
  obtain ⟨v2, c1, e_c1, H⟩ := cl_i H
  refine gw_V1 okX7_add dX7_addProblem_8 kw_1097 kw_1073 kw_1074 (hp_o (h0.1)) rfl ⟨by decide, by decide⟩ ⟨by decide, by decide⟩ (Nat.le_of_ble_eq_true rfl) (w_X7_add (h0) e_c1 ?_)
  refine gw_aload_n dX7_addProblem_11 rfl rfl ?_
  refine gw_bipushZ dX7_addProblem_12 rfl (by decide) ?_
  refine gw_aload_n dX7_addProblem_14 rfl rfl ?_
  refine gs_getIN cl2 0 0 dX7_addProblem_15 rfl kw_161 (by decide) (h1.1) rfl rfl ?_
  refine gw_iaddZ dX7_addProblem_18 rfl ?_
  obtain ⟨v4, c3, e_c3, H⟩ := cl_i H
  refine gw_V1 okX7_add dX7_addProblem_19 kw_1097 kw_1073 kw_1074 (hp_o (h0.1)) rfl ⟨by decide, by decide⟩ ⟨by decide, by decide⟩ (Nat.le_of_ble_eq_true rfl) (w_X7_add (h0) e_c3 ?_)
  refine gw_aload_n dX7_addProblem_22 rfl rfl ?_
  refine gw_bipushZ dX7_addProblem_23 rfl (by decide) ?_
  obtain ⟨v6, c5, e_c5, H⟩ := cl_i H
  refine gw_V1 okX7_add dX7_addProblem_25 kw_1097 kw_1073 kw_1074 (hp_o (h0.1)) rfl ⟨by decide, by decide⟩ ⟨by decide, by decide⟩ (Nat.le_of_ble_eq_true rfl) (w_X7_add (h0) e_c5 ?_)
  refine gw_aload_n dX7_addProblem_28 rfl rfl ?_
  refine gw_bipushZ dX7_addProblem_29 rfl (by decide) ?_
  obtain ⟨v8, c7, e_c7, H⟩ := cl_i H
  refine gw_V1 okX7_add dX7_addProblem_31 kw_1097 kw_1073 kw_1074 (hp_o (h0.1)) rfl ⟨by decide, by decide⟩ ⟨by decide, by decide⟩ (Nat.le_of_ble_eq_true rfl) (w_X7_add (h0) e_c7 ?_)
  refine gw_iconstZ dX7_addProblem_34 rfl ?_
  refine gw_istore_n dX7_addProblem_35 rfl (by decide) ?_
  refine gw_L (l_X7_addProblem_36 h0 h1 hK (fun c9 H => ?_) LF _ _ H) ((lvA_c rfl (lvA_c rfl (lvA_c rfl lvA_n))))
  refine gw_iconstZ dX7_addProblem_60 rfl ?_
  refine gw_istore_n dX7_addProblem_61 rfl (by decide) ?_
  refine gw_L (l_X7_addProblem_62 h0 h1 hK (fun c10 H => ?_) LF _ _ H) ((lvA_c rfl (lvA_c rfl (lvA_c rfl lvA_n))))
  cases H
  exact gw_vret dX7_addProblem_130 rfl (by decide) (by decide) hK
set_option maxRecDepth 100000 in
set_option maxHeartbeats 4000000 in
theorem l_X8_dropOldest_2 {Φ : gwC} {hb : gwHp} {M : Nat} {sh : Nat → Option gSh} {th : Nat} {κ : W0 → Option (Int × W0)} {r : Int × W0} {K : Option Value → gwHp → Prop} (h0 : sD sh th) (hK : K none (hp Φ hb M sh r.2)) (hκ : ∀ (c : W0), κ c = some r → G Φ mX8_dropOldest (gw_M Φ mX8_dropOldest K) none 0 0 49 [(0, .ref (M + th))] [] (hp Φ hb M sh c)) : ∀ (n : Nat) (l1 : Int) (c : W0), f_X8_dropOldest_2 th κ n l1 c = some r → G Φ mX8_dropOldest (gw_M Φ mX8_dropOldest K) none 0 0 2 [(0, .ref (M + th)), (1, vI l1)] [] (hp Φ hb M sh c) := by
  intro n
  induction n with
  | zero => intro l1 c H; cases H
  | succ n ih =>
    intro l1 c H
    have H : b_X8_dropOldest_2 th κ (f_X8_dropOldest_2 th κ n) l1 c = some r := H
    unfold b_X8_dropOldest_2 at H
    refine gw_iload_n dX8_dropOldest_2 rfl rfl ?_
    refine gw_iconstZ dX8_dropOldest_3 rfl ?_
    refine gw_iaddZ dX8_dropOldest_4 rfl ?_
    refine gw_aload_n dX8_dropOldest_5 rfl rfl ?_
    refine gs_getR cl8 3 dX8_dropOldest_6 rfl kw_331 (by decide) (h0.1) rfl ?_
    refine gs_alenR dX8_dropOldest_9 rfl (h0.2.2.2.2.1) ?_
    obtain ⟨g, H⟩ := gd_i H
    refine gw_icmp_geZ (tgt := 49) dX8_dropOldest_10 rfl (by decide) g (by decide) (fun q => ?_) (fun q => ?_)
    · have H := bq_t q H
      exact gw_L (hκ _ H) ((lvA_c rfl lvA_n))
    · have H := bq_f q H
      refine gw_aload_n dX8_dropOldest_13 rfl rfl ?_
      refine gs_getR cl8 3 dX8_dropOldest_14 rfl kw_331 (by decide) (h0.1) rfl ?_
      refine gw_iload_n dX8_dropOldest_17 rfl rfl ?_
      refine gw_iconstZ dX8_dropOldest_18 rfl ?_
      refine gw_iaddZ dX8_dropOldest_19 rfl ?_
      obtain ⟨g, H⟩ := gd_i H
      refine gs_aaldZ dX8_dropOldest_20 rfl (h0.2.2.2.2.1) g (by decide) ?_
      obtain ⟨hz1, H⟩ := gd_i H
      have hz1 := stP_s h0 hz1
      refine gw_astore_n dX8_dropOldest_21 rfl (by decide) ?_
      refine gw_aload_n dX8_dropOldest_22 rfl rfl ?_
      refine gs_getR cl8 3 dX8_dropOldest_23 rfl kw_331 (by decide) (h0.1) rfl ?_
      refine gw_iload_n dX8_dropOldest_26 rfl rfl ?_
      refine gw_iconstZ dX8_dropOldest_27 rfl ?_
      refine gw_iaddZ dX8_dropOldest_28 rfl ?_
      refine gw_aload_n dX8_dropOldest_29 rfl rfl ?_
      refine gs_getR cl8 3 dX8_dropOldest_30 rfl kw_331 (by decide) (h0.1) rfl ?_
      refine gw_iload_n dX8_dropOldest_33 rfl rfl ?_
      obtain ⟨g, H⟩ := gd_i H
      refine gs_aaldZ dX8_dropOldest_34 rfl (h0.2.2.2.2.1) g (by decide) ?_
      obtain ⟨hz2, H⟩ := gd_i H
      have hz2 := stP_s h0 hz2
      obtain ⟨g, H⟩ := gd_i H
      obtain ⟨c3, e_c3, H⟩ := sto_i H
      refine gs_aastZE dX8_dropOldest_35 rfl (h0.2.2.2.2.1) (hz2.1) g (by decide) e_c3 ?_
      refine gw_aload_n dX8_dropOldest_36 rfl rfl ?_
      refine gs_getR cl8 3 dX8_dropOldest_37 rfl kw_331 (by decide) (h0.1) rfl ?_
      refine gw_iload_n dX8_dropOldest_40 rfl rfl ?_
      refine gw_aload_n dX8_dropOldest_41 rfl rfl ?_
      obtain ⟨g, H⟩ := gd_i H
      obtain ⟨c4, e_c4, H⟩ := sto_i H
      refine gs_aastZE dX8_dropOldest_42 rfl (h0.2.2.2.2.1) (hz1.1) g (by decide) e_c4 ?_
      refine gw_iincZ dX8_dropOldest_43 rfl rfl (by decide) ?_
      refine gw_goto (tgt := 2) dX8_dropOldest_46 (by decide) ?_
      exact gw_L (ih _ _ H) ((lvA_c rfl (lvA_c rfl lvA_n)))
set_option maxRecDepth 100000 in
set_option maxHeartbeats 4000000 in
theorem w_X8_dropOldest {Φ : gwC} {hb : gwHp} {M : Nat} {sh : Nat → Option gSh} {th : Nat} {c : W0} {r : Int × W0} {K : Option Value → gwHp → Prop} (h0 : sD sh th) (H : f_X8_dropOldest th c = some r) (hK : K none (hp Φ hb M sh r.2)) : gw_Con Φ mX8_dropOldest none [.ref (M + th)] (hp Φ hb M sh c) K := by
  unfold f_X8_dropOldest at H
  refine gw_start okX8_dropOldest (Nat.le_of_ble_eq_true rfl) ?_
  refine gw_iconstZ dX8_dropOldest_0 rfl ?_
  refine gw_istore_n dX8_dropOldest_1 rfl (by decide) ?_
  refine gw_L (l_X8_dropOldest_2 h0 hK (fun c1 H => ?_) LF _ _ H) ((lvA_c rfl (lvA_c rfl lvA_n)))
  refine gw_aload_n dX8_dropOldest_49 rfl rfl ?_
  refine gw_dup dX8_dropOldest_50 rfl rfl ?_
  refine gs_getI cl8 10 10 dX8_dropOldest_51 rfl kw_338 (by decide) (h0.1) rfl rfl ?_
  refine gw_iconstZ dX8_dropOldest_54 rfl ?_
  refine gw_isubZ dX8_dropOldest_55 rfl ?_
  obtain ⟨c2, e_c2, H⟩ := sto_i H
  refine gs_putIE cl8 10 10 dX8_dropOldest_56 rfl kw_338 (by decide) rfl rfl (h0.1) rfl rfl e_c2 ?_
  cases H
  exact gw_vret dX8_dropOldest_59 rfl (by decide) (by decide) hK
set_option maxRecDepth 100000 in
set_option maxHeartbeats 4000000 in
theorem w_X8_saveState {Φ : gwC} {hb : gwHp} {M : Nat} {sh : Nat → Option gSh} {th : Nat} {c : W0} {r : Int × W0} {K : Option Value → gwHp → Prop} (h0 : sD sh th) (H : f_X8_saveState th c = some r) (hK : K none (hp Φ hb M sh r.2)) : gw_Con Φ mX8_saveState none [.ref (M + th)] (hp Φ hb M sh c) K := by
  unfold f_X8_saveState at H
  refine gw_start okX8_saveState (Nat.le_of_ble_eq_true rfl) ?_
  refine gw_aload_n dX8_saveState_0 rfl rfl ?_
  refine gs_getI cl8 10 10 dX8_saveState_1 rfl kw_338 (by decide) (h0.1) rfl rfl ?_
  refine gw_aload_n dX8_saveState_4 rfl rfl ?_
  refine gs_getR cl8 3 dX8_saveState_5 rfl kw_331 (by decide) (h0.1) rfl ?_
  refine gs_alenR dX8_saveState_8 rfl (h0.2.2.2.2.1) ?_
  obtain ⟨g, H⟩ := gd_i H
  obtain ⟨k1, e_k1, H⟩ := jn_i H
  have hJ : ∀ (c2 : W0), k1 c2 = some r → G Φ mX8_saveState (gw_M Φ mX8_saveState K) none 0 0 16 [(0, .ref (M + th))] [] (hp Φ hb M sh c2) := by
    intro c2 H
    subst e_k1
    refine gw_aload_n dX8_saveState_16 rfl rfl ?_
    refine gs_getI cl8 10 10 dX8_saveState_17 rfl kw_338 (by decide) (h0.1) rfl rfl ?_
    obtain ⟨g, H⟩ := gd_i H
    refine gw_if_ltZ (tgt := 67) dX8_saveState_20 rfl (by decide) g (fun q => ?_) (fun q => ?_)
    · have H := bq_t q H
      cases H
      exact gw_vret dX8_saveState_67 rfl (by decide) (by decide) hK
    · have H := bq_f q H
      refine gw_aload_n dX8_saveState_23 rfl rfl ?_
      refine gs_getI cl8 10 10 dX8_saveState_24 rfl kw_338 (by decide) (h0.1) rfl rfl ?_
      refine gw_aload_n dX8_saveState_27 rfl rfl ?_
      refine gs_getR cl8 3 dX8_saveState_28 rfl kw_331 (by decide) (h0.1) rfl ?_
      refine gs_alenR dX8_saveState_31 rfl (h0.2.2.2.2.1) ?_
      obtain ⟨g, H⟩ := gd_i H
      refine gw_icmp_geZ (tgt := 67) dX8_saveState_32 rfl (by decide) g (by decide) (fun q => ?_) (fun q => ?_)
      · have H := bq_t q H
        cases H
        exact gw_vret dX8_saveState_67 rfl (by decide) (by decide) hK
      · have H := bq_f q H
        refine gw_aload_n dX8_saveState_35 rfl rfl ?_
        refine gs_getR cl8 3 dX8_saveState_36 rfl kw_331 (by decide) (h0.1) rfl ?_
        refine gw_aload_n dX8_saveState_39 rfl rfl ?_
        refine gs_getI cl8 10 10 dX8_saveState_40 rfl kw_338 (by decide) (h0.1) rfl rfl ?_
        obtain ⟨g, H⟩ := gd_i H
        refine gs_aaldZ dX8_saveState_43 rfl (h0.2.2.2.2.1) g (by decide) ?_
        obtain ⟨hz3, H⟩ := gd_i H
        have hz3 := stP_s h0 hz3
        refine gw_astore_n dX8_saveState_44 rfl (by decide) ?_
        refine gw_aload_n dX8_saveState_45 rfl rfl ?_
        refine gw_ifnull dX8_saveState_46 rfl ?_
        refine gw_aload_n dX8_saveState_49 rfl rfl ?_
        refine gw_aload_n dX8_saveState_50 rfl rfl ?_
        refine gs_getR cl8 0 dX8_saveState_51 rfl kw_328 (by decide) (h0.1) rfl ?_
        obtain ⟨v5, c4, e_c4, H⟩ := cl_i H
        refine gw_V1 okX4_copy dX8_saveState_54 kw_374 kw_375 kw_376 (hp_o (hz3.1)) rfl ⟨by decide, by decide⟩ ⟨by decide, by decide⟩ (Nat.le_of_ble_eq_true rfl) (w_X4_copy (hz3) (h0.2.1) e_c4 ?_)
        refine gw_aload_n dX8_saveState_57 rfl rfl ?_
        refine gw_dup dX8_saveState_58 rfl rfl ?_
        refine gs_getI cl8 10 10 dX8_saveState_59 rfl kw_338 (by decide) (h0.1) rfl rfl ?_
        refine gw_iconstZ dX8_saveState_62 rfl ?_
        refine gw_iaddZ dX8_saveState_63 rfl ?_
        obtain ⟨c6, e_c6, H⟩ := sto_i H
        refine gs_putIE cl8 10 10 dX8_saveState_64 rfl kw_338 (by decide) rfl rfl (h0.1) rfl rfl e_c6 ?_
        cases H
        exact gw_vret dX8_saveState_67 rfl (by decide) (by decide) hK
  refine gw_icmp_ltZ (tgt := 16) dX8_saveState_9 rfl (by decide) g (by decide) (fun q => ?_) (fun q => ?_)
  · have H := bq_t q H
    exact gw_L (hJ _ H) ((lvA_c rfl lvA_n))
  · have H := bq_f q H
    refine gw_aload_n dX8_saveState_12 rfl rfl ?_
    obtain ⟨v8, c7, e_c7, H⟩ := cl_i H
    refine gw_V0 okX8_dropOldest dX8_saveState_13 kw_370 kw_372 kw_1 (hp_o (h0.1)) rfl ⟨by decide, by decide⟩ ⟨by decide, by decide⟩ (Nat.le_of_ble_eq_true rfl) (w_X8_dropOldest (h0) e_c7 ?_)
    exact gw_L (hJ _ H) ((lvA_c rfl lvA_n))
set_option maxRecDepth 100000 in
set_option maxHeartbeats 4000000 in
theorem w_X8_setVariables {Φ : gwC} {hb : gwHp} {M : Nat} {sh : Nat → Option gSh} {th : Nat} {p1 : Int} {c : W0} {r : Int × Int × W0} {K : Option Value → gwHp → Prop} {KX : String → gwHp → Prop} (h0 : sD sh th) (H : f_X8_setVariables th p1 c = some r) (hK : r.1 = 0 → K (some (vI r.2.1)) (hp Φ hb M sh r.2.2)) (hKX : ¬ r.1 = 0 → KX (xnm r.1) (hp Φ hb M sh r.2.2)) : gw_ConX Φ mX8_setVariables [.ref (M + th), vI p1] (hp Φ hb M sh c) K KX := by
  unfold f_X8_setVariables at H
  refine gw_startX okX8_setVariables (Nat.le_of_ble_eq_true rfl) ?_
  refine gw_iload_n dX8_setVariables_0 rfl rfl ?_
  refine gw_iconstZ dX8_setVariables_1 rfl ?_
  obtain ⟨g, H⟩ := gd_i H
  obtain ⟨k1, e_k1, H⟩ := jn_i H
  have hJ : ∀ (u2 : Unit), k1 u2 = some r → G Φ mX8_setVariables (gw_MX Φ mX8_setVariables K KX) none 0 0 10 [] [] (hp Φ hb M sh c) := by
    intro u2 H
    subst e_k1
    cases H
    exact gw_throw (text := "a problem has 1 to 4 variables") (by decide +kernel) gw_nms_ok kw_925 kw_114 thw_IA (by decide +kernel) dX8_setVariables_10 dX8_setVariables_13 dX8_setVariables_14 dX8_setVariables_16 dX8_setVariables_19 rfl (by decide) (by decide) (by decide) (by decide) (hKX (show ¬ (1 : Int) = 0 by decide))
  refine gw_icmp_ltZ (tgt := 10) dX8_setVariables_2 rfl (by decide) g (by decide) (fun q => ?_) (fun q => ?_)
  · have H := bq_t q H
    exact gw_L (hJ _ H) (lvA_n)
  · have H := bq_f q H
    refine gw_iload_n dX8_setVariables_5 rfl rfl ?_
    refine gw_iconstZ dX8_setVariables_6 rfl ?_
    obtain ⟨g, H⟩ := gd_i H
    refine gw_icmp_leZ (tgt := 20) dX8_setVariables_7 rfl (by decide) g (by decide) (fun q => ?_) (fun q => ?_)
    · have H := bq_t q H
      refine gw_aload_n dX8_setVariables_20 rfl rfl ?_
      obtain ⟨v4, c3, e_c3, H⟩ := cl_i H
      refine gw_V0 okX8_saveState dX8_setVariables_21 kw_366 kw_368 kw_0 (hp_o (h0.1)) rfl ⟨by decide, by decide⟩ ⟨by decide, by decide⟩ (Nat.le_of_ble_eq_true rfl) (w_X8_saveState (h0) e_c3 ?_)
      refine gw_aload_n dX8_setVariables_24 rfl rfl ?_
      refine gs_getR cl8 0 dX8_setVariables_25 rfl kw_328 (by decide) (h0.1) rfl ?_
      refine gs_getRN cl4 0 dX8_setVariables_28 rfl kw_208 (by decide) (h0.2.1.1) rfl ?_
      refine gs_getIN cl2 0 0 dX8_setVariables_31 rfl kw_159 (by decide) (h0.2.1.2.1.1) rfl rfl ?_
      refine gw_istore_n dX8_setVariables_34 rfl (by decide) ?_
      refine gw_aload_n dX8_setVariables_35 rfl rfl ?_
      refine gs_getR cl8 0 dX8_setVariables_36 rfl kw_328 (by decide) (h0.1) rfl ?_
      refine gs_getRN cl4 0 dX8_setVariables_39 rfl kw_208 (by decide) (h0.2.1.1) rfl ?_
      refine gw_iload_n dX8_setVariables_42 rfl rfl ?_
      obtain ⟨v6, c5, e_c5, H⟩ := cl_i H
      refine gw_V1 okX2_resize dX8_setVariables_43 kw_941 kw_534 kw_535 (hp_o (h0.2.1.2.1.1)) rfl ⟨by decide, by decide⟩ ⟨by decide, by decide⟩ (Nat.le_of_ble_eq_true rfl) (w_X2_resize (h0.2.1.2.1) e_c5 ?_)
      refine gw_aload_n dX8_setVariables_46 rfl rfl ?_
      refine gs_getR cl8 0 dX8_setVariables_47 rfl kw_328 (by decide) (h0.1) rfl ?_
      obtain ⟨v8, c7, e_c7, H⟩ := cl_i H
      refine gw_V0 okX4_start dX8_setVariables_50 kw_394 kw_395 kw_396 (hp_o (h0.2.1.1)) rfl ⟨by decide, by decide⟩ ⟨by decide, by decide⟩ (Nat.le_of_ble_eq_true rfl) (w_X4_start (h0.2.1) e_c7 ?_)
      refine gw_iload_n dX8_setVariables_53 rfl rfl ?_
      cases H
      exact gw_iretX dX8_setVariables_54 rfl (by decide) (by decide) (hK rfl)
    · have H := bq_f q H
      exact gw_L (hJ _ H) (lvA_n)
set_option maxRecDepth 100000 in
set_option maxHeartbeats 4000000 in
theorem w_X8_requireVariable {Φ : gwC} {hb : gwHp} {M : Nat} {sh : Nat → Option gSh} {th : Nat} {p1 : Int} {c : W0} {r : Int × Int × W0} {K : Option Value → gwHp → Prop} {KX : String → gwHp → Prop} (h0 : sD sh th) (H : f_X8_requireVariable th p1 c = some r) (hK : r.1 = 0 → K none (hp Φ hb M sh r.2.2)) (hKX : ¬ r.1 = 0 → KX (xnm r.1) (hp Φ hb M sh r.2.2)) : gw_ConX Φ mX8_requireVariable [.ref (M + th), vI p1] (hp Φ hb M sh c) K KX := by
  unfold f_X8_requireVariable at H
  refine gw_startX okX8_requireVariable (Nat.le_of_ble_eq_true rfl) ?_
  refine gw_iload_n dX8_requireVariable_0 rfl rfl ?_
  obtain ⟨g, H⟩ := gd_i H
  obtain ⟨k1, e_k1, H⟩ := jn_i H
  have hJ : ∀ (u2 : Unit), k1 u2 = some r → G Φ mX8_requireVariable (gw_MX Φ mX8_requireVariable K KX) none 0 0 18 [] [] (hp Φ hb M sh c) := by
    intro u2 H
    subst e_k1
    cases H
    exact gw_throwW (text := "there is no such variable") (by decide +kernel) gw_nms_ok kw_785 kw_116 thw_IO (by decide +kernel) dX8_requireVariable_18 dX8_requireVariable_21 dX8_requireVariable_22 dX8_requireVariable_25 dX8_requireVariable_28 rfl (by decide) (by decide) (by decide) (by decide) (hKX (show ¬ (3 : Int) = 0 by decide))
  refine gw_if_ltZ (tgt := 18) dX8_requireVariable_1 rfl (by decide) g (fun q => ?_) (fun q => ?_)
  · have H := bq_t q H
    exact gw_L (hJ _ H) (lvA_n)
  · have H := bq_f q H
    refine gw_iload_n dX8_requireVariable_4 rfl rfl ?_
    refine gw_aload_n dX8_requireVariable_5 rfl rfl ?_
    refine gs_getR cl8 0 dX8_requireVariable_6 rfl kw_328 (by decide) (h0.1) rfl ?_
    refine gs_getRN cl4 0 dX8_requireVariable_9 rfl kw_208 (by decide) (h0.2.1.1) rfl ?_
    refine gs_getIN cl2 0 0 dX8_requireVariable_12 rfl kw_159 (by decide) (h0.2.1.2.1.1) rfl rfl ?_
    obtain ⟨g, H⟩ := gd_i H
    refine gw_icmp_ltZ (tgt := 29) dX8_requireVariable_15 rfl (by decide) g.1 g.2 (fun q => ?_) (fun q => ?_)
    · have H := bq_t q H
      cases H
      exact gw_vretX dX8_requireVariable_29 rfl (by decide) (by decide) (hK rfl)
    · have H := bq_f q H
      exact gw_L (hJ _ H) (lvA_n)
set_option maxRecDepth 100000 in
set_option maxHeartbeats 4000000 in
theorem w_X8_requireFactor {Φ : gwC} {hb : gwHp} {M : Nat} {sh : Nat → Option gSh} {p1 : Int} {c : W0} {r : Int × Int × W0} {K : Option Value → gwHp → Prop} {KX : String → gwHp → Prop}  (H : f_X8_requireFactor p1 c = some r) (hK : r.1 = 0 → K none (hp Φ hb M sh r.2.2)) (hKX : ¬ r.1 = 0 → KX (xnm r.1) (hp Φ hb M sh r.2.2)) : gw_ConX Φ mX8_requireFactor [vI p1] (hp Φ hb M sh c) K KX := by
  unfold f_X8_requireFactor at H
  refine gw_startX okX8_requireFactor (Nat.le_of_ble_eq_true rfl) ?_
  refine gw_iload_n dX8_requireFactor_0 rfl rfl ?_
  refine gw_bipushZ dX8_requireFactor_1 rfl (by decide) ?_
  obtain ⟨g, H⟩ := gd_i H
  obtain ⟨k1, e_k1, H⟩ := jn_i H
  have hJ : ∀ (u2 : Unit), k1 u2 = some r → G Φ mX8_requireFactor (gw_MX Φ mX8_requireFactor K KX) none 0 0 12 [] [] (hp Φ hb M sh c) := by
    intro u2 H
    subst e_k1
    cases H
    exact gw_throwW (text := "a profit or a coefficient is -9 to 9") (by decide +kernel) gw_nms_ok kw_925 kw_114 thw_IA (by decide +kernel) dX8_requireFactor_12 dX8_requireFactor_15 dX8_requireFactor_16 dX8_requireFactor_19 dX8_requireFactor_22 rfl (by decide) (by decide) (by decide) (by decide) (hKX (show ¬ (1 : Int) = 0 by decide))
  refine gw_icmp_ltZ (tgt := 12) dX8_requireFactor_3 rfl (by decide) g (by decide) (fun q => ?_) (fun q => ?_)
  · have H := bq_t q H
    exact gw_L (hJ _ H) (lvA_n)
  · have H := bq_f q H
    refine gw_iload_n dX8_requireFactor_6 rfl rfl ?_
    refine gw_bipushZ dX8_requireFactor_7 rfl (by decide) ?_
    obtain ⟨g, H⟩ := gd_i H
    refine gw_icmp_leZ (tgt := 23) dX8_requireFactor_9 rfl (by decide) g (by decide) (fun q => ?_) (fun q => ?_)
    · have H := bq_t q H
      cases H
      exact gw_vretX dX8_requireFactor_23 rfl (by decide) (by decide) (hK rfl)
    · have H := bq_f q H
      exact gw_L (hJ _ H) (lvA_n)
set_option maxRecDepth 100000 in
set_option maxHeartbeats 4000000 in
theorem w_X8_setProfit {Φ : gwC} {hb : gwHp} {M : Nat} {sh : Nat → Option gSh} {th : Nat} {p1 : Int} {p2 : Int} {c : W0} {r : Int × Int × W0} {K : Option Value → gwHp → Prop} {KX : String → gwHp → Prop} (h0 : sD sh th) (H : f_X8_setProfit th p1 p2 c = some r) (hK : r.1 = 0 → K (some (vI r.2.1)) (hp Φ hb M sh r.2.2)) (hKX : ¬ r.1 = 0 → KX (xnm r.1) (hp Φ hb M sh r.2.2)) : gw_ConX Φ mX8_setProfit [.ref (M + th), vI p1, vI p2] (hp Φ hb M sh c) K KX := by
  unfold f_X8_setProfit at H
  refine gw_startX okX8_setProfit (Nat.le_of_ble_eq_true rfl) ?_
  refine gw_aload_n dX8_setProfit_0 rfl rfl ?_
  refine gw_iload_n dX8_setProfit_1 rfl rfl ?_
  obtain ⟨e9, v2, c1, e_c1, H⟩ := cx_i H
  refine gw_VX1 okX8_requireVariable dX8_setProfit_2 kw_950 kw_952 kw_25 (hp_o (h0.1)) rfl ⟨by decide, by decide⟩ ⟨by decide, by decide⟩ (Nat.le_of_ble_eq_true rfl) (w_X8_requireVariable (h0) e_c1 (fun z => ?_) (fun z => ?_))
  · rcases H with ⟨-, H⟩ | ⟨z2, H⟩
    rotate_left
    · exact absurd z z2
    refine gw_iload_n dX8_setProfit_5 rfl rfl ?_
    obtain ⟨e9, v4, c3, e_c3, H⟩ := cx_i H
    refine gw_SX1 okX8_requireFactor dX8_setProfit_6 kw_955 kw_956 ⟨by decide, by decide⟩ ⟨by decide, by decide⟩ (Nat.le_of_ble_eq_true rfl) (w_X8_requireFactor  e_c3 (fun z => ?_) (fun z => ?_))
    · rcases H with ⟨-, H⟩ | ⟨z2, H⟩
      rotate_left
      · exact absurd z z2
      refine gw_aload_n dX8_setProfit_9 rfl rfl ?_
      obtain ⟨v6, c5, e_c5, H⟩ := cl_i H
      refine gw_V0 okX8_saveState dX8_setProfit_10 kw_366 kw_368 kw_0 (hp_o (h0.1)) rfl ⟨by decide, by decide⟩ ⟨by decide, by decide⟩ (Nat.le_of_ble_eq_true rfl) (w_X8_saveState (h0) e_c5 ?_)
      refine gw_aload_n dX8_setProfit_13 rfl rfl ?_
      refine gs_getR cl8 0 dX8_setProfit_14 rfl kw_328 (by decide) (h0.1) rfl ?_
      refine gs_getRN cl4 0 dX8_setProfit_17 rfl kw_208 (by decide) (h0.2.1.1) rfl ?_
      refine gw_iload_n dX8_setProfit_20 rfl rfl ?_
      obtain ⟨v7, e_v7, H⟩ := cv_i H
      refine gw_V1 okX2_profit dX8_setProfit_21 kw_763 kw_427 kw_428 (hp_o (h0.2.1.2.1.1)) rfl ⟨by decide, by decide⟩ ⟨by decide, by decide⟩ (Nat.le_of_ble_eq_true rfl) (w_X2_profit (h0.2.1.2.1) e_v7 ?_)
      refine gw_istore_n dX8_setProfit_24 rfl (by decide) ?_
      refine gw_aload_n dX8_setProfit_25 rfl rfl ?_
      refine gs_getR cl8 0 dX8_setProfit_26 rfl kw_328 (by decide) (h0.1) rfl ?_
      refine gs_getRN cl4 0 dX8_setProfit_29 rfl kw_208 (by decide) (h0.2.1.1) rfl ?_
      refine gw_iload_n dX8_setProfit_32 rfl rfl ?_
      refine gw_iload_n dX8_setProfit_33 rfl rfl ?_
      obtain ⟨v9, c8, e_c8, H⟩ := cl_i H
      refine gw_V2 okX2_putProfit dX8_setProfit_34 kw_959 kw_960 kw_961 (hp_o (h0.2.1.2.1.1)) rfl ⟨by decide, by decide⟩ ⟨by decide, by decide⟩ (Nat.le_of_ble_eq_true rfl) (w_X2_putProfit (h0.2.1.2.1) e_c8 ?_)
      refine gw_aload_n dX8_setProfit_37 rfl rfl ?_
      refine gs_getR cl8 0 dX8_setProfit_38 rfl kw_328 (by decide) (h0.1) rfl ?_
      obtain ⟨v11, c10, e_c10, H⟩ := cl_i H
      refine gw_V0 okX4_start dX8_setProfit_41 kw_394 kw_395 kw_396 (hp_o (h0.2.1.1)) rfl ⟨by decide, by decide⟩ ⟨by decide, by decide⟩ (Nat.le_of_ble_eq_true rfl) (w_X4_start (h0.2.1) e_c10 ?_)
      refine gw_iload_n dX8_setProfit_44 rfl rfl ?_
      cases H
      exact gw_iretX dX8_setProfit_45 rfl (by decide) (by decide) (hK rfl)
    · exact gw_out rfl (by decide) (by decide) (by rcases H with ⟨z2, H⟩ | ⟨z2, rfl⟩; (· exact absurd z2 z); exact hKX z)
  · exact gw_out rfl (by decide) (by decide) (by rcases H with ⟨z2, H⟩ | ⟨z2, rfl⟩; (· exact absurd z2 z); exact hKX z)
set_option maxRecDepth 100000 in
set_option maxHeartbeats 4000000 in
theorem w_X8_requireBound {Φ : gwC} {hb : gwHp} {M : Nat} {sh : Nat → Option gSh} {p1 : Int} {c : W0} {r : Int × Int × W0} {K : Option Value → gwHp → Prop} {KX : String → gwHp → Prop}  (H : f_X8_requireBound p1 c = some r) (hK : r.1 = 0 → K none (hp Φ hb M sh r.2.2)) (hKX : ¬ r.1 = 0 → KX (xnm r.1) (hp Φ hb M sh r.2.2)) : gw_ConX Φ mX8_requireBound [vI p1] (hp Φ hb M sh c) K KX := by
  unfold f_X8_requireBound at H
  refine gw_startX okX8_requireBound (Nat.le_of_ble_eq_true rfl) ?_
  refine gw_iload_n dX8_requireBound_0 rfl rfl ?_
  obtain ⟨g, H⟩ := gd_i H
  obtain ⟨k1, e_k1, H⟩ := jn_i H
  have hJ : ∀ (u2 : Unit), k1 u2 = some r → G Φ mX8_requireBound (gw_MX Φ mX8_requireBound K KX) none 0 0 10 [] [] (hp Φ hb M sh c) := by
    intro u2 H
    subst e_k1
    cases H
    exact gw_throwW (text := "a bound is 0 to 99") (by decide +kernel) gw_nms_ok kw_925 kw_114 thw_IA (by decide +kernel) dX8_requireBound_10 dX8_requireBound_13 dX8_requireBound_14 dX8_requireBound_17 dX8_requireBound_20 rfl (by decide) (by decide) (by decide) (by decide) (hKX (show ¬ (1 : Int) = 0 by decide))
  refine gw_if_ltZ (tgt := 10) dX8_requireBound_1 rfl (by decide) g (fun q => ?_) (fun q => ?_)
  · have H := bq_t q H
    exact gw_L (hJ _ H) (lvA_n)
  · have H := bq_f q H
    refine gw_iload_n dX8_requireBound_4 rfl rfl ?_
    refine gw_bipushZ dX8_requireBound_5 rfl (by decide) ?_
    obtain ⟨g, H⟩ := gd_i H
    refine gw_icmp_leZ (tgt := 21) dX8_requireBound_7 rfl (by decide) g (by decide) (fun q => ?_) (fun q => ?_)
    · have H := bq_t q H
      cases H
      exact gw_vretX dX8_requireBound_21 rfl (by decide) (by decide) (hK rfl)
    · have H := bq_f q H
      exact gw_L (hJ _ H) (lvA_n)
set_option maxRecDepth 100000 in
set_option maxHeartbeats 4000000 in
theorem w_X8_addConstraint {Φ : gwC} {hb : gwHp} {M : Nat} {sh : Nat → Option gSh} {th : Nat} {p1 : Int} {c : W0} {r : Int × Int × W0} {K : Option Value → gwHp → Prop} {KX : String → gwHp → Prop} (h0 : sD sh th) (H : f_X8_addConstraint th p1 c = some r) (hK : r.1 = 0 → K (some (vI r.2.1)) (hp Φ hb M sh r.2.2)) (hKX : ¬ r.1 = 0 → KX (xnm r.1) (hp Φ hb M sh r.2.2)) : gw_ConX Φ mX8_addConstraint [.ref (M + th), vI p1] (hp Φ hb M sh c) K KX := by
  unfold f_X8_addConstraint at H
  refine gw_startX okX8_addConstraint (Nat.le_of_ble_eq_true rfl) ?_
  refine gw_iload_n dX8_addConstraint_0 rfl rfl ?_
  obtain ⟨e9, v2, c1, e_c1, H⟩ := cx_i H
  refine gw_SX1 okX8_requireBound dX8_addConstraint_1 kw_971 kw_972 ⟨by decide, by decide⟩ ⟨by decide, by decide⟩ (Nat.le_of_ble_eq_true rfl) (w_X8_requireBound  e_c1 (fun z => ?_) (fun z => ?_))
  · rcases H with ⟨-, H⟩ | ⟨z2, H⟩
    rotate_left
    · exact absurd z z2
    refine gw_aload_n dX8_addConstraint_4 rfl rfl ?_
    refine gs_getR cl8 0 dX8_addConstraint_5 rfl kw_328 (by decide) (h0.1) rfl ?_
    refine gs_getRN cl4 0 dX8_addConstraint_8 rfl kw_208 (by decide) (h0.2.1.1) rfl ?_
    refine gs_getIN cl2 1 1 dX8_addConstraint_11 rfl kw_167 (by decide) (h0.2.1.2.1.1) rfl rfl ?_
    refine gw_iconstZ dX8_addConstraint_14 rfl ?_
    obtain ⟨g, H⟩ := gd_i H
    refine gw_icmp_ltZ (tgt := 28) dX8_addConstraint_15 rfl (by decide) g (by decide) (fun q => ?_) (fun q => ?_)
    · have H := bq_t q H
      refine gw_aload_n dX8_addConstraint_28 rfl rfl ?_
      obtain ⟨v4, c3, e_c3, H⟩ := cl_i H
      refine gw_V0 okX8_saveState dX8_addConstraint_29 kw_366 kw_368 kw_0 (hp_o (h0.1)) rfl ⟨by decide, by decide⟩ ⟨by decide, by decide⟩ (Nat.le_of_ble_eq_true rfl) (w_X8_saveState (h0) e_c3 ?_)
      refine gw_aload_n dX8_addConstraint_32 rfl rfl ?_
      refine gs_getR cl8 0 dX8_addConstraint_33 rfl kw_328 (by decide) (h0.1) rfl ?_
      refine gs_getRN cl4 0 dX8_addConstraint_36 rfl kw_208 (by decide) (h0.2.1.1) rfl ?_
      refine gw_iload_n dX8_addConstraint_39 rfl rfl ?_
      obtain ⟨v5, c6, e_c6, H⟩ := cl_i H
      refine gw_V1 okX2_add dX8_addConstraint_40 kw_991 kw_548 kw_549 (hp_o (h0.2.1.2.1.1)) rfl ⟨by decide, by decide⟩ ⟨by decide, by decide⟩ (Nat.le_of_ble_eq_true rfl) (w_X2_add (h0.2.1.2.1) e_c6 ?_)
      refine gw_istore_n dX8_addConstraint_43 rfl (by decide) ?_
      refine gw_aload_n dX8_addConstraint_44 rfl rfl ?_
      refine gs_getR cl8 0 dX8_addConstraint_45 rfl kw_328 (by decide) (h0.1) rfl ?_
      obtain ⟨v8, c7, e_c7, H⟩ := cl_i H
      refine gw_V0 okX4_start dX8_addConstraint_48 kw_394 kw_395 kw_396 (hp_o (h0.2.1.1)) rfl ⟨by decide, by decide⟩ ⟨by decide, by decide⟩ (Nat.le_of_ble_eq_true rfl) (w_X4_start (h0.2.1) e_c7 ?_)
      refine gw_iload_n dX8_addConstraint_51 rfl rfl ?_
      cases H
      exact gw_iretX dX8_addConstraint_52 rfl (by decide) (by decide) (hK rfl)
    · have H := bq_f q H
      cases H
      exact gw_throw (text := "there are 4 constraints") (by decide +kernel) gw_nms_ok kw_975 kw_117 thw_IS (by decide +kernel) dX8_addConstraint_18 dX8_addConstraint_21 dX8_addConstraint_22 dX8_addConstraint_24 dX8_addConstraint_27 rfl (by decide) (by decide) (by decide) (by decide) (hKX (show ¬ (2 : Int) = 0 by decide))
  · exact gw_out rfl (by decide) (by decide) (by rcases H with ⟨z2, H⟩ | ⟨z2, rfl⟩; (· exact absurd z2 z); exact hKX z)
set_option maxRecDepth 100000 in
set_option maxHeartbeats 4000000 in
theorem w_X8_requireConstraint {Φ : gwC} {hb : gwHp} {M : Nat} {sh : Nat → Option gSh} {th : Nat} {p1 : Int} {c : W0} {r : Int × Int × W0} {K : Option Value → gwHp → Prop} {KX : String → gwHp → Prop} (h0 : sD sh th) (H : f_X8_requireConstraint th p1 c = some r) (hK : r.1 = 0 → K none (hp Φ hb M sh r.2.2)) (hKX : ¬ r.1 = 0 → KX (xnm r.1) (hp Φ hb M sh r.2.2)) : gw_ConX Φ mX8_requireConstraint [.ref (M + th), vI p1] (hp Φ hb M sh c) K KX := by
  unfold f_X8_requireConstraint at H
  refine gw_startX okX8_requireConstraint (Nat.le_of_ble_eq_true rfl) ?_
  refine gw_iload_n dX8_requireConstraint_0 rfl rfl ?_
  obtain ⟨g, H⟩ := gd_i H
  obtain ⟨k1, e_k1, H⟩ := jn_i H
  have hJ : ∀ (u2 : Unit), k1 u2 = some r → G Φ mX8_requireConstraint (gw_MX Φ mX8_requireConstraint K KX) none 0 0 18 [] [] (hp Φ hb M sh c) := by
    intro u2 H
    subst e_k1
    cases H
    exact gw_throwW (text := "there is no such constraint") (by decide +kernel) gw_nms_ok kw_785 kw_116 thw_IO (by decide +kernel) dX8_requireConstraint_18 dX8_requireConstraint_21 dX8_requireConstraint_22 dX8_requireConstraint_25 dX8_requireConstraint_28 rfl (by decide) (by decide) (by decide) (by decide) (hKX (show ¬ (3 : Int) = 0 by decide))
  refine gw_if_ltZ (tgt := 18) dX8_requireConstraint_1 rfl (by decide) g (fun q => ?_) (fun q => ?_)
  · have H := bq_t q H
    exact gw_L (hJ _ H) (lvA_n)
  · have H := bq_f q H
    refine gw_iload_n dX8_requireConstraint_4 rfl rfl ?_
    refine gw_aload_n dX8_requireConstraint_5 rfl rfl ?_
    refine gs_getR cl8 0 dX8_requireConstraint_6 rfl kw_328 (by decide) (h0.1) rfl ?_
    refine gs_getRN cl4 0 dX8_requireConstraint_9 rfl kw_208 (by decide) (h0.2.1.1) rfl ?_
    refine gs_getIN cl2 1 1 dX8_requireConstraint_12 rfl kw_167 (by decide) (h0.2.1.2.1.1) rfl rfl ?_
    obtain ⟨g, H⟩ := gd_i H
    refine gw_icmp_ltZ (tgt := 29) dX8_requireConstraint_15 rfl (by decide) g.1 g.2 (fun q => ?_) (fun q => ?_)
    · have H := bq_t q H
      cases H
      exact gw_vretX dX8_requireConstraint_29 rfl (by decide) (by decide) (hK rfl)
    · have H := bq_f q H
      exact gw_L (hJ _ H) (lvA_n)
set_option maxRecDepth 100000 in
set_option maxHeartbeats 4000000 in
theorem w_X8_setCoefficient {Φ : gwC} {hb : gwHp} {M : Nat} {sh : Nat → Option gSh} {th : Nat} {p1 : Int} {p2 : Int} {p3 : Int} {c : W0} {r : Int × Int × W0} {K : Option Value → gwHp → Prop} {KX : String → gwHp → Prop} (h0 : sD sh th) (H : f_X8_setCoefficient th p1 p2 p3 c = some r) (hK : r.1 = 0 → K (some (vI r.2.1)) (hp Φ hb M sh r.2.2)) (hKX : ¬ r.1 = 0 → KX (xnm r.1) (hp Φ hb M sh r.2.2)) : gw_ConX Φ mX8_setCoefficient [.ref (M + th), vI p1, vI p2, vI p3] (hp Φ hb M sh c) K KX := by
  unfold f_X8_setCoefficient at H
  refine gw_startX okX8_setCoefficient (Nat.le_of_ble_eq_true rfl) ?_
  refine gw_aload_n dX8_setCoefficient_0 rfl rfl ?_
  refine gw_iload_n dX8_setCoefficient_1 rfl rfl ?_
  obtain ⟨e9, v2, c1, e_c1, H⟩ := cx_i H
  refine gw_VX1 okX8_requireConstraint dX8_setCoefficient_2 kw_781 kw_783 kw_19 (hp_o (h0.1)) rfl ⟨by decide, by decide⟩ ⟨by decide, by decide⟩ (Nat.le_of_ble_eq_true rfl) (w_X8_requireConstraint (h0) e_c1 (fun z => ?_) (fun z => ?_))
  · rcases H with ⟨-, H⟩ | ⟨z2, H⟩
    rotate_left
    · exact absurd z z2
    refine gw_aload_n dX8_setCoefficient_5 rfl rfl ?_
    refine gw_iload_n dX8_setCoefficient_6 rfl rfl ?_
    obtain ⟨e9, v4, c3, e_c3, H⟩ := cx_i H
    refine gw_VX1 okX8_requireVariable dX8_setCoefficient_7 kw_950 kw_952 kw_25 (hp_o (h0.1)) rfl ⟨by decide, by decide⟩ ⟨by decide, by decide⟩ (Nat.le_of_ble_eq_true rfl) (w_X8_requireVariable (h0) e_c3 (fun z => ?_) (fun z => ?_))
    · rcases H with ⟨-, H⟩ | ⟨z2, H⟩
      rotate_left
      · exact absurd z z2
      refine gw_iload_n dX8_setCoefficient_10 rfl rfl ?_
      obtain ⟨e9, v6, c5, e_c5, H⟩ := cx_i H
      refine gw_SX1 okX8_requireFactor dX8_setCoefficient_11 kw_955 kw_956 ⟨by decide, by decide⟩ ⟨by decide, by decide⟩ (Nat.le_of_ble_eq_true rfl) (w_X8_requireFactor  e_c5 (fun z => ?_) (fun z => ?_))
      · rcases H with ⟨-, H⟩ | ⟨z2, H⟩
        rotate_left
        · exact absurd z z2
        refine gw_aload_n dX8_setCoefficient_14 rfl rfl ?_
        obtain ⟨v8, c7, e_c7, H⟩ := cl_i H
        refine gw_V0 okX8_saveState dX8_setCoefficient_15 kw_366 kw_368 kw_0 (hp_o (h0.1)) rfl ⟨by decide, by decide⟩ ⟨by decide, by decide⟩ (Nat.le_of_ble_eq_true rfl) (w_X8_saveState (h0) e_c7 ?_)
        refine gw_aload_n dX8_setCoefficient_18 rfl rfl ?_
        refine gs_getR cl8 0 dX8_setCoefficient_19 rfl kw_328 (by decide) (h0.1) rfl ?_
        refine gs_getRN cl4 0 dX8_setCoefficient_22 rfl kw_208 (by decide) (h0.2.1.1) rfl ?_
        refine gw_iload_n dX8_setCoefficient_25 rfl rfl ?_
        refine gw_iload_n dX8_setCoefficient_26 rfl rfl ?_
        obtain ⟨v9, e_v9, H⟩ := cv_i H
        refine gw_V2 okX2_coefficient dX8_setCoefficient_27 kw_773 kw_411 kw_412 (hp_o (h0.2.1.2.1.1)) rfl ⟨by decide, by decide⟩ ⟨by decide, by decide⟩ (Nat.le_of_ble_eq_true rfl) (w_X2_coefficient (h0.2.1.2.1) e_v9 ?_)
        refine gw_istore dX8_setCoefficient_30 rfl (by decide) ?_
        refine gw_aload_n dX8_setCoefficient_32 rfl rfl ?_
        refine gs_getR cl8 0 dX8_setCoefficient_33 rfl kw_328 (by decide) (h0.1) rfl ?_
        refine gs_getRN cl4 0 dX8_setCoefficient_36 rfl kw_208 (by decide) (h0.2.1.1) rfl ?_
        refine gw_iload_n dX8_setCoefficient_39 rfl rfl ?_
        refine gw_iload_n dX8_setCoefficient_40 rfl rfl ?_
        refine gw_iload_n dX8_setCoefficient_41 rfl rfl ?_
        obtain ⟨v11, c10, e_c10, H⟩ := cl_i H
        refine gw_V3 okX2_putCoefficient dX8_setCoefficient_42 kw_999 kw_552 kw_553 (hp_o (h0.2.1.2.1.1)) rfl ⟨by decide, by decide⟩ ⟨by decide, by decide⟩ (Nat.le_of_ble_eq_true rfl) (w_X2_putCoefficient (h0.2.1.2.1) e_c10 ?_)
        refine gw_aload_n dX8_setCoefficient_45 rfl rfl ?_
        refine gs_getR cl8 0 dX8_setCoefficient_46 rfl kw_328 (by decide) (h0.1) rfl ?_
        obtain ⟨v13, c12, e_c12, H⟩ := cl_i H
        refine gw_V0 okX4_start dX8_setCoefficient_49 kw_394 kw_395 kw_396 (hp_o (h0.2.1.1)) rfl ⟨by decide, by decide⟩ ⟨by decide, by decide⟩ (Nat.le_of_ble_eq_true rfl) (w_X4_start (h0.2.1) e_c12 ?_)
        refine gw_iload dX8_setCoefficient_52 rfl rfl ?_
        cases H
        exact gw_iretX dX8_setCoefficient_54 rfl (by decide) (by decide) (hK rfl)
      · exact gw_out rfl (by decide) (by decide) (by rcases H with ⟨z2, H⟩ | ⟨z2, rfl⟩; (· exact absurd z2 z); exact hKX z)
    · exact gw_out rfl (by decide) (by decide) (by rcases H with ⟨z2, H⟩ | ⟨z2, rfl⟩; (· exact absurd z2 z); exact hKX z)
  · exact gw_out rfl (by decide) (by decide) (by rcases H with ⟨z2, H⟩ | ⟨z2, rfl⟩; (· exact absurd z2 z); exact hKX z)
set_option maxRecDepth 100000 in
set_option maxHeartbeats 4000000 in
theorem w_X8_setBound {Φ : gwC} {hb : gwHp} {M : Nat} {sh : Nat → Option gSh} {th : Nat} {p1 : Int} {p2 : Int} {c : W0} {r : Int × Int × W0} {K : Option Value → gwHp → Prop} {KX : String → gwHp → Prop} (h0 : sD sh th) (H : f_X8_setBound th p1 p2 c = some r) (hK : r.1 = 0 → K (some (vI r.2.1)) (hp Φ hb M sh r.2.2)) (hKX : ¬ r.1 = 0 → KX (xnm r.1) (hp Φ hb M sh r.2.2)) : gw_ConX Φ mX8_setBound [.ref (M + th), vI p1, vI p2] (hp Φ hb M sh c) K KX := by
  unfold f_X8_setBound at H
  refine gw_startX okX8_setBound (Nat.le_of_ble_eq_true rfl) ?_
  refine gw_aload_n dX8_setBound_0 rfl rfl ?_
  refine gw_iload_n dX8_setBound_1 rfl rfl ?_
  obtain ⟨e9, v2, c1, e_c1, H⟩ := cx_i H
  refine gw_VX1 okX8_requireConstraint dX8_setBound_2 kw_781 kw_783 kw_19 (hp_o (h0.1)) rfl ⟨by decide, by decide⟩ ⟨by decide, by decide⟩ (Nat.le_of_ble_eq_true rfl) (w_X8_requireConstraint (h0) e_c1 (fun z => ?_) (fun z => ?_))
  · rcases H with ⟨-, H⟩ | ⟨z2, H⟩
    rotate_left
    · exact absurd z z2
    refine gw_iload_n dX8_setBound_5 rfl rfl ?_
    obtain ⟨e9, v4, c3, e_c3, H⟩ := cx_i H
    refine gw_SX1 okX8_requireBound dX8_setBound_6 kw_971 kw_972 ⟨by decide, by decide⟩ ⟨by decide, by decide⟩ (Nat.le_of_ble_eq_true rfl) (w_X8_requireBound  e_c3 (fun z => ?_) (fun z => ?_))
    · rcases H with ⟨-, H⟩ | ⟨z2, H⟩
      rotate_left
      · exact absurd z z2
      refine gw_aload_n dX8_setBound_9 rfl rfl ?_
      obtain ⟨v6, c5, e_c5, H⟩ := cl_i H
      refine gw_V0 okX8_saveState dX8_setBound_10 kw_366 kw_368 kw_0 (hp_o (h0.1)) rfl ⟨by decide, by decide⟩ ⟨by decide, by decide⟩ (Nat.le_of_ble_eq_true rfl) (w_X8_saveState (h0) e_c5 ?_)
      refine gw_aload_n dX8_setBound_13 rfl rfl ?_
      refine gs_getR cl8 0 dX8_setBound_14 rfl kw_328 (by decide) (h0.1) rfl ?_
      refine gs_getRN cl4 0 dX8_setBound_17 rfl kw_208 (by decide) (h0.2.1.1) rfl ?_
      refine gw_iload_n dX8_setBound_20 rfl rfl ?_
      obtain ⟨v7, e_v7, H⟩ := cv_i H
      refine gw_V1 okX2_bound dX8_setBound_21 kw_774 kw_419 kw_420 (hp_o (h0.2.1.2.1.1)) rfl ⟨by decide, by decide⟩ ⟨by decide, by decide⟩ (Nat.le_of_ble_eq_true rfl) (w_X2_bound (h0.2.1.2.1) e_v7 ?_)
      refine gw_istore_n dX8_setBound_24 rfl (by decide) ?_
      refine gw_aload_n dX8_setBound_25 rfl rfl ?_
      refine gs_getR cl8 0 dX8_setBound_26 rfl kw_328 (by decide) (h0.1) rfl ?_
      refine gs_getRN cl4 0 dX8_setBound_29 rfl kw_208 (by decide) (h0.2.1.1) rfl ?_
      refine gw_iload_n dX8_setBound_32 rfl rfl ?_
      refine gw_iload_n dX8_setBound_33 rfl rfl ?_
      obtain ⟨v9, c8, e_c8, H⟩ := cl_i H
      refine gw_V2 okX2_putBound dX8_setBound_34 kw_1007 kw_556 kw_557 (hp_o (h0.2.1.2.1.1)) rfl ⟨by decide, by decide⟩ ⟨by decide, by decide⟩ (Nat.le_of_ble_eq_true rfl) (w_X2_putBound (h0.2.1.2.1) e_c8 ?_)
      refine gw_aload_n dX8_setBound_37 rfl rfl ?_
      refine gs_getR cl8 0 dX8_setBound_38 rfl kw_328 (by decide) (h0.1) rfl ?_
      obtain ⟨v11, c10, e_c10, H⟩ := cl_i H
      refine gw_V0 okX4_start dX8_setBound_41 kw_394 kw_395 kw_396 (hp_o (h0.2.1.1)) rfl ⟨by decide, by decide⟩ ⟨by decide, by decide⟩ (Nat.le_of_ble_eq_true rfl) (w_X4_start (h0.2.1) e_c10 ?_)
      refine gw_iload_n dX8_setBound_44 rfl rfl ?_
      cases H
      exact gw_iretX dX8_setBound_45 rfl (by decide) (by decide) (hK rfl)
    · exact gw_out rfl (by decide) (by decide) (by rcases H with ⟨z2, H⟩ | ⟨z2, rfl⟩; (· exact absurd z2 z); exact hKX z)
  · exact gw_out rfl (by decide) (by decide) (by rcases H with ⟨z2, H⟩ | ⟨z2, rfl⟩; (· exact absurd z2 z); exact hKX z)
set_option maxRecDepth 100000 in
set_option maxHeartbeats 4000000 in
theorem w_X8_dropConstraint {Φ : gwC} {hb : gwHp} {M : Nat} {sh : Nat → Option gSh} {th : Nat} {p1 : Int} {c : W0} {r : Int × Int × W0} {K : Option Value → gwHp → Prop} {KX : String → gwHp → Prop} (h0 : sD sh th) (H : f_X8_dropConstraint th p1 c = some r) (hK : r.1 = 0 → K (some (vI r.2.1)) (hp Φ hb M sh r.2.2)) (hKX : ¬ r.1 = 0 → KX (xnm r.1) (hp Φ hb M sh r.2.2)) : gw_ConX Φ mX8_dropConstraint [.ref (M + th), vI p1] (hp Φ hb M sh c) K KX := by
  unfold f_X8_dropConstraint at H
  refine gw_startX okX8_dropConstraint (Nat.le_of_ble_eq_true rfl) ?_
  refine gw_aload_n dX8_dropConstraint_0 rfl rfl ?_
  refine gw_iload_n dX8_dropConstraint_1 rfl rfl ?_
  obtain ⟨e9, v2, c1, e_c1, H⟩ := cx_i H
  refine gw_VX1 okX8_requireConstraint dX8_dropConstraint_2 kw_781 kw_783 kw_19 (hp_o (h0.1)) rfl ⟨by decide, by decide⟩ ⟨by decide, by decide⟩ (Nat.le_of_ble_eq_true rfl) (w_X8_requireConstraint (h0) e_c1 (fun z => ?_) (fun z => ?_))
  · rcases H with ⟨-, H⟩ | ⟨z2, H⟩
    rotate_left
    · exact absurd z z2
    refine gw_aload_n dX8_dropConstraint_5 rfl rfl ?_
    obtain ⟨v4, c3, e_c3, H⟩ := cl_i H
    refine gw_V0 okX8_saveState dX8_dropConstraint_6 kw_366 kw_368 kw_0 (hp_o (h0.1)) rfl ⟨by decide, by decide⟩ ⟨by decide, by decide⟩ (Nat.le_of_ble_eq_true rfl) (w_X8_saveState (h0) e_c3 ?_)
    refine gw_aload_n dX8_dropConstraint_9 rfl rfl ?_
    refine gs_getR cl8 0 dX8_dropConstraint_10 rfl kw_328 (by decide) (h0.1) rfl ?_
    refine gs_getRN cl4 0 dX8_dropConstraint_13 rfl kw_208 (by decide) (h0.2.1.1) rfl ?_
    refine gw_iload_n dX8_dropConstraint_16 rfl rfl ?_
    obtain ⟨v6, c5, e_c5, H⟩ := cl_i H
    refine gw_V1 okX2_drop dX8_dropConstraint_17 kw_1015 kw_1016 kw_1017 (hp_o (h0.2.1.2.1.1)) rfl ⟨by decide, by decide⟩ ⟨by decide, by decide⟩ (Nat.le_of_ble_eq_true rfl) (w_X2_drop (h0.2.1.2.1) e_c5 ?_)
    refine gw_aload_n dX8_dropConstraint_20 rfl rfl ?_
    refine gs_getR cl8 0 dX8_dropConstraint_21 rfl kw_328 (by decide) (h0.1) rfl ?_
    obtain ⟨v8, c7, e_c7, H⟩ := cl_i H
    refine gw_V0 okX4_start dX8_dropConstraint_24 kw_394 kw_395 kw_396 (hp_o (h0.2.1.1)) rfl ⟨by decide, by decide⟩ ⟨by decide, by decide⟩ (Nat.le_of_ble_eq_true rfl) (w_X4_start (h0.2.1) e_c7 ?_)
    refine gw_aload_n dX8_dropConstraint_27 rfl rfl ?_
    refine gs_getR cl8 0 dX8_dropConstraint_28 rfl kw_328 (by decide) (h0.1) rfl ?_
    refine gs_getRN cl4 0 dX8_dropConstraint_31 rfl kw_208 (by decide) (h0.2.1.1) rfl ?_
    refine gs_getIN cl2 1 1 dX8_dropConstraint_34 rfl kw_167 (by decide) (h0.2.1.2.1.1) rfl rfl ?_
    cases H
    exact gw_iretX dX8_dropConstraint_37 rfl (by decide) (by decide) (hK rfl)
  · exact gw_out rfl (by decide) (by decide) (by rcases H with ⟨z2, H⟩ | ⟨z2, rfl⟩; (· exact absurd z2 z); exact hKX z)
set_option maxRecDepth 100000 in
set_option maxHeartbeats 4000000 in
theorem w_X8_begin {Φ : gwC} {hb : gwHp} {M : Nat} {sh : Nat → Option gSh} {th : Nat} {c : W0} {r : Int × W0} {K : Option Value → gwHp → Prop} (h0 : sD sh th) (H : f_X8_begin th c = some r) (hK : K (some (vI r.1)) (hp Φ hb M sh r.2)) : gw_Con Φ mX8_begin none [.ref (M + th)] (hp Φ hb M sh c) K := by
  unfold f_X8_begin at H
  refine gw_start okX8_begin (Nat.le_of_ble_eq_true rfl) ?_
  refine gw_aload_n dX8_begin_0 rfl rfl ?_
  obtain ⟨v2, c1, e_c1, H⟩ := cl_i H
  refine gw_V0 okX8_saveState dX8_begin_1 kw_366 kw_368 kw_0 (hp_o (h0.1)) rfl ⟨by decide, by decide⟩ ⟨by decide, by decide⟩ (Nat.le_of_ble_eq_true rfl) (w_X8_saveState (h0) e_c1 ?_)
  refine gw_aload_n dX8_begin_4 rfl rfl ?_
  refine gs_getR cl8 0 dX8_begin_5 rfl kw_328 (by decide) (h0.1) rfl ?_
  refine gs_getIN cl4 3 3 dX8_begin_8 rfl kw_216 (by decide) (h0.2.1.1) rfl rfl ?_
  refine gw_istore_n dX8_begin_11 rfl (by decide) ?_
  refine gw_aload_n dX8_begin_12 rfl rfl ?_
  refine gs_getR cl8 0 dX8_begin_13 rfl kw_328 (by decide) (h0.1) rfl ?_
  obtain ⟨v4, c3, e_c3, H⟩ := cl_i H
  refine gw_V0 okX4_start dX8_begin_16 kw_394 kw_395 kw_396 (hp_o (h0.2.1.1)) rfl ⟨by decide, by decide⟩ ⟨by decide, by decide⟩ (Nat.le_of_ble_eq_true rfl) (w_X4_start (h0.2.1) e_c3 ?_)
  refine gw_iload_n dX8_begin_19 rfl rfl ?_
  cases H
  exact gw_iret dX8_begin_20 rfl (by decide) (by decide) hK
set_option maxRecDepth 100000 in
set_option maxHeartbeats 4000000 in
theorem w_X8_requireRow {Φ : gwC} {hb : gwHp} {M : Nat} {sh : Nat → Option gSh} {th : Nat} {p1 : Int} {c : W0} {r : Int × Int × W0} {K : Option Value → gwHp → Prop} {KX : String → gwHp → Prop} (h0 : sD sh th) (H : f_X8_requireRow th p1 c = some r) (hK : r.1 = 0 → K none (hp Φ hb M sh r.2.2)) (hKX : ¬ r.1 = 0 → KX (xnm r.1) (hp Φ hb M sh r.2.2)) : gw_ConX Φ mX8_requireRow [.ref (M + th), vI p1] (hp Φ hb M sh c) K KX := by
  unfold f_X8_requireRow at H
  refine gw_startX okX8_requireRow (Nat.le_of_ble_eq_true rfl) ?_
  refine gw_iload_n dX8_requireRow_0 rfl rfl ?_
  obtain ⟨g, H⟩ := gd_i H
  obtain ⟨k1, e_k1, H⟩ := jn_i H
  have hJ : ∀ (u2 : Unit), k1 u2 = some r → G Φ mX8_requireRow (gw_MX Φ mX8_requireRow K KX) none 0 0 18 [] [] (hp Φ hb M sh c) := by
    intro u2 H
    subst e_k1
    cases H
    exact gw_throwW (text := "there is no such row") (by decide +kernel) gw_nms_ok kw_785 kw_116 thw_IO (by decide +kernel) dX8_requireRow_18 dX8_requireRow_21 dX8_requireRow_22 dX8_requireRow_25 dX8_requireRow_28 rfl (by decide) (by decide) (by decide) (by decide) (hKX (show ¬ (3 : Int) = 0 by decide))
  refine gw_if_ltZ (tgt := 18) dX8_requireRow_1 rfl (by decide) g (fun q => ?_) (fun q => ?_)
  · have H := bq_t q H
    exact gw_L (hJ _ H) (lvA_n)
  · have H := bq_f q H
    refine gw_iload_n dX8_requireRow_4 rfl rfl ?_
    refine gw_aload_n dX8_requireRow_5 rfl rfl ?_
    refine gs_getR cl8 0 dX8_requireRow_6 rfl kw_328 (by decide) (h0.1) rfl ?_
    refine gs_getRN cl4 1 dX8_requireRow_9 rfl kw_212 (by decide) (h0.2.1.1) rfl ?_
    refine gs_getIN cl6 0 0 dX8_requireRow_12 rfl kw_189 (by decide) (h0.2.1.2.2.1) rfl rfl ?_
    obtain ⟨g, H⟩ := gd_i H
    refine gw_icmp_ltZ (tgt := 29) dX8_requireRow_15 rfl (by decide) g.1 g.2 (fun q => ?_) (fun q => ?_)
    · have H := bq_t q H
      cases H
      exact gw_vretX dX8_requireRow_29 rfl (by decide) (by decide) (hK rfl)
    · have H := bq_f q H
      exact gw_L (hJ _ H) (lvA_n)
set_option maxRecDepth 100000 in
set_option maxHeartbeats 4000000 in
theorem w_X8_requireColumn {Φ : gwC} {hb : gwHp} {M : Nat} {sh : Nat → Option gSh} {th : Nat} {p1 : Int} {c : W0} {r : Int × Int × W0} {K : Option Value → gwHp → Prop} {KX : String → gwHp → Prop} (h0 : sD sh th) (H : f_X8_requireColumn th p1 c = some r) (hK : r.1 = 0 → K none (hp Φ hb M sh r.2.2)) (hKX : ¬ r.1 = 0 → KX (xnm r.1) (hp Φ hb M sh r.2.2)) : gw_ConX Φ mX8_requireColumn [.ref (M + th), vI p1] (hp Φ hb M sh c) K KX := by
  unfold f_X8_requireColumn at H
  refine gw_startX okX8_requireColumn (Nat.le_of_ble_eq_true rfl) ?_
  refine gw_iload_n dX8_requireColumn_0 rfl rfl ?_
  obtain ⟨g, H⟩ := gd_i H
  obtain ⟨k1, e_k1, H⟩ := jn_i H
  have hJ : ∀ (u2 : Unit), k1 u2 = some r → G Φ mX8_requireColumn (gw_MX Φ mX8_requireColumn K KX) none 0 0 18 [] [] (hp Φ hb M sh c) := by
    intro u2 H
    subst e_k1
    cases H
    exact gw_throwW (text := "there is no such column") (by decide +kernel) gw_nms_ok kw_785 kw_116 thw_IO (by decide +kernel) dX8_requireColumn_18 dX8_requireColumn_21 dX8_requireColumn_22 dX8_requireColumn_25 dX8_requireColumn_28 rfl (by decide) (by decide) (by decide) (by decide) (hKX (show ¬ (3 : Int) = 0 by decide))
  refine gw_if_ltZ (tgt := 18) dX8_requireColumn_1 rfl (by decide) g (fun q => ?_) (fun q => ?_)
  · have H := bq_t q H
    exact gw_L (hJ _ H) (lvA_n)
  · have H := bq_f q H
    refine gw_iload_n dX8_requireColumn_4 rfl rfl ?_
    refine gw_aload_n dX8_requireColumn_5 rfl rfl ?_
    refine gs_getR cl8 0 dX8_requireColumn_6 rfl kw_328 (by decide) (h0.1) rfl ?_
    refine gs_getRN cl4 1 dX8_requireColumn_9 rfl kw_212 (by decide) (h0.2.1.1) rfl ?_
    refine gs_getIN cl6 1 1 dX8_requireColumn_12 rfl kw_191 (by decide) (h0.2.1.2.2.1) rfl rfl ?_
    obtain ⟨g, H⟩ := gd_i H
    refine gw_icmp_ltZ (tgt := 29) dX8_requireColumn_15 rfl (by decide) g.1 g.2 (fun q => ?_) (fun q => ?_)
    · have H := bq_t q H
      cases H
      exact gw_vretX dX8_requireColumn_29 rfl (by decide) (by decide) (hK rfl)
    · have H := bq_f q H
      exact gw_L (hJ _ H) (lvA_n)
set_option maxRecDepth 100000 in
set_option maxHeartbeats 4000000 in
theorem w_X8_pivot {Φ : gwC} {hb : gwHp} {M : Nat} {sh : Nat → Option gSh} {th : Nat} {p1 : Int} {p2 : Int} {c : W0} {r : Int × Int × W0} {K : Option Value → gwHp → Prop} {KX : String → gwHp → Prop} (h0 : sD sh th) (H : f_X8_pivot th p1 p2 c = some r) (hK : r.1 = 0 → K (some (vI r.2.1)) (hp Φ hb M sh r.2.2)) (hKX : ¬ r.1 = 0 → KX (xnm r.1) (hp Φ hb M sh r.2.2)) : gw_ConX Φ mX8_pivot [.ref (M + th), vI p1, vI p2] (hp Φ hb M sh c) K KX := by
  unfold f_X8_pivot at H
  refine gw_startX okX8_pivot (Nat.le_of_ble_eq_true rfl) ?_
  refine gw_aload_n dX8_pivot_0 rfl rfl ?_
  refine gw_iload_n dX8_pivot_1 rfl rfl ?_
  obtain ⟨e9, v2, c1, e_c1, H⟩ := cx_i H
  refine gw_VX1 okX8_requireRow dX8_pivot_2 kw_1026 kw_1028 kw_26 (hp_o (h0.1)) rfl ⟨by decide, by decide⟩ ⟨by decide, by decide⟩ (Nat.le_of_ble_eq_true rfl) (w_X8_requireRow (h0) e_c1 (fun z => ?_) (fun z => ?_))
  · rcases H with ⟨-, H⟩ | ⟨z2, H⟩
    rotate_left
    · exact absurd z z2
    refine gw_aload_n dX8_pivot_5 rfl rfl ?_
    refine gw_iload_n dX8_pivot_6 rfl rfl ?_
    obtain ⟨e9, v4, c3, e_c3, H⟩ := cx_i H
    refine gw_VX1 okX8_requireColumn dX8_pivot_7 kw_1031 kw_1033 kw_27 (hp_o (h0.1)) rfl ⟨by decide, by decide⟩ ⟨by decide, by decide⟩ (Nat.le_of_ble_eq_true rfl) (w_X8_requireColumn (h0) e_c3 (fun z => ?_) (fun z => ?_))
    · rcases H with ⟨-, H⟩ | ⟨z2, H⟩
      rotate_left
      · exact absurd z z2
      refine gw_aload_n dX8_pivot_10 rfl rfl ?_
      refine gs_getR cl8 0 dX8_pivot_11 rfl kw_328 (by decide) (h0.1) rfl ?_
      refine gs_getRN cl4 1 dX8_pivot_14 rfl kw_212 (by decide) (h0.2.1.1) rfl ?_
      refine gw_iload_n dX8_pivot_17 rfl rfl ?_
      refine gw_iload_n dX8_pivot_18 rfl rfl ?_
      obtain ⟨v5, e_v5, H⟩ := cv_i H
      refine gw_V2 okX6_obstacle dX8_pivot_19 kw_1036 kw_1037 kw_1038 (hp_o (h0.2.1.2.2.1)) rfl ⟨by decide, by decide⟩ ⟨by decide, by decide⟩ (Nat.le_of_ble_eq_true rfl) (w_X6_obstacle (h0.2.1.2.2) e_v5 ?_)
      obtain ⟨g, H⟩ := gd_i H
      refine gw_if_eqZ (tgt := 35) dX8_pivot_22 rfl (by decide) g (fun q => ?_) (fun q => ?_)
      · have H := bq_t q H
        refine gw_aload_n dX8_pivot_35 rfl rfl ?_
        obtain ⟨v7, c6, e_c6, H⟩ := cl_i H
        refine gw_V0 okX8_saveState dX8_pivot_36 kw_366 kw_368 kw_0 (hp_o (h0.1)) rfl ⟨by decide, by decide⟩ ⟨by decide, by decide⟩ (Nat.le_of_ble_eq_true rfl) (w_X8_saveState (h0) e_c6 ?_)
        refine gw_aload_n dX8_pivot_39 rfl rfl ?_
        refine gs_getR cl8 0 dX8_pivot_40 rfl kw_328 (by decide) (h0.1) rfl ?_
        refine gs_getRN cl4 1 dX8_pivot_43 rfl kw_212 (by decide) (h0.2.1.1) rfl ?_
        refine gw_iload_n dX8_pivot_46 rfl rfl ?_
        obtain ⟨v8, e_v8, H⟩ := cv_i H
        refine gw_V1 okX6_namedBy dX8_pivot_47 kw_894 kw_769 kw_770 (hp_o (h0.2.1.2.2.1)) rfl ⟨by decide, by decide⟩ ⟨by decide, by decide⟩ (Nat.le_of_ble_eq_true rfl) (w_X6_namedBy (h0.2.1.2.2) e_v8 ?_)
        refine gw_istore_n dX8_pivot_50 rfl (by decide) ?_
        refine gw_aload_n dX8_pivot_51 rfl rfl ?_
        refine gs_getR cl8 0 dX8_pivot_52 rfl kw_328 (by decide) (h0.1) rfl ?_
        refine gw_iload_n dX8_pivot_55 rfl rfl ?_
        refine gw_iload_n dX8_pivot_56 rfl rfl ?_
        obtain ⟨v10, c9, e_c9, H⟩ := cl_i H
        refine gw_V2 okX4_turn dX8_pivot_57 kw_1041 kw_477 kw_478 (hp_o (h0.2.1.1)) rfl ⟨by decide, by decide⟩ ⟨by decide, by decide⟩ (Nat.le_of_ble_eq_true rfl) (w_X4_turn (h0.2.1) e_c9 ?_)
        refine gw_iload_n dX8_pivot_60 rfl rfl ?_
        cases H
        exact gw_iretX dX8_pivot_61 rfl (by decide) (by decide) (hK rfl)
      · have H := bq_f q H
        cases H
        exact gw_throw (text := "this pivot is not possible") (by decide +kernel) gw_nms_ok kw_975 kw_117 thw_IS (by decide +kernel) dX8_pivot_25 dX8_pivot_28 dX8_pivot_29 dX8_pivot_31 dX8_pivot_34 rfl (by decide) (by decide) (by decide) (by decide) (hKX (show ¬ (2 : Int) = 0 by decide))
    · exact gw_out rfl (by decide) (by decide) (by rcases H with ⟨z2, H⟩ | ⟨z2, rfl⟩; (· exact absurd z2 z); exact hKX z)
  · exact gw_out rfl (by decide) (by decide) (by rcases H with ⟨z2, H⟩ | ⟨z2, rfl⟩; (· exact absurd z2 z); exact hKX z)
set_option maxRecDepth 100000 in
set_option maxHeartbeats 4000000 in
theorem w_X8_requireOpen {Φ : gwC} {hb : gwHp} {M : Nat} {sh : Nat → Option gSh} {th : Nat} {c : W0} {r : Int × Int × W0} {K : Option Value → gwHp → Prop} {KX : String → gwHp → Prop} (h0 : sD sh th) (H : f_X8_requireOpen th c = some r) (hK : r.1 = 0 → K none (hp Φ hb M sh r.2.2)) (hKX : ¬ r.1 = 0 → KX (xnm r.1) (hp Φ hb M sh r.2.2)) : gw_ConX Φ mX8_requireOpen [.ref (M + th)] (hp Φ hb M sh c) K KX := by
  unfold f_X8_requireOpen at H
  refine gw_startX okX8_requireOpen (Nat.le_of_ble_eq_true rfl) ?_
  refine gw_aload_n dX8_requireOpen_0 rfl rfl ?_
  refine gs_getR cl8 0 dX8_requireOpen_1 rfl kw_328 (by decide) (h0.1) rfl ?_
  refine gs_getRN cl4 1 dX8_requireOpen_4 rfl kw_212 (by decide) (h0.2.1.1) rfl ?_
  obtain ⟨v1, e_v1, H⟩ := cv_i H
  refine gw_V0 okX6_isOpen dX8_requireOpen_7 kw_1053 kw_439 kw_440 (hp_o (h0.2.1.2.2.1)) rfl ⟨by decide, by decide⟩ ⟨by decide, by decide⟩ (Nat.le_of_ble_eq_true rfl) (w_X6_isOpen (h0.2.1.2.2) e_v1 ?_)
  obtain ⟨g, H⟩ := gd_i H
  refine gw_if_neZ (tgt := 24) dX8_requireOpen_10 rfl (by decide) g (fun q => ?_) (fun q => ?_)
  · have H := bq_f q H
    cases H
    exact gw_vretX dX8_requireOpen_24 rfl (by decide) (by decide) (hK rfl)
  · have H := bq_t q H
    cases H
    exact gw_throwW (text := "the basis is optimal or has a ray") (by decide +kernel) gw_nms_ok kw_975 kw_117 thw_IS (by decide +kernel) dX8_requireOpen_13 dX8_requireOpen_16 dX8_requireOpen_17 dX8_requireOpen_20 dX8_requireOpen_23 rfl (by decide) (by decide) (by decide) (by decide) (hKX (show ¬ (2 : Int) = 0 by decide))
set_option maxRecDepth 100000 in
set_option maxHeartbeats 4000000 in
theorem w_X8_step {Φ : gwC} {hb : gwHp} {M : Nat} {sh : Nat → Option gSh} {th : Nat} {c : W0} {r : Int × Int × W0} {K : Option Value → gwHp → Prop} {KX : String → gwHp → Prop} (h0 : sD sh th) (H : f_X8_step th c = some r) (hK : r.1 = 0 → K (some (vI r.2.1)) (hp Φ hb M sh r.2.2)) (hKX : ¬ r.1 = 0 → KX (xnm r.1) (hp Φ hb M sh r.2.2)) : gw_ConX Φ mX8_step [.ref (M + th)] (hp Φ hb M sh c) K KX := by
  unfold f_X8_step at H
  refine gw_startX okX8_step (Nat.le_of_ble_eq_true rfl) ?_
  refine gw_aload_n dX8_step_0 rfl rfl ?_
  obtain ⟨e9, v2, c1, e_c1, H⟩ := cx_i H
  refine gw_VX0 okX8_requireOpen dX8_step_1 kw_1049 kw_1051 kw_28 (hp_o (h0.1)) rfl ⟨by decide, by decide⟩ ⟨by decide, by decide⟩ (Nat.le_of_ble_eq_true rfl) (w_X8_requireOpen (h0) e_c1 (fun z => ?_) (fun z => ?_))
  · rcases H with ⟨-, H⟩ | ⟨z2, H⟩
    rotate_left
    · exact absurd z z2
    refine gw_aload_n dX8_step_4 rfl rfl ?_
    obtain ⟨v4, c3, e_c3, H⟩ := cl_i H
    refine gw_V0 okX8_saveState dX8_step_5 kw_366 kw_368 kw_0 (hp_o (h0.1)) rfl ⟨by decide, by decide⟩ ⟨by decide, by decide⟩ (Nat.le_of_ble_eq_true rfl) (w_X8_saveState (h0) e_c3 ?_)
    refine gw_aload_n dX8_step_8 rfl rfl ?_
    refine gs_getR cl8 0 dX8_step_9 rfl kw_328 (by decide) (h0.1) rfl ?_
    obtain ⟨v5, e_v5, H⟩ := cv_i H
    refine gw_V0 okX4_chosenColumn dX8_step_12 kw_900 kw_901 kw_902 (hp_o (h0.2.1.1)) rfl ⟨by decide, by decide⟩ ⟨by decide, by decide⟩ (Nat.le_of_ble_eq_true rfl) (w_X4_chosenColumn (h0.2.1) e_v5 ?_)
    refine gw_istore_n dX8_step_15 rfl (by decide) ?_
    refine gw_aload_n dX8_step_16 rfl rfl ?_
    refine gs_getR cl8 0 dX8_step_17 rfl kw_328 (by decide) (h0.1) rfl ?_
    refine gw_aload_n dX8_step_20 rfl rfl ?_
    refine gs_getR cl8 0 dX8_step_21 rfl kw_328 (by decide) (h0.1) rfl ?_
    refine gs_getRN cl4 1 dX8_step_24 rfl kw_212 (by decide) (h0.2.1.1) rfl ?_
    refine gw_iload_n dX8_step_27 rfl rfl ?_
    obtain ⟨v6, e_v6, H⟩ := cv_i H
    refine gw_V1 okX6_leastRow dX8_step_28 kw_904 kw_456 kw_457 (hp_o (h0.2.1.2.2.1)) rfl ⟨by decide, by decide⟩ ⟨by decide, by decide⟩ (Nat.le_of_ble_eq_true rfl) (w_X6_leastRow (h0.2.1.2.2) e_v6 ?_)
    refine gw_iload_n dX8_step_31 rfl rfl ?_
    obtain ⟨v8, c7, e_c7, H⟩ := cl_i H
    refine gw_V2 okX4_turn dX8_step_32 kw_1041 kw_477 kw_478 (hp_o (h0.2.1.1)) rfl ⟨by decide, by decide⟩ ⟨by decide, by decide⟩ (Nat.le_of_ble_eq_true rfl) (w_X4_turn (h0.2.1) e_c7 ?_)
    refine gw_iload_n dX8_step_35 rfl rfl ?_
    cases H
    exact gw_iretX dX8_step_36 rfl (by decide) (by decide) (hK rfl)
  · exact gw_out rfl (by decide) (by decide) (by rcases H with ⟨z2, H⟩ | ⟨z2, rfl⟩; (· exact absurd z2 z); exact hKX z)
set_option maxRecDepth 100000 in
set_option maxHeartbeats 4000000 in
theorem w_X8_solve {Φ : gwC} {hb : gwHp} {M : Nat} {sh : Nat → Option gSh} {th : Nat} {c : W0} {r : Int × W0} {K : Option Value → gwHp → Prop} (h0 : sD sh th) (H : f_X8_solve th c = some r) (hK : K (some (vI r.1)) (hp Φ hb M sh r.2)) : gw_Con Φ mX8_solve none [.ref (M + th)] (hp Φ hb M sh c) K := by
  unfold f_X8_solve at H
  refine gw_start okX8_solve (Nat.le_of_ble_eq_true rfl) ?_
  refine gw_aload_n dX8_solve_0 rfl rfl ?_
  obtain ⟨v2, c1, e_c1, H⟩ := cl_i H
  refine gw_V0 okX8_saveState dX8_solve_1 kw_366 kw_368 kw_0 (hp_o (h0.1)) rfl ⟨by decide, by decide⟩ ⟨by decide, by decide⟩ (Nat.le_of_ble_eq_true rfl) (w_X8_saveState (h0) e_c1 ?_)
  refine gw_aload_n dX8_solve_4 rfl rfl ?_
  refine gs_getR cl8 0 dX8_solve_5 rfl kw_328 (by decide) (h0.1) rfl ?_
  obtain ⟨v3, c4, e_c4, H⟩ := cl_i H
  refine gw_V0 okX4_run dX8_solve_8 kw_434 kw_435 kw_436 (hp_o (h0.2.1.1)) rfl ⟨by decide, by decide⟩ ⟨by decide, by decide⟩ (Nat.le_of_ble_eq_true rfl) (w_X4_run (h0.2.1) e_c4 ?_)
  cases H
  exact gw_iret dX8_solve_11 rfl (by decide) (by decide) hK
end FW
