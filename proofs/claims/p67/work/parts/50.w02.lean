section FW
set_option maxRecDepth 100000 in
set_option maxHeartbeats 4000000 in
theorem l_X6_openColumn_2 {Φ : gwC} {hb : gwHp} {M : Nat} {sh : Nat → Option gSh} {th : Nat} {c : W0} {κ : Option Int} {r : Int} {K : Option Value → gwHp → Prop} (h0 : sT sh th) (hK : K (some (vI r)) (hp Φ hb M sh c)) (hκ : κ  = some r → G Φ mX6_openColumn (gw_M Φ mX6_openColumn K) none 0 0 36 [] [] (hp Φ hb M sh c)) : ∀ (n : Nat) (l1 : Int), f_X6_openColumn_2 th c κ n l1 = some r → G Φ mX6_openColumn (gw_M Φ mX6_openColumn K) none 0 0 2 [(0, .ref (M + th)), (1, vI l1)] [] (hp Φ hb M sh c) := by
  intro n
  induction n with
  | zero => intro l1 H; cases H
  | succ n ih =>
    intro l1 H
    have H : b_X6_openColumn_2 th c κ (f_X6_openColumn_2 th c κ n) l1 = some r := H
    unfold b_X6_openColumn_2 at H
    refine gw_iload_n dX6_openColumn_2 rfl rfl ?_
    refine gw_aload_n dX6_openColumn_3 rfl rfl ?_
    refine gs_getI cl6 1 1 dX6_openColumn_4 rfl kw_102 (by decide) (h0.1) rfl rfl ?_
    obtain ⟨g, H⟩ := gd_i H
    refine gw_icmp_geZ (tgt := 36) dX6_openColumn_7 rfl (by decide) g.1 g.2 (fun q => ?_) (fun q => ?_)
    · have H := bq_t q H
      exact gw_L (hκ H) (lvA_n)
    · have H := bq_f q H
      refine gw_aload_n dX6_openColumn_10 rfl rfl ?_
      refine gw_iload_n dX6_openColumn_11 rfl rfl ?_
      obtain ⟨v1, e_v1, H⟩ := cv_i H
      refine gw_V1 okX6_reduced dX6_openColumn_12 kw_562 kw_563 kw_564 (hp_o (h0.1)) rfl ⟨by decide, by decide⟩ ⟨by decide, by decide⟩ (Nat.le_of_ble_eq_true rfl) (w_X6_reduced (h0) e_v1 ?_)
      refine gw_lconst0Z dX6_openColumn_15 rfl ?_
      obtain ⟨g, H⟩ := gd_i H
      refine gw_lc_leZ (tgt := 30) dX6_openColumn_16 rfl dX6_openColumn_17 rfl (by decide) g (by decide) (fun q => ?_) (fun q => ?_)
      · have H := bq_t q H
        refine gw_iincZ dX6_openColumn_30 rfl rfl (by decide) ?_
        refine gw_goto (tgt := 2) dX6_openColumn_33 (by decide) ?_
        exact gw_L (ih _ H) ((lvA_c rfl (lvA_c rfl lvA_n)))
      · have H := bq_f q H
        refine gw_aload_n dX6_openColumn_20 rfl rfl ?_
        refine gw_iload_n dX6_openColumn_21 rfl rfl ?_
        obtain ⟨v2, e_v2, H⟩ := cv_i H
        refine gw_V1 okX6_leastRow dX6_openColumn_22 kw_570 kw_571 kw_572 (hp_o (h0.1)) rfl ⟨by decide, by decide⟩ ⟨by decide, by decide⟩ (Nat.le_of_ble_eq_true rfl) (w_X6_leastRow (h0) e_v2 ?_)
        obtain ⟨g, H⟩ := gd_i H
        refine gw_if_geZ (tgt := 30) dX6_openColumn_25 rfl (by decide) g (fun q => ?_) (fun q => ?_)
        · have H := bq_t q H
          refine gw_iincZ dX6_openColumn_30 rfl rfl (by decide) ?_
          refine gw_goto (tgt := 2) dX6_openColumn_33 (by decide) ?_
          exact gw_L (ih _ H) ((lvA_c rfl (lvA_c rfl lvA_n)))
        · have H := bq_f q H
          refine gw_iload_n dX6_openColumn_28 rfl rfl ?_
          cases H
          exact gw_iret dX6_openColumn_29 rfl (by decide) (by decide) hK
set_option maxRecDepth 100000 in
set_option maxHeartbeats 4000000 in
theorem w_X6_openColumn {Φ : gwC} {hb : gwHp} {M : Nat} {sh : Nat → Option gSh} {th : Nat} {c : W0} {r : Int} {K : Option Value → gwHp → Prop} (h0 : sT sh th) (H : f_X6_openColumn th c = some r) (hK : K (some (vI r)) (hp Φ hb M sh c)) : gw_Con Φ mX6_openColumn none [.ref (M + th)] (hp Φ hb M sh c) K := by
  unfold f_X6_openColumn at H
  refine gw_start okX6_openColumn (Nat.le_of_ble_eq_true rfl) ?_
  refine gw_iconstZ dX6_openColumn_0 rfl ?_
  refine gw_istore_n dX6_openColumn_1 rfl (by decide) ?_
  refine gw_L (l_X6_openColumn_2 h0 hK (fun H => ?_) LF _ H) ((lvA_c rfl (lvA_c rfl lvA_n)))
  refine gw_iconstZ dX6_openColumn_36 rfl ?_
  cases H
  exact gw_iret dX6_openColumn_37 rfl (by decide) (by decide) hK
set_option maxRecDepth 100000 in
set_option maxHeartbeats 4000000 in
theorem w_X6_isOpen {Φ : gwC} {hb : gwHp} {M : Nat} {sh : Nat → Option gSh} {th : Nat} {c : W0} {r : Int} {K : Option Value → gwHp → Prop} (h0 : sT sh th) (H : f_X6_isOpen th c = some r) (hK : K (some (vI r)) (hp Φ hb M sh c)) : gw_Con Φ mX6_isOpen none [.ref (M + th)] (hp Φ hb M sh c) K := by
  unfold f_X6_isOpen at H
  refine gw_start okX6_isOpen (Nat.le_of_ble_eq_true rfl) ?_
  refine gw_aload_n dX6_isOpen_0 rfl rfl ?_
  obtain ⟨v1, e_v1, H⟩ := cv_i H
  refine gw_V0 okX6_isBest dX6_isOpen_1 kw_607 kw_608 kw_609 (hp_o (h0.1)) rfl ⟨by decide, by decide⟩ ⟨by decide, by decide⟩ (Nat.le_of_ble_eq_true rfl) (w_X6_isBest (h0) e_v1 ?_)
  obtain ⟨g, H⟩ := gd_i H
  refine gw_if_neZ (tgt := 18) dX6_isOpen_4 rfl (by decide) g (fun q => ?_) (fun q => ?_)
  · have H := bq_f q H
    refine gw_iconstZ dX6_isOpen_18 rfl ?_
    cases H
    exact gw_zret rfl dX6_isOpen_19 rfl (by decide) (by decide) hK
  · have H := bq_t q H
    refine gw_aload_n dX6_isOpen_7 rfl rfl ?_
    obtain ⟨v2, e_v2, H⟩ := cv_i H
    refine gw_V0 okX6_openColumn dX6_isOpen_8 kw_611 kw_612 kw_613 (hp_o (h0.1)) rfl ⟨by decide, by decide⟩ ⟨by decide, by decide⟩ (Nat.le_of_ble_eq_true rfl) (w_X6_openColumn (h0) e_v2 ?_)
    obtain ⟨g, H⟩ := gd_i H
    refine gw_if_geZ (tgt := 18) dX6_isOpen_11 rfl (by decide) g (fun q => ?_) (fun q => ?_)
    · have H := bq_t q H
      refine gw_iconstZ dX6_isOpen_18 rfl ?_
      cases H
      exact gw_zret rfl dX6_isOpen_19 rfl (by decide) (by decide) hK
    · have H := bq_f q H
      refine gw_iconstZ dX6_isOpen_14 rfl ?_
      refine gw_goto (tgt := 19) dX6_isOpen_15 (by decide) ?_
      cases H
      exact gw_zret rfl dX6_isOpen_19 rfl (by decide) (by decide) hK
set_option maxRecDepth 100000 in
set_option maxHeartbeats 4000000 in
theorem l_X4_run_2 {Φ : gwC} {hb : gwHp} {M : Nat} {sh : Nat → Option gSh} {th : Nat} {κ : Int → W0 → Option (Int × W0)} {r : Int × W0} {K : Option Value → gwHp → Prop} (h0 : sS sh th) (hK : K (some (vI r.1)) (hp Φ hb M sh r.2)) (hκ : ∀ (x1 : Int) (c : W0), κ x1 c = some r → G Φ mX4_run (gw_M Φ mX4_run K) none 0 0 49 [(1, vI x1)] [] (hp Φ hb M sh c)) : ∀ (n : Nat) (l1 : Int) (c : W0), f_X4_run_2 th κ n l1 c = some r → G Φ mX4_run (gw_M Φ mX4_run K) none 0 0 2 [(0, .ref (M + th)), (1, vI l1)] [] (hp Φ hb M sh c) := by
  intro n
  induction n with
  | zero => intro l1 c H; cases H
  | succ n ih =>
    intro l1 c H
    have H : b_X4_run_2 th κ (f_X4_run_2 th κ n) l1 c = some r := H
    unfold b_X4_run_2 at H
    refine gw_iload_n dX4_run_2 rfl rfl ?_
    refine gw_bipushZ dX4_run_3 rfl (by decide) ?_
    obtain ⟨g, H⟩ := gd_i H
    refine gw_icmp_geZ (tgt := 49) dX4_run_5 rfl (by decide) g (by decide) (fun q => ?_) (fun q => ?_)
    · have H := bq_t q H
      exact gw_L (hκ _ _ H) ((lvA_c rfl lvA_n))
    · have H := bq_f q H
      refine gw_aload_n dX4_run_8 rfl rfl ?_
      refine gs_getR cl4 1 dX4_run_9 rfl kw_122 (by decide) (h0.1) rfl ?_
      obtain ⟨v1, e_v1, H⟩ := cv_i H
      refine gw_V0 okX6_isOpen dX4_run_12 kw_637 kw_604 kw_605 (hp_o (h0.2.2.1)) rfl ⟨by decide, by decide⟩ ⟨by decide, by decide⟩ (Nat.le_of_ble_eq_true rfl) (w_X6_isOpen (h0.2.2) e_v1 ?_)
      obtain ⟨g, H⟩ := gd_i H
      refine gw_if_eqZ (tgt := 49) dX4_run_15 rfl (by decide) g (fun q => ?_) (fun q => ?_)
      · have H := bq_t q H
        exact gw_L (hκ _ _ H) ((lvA_c rfl lvA_n))
      · have H := bq_f q H
        refine gw_aload_n dX4_run_18 rfl rfl ?_
        refine gs_getR cl4 1 dX4_run_19 rfl kw_122 (by decide) (h0.1) rfl ?_
        refine gw_aload_n dX4_run_22 rfl rfl ?_
        refine gs_getI cl4 2 2 dX4_run_23 rfl kw_125 (by decide) (h0.1) rfl rfl ?_
        obtain ⟨v2, e_v2, H⟩ := cv_i H
        refine gw_V1 okX6_chosenColumn dX4_run_26 kw_620 kw_621 kw_622 (hp_o (h0.2.2.1)) rfl ⟨by decide, by decide⟩ ⟨by decide, by decide⟩ (Nat.le_of_ble_eq_true rfl) (w_X6_chosenColumn (h0.2.2) e_v2 ?_)
        refine gw_istore_n dX4_run_29 rfl (by decide) ?_
        refine gw_aload_n dX4_run_30 rfl rfl ?_
        refine gw_aload_n dX4_run_31 rfl rfl ?_
        refine gs_getR cl4 1 dX4_run_32 rfl kw_122 (by decide) (h0.1) rfl ?_
        refine gw_iload_n dX4_run_35 rfl rfl ?_
        obtain ⟨v3, e_v3, H⟩ := cv_i H
        refine gw_V1 okX6_leastRow dX4_run_36 kw_638 kw_571 kw_572 (hp_o (h0.2.2.1)) rfl ⟨by decide, by decide⟩ ⟨by decide, by decide⟩ (Nat.le_of_ble_eq_true rfl) (w_X6_leastRow (h0.2.2) e_v3 ?_)
        refine gw_iload_n dX4_run_39 rfl rfl ?_
        obtain ⟨v5, c4, e_c4, H⟩ := cl_i H
        refine gw_V2 okX4_turn dX4_run_40 kw_639 kw_581 kw_582 (hp_o (h0.1)) rfl ⟨by decide, by decide⟩ ⟨by decide, by decide⟩ (Nat.le_of_ble_eq_true rfl) (w_X4_turn (h0) e_c4 ?_)
        refine gw_iincZ dX4_run_43 rfl rfl (by decide) ?_
        refine gw_goto (tgt := 2) dX4_run_46 (by decide) ?_
        exact gw_L (ih _ _ H) ((lvA_c rfl (lvA_c rfl lvA_n)))
set_option maxRecDepth 100000 in
set_option maxHeartbeats 4000000 in
theorem w_X4_run {Φ : gwC} {hb : gwHp} {M : Nat} {sh : Nat → Option gSh} {th : Nat} {c : W0} {r : Int × W0} {K : Option Value → gwHp → Prop} (h0 : sS sh th) (H : f_X4_run th c = some r) (hK : K (some (vI r.1)) (hp Φ hb M sh r.2)) : gw_Con Φ mX4_run none [.ref (M + th)] (hp Φ hb M sh c) K := by
  unfold f_X4_run at H
  refine gw_start okX4_run (Nat.le_of_ble_eq_true rfl) ?_
  refine gw_iconstZ dX4_run_0 rfl ?_
  refine gw_istore_n dX4_run_1 rfl (by decide) ?_
  refine gw_L (l_X4_run_2 h0 hK (fun v1 c2 H => ?_) LF _ _ H) ((lvA_c rfl (lvA_c rfl lvA_n)))
  refine gw_iload_n dX4_run_49 rfl rfl ?_
  cases H
  exact gw_iret dX4_run_50 rfl (by decide) (by decide) hK
set_option maxRecDepth 100000 in
set_option maxHeartbeats 4000000 in
theorem w_X4_dual {Φ : gwC} {hb : gwHp} {M : Nat} {sh : Nat → Option gSh} {th : Nat} {p1 : Int} {c : W0} {r : Int} {K : Option Value → gwHp → Prop} (h0 : sS sh th) (H : f_X4_dual th p1 c = some r) (hK : K (some (vL r)) (hp Φ hb M sh c)) : gw_Con Φ mX4_dual none [.ref (M + th), vI p1] (hp Φ hb M sh c) K := by
  unfold f_X4_dual at H
  refine gw_start okX4_dual (Nat.le_of_ble_eq_true rfl) ?_
  refine gw_aload_n dX4_dual_0 rfl rfl ?_
  refine gs_getR cl4 1 dX4_dual_1 rfl kw_122 (by decide) (h0.1) rfl ?_
  refine gw_aload_n dX4_dual_4 rfl rfl ?_
  refine gs_getR cl4 0 dX4_dual_5 rfl kw_119 (by decide) (h0.1) rfl ?_
  refine gs_getIN cl2 0 0 dX4_dual_8 rfl kw_77 (by decide) (h0.2.1.1) rfl rfl ?_
  refine gw_iload_n dX4_dual_11 rfl rfl ?_
  refine gw_iaddZ dX4_dual_12 rfl ?_
  obtain ⟨v1, e_v1, H⟩ := cv_i H
  refine gw_V1 okX6_reduced dX4_dual_13 kw_766 kw_563 kw_564 (hp_o (h0.2.2.1)) rfl ⟨by decide, by decide⟩ ⟨by decide, by decide⟩ (Nat.le_of_ble_eq_true rfl) (w_X6_reduced (h0.2.2) e_v1 ?_)
  refine gw_lnegZ dX4_dual_16 rfl ?_
  cases H
  exact gw_lret dX4_dual_17 rfl (by decide) (by decide) hK
set_option maxRecDepth 100000 in
set_option maxHeartbeats 4000000 in
theorem l_X4_dualWorth_4 {Φ : gwC} {hb : gwHp} {M : Nat} {sh : Nat → Option gSh} {th : Nat} {c : W0} {κ : Int → Option Int} {r : Int} {K : Option Value → gwHp → Prop} (h0 : sS sh th) (hK : K (some (vL r)) (hp Φ hb M sh c)) (hκ : ∀ (x1 : Int), κ x1 = some r → G Φ mX4_dualWorth (gw_M Φ mX4_dualWorth K) none 0 0 39 [(1, vL x1)] [] (hp Φ hb M sh c)) : ∀ (n : Nat) (l1 : Int) (l3 : Int), f_X4_dualWorth_4 th c κ n l1 l3 = some r → G Φ mX4_dualWorth (gw_M Φ mX4_dualWorth K) none 0 0 4 [(0, .ref (M + th)), (1, vL l1), (3, vI l3)] [] (hp Φ hb M sh c) := by
  intro n
  induction n with
  | zero => intro l1 l3 H; cases H
  | succ n ih =>
    intro l1 l3 H
    have H : b_X4_dualWorth_4 th c κ (f_X4_dualWorth_4 th c κ n) l1 l3 = some r := H
    unfold b_X4_dualWorth_4 at H
    refine gw_iload_n dX4_dualWorth_4 rfl rfl ?_
    refine gw_aload_n dX4_dualWorth_5 rfl rfl ?_
    refine gs_getR cl4 0 dX4_dualWorth_6 rfl kw_119 (by decide) (h0.1) rfl ?_
    refine gs_getIN cl2 1 1 dX4_dualWorth_9 rfl kw_82 (by decide) (h0.2.1.1) rfl rfl ?_
    obtain ⟨g, H⟩ := gd_i H
    refine gw_icmp_geZ (tgt := 39) dX4_dualWorth_12 rfl (by decide) g.1 g.2 (fun q => ?_) (fun q => ?_)
    · have H := bq_t q H
      exact gw_L (hκ _ H) ((lvA_c rfl lvA_n))
    · have H := bq_f q H
      refine gw_lload_n dX4_dualWorth_15 rfl rfl ?_
      refine gw_aload_n dX4_dualWorth_16 rfl rfl ?_
      refine gw_iload_n dX4_dualWorth_17 rfl rfl ?_
      obtain ⟨v1, e_v1, H⟩ := cv_i H
      refine gw_V1 okX4_dual dX4_dualWorth_18 kw_827 kw_763 kw_764 (hp_o (h0.1)) rfl ⟨by decide, by decide⟩ ⟨by decide, by decide⟩ (Nat.le_of_ble_eq_true rfl) (w_X4_dual (h0) e_v1 ?_)
      refine gw_aload_n dX4_dualWorth_21 rfl rfl ?_
      refine gs_getR cl4 0 dX4_dualWorth_22 rfl kw_119 (by decide) (h0.1) rfl ?_
      refine gw_iload_n dX4_dualWorth_25 rfl rfl ?_
      obtain ⟨v2, e_v2, H⟩ := cv_i H
      refine gw_V1 okX2_bound dX4_dualWorth_26 kw_828 kw_445 kw_446 (hp_o (h0.2.1.1)) rfl ⟨by decide, by decide⟩ ⟨by decide, by decide⟩ (Nat.le_of_ble_eq_true rfl) (w_X2_bound (h0.2.1) e_v2 ?_)
      obtain ⟨g, H⟩ := gd_i H
      refine gw_i2lZ dX4_dualWorth_29 rfl g ?_
      refine gw_lmulZ dX4_dualWorth_30 rfl ?_
      refine gw_laddZ dX4_dualWorth_31 rfl ?_
      refine gw_lstore_n dX4_dualWorth_32 rfl (by decide) ?_
      refine gw_iincZ dX4_dualWorth_33 rfl rfl (by decide) ?_
      refine gw_goto (tgt := 4) dX4_dualWorth_36 (by decide) ?_
      exact gw_L (ih _ _ H) ((lvA_c rfl (lvA_c rfl (lvA_c rfl lvA_n))))
set_option maxRecDepth 100000 in
set_option maxHeartbeats 4000000 in
theorem w_X4_dualWorth {Φ : gwC} {hb : gwHp} {M : Nat} {sh : Nat → Option gSh} {th : Nat} {c : W0} {r : Int} {K : Option Value → gwHp → Prop} (h0 : sS sh th) (H : f_X4_dualWorth th c = some r) (hK : K (some (vL r)) (hp Φ hb M sh c)) : gw_Con Φ mX4_dualWorth none [.ref (M + th)] (hp Φ hb M sh c) K := by
  unfold f_X4_dualWorth at H
  refine gw_start okX4_dualWorth (Nat.le_of_ble_eq_true rfl) ?_
  refine gw_lconst0Z dX4_dualWorth_0 rfl ?_
  refine gw_lstore_n dX4_dualWorth_1 rfl (by decide) ?_
  refine gw_iconstZ dX4_dualWorth_2 rfl ?_
  refine gw_istore_n dX4_dualWorth_3 rfl (by decide) ?_
  refine gw_L (l_X4_dualWorth_4 h0 hK (fun v1 H => ?_) LF _ _ H) ((lvA_c rfl (lvA_c rfl (lvA_c rfl lvA_n))))
  refine gw_lload_n dX4_dualWorth_39 rfl rfl ?_
  cases H
  exact gw_lret dX4_dualWorth_40 rfl (by decide) (by decide) hK
set_option maxRecDepth 100000 in
set_option maxHeartbeats 4000000 in
theorem l_X6_room_7 {Φ : gwC} {hb : gwHp} {M : Nat} {sh : Nat → Option gSh} {th : Nat} {p1 : Int} {p2 : Int} {c : W0} {κ : Int → Option Int} {r : Int} {K : Option Value → gwHp → Prop} (h0 : sT sh th) (hK : K (some (vI r)) (hp Φ hb M sh c)) (hκ : ∀ (x3 : Int), κ x3 = some r → G Φ mX6_room (gw_M Φ mX6_room K) none 0 0 55 [(3, vL x3)] [] (hp Φ hb M sh c)) : ∀ (n : Nat) (l3 : Int) (l5 : Int), f_X6_room_7 th p1 p2 c κ n l3 l5 = some r → G Φ mX6_room (gw_M Φ mX6_room K) none 0 0 7 [(0, .ref (M + th)), (1, vI p1), (2, vI p2), (3, vL l3), (5, vI l5)] [] (hp Φ hb M sh c) := by
  intro n
  induction n with
  | zero => intro l3 l5 H; cases H
  | succ n ih =>
    intro l3 l5 H
    have H : b_X6_room_7 th p1 p2 c κ (f_X6_room_7 th p1 p2 c κ n) l3 l5 = some r := H
    unfold b_X6_room_7 at H
    refine gw_iload dX6_room_7 rfl rfl ?_
    refine gw_aload_n dX6_room_9 rfl rfl ?_
    refine gs_getI cl6 0 0 dX6_room_10 rfl kw_100 (by decide) (h0.1) rfl rfl ?_
    obtain ⟨g, H⟩ := gd_i H
    refine gw_icmp_geZ (tgt := 55) dX6_room_13 rfl (by decide) g.1 g.2 (fun q => ?_) (fun q => ?_)
    · have H := bq_t q H
      exact gw_L (hκ _ H) ((lvA_c rfl lvA_n))
    · have H := bq_f q H
      refine gw_iload_n dX6_room_16 rfl rfl ?_
      obtain ⟨g, H⟩ := gd_i H
      refine gw_i2lZ dX6_room_17 rfl g ?_
      refine gw_aload_n dX6_room_18 rfl rfl ?_
      refine gw_iload dX6_room_19 rfl rfl ?_
      refine gw_iload_n dX6_room_21 rfl rfl ?_
      obtain ⟨v1, e_v1, H⟩ := cv_i H
      refine gw_V2 okX6_entry dX6_room_22 kw_566 kw_567 kw_568 (hp_o (h0.1)) rfl ⟨by decide, by decide⟩ ⟨by decide, by decide⟩ (Nat.le_of_ble_eq_true rfl) (w_X6_entry (h0) e_v1 ?_)
      refine gw_lmulZ dX6_room_25 rfl ?_
      refine gw_lstore dX6_room_26 rfl (by decide) ?_
      refine gw_lload dX6_room_28 rfl rfl ?_
      refine gw_lconst0Z dX6_room_30 rfl ?_
      obtain ⟨g, H⟩ := gd_i H
      refine gw_lc_leZ (tgt := 49) dX6_room_31 rfl dX6_room_32 rfl (by decide) g (by decide) (fun q => ?_) (fun q => ?_)
      · have H := bq_t q H
        refine gw_iincZ dX6_room_49 rfl rfl (by decide) ?_
        refine gw_goto (tgt := 7) dX6_room_52 (by decide) ?_
        exact gw_L (ih _ _ H) ((lvA_c rfl (lvA_c rfl (lvA_c rfl (lvA_c rfl (lvA_c rfl lvA_n))))))
      · have H := bq_f q H
        refine gw_lload_n dX6_room_35 rfl rfl ?_
        refine gw_aload_n dX6_room_36 rfl rfl ?_
        refine gw_iload dX6_room_37 rfl rfl ?_
        obtain ⟨v2, e_v2, H⟩ := cv_i H
        refine gw_V1 okX6_side dX6_room_39 kw_574 kw_575 kw_576 (hp_o (h0.1)) rfl ⟨by decide, by decide⟩ ⟨by decide, by decide⟩ (Nat.le_of_ble_eq_true rfl) (w_X6_side (h0) e_v2 ?_)
        refine gw_lload dX6_room_42 rfl rfl ?_
        obtain ⟨g, H⟩ := gd_i H
        refine gw_ldivZ dX6_room_44 rfl g.1 g.2.1 g.2.2 ?_
        obtain ⟨g, H⟩ := gd_i H
        refine gw_mminlZ dX6_room_45 rfl kw_905 kw_906 kw_21 kw_907 (by decide) (Nat.le_of_ble_eq_true rfl) (by decide) (by decide) g.1 g.2 ?_
        refine gw_lstore_n dX6_room_48 rfl (by decide) ?_
        refine gw_iincZ dX6_room_49 rfl rfl (by decide) ?_
        refine gw_goto (tgt := 7) dX6_room_52 (by decide) ?_
        exact gw_L (ih _ _ H) ((lvA_c rfl (lvA_c rfl (lvA_c rfl (lvA_c rfl (lvA_c rfl lvA_n))))))
set_option maxRecDepth 100000 in
set_option maxHeartbeats 4000000 in
theorem w_X6_room {Φ : gwC} {hb : gwHp} {M : Nat} {sh : Nat → Option gSh} {th : Nat} {p1 : Int} {p2 : Int} {c : W0} {r : Int} {K : Option Value → gwHp → Prop} (h0 : sT sh th) (H : f_X6_room th p1 p2 c = some r) (hK : K (some (vI r)) (hp Φ hb M sh c)) : gw_Con Φ mX6_room none [.ref (M + th), vI p1, vI p2] (hp Φ hb M sh c) K := by
  unfold f_X6_room at H
  refine gw_start okX6_room (Nat.le_of_ble_eq_true rfl) ?_
  refine gw_ldc2Z (z := 99) dX6_room_0 rfl kw_904 (by decide) ?_
  refine gw_lstore_n dX6_room_3 rfl (by decide) ?_
  refine gw_iconstZ dX6_room_4 rfl ?_
  refine gw_istore dX6_room_5 rfl (by decide) ?_
  refine gw_L (l_X6_room_7 h0 hK (fun v1 H => ?_) LF _ _ H) ((lvA_c rfl (lvA_c rfl (lvA_c rfl (lvA_c rfl (lvA_c rfl lvA_n))))))
  refine gw_lload_n dX6_room_55 rfl rfl ?_
  refine gw_l2iZ dX6_room_56 rfl ?_
  cases H
  exact gw_iret dX6_room_57 rfl (by decide) (by decide) hK
set_option maxRecDepth 100000 in
set_option maxHeartbeats 4000000 in
theorem w_X4_roomToFall {Φ : gwC} {hb : gwHp} {M : Nat} {sh : Nat → Option gSh} {th : Nat} {p1 : Int} {c : W0} {r : Int} {K : Option Value → gwHp → Prop} (h0 : sS sh th) (H : f_X4_roomToFall th p1 c = some r) (hK : K (some (vI r)) (hp Φ hb M sh c)) : gw_Con Φ mX4_roomToFall none [.ref (M + th), vI p1] (hp Φ hb M sh c) K := by
  unfold f_X4_roomToFall at H
  refine gw_start okX4_roomToFall (Nat.le_of_ble_eq_true rfl) ?_
  refine gw_aload_n dX4_roomToFall_0 rfl rfl ?_
  refine gs_getR cl4 1 dX4_roomToFall_1 rfl kw_122 (by decide) (h0.1) rfl ?_
  refine gw_aload_n dX4_roomToFall_4 rfl rfl ?_
  refine gs_getR cl4 0 dX4_roomToFall_5 rfl kw_119 (by decide) (h0.1) rfl ?_
  refine gs_getIN cl2 0 0 dX4_roomToFall_8 rfl kw_77 (by decide) (h0.2.1.1) rfl rfl ?_
  refine gw_iload_n dX4_roomToFall_11 rfl rfl ?_
  refine gw_iaddZ dX4_roomToFall_12 rfl ?_
  refine gw_iconstZ dX4_roomToFall_13 rfl ?_
  obtain ⟨v1, e_v1, H⟩ := cv_i H
  refine gw_V2 okX6_room dX4_roomToFall_14 kw_900 kw_901 kw_902 (hp_o (h0.2.2.1)) rfl ⟨by decide, by decide⟩ ⟨by decide, by decide⟩ (Nat.le_of_ble_eq_true rfl) (w_X6_room (h0.2.2) e_v1 ?_)
  cases H
  exact gw_iret dX4_roomToFall_17 rfl (by decide) (by decide) hK
set_option maxRecDepth 100000 in
set_option maxHeartbeats 4000000 in
theorem w_X4_roomToRise {Φ : gwC} {hb : gwHp} {M : Nat} {sh : Nat → Option gSh} {th : Nat} {p1 : Int} {c : W0} {r : Int} {K : Option Value → gwHp → Prop} (h0 : sS sh th) (H : f_X4_roomToRise th p1 c = some r) (hK : K (some (vI r)) (hp Φ hb M sh c)) : gw_Con Φ mX4_roomToRise none [.ref (M + th), vI p1] (hp Φ hb M sh c) K := by
  unfold f_X4_roomToRise at H
  refine gw_start okX4_roomToRise (Nat.le_of_ble_eq_true rfl) ?_
  refine gw_aload_n dX4_roomToRise_0 rfl rfl ?_
  refine gs_getR cl4 1 dX4_roomToRise_1 rfl kw_122 (by decide) (h0.1) rfl ?_
  refine gw_aload_n dX4_roomToRise_4 rfl rfl ?_
  refine gs_getR cl4 0 dX4_roomToRise_5 rfl kw_119 (by decide) (h0.1) rfl ?_
  refine gs_getIN cl2 0 0 dX4_roomToRise_8 rfl kw_77 (by decide) (h0.2.1.1) rfl rfl ?_
  refine gw_iload_n dX4_roomToRise_11 rfl rfl ?_
  refine gw_iaddZ dX4_roomToRise_12 rfl ?_
  refine gw_iconstZ dX4_roomToRise_13 rfl ?_
  obtain ⟨v1, e_v1, H⟩ := cv_i H
  refine gw_V2 okX6_room dX4_roomToRise_14 kw_900 kw_901 kw_902 (hp_o (h0.2.2.1)) rfl ⟨by decide, by decide⟩ ⟨by decide, by decide⟩ (Nat.le_of_ble_eq_true rfl) (w_X6_room (h0.2.2) e_v1 ?_)
  cases H
  exact gw_iret dX4_roomToRise_17 rfl (by decide) (by decide) hK
set_option maxRecDepth 100000 in
set_option maxHeartbeats 4000000 in
theorem w_J6_bitCount_0f7a4 {Φ : gwC} {hb : gwHp} {M : Nat} {sh : Nat → Option gSh} {p1 : Int} {c : W0} {r : Int} {K : Option Value → gwHp → Prop}  (H : f_J6_bitCount_0f7a4 p1 = some r) (hK : K (some (vI r)) (hp Φ hb M sh c)) : gw_Con Φ mJ6_bitCount_0f7a4 none [vI p1] (hp Φ hb M sh c) K := by
  unfold f_J6_bitCount_0f7a4 at H
  refine gw_start okJ6_bitCount_0f7a4 (Nat.le_of_ble_eq_true rfl) ?_
  refine gw_iload_n dJ6_bitCount_0f7a4_0 rfl rfl ?_
  refine gw_iload_n dJ6_bitCount_0f7a4_1 rfl rfl ?_
  refine gw_iconstZ dJ6_bitCount_0f7a4_2 rfl ?_
  refine gw_iushrZ dJ6_bitCount_0f7a4_3 rfl ?_
  refine gw_ldcwZ (z := 1431655765) dJ6_bitCount_0f7a4_4 rfl kw_850 (by decide) ?_
  refine gw_iandZ dJ6_bitCount_0f7a4_7 rfl ?_
  refine gw_isubZ dJ6_bitCount_0f7a4_8 rfl ?_
  refine gw_istore_n dJ6_bitCount_0f7a4_9 rfl (by decide) ?_
  refine gw_iload_n dJ6_bitCount_0f7a4_10 rfl rfl ?_
  refine gw_ldcwZ (z := 858993459) dJ6_bitCount_0f7a4_11 rfl kw_851 (by decide) ?_
  refine gw_iandZ dJ6_bitCount_0f7a4_14 rfl ?_
  refine gw_iload_n dJ6_bitCount_0f7a4_15 rfl rfl ?_
  refine gw_iconstZ dJ6_bitCount_0f7a4_16 rfl ?_
  refine gw_iushrZ dJ6_bitCount_0f7a4_17 rfl ?_
  refine gw_ldcwZ (z := 858993459) dJ6_bitCount_0f7a4_18 rfl kw_851 (by decide) ?_
  refine gw_iandZ dJ6_bitCount_0f7a4_21 rfl ?_
  refine gw_iaddZ dJ6_bitCount_0f7a4_22 rfl ?_
  refine gw_istore_n dJ6_bitCount_0f7a4_23 rfl (by decide) ?_
  refine gw_iload_n dJ6_bitCount_0f7a4_24 rfl rfl ?_
  refine gw_iload_n dJ6_bitCount_0f7a4_25 rfl rfl ?_
  refine gw_iconstZ dJ6_bitCount_0f7a4_26 rfl ?_
  refine gw_iushrZ dJ6_bitCount_0f7a4_27 rfl ?_
  refine gw_iaddZ dJ6_bitCount_0f7a4_28 rfl ?_
  refine gw_ldcwZ (z := 252645135) dJ6_bitCount_0f7a4_29 rfl kw_852 (by decide) ?_
  refine gw_iandZ dJ6_bitCount_0f7a4_32 rfl ?_
  refine gw_istore_n dJ6_bitCount_0f7a4_33 rfl (by decide) ?_
  refine gw_iload_n dJ6_bitCount_0f7a4_34 rfl rfl ?_
  refine gw_iload_n dJ6_bitCount_0f7a4_35 rfl rfl ?_
  refine gw_bipushZ dJ6_bitCount_0f7a4_36 rfl (by decide) ?_
  refine gw_iushrZ dJ6_bitCount_0f7a4_38 rfl ?_
  refine gw_iaddZ dJ6_bitCount_0f7a4_39 rfl ?_
  refine gw_istore_n dJ6_bitCount_0f7a4_40 rfl (by decide) ?_
  refine gw_iload_n dJ6_bitCount_0f7a4_41 rfl rfl ?_
  refine gw_iload_n dJ6_bitCount_0f7a4_42 rfl rfl ?_
  refine gw_bipushZ dJ6_bitCount_0f7a4_43 rfl (by decide) ?_
  refine gw_iushrZ dJ6_bitCount_0f7a4_45 rfl ?_
  refine gw_iaddZ dJ6_bitCount_0f7a4_46 rfl ?_
  refine gw_istore_n dJ6_bitCount_0f7a4_47 rfl (by decide) ?_
  refine gw_iload_n dJ6_bitCount_0f7a4_48 rfl rfl ?_
  refine gw_bipushZ dJ6_bitCount_0f7a4_49 rfl (by decide) ?_
  refine gw_iandZ dJ6_bitCount_0f7a4_51 rfl ?_
  cases H
  exact gw_iret dJ6_bitCount_0f7a4_52 rfl (by decide) (by decide) hK
set_option maxRecDepth 100000 in
set_option maxHeartbeats 4000000 in
theorem l_X5_isFeasible_2 {Φ : gwC} {hb : gwHp} {M : Nat} {sh : Nat → Option gSh} {th : Nat} {c : W0} {κ : Option Int} {r : Int} {K : Option Value → gwHp → Prop} (h0 : sV sh th) (hK : K (some (vI r)) (hp Φ hb M sh c)) (hκ : κ  = some r → G Φ mX5_isFeasible (gw_M Φ mX5_isFeasible K) none 0 0 57 [] [] (hp Φ hb M sh c)) : ∀ (n : Nat) (l1 : Int), f_X5_isFeasible_2 th c κ n l1 = some r → G Φ mX5_isFeasible (gw_M Φ mX5_isFeasible K) none 0 0 2 [(0, .ref (M + th)), (1, vI l1)] [] (hp Φ hb M sh c) := by
  intro n
  induction n with
  | zero => intro l1 H; cases H
  | succ n ih =>
    intro l1 H
    have H : b_X5_isFeasible_2 th c κ (f_X5_isFeasible_2 th c κ n) l1 = some r := H
    unfold b_X5_isFeasible_2 at H
    refine gw_iload_n dX5_isFeasible_2 rfl rfl ?_
    refine gw_aload_n dX5_isFeasible_3 rfl rfl ?_
    refine gs_getR cl5 0 dX5_isFeasible_4 rfl kw_211 (by decide) (h0.1) rfl ?_
    refine gs_getIN cl0 0 0 dX5_isFeasible_7 rfl kw_189 (by decide) (h0.2.1.1) rfl rfl ?_
    obtain ⟨g, H⟩ := gd_i H
    refine gw_icmp_geZ (tgt := 57) dX5_isFeasible_10 rfl (by decide) g.1 g.2 (fun q => ?_) (fun q => ?_)
    · have H := bq_t q H
      exact gw_L (hκ H) (lvA_n)
    · have H := bq_f q H
      refine gw_aload_n dX5_isFeasible_13 rfl rfl ?_
      refine gs_getR cl5 0 dX5_isFeasible_14 rfl kw_211 (by decide) (h0.1) rfl ?_
      refine gw_iload_n dX5_isFeasible_17 rfl rfl ?_
      obtain ⟨v1, e_v1, H⟩ := cv_i H
      refine gw_V1 okX0_unknown dX5_isFeasible_18 kw_862 kw_802 kw_803 (hp_o (h0.2.1.1)) rfl ⟨by decide, by decide⟩ ⟨by decide, by decide⟩ (Nat.le_of_ble_eq_true rfl) (w_X0_unknown (h0.2.1) e_v1 ?_)
      refine gw_lstore_n dX5_isFeasible_21 rfl (by decide) ?_
      refine gw_aload_n dX5_isFeasible_22 rfl rfl ?_
      refine gs_getR cl5 0 dX5_isFeasible_23 rfl kw_211 (by decide) (h0.1) rfl ?_
      refine gs_getLN cl0 1 1 dX5_isFeasible_26 rfl kw_191 (by decide) (h0.2.1.1) rfl rfl ?_
      refine gw_lconst0Z dX5_isFeasible_29 rfl ?_
      obtain ⟨g, H⟩ := gd_i H
      refine gw_lc_geZ (tgt := 43) dX5_isFeasible_30 rfl dX5_isFeasible_31 rfl (by decide) g (by decide) (fun q => ?_) (fun q => ?_)
      · have H := bq_t q H
        refine gw_lload_n dX5_isFeasible_43 rfl rfl ?_
        refine gw_lconst0Z dX5_isFeasible_44 rfl ?_
        obtain ⟨g, H⟩ := gd_i H
        refine gw_lc_geZ (tgt := 51) dX5_isFeasible_45 rfl dX5_isFeasible_46 rfl (by decide) g (by decide) (fun q => ?_) (fun q => ?_)
        · have H := bq_t q H
          refine gw_iincZ dX5_isFeasible_51 rfl rfl (by decide) ?_
          refine gw_goto (tgt := 2) dX5_isFeasible_54 (by decide) ?_
          exact gw_L (ih _ H) ((lvA_c rfl (lvA_c rfl lvA_n)))
        · have H := bq_f q H
          refine gw_iconstZ dX5_isFeasible_49 rfl ?_
          cases H
          exact gw_zret rfl dX5_isFeasible_50 rfl (by decide) (by decide) hK
      · have H := bq_f q H
        refine gw_lload_n dX5_isFeasible_34 rfl rfl ?_
        refine gw_lconst0Z dX5_isFeasible_35 rfl ?_
        obtain ⟨g, H⟩ := gd_i H
        refine gw_lc_leZ (tgt := 51) dX5_isFeasible_36 rfl dX5_isFeasible_37 rfl (by decide) g (by decide) (fun q => ?_) (fun q => ?_)
        · have H := bq_t q H
          refine gw_iincZ dX5_isFeasible_51 rfl rfl (by decide) ?_
          refine gw_goto (tgt := 2) dX5_isFeasible_54 (by decide) ?_
          exact gw_L (ih _ H) ((lvA_c rfl (lvA_c rfl lvA_n)))
        · have H := bq_f q H
          refine gw_goto (tgt := 49) dX5_isFeasible_40 (by decide) ?_
          refine gw_iconstZ dX5_isFeasible_49 rfl ?_
          cases H
          exact gw_zret rfl dX5_isFeasible_50 rfl (by decide) (by decide) hK
set_option maxRecDepth 100000 in
set_option maxHeartbeats 4000000 in
theorem w_X5_isFeasible {Φ : gwC} {hb : gwHp} {M : Nat} {sh : Nat → Option gSh} {th : Nat} {c : W0} {r : Int} {K : Option Value → gwHp → Prop} (h0 : sV sh th) (H : f_X5_isFeasible th c = some r) (hK : K (some (vI r)) (hp Φ hb M sh c)) : gw_Con Φ mX5_isFeasible none [.ref (M + th)] (hp Φ hb M sh c) K := by
  unfold f_X5_isFeasible at H
  refine gw_start okX5_isFeasible (Nat.le_of_ble_eq_true rfl) ?_
  refine gw_iconstZ dX5_isFeasible_0 rfl ?_
  refine gw_istore_n dX5_isFeasible_1 rfl (by decide) ?_
  refine gw_L (l_X5_isFeasible_2 h0 hK (fun H => ?_) LF _ H) ((lvA_c rfl (lvA_c rfl lvA_n)))
  refine gw_iconstZ dX5_isFeasible_57 rfl ?_
  cases H
  exact gw_zret rfl dX5_isFeasible_58 rfl (by decide) (by decide) hK
set_option maxRecDepth 100000 in
set_option maxHeartbeats 4000000 in
theorem l_X5_sumOfProfits_14 {Φ : gwC} {hb : gwHp} {M : Nat} {sh : Nat → Option gSh} {th : Nat} {p1 : Nat} {p2 : Int} {c : W0} {κ : Int → Option Int} {r : Int} {K : Option Value → gwHp → Prop} (h0 : sV sh th) (h1 : sP sh p1) (hK : K (some (vL r)) (hp Φ hb M sh c)) (hκ : ∀ (x3 : Int), κ x3 = some r → G Φ mX5_sumOfProfits (gw_M Φ mX5_sumOfProfits K) none 0 0 67 [(3, vL x3)] [] (hp Φ hb M sh c)) : ∀ (n : Nat) (l3 : Int) (l5 : Int) (l6 : Int), f_X5_sumOfProfits_14 th p1 p2 c κ n l3 l5 l6 = some r → G Φ mX5_sumOfProfits (gw_M Φ mX5_sumOfProfits K) none 0 0 14 [(0, .ref (M + th)), (1, .ref (M + p1)), (2, vI p2), (3, vL l3), (5, vI l5), (6, vI l6)] [] (hp Φ hb M sh c) := by
  intro n
  induction n with
  | zero => intro l3 l5 l6 H; cases H
  | succ n ih =>
    intro l3 l5 l6 H
    have H : b_X5_sumOfProfits_14 th p1 p2 c κ (f_X5_sumOfProfits_14 th p1 p2 c κ n) l3 l5 l6 = some r := H
    unfold b_X5_sumOfProfits_14 at H
    refine gw_iload dX5_sumOfProfits_14 rfl rfl ?_
    refine gw_aload_n dX5_sumOfProfits_16 rfl rfl ?_
    refine gs_getIN cl2 0 0 dX5_sumOfProfits_17 rfl kw_74 (by decide) (h1.1) rfl rfl ?_
    refine gw_aload_n dX5_sumOfProfits_20 rfl rfl ?_
    refine gs_getIN cl2 1 1 dX5_sumOfProfits_21 rfl kw_79 (by decide) (h1.1) rfl rfl ?_
    refine gw_iaddZ dX5_sumOfProfits_24 rfl ?_
    obtain ⟨g, H⟩ := gd_i H
    refine gw_icmp_geZ (tgt := 67) dX5_sumOfProfits_25 rfl (by decide) g.1 g.2 (fun q => ?_) (fun q => ?_)
    · have H := bq_t q H
      exact gw_L (hκ _ H) ((lvA_c rfl lvA_n))
    · have H := bq_f q H
      refine gw_iload_n dX5_sumOfProfits_28 rfl rfl ?_
      refine gw_iload dX5_sumOfProfits_29 rfl rfl ?_
      refine gw_ishrZ dX5_sumOfProfits_31 rfl ?_
      refine gw_iconstZ dX5_sumOfProfits_32 rfl ?_
      refine gw_iandZ dX5_sumOfProfits_33 rfl ?_
      refine gw_iconstZ dX5_sumOfProfits_34 rfl ?_
      obtain ⟨g, H⟩ := gd_i H
      refine gw_icmp_neZ (tgt := 61) dX5_sumOfProfits_35 rfl (by decide) g (by decide) (fun q => ?_) (fun q => ?_)
      · have H := bq_f q H
        refine gw_iincZ dX5_sumOfProfits_61 rfl rfl (by decide) ?_
        refine gw_goto (tgt := 14) dX5_sumOfProfits_64 (by decide) ?_
        exact gw_L (ih _ _ _ H) ((lvA_c rfl (lvA_c rfl (lvA_c rfl (lvA_c rfl (lvA_c rfl (lvA_c rfl lvA_n)))))))
      · have H := bq_t q H
        refine gw_lload_n dX5_sumOfProfits_38 rfl rfl ?_
        refine gw_aload_n dX5_sumOfProfits_39 rfl rfl ?_
        refine gw_iload dX5_sumOfProfits_40 rfl rfl ?_
        obtain ⟨v1, e_v1, H⟩ := cv_i H
        refine gw_V1 okX2_columnProfit dX5_sumOfProfits_42 kw_867 kw_449 kw_450 (hp_o (h1.1)) rfl ⟨by decide, by decide⟩ ⟨by decide, by decide⟩ (Nat.le_of_ble_eq_true rfl) (w_X2_columnProfit (h1) e_v1 ?_)
        obtain ⟨g, H⟩ := gd_i H
        refine gw_i2lZ dX5_sumOfProfits_45 rfl g ?_
        refine gw_aload_n dX5_sumOfProfits_46 rfl rfl ?_
        refine gs_getR cl5 0 dX5_sumOfProfits_47 rfl kw_211 (by decide) (h0.1) rfl ?_
        refine gw_iload dX5_sumOfProfits_50 rfl rfl ?_
        obtain ⟨v2, e_v2, H⟩ := cv_i H
        refine gw_V1 okX0_unknown dX5_sumOfProfits_52 kw_862 kw_802 kw_803 (hp_o (h0.2.1.1)) rfl ⟨by decide, by decide⟩ ⟨by decide, by decide⟩ (Nat.le_of_ble_eq_true rfl) (w_X0_unknown (h0.2.1) e_v2 ?_)
        refine gw_lmulZ dX5_sumOfProfits_55 rfl ?_
        refine gw_laddZ dX5_sumOfProfits_56 rfl ?_
        refine gw_lstore_n dX5_sumOfProfits_57 rfl (by decide) ?_
        refine gw_iincZ dX5_sumOfProfits_58 rfl rfl (by decide) ?_
        refine gw_iincZ dX5_sumOfProfits_61 rfl rfl (by decide) ?_
        refine gw_goto (tgt := 14) dX5_sumOfProfits_64 (by decide) ?_
        exact gw_L (ih _ _ _ H) ((lvA_c rfl (lvA_c rfl (lvA_c rfl (lvA_c rfl (lvA_c rfl (lvA_c rfl lvA_n)))))))
set_option maxRecDepth 100000 in
set_option maxHeartbeats 4000000 in
theorem w_X5_sumOfProfits {Φ : gwC} {hb : gwHp} {M : Nat} {sh : Nat → Option gSh} {th : Nat} {p1 : Nat} {p2 : Int} {c : W0} {r : Int} {K : Option Value → gwHp → Prop} (h0 : sV sh th) (h1 : sP sh p1) (H : f_X5_sumOfProfits th p1 p2 c = some r) (hK : K (some (vL r)) (hp Φ hb M sh c)) : gw_Con Φ mX5_sumOfProfits none [.ref (M + th), .ref (M + p1), vI p2] (hp Φ hb M sh c) K := by
  unfold f_X5_sumOfProfits at H
  refine gw_start okX5_sumOfProfits (Nat.le_of_ble_eq_true rfl) ?_
  refine gw_aload_n dX5_sumOfProfits_0 rfl rfl ?_
  refine gw_ifnonnull (tgt := 6) dX5_sumOfProfits_1 (by decide) ?_
  refine gw_lconst0Z dX5_sumOfProfits_6 rfl ?_
  refine gw_lstore_n dX5_sumOfProfits_7 rfl (by decide) ?_
  refine gw_iconstZ dX5_sumOfProfits_8 rfl ?_
  refine gw_istore dX5_sumOfProfits_9 rfl (by decide) ?_
  refine gw_iconstZ dX5_sumOfProfits_11 rfl ?_
  refine gw_istore dX5_sumOfProfits_12 rfl (by decide) ?_
  refine gw_L (l_X5_sumOfProfits_14 h0 h1 hK (fun v1 H => ?_) LF _ _ _ H) ((lvA_c rfl (lvA_c rfl (lvA_c rfl (lvA_c rfl (lvA_c rfl (lvA_c rfl lvA_n)))))))
  refine gw_lload_n dX5_sumOfProfits_67 rfl rfl ?_
  cases H
  exact gw_lret dX5_sumOfProfits_68 rfl (by decide) (by decide) hK
set_option maxRecDepth 100000 in
set_option maxHeartbeats 4000000 in
theorem l_X8_commonDivisor_15 {Φ : gwC} {hb : gwHp} {M : Nat} {sh : Nat → Option gSh} {c : W0} {κ : Int → Option Int} {r : Int} {K : Option Value → gwHp → Prop}  (hK : K (some (vL r)) (hp Φ hb M sh c)) (hκ : ∀ (x4 : Int), κ x4 = some r → G Φ mX8_commonDivisor (gw_M Φ mX8_commonDivisor K) none 0 0 50 [(4, vL x4)] [] (hp Φ hb M sh c)) : ∀ (n : Nat) (l4 : Int) (l6 : Int) (l8 : Int), f_X8_commonDivisor_15  κ n l4 l6 l8 = some r → G Φ mX8_commonDivisor (gw_M Φ mX8_commonDivisor K) none 0 0 15 [(4, vL l4), (6, vL l6), (8, vI l8)] [] (hp Φ hb M sh c) := by
  intro n
  induction n with
  | zero => intro l4 l6 l8 H; cases H
  | succ n ih =>
    intro l4 l6 l8 H
    have H : b_X8_commonDivisor_15  κ (f_X8_commonDivisor_15  κ n) l4 l6 l8 = some r := H
    unfold b_X8_commonDivisor_15 at H
    refine gw_iload dX8_commonDivisor_15 rfl rfl ?_
    refine gw_bipushZ dX8_commonDivisor_17 rfl (by decide) ?_
    obtain ⟨g, H⟩ := gd_i H
    refine gw_icmp_geZ (tgt := 50) dX8_commonDivisor_19 rfl (by decide) g (by decide) (fun q => ?_) (fun q => ?_)
    · have H := bq_t q H
      exact gw_L (hκ _ H) ((lvA_c rfl lvA_n))
    · have H := bq_f q H
      refine gw_lload dX8_commonDivisor_22 rfl rfl ?_
      refine gw_lconst0Z dX8_commonDivisor_24 rfl ?_
      obtain ⟨g, H⟩ := gd_i H
      refine gw_lc_eqZ (tgt := 50) dX8_commonDivisor_25 rfl dX8_commonDivisor_26 rfl (by decide) g (by decide) (fun q => ?_) (fun q => ?_)
      · have H := bq_t q H
        exact gw_L (hκ _ H) ((lvA_c rfl lvA_n))
      · have H := bq_f q H
        refine gw_lload dX8_commonDivisor_29 rfl rfl ?_
        refine gw_lload dX8_commonDivisor_31 rfl rfl ?_
        obtain ⟨g, H⟩ := gd_i H
        refine gw_lremZ dX8_commonDivisor_33 rfl g.1 g.2.1 g.2.2 ?_
        refine gw_lstore dX8_commonDivisor_34 rfl (by decide) ?_
        refine gw_lload dX8_commonDivisor_36 rfl rfl ?_
        refine gw_lstore dX8_commonDivisor_38 rfl (by decide) ?_
        refine gw_lload dX8_commonDivisor_40 rfl rfl ?_
        refine gw_lstore dX8_commonDivisor_42 rfl (by decide) ?_
        refine gw_iincZ dX8_commonDivisor_44 rfl rfl (by decide) ?_
        refine gw_goto (tgt := 15) dX8_commonDivisor_47 (by decide) ?_
        exact gw_L (ih _ _ _ H) ((lvA_c rfl (lvA_c rfl (lvA_c rfl lvA_n))))
set_option maxRecDepth 100000 in
set_option maxHeartbeats 4000000 in
theorem w_X8_commonDivisor {Φ : gwC} {hb : gwHp} {M : Nat} {sh : Nat → Option gSh} {p1 : Int} {p2 : Int} {c : W0} {r : Int} {K : Option Value → gwHp → Prop}  (H : f_X8_commonDivisor p1 p2 = some r) (hK : K (some (vL r)) (hp Φ hb M sh c)) : gw_Con Φ mX8_commonDivisor none [vL p1, vL p2] (hp Φ hb M sh c) K := by
  unfold f_X8_commonDivisor at H
  refine gw_start okX8_commonDivisor (Nat.le_of_ble_eq_true rfl) ?_
  refine gw_lload_n dX8_commonDivisor_0 rfl rfl ?_
  obtain ⟨g, H⟩ := gd_i H
  refine gw_mabslZ dX8_commonDivisor_1 rfl kw_701 kw_702 kw_21 kw_703 (by decide) (Nat.le_of_ble_eq_true rfl) (by decide) (by decide) g ?_
  refine gw_lstore dX8_commonDivisor_4 rfl (by decide) ?_
  refine gw_lload_n dX8_commonDivisor_6 rfl rfl ?_
  obtain ⟨g, H⟩ := gd_i H
  refine gw_mabslZ dX8_commonDivisor_7 rfl kw_701 kw_702 kw_21 kw_703 (by decide) (Nat.le_of_ble_eq_true rfl) (by decide) (by decide) g ?_
  refine gw_lstore dX8_commonDivisor_10 rfl (by decide) ?_
  refine gw_iconstZ dX8_commonDivisor_12 rfl ?_
  refine gw_istore dX8_commonDivisor_13 rfl (by decide) ?_
  refine gw_L (l_X8_commonDivisor_15  hK (fun v1 H => ?_) LF _ _ _ H) ((lvA_c rfl (lvA_c rfl (lvA_c rfl lvA_n))))
  refine gw_lload dX8_commonDivisor_50 rfl rfl ?_
  cases H
  exact gw_lret dX8_commonDivisor_52 rfl (by decide) (by decide) hK
set_option maxRecDepth 100000 in
set_option maxHeartbeats 4000000 in
theorem w_X8_lowNumerator {Φ : gwC} {hb : gwHp} {M : Nat} {sh : Nat → Option gSh} {p1 : Int} {p2 : Int} {c : W0} {r : Int} {K : Option Value → gwHp → Prop}  (H : f_X8_lowNumerator p1 p2 = some r) (hK : K (some (vL r)) (hp Φ hb M sh c)) : gw_Con Φ mX8_lowNumerator none [vL p1, vL p2] (hp Φ hb M sh c) K := by
  unfold f_X8_lowNumerator at H
  refine gw_start okX8_lowNumerator (Nat.le_of_ble_eq_true rfl) ?_
  refine gw_lload_n dX8_lowNumerator_0 rfl rfl ?_
  refine gw_lload_n dX8_lowNumerator_1 rfl rfl ?_
  obtain ⟨v1, e_v1, H⟩ := cv_i H
  refine gw_S2 okX8_commonDivisor dX8_lowNumerator_2 kw_698 kw_699 ⟨by decide, by decide⟩ ⟨by decide, by decide⟩ (Nat.le_of_ble_eq_true rfl) (w_X8_commonDivisor  e_v1 ?_)
  refine gw_lstore dX8_lowNumerator_5 rfl (by decide) ?_
  refine gw_lload dX8_lowNumerator_7 rfl rfl ?_
  refine gw_lconst0Z dX8_lowNumerator_9 rfl ?_
  obtain ⟨g, H⟩ := gd_i H
  refine gw_lc_neZ (tgt := 16) dX8_lowNumerator_10 rfl dX8_lowNumerator_11 rfl (by decide) g (by decide) (fun q => ?_) (fun q => ?_)
  · have H := bq_f q H
    refine gw_lload_n dX8_lowNumerator_16 rfl rfl ?_
    refine gw_lconst0Z dX8_lowNumerator_17 rfl ?_
    obtain ⟨g, H⟩ := gd_i H
    refine gw_lc_geZ (tgt := 30) dX8_lowNumerator_18 rfl dX8_lowNumerator_19 rfl (by decide) g (by decide) (fun q => ?_) (fun q => ?_)
    · have H := bq_t q H
      refine gw_lload_n dX8_lowNumerator_30 rfl rfl ?_
      refine gw_lload dX8_lowNumerator_31 rfl rfl ?_
      obtain ⟨g, H⟩ := gd_i H
      refine gw_ldivZ dX8_lowNumerator_33 rfl g.1 g.2.1 g.2.2 ?_
      cases H
      exact gw_lret dX8_lowNumerator_34 rfl (by decide) (by decide) hK
    · have H := bq_f q H
      refine gw_lload_n dX8_lowNumerator_22 rfl rfl ?_
      refine gw_lload dX8_lowNumerator_23 rfl rfl ?_
      obtain ⟨g, H⟩ := gd_i H
      refine gw_ldivZ dX8_lowNumerator_25 rfl g.1 g.2.1 g.2.2 ?_
      refine gw_lnegZ dX8_lowNumerator_26 rfl ?_
      refine gw_goto (tgt := 34) dX8_lowNumerator_27 (by decide) ?_
      cases H
      exact gw_lret dX8_lowNumerator_34 rfl (by decide) (by decide) hK
  · have H := bq_t q H
    refine gw_lconst0Z dX8_lowNumerator_14 rfl ?_
    cases H
    exact gw_lret dX8_lowNumerator_15 rfl (by decide) (by decide) hK
set_option maxRecDepth 100000 in
set_option maxHeartbeats 4000000 in
theorem w_X8_lowDenominator {Φ : gwC} {hb : gwHp} {M : Nat} {sh : Nat → Option gSh} {p1 : Int} {p2 : Int} {c : W0} {r : Int} {K : Option Value → gwHp → Prop}  (H : f_X8_lowDenominator p1 p2 = some r) (hK : K (some (vL r)) (hp Φ hb M sh c)) : gw_Con Φ mX8_lowDenominator none [vL p1, vL p2] (hp Φ hb M sh c) K := by
  unfold f_X8_lowDenominator at H
  refine gw_start okX8_lowDenominator (Nat.le_of_ble_eq_true rfl) ?_
  refine gw_lload_n dX8_lowDenominator_0 rfl rfl ?_
  refine gw_lload_n dX8_lowDenominator_1 rfl rfl ?_
  obtain ⟨v1, e_v1, H⟩ := cv_i H
  refine gw_S2 okX8_commonDivisor dX8_lowDenominator_2 kw_698 kw_699 ⟨by decide, by decide⟩ ⟨by decide, by decide⟩ (Nat.le_of_ble_eq_true rfl) (w_X8_commonDivisor  e_v1 ?_)
  refine gw_lstore dX8_lowDenominator_5 rfl (by decide) ?_
  refine gw_lload dX8_lowDenominator_7 rfl rfl ?_
  refine gw_lconst0Z dX8_lowDenominator_9 rfl ?_
  obtain ⟨g, H⟩ := gd_i H
  refine gw_lc_neZ (tgt := 16) dX8_lowDenominator_10 rfl dX8_lowDenominator_11 rfl (by decide) g (by decide) (fun q => ?_) (fun q => ?_)
  · have H := bq_f q H
    refine gw_lload_n dX8_lowDenominator_16 rfl rfl ?_
    obtain ⟨g, H⟩ := gd_i H
    refine gw_mabslZ dX8_lowDenominator_17 rfl kw_701 kw_702 kw_21 kw_703 (by decide) (Nat.le_of_ble_eq_true rfl) (by decide) (by decide) g ?_
    refine gw_lload dX8_lowDenominator_20 rfl rfl ?_
    obtain ⟨g, H⟩ := gd_i H
    refine gw_ldivZ dX8_lowDenominator_22 rfl g.1 g.2.1 g.2.2 ?_
    cases H
    exact gw_lret dX8_lowDenominator_23 rfl (by decide) (by decide) hK
  · have H := bq_t q H
    refine gw_lconst1Z dX8_lowDenominator_14 rfl ?_
    cases H
    exact gw_lret dX8_lowDenominator_15 rfl (by decide) (by decide) hK
set_option maxRecDepth 100000 in
set_option maxHeartbeats 4000000 in
theorem l_X5_isNoted_3 {Φ : gwC} {hb : gwHp} {M : Nat} {sh : Nat → Option gSh} {th : Nat} {p1 : Int} {p2 : Int} {c : W0} {κ : Option Int} {r : Int} {K : Option Value → gwHp → Prop} (h0 : sV sh th) (hK : K (some (vI r)) (hp Φ hb M sh c)) (hκ : κ  = some r → G Φ mX5_isNoted (gw_M Φ mX5_isNoted K) none 0 0 50 [] [] (hp Φ hb M sh c)) : ∀ (n : Nat) (l5 : Int), f_X5_isNoted_3 th p1 p2 c κ n l5 = some r → G Φ mX5_isNoted (gw_M Φ mX5_isNoted K) none 0 0 3 [(0, .ref (M + th)), (1, vL p1), (3, vL p2), (5, vI l5)] [] (hp Φ hb M sh c) := by
  intro n
  induction n with
  | zero => intro l5 H; cases H
  | succ n ih =>
    intro l5 H
    have H : b_X5_isNoted_3 th p1 p2 c κ (f_X5_isNoted_3 th p1 p2 c κ n) l5 = some r := H
    unfold b_X5_isNoted_3 at H
    refine gw_iload dX5_isNoted_3 rfl rfl ?_
    refine gw_aload_n dX5_isNoted_5 rfl rfl ?_
    refine gs_getI cl5 3 3 dX5_isNoted_6 rfl kw_215 (by decide) (h0.1) rfl rfl ?_
    obtain ⟨g, H⟩ := gd_i H
    refine gw_icmp_geZ (tgt := 50) dX5_isNoted_9 rfl (by decide) g.1 g.2 (fun q => ?_) (fun q => ?_)
    · have H := bq_t q H
      exact gw_L (hκ H) (lvA_n)
    · have H := bq_f q H
      refine gw_aload_n dX5_isNoted_12 rfl rfl ?_
      refine gs_getR cl5 1 dX5_isNoted_13 rfl kw_212 (by decide) (h0.1) rfl ?_
      refine gw_iconstZ dX5_isNoted_16 rfl ?_
      refine gw_iload dX5_isNoted_17 rfl rfl ?_
      obtain ⟨g, H⟩ := gd_i H
      refine gw_V2 okX1_at dX5_isNoted_19 kw_878 kw_441 kw_442 (hp_o (h0.2.2.1)) rfl ⟨by decide, by decide⟩ ⟨by decide, by decide⟩ (Nat.le_of_ble_eq_true rfl) (k_at0 (h0.2.2) (by decide) (by omega) (by omega) (by decide) ?_)
      refine gw_lload_n dX5_isNoted_22 rfl rfl ?_
      obtain ⟨g, H⟩ := gd_i H
      refine gw_lc_neZ (tgt := 44) dX5_isNoted_23 rfl dX5_isNoted_24 rfl (by decide) g.1 g.2 (fun q => ?_) (fun q => ?_)
      · have H := bq_f q H
        refine gw_iincZ dX5_isNoted_44 rfl rfl (by decide) ?_
        refine gw_goto (tgt := 3) dX5_isNoted_47 (by decide) ?_
        exact gw_L (ih _ H) ((lvA_c rfl (lvA_c rfl (lvA_c rfl (lvA_c rfl lvA_n)))))
      · have H := bq_t q H
        refine gw_aload_n dX5_isNoted_27 rfl rfl ?_
        refine gs_getR cl5 1 dX5_isNoted_28 rfl kw_212 (by decide) (h0.1) rfl ?_
        refine gw_iconstZ dX5_isNoted_31 rfl ?_
        refine gw_iload dX5_isNoted_32 rfl rfl ?_
        obtain ⟨g, H⟩ := gd_i H
        refine gw_V2 okX1_at dX5_isNoted_34 kw_878 kw_441 kw_442 (hp_o (h0.2.2.1)) rfl ⟨by decide, by decide⟩ ⟨by decide, by decide⟩ (Nat.le_of_ble_eq_true rfl) (k_at (h0.2.2) (by decide) (by omega) (by omega) (by omega) (by decide) ?_)
        refine gw_lload_n dX5_isNoted_37 rfl rfl ?_
        obtain ⟨g, H⟩ := gd_i H
        refine gw_lc_neZ (tgt := 44) dX5_isNoted_38 rfl dX5_isNoted_39 rfl (by decide) g.1 g.2 (fun q => ?_) (fun q => ?_)
        · have H := bq_f q H
          refine gw_iincZ dX5_isNoted_44 rfl rfl (by decide) ?_
          refine gw_goto (tgt := 3) dX5_isNoted_47 (by decide) ?_
          exact gw_L (ih _ H) ((lvA_c rfl (lvA_c rfl (lvA_c rfl (lvA_c rfl lvA_n)))))
        · have H := bq_t q H
          refine gw_iconstZ dX5_isNoted_42 rfl ?_
          cases H
          exact gw_zret rfl dX5_isNoted_43 rfl (by decide) (by decide) hK
set_option maxRecDepth 100000 in
set_option maxHeartbeats 4000000 in
theorem w_X5_isNoted {Φ : gwC} {hb : gwHp} {M : Nat} {sh : Nat → Option gSh} {th : Nat} {p1 : Int} {p2 : Int} {c : W0} {r : Int} {K : Option Value → gwHp → Prop} (h0 : sV sh th) (H : f_X5_isNoted th p1 p2 c = some r) (hK : K (some (vI r)) (hp Φ hb M sh c)) : gw_Con Φ mX5_isNoted none [.ref (M + th), vL p1, vL p2] (hp Φ hb M sh c) K := by
  unfold f_X5_isNoted at H
  refine gw_start okX5_isNoted (Nat.le_of_ble_eq_true rfl) ?_
  refine gw_iconstZ dX5_isNoted_0 rfl ?_
  refine gw_istore dX5_isNoted_1 rfl (by decide) ?_
  refine gw_L (l_X5_isNoted_3 h0 hK (fun H => ?_) LF _ H) ((lvA_c rfl (lvA_c rfl (lvA_c rfl (lvA_c rfl lvA_n)))))
  refine gw_iconstZ dX5_isNoted_50 rfl ?_
  cases H
  exact gw_zret rfl dX5_isNoted_51 rfl (by decide) (by decide) hK
end FW
