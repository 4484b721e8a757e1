section FW
set_option maxRecDepth 100000 in
set_option maxHeartbeats 4000000 in
theorem w_X0_unknown {Φ : gwC} {hb : gwHp} {M : Nat} {sh : Nat → Option gSh} {th : Nat} {p1 : Int} {c : W0} {r : Int} {K : Option Value → gwHp → Prop} (h0 : sE sh th) (H : f_X0_unknown th p1 c = some r) (hK : K (some (vL r)) (hp Φ hb M sh c)) : gw_Con Φ mX0_unknown none [.ref (M + th), vI p1] (hp Φ hb M sh c) K := by
  unfold f_X0_unknown at H
  refine gw_start okX0_unknown (Nat.le_of_ble_eq_true rfl) ?_
  refine gw_aload_n dX0_unknown_0 rfl rfl ?_
  refine gs_getR cl0 2 dX0_unknown_1 rfl kw_193 (by decide) (h0.1) rfl ?_
  refine gw_iload_n dX0_unknown_4 rfl rfl ?_
  refine gw_aload_n dX0_unknown_5 rfl rfl ?_
  refine gs_getI cl0 0 0 dX0_unknown_6 rfl kw_188 (by decide) (h0.1) rfl rfl ?_
  obtain ⟨g, H⟩ := gd_i H
  refine gw_V2 okX1_at dX0_unknown_9 kw_795 kw_441 kw_442 (hp_o (h0.2.1)) rfl ⟨by decide, by decide⟩ ⟨by decide, by decide⟩ (Nat.le_of_ble_eq_true rfl) (k_at (h0.2) (by decide) (by omega) (by omega) (by omega) (by decide) ?_)
  cases H
  exact gw_lret dX0_unknown_12 rfl (by decide) (by decide) hK
set_option maxRecDepth 100000 in
set_option maxHeartbeats 4000000 in
theorem w_X6_namedBy {Φ : gwC} {hb : gwHp} {M : Nat} {sh : Nat → Option gSh} {th : Nat} {p1 : Int} {c : W0} {r : Int} {K : Option Value → gwHp → Prop} (h0 : sT sh th) (H : f_X6_namedBy th p1 c = some r) (hK : K (some (vI r)) (hp Φ hb M sh c)) : gw_Con Φ mX6_namedBy none [.ref (M + th), vI p1] (hp Φ hb M sh c) K := by
  unfold f_X6_namedBy at H
  refine gw_start okX6_namedBy (Nat.le_of_ble_eq_true rfl) ?_
  refine gw_aload_n dX6_namedBy_0 rfl rfl ?_
  refine gs_getR cl6 3 dX6_namedBy_1 rfl kw_106 (by decide) (h0.1) rfl ?_
  refine gw_iconstZ dX6_namedBy_4 rfl ?_
  refine gw_iload_n dX6_namedBy_5 rfl rfl ?_
  obtain ⟨g, H⟩ := gd_i H
  refine gw_V2 okX1_at dX6_namedBy_6 kw_561 kw_441 kw_442 (hp_o (h0.2.1.1)) rfl ⟨by decide, by decide⟩ ⟨by decide, by decide⟩ (Nat.le_of_ble_eq_true rfl) (k_at0 (h0.2.1) (by decide) (by omega) (by omega) (by decide) ?_)
  refine gw_l2iZ dX6_namedBy_9 rfl ?_
  cases H
  exact gw_iret dX6_namedBy_10 rfl (by decide) (by decide) hK
set_option maxRecDepth 100000 in
set_option maxHeartbeats 4000000 in
theorem l_X0_rowWith_2 {Φ : gwC} {hb : gwHp} {M : Nat} {sh : Nat → Option gSh} {th : Nat} {p1 : Int} {c : W0} {κ : Option Int} {r : Int} {K : Option Value → gwHp → Prop} (h0 : sE sh th) (hK : K (some (vI r)) (hp Φ hb M sh c)) (hκ : κ  = some r → G Φ mX0_rowWith (gw_M Φ mX0_rowWith K) none 0 0 32 [] [] (hp Φ hb M sh c)) : ∀ (n : Nat) (l2 : Int), f_X0_rowWith_2 th p1 c κ n l2 = some r → G Φ mX0_rowWith (gw_M Φ mX0_rowWith K) none 0 0 2 [(0, .ref (M + th)), (1, vI p1), (2, vI l2)] [] (hp Φ hb M sh c) := by
  intro n
  induction n with
  | zero => intro l2 H; cases H
  | succ n ih =>
    intro l2 H
    have H : b_X0_rowWith_2 th p1 c κ (f_X0_rowWith_2 th p1 c κ n) l2 = some r := H
    unfold b_X0_rowWith_2 at H
    refine gw_iload_n dX0_rowWith_2 rfl rfl ?_
    refine gw_aload_n dX0_rowWith_3 rfl rfl ?_
    refine gs_getI cl0 0 0 dX0_rowWith_4 rfl kw_188 (by decide) (h0.1) rfl rfl ?_
    obtain ⟨g, H⟩ := gd_i H
    refine gw_icmp_geZ (tgt := 32) dX0_rowWith_7 rfl (by decide) g.1 g.2 (fun q => ?_) (fun q => ?_)
    · have H := bq_t q H
      exact gw_L (hκ H) (lvA_n)
    · have H := bq_f q H
      refine gw_aload_n dX0_rowWith_10 rfl rfl ?_
      refine gs_getR cl0 2 dX0_rowWith_11 rfl kw_193 (by decide) (h0.1) rfl ?_
      refine gw_iload_n dX0_rowWith_14 rfl rfl ?_
      refine gw_iload_n dX0_rowWith_15 rfl rfl ?_
      obtain ⟨g, H⟩ := gd_i H
      refine gw_V2 okX1_at dX0_rowWith_16 kw_795 kw_441 kw_442 (hp_o (h0.2.1)) rfl ⟨by decide, by decide⟩ ⟨by decide, by decide⟩ (Nat.le_of_ble_eq_true rfl) (k_at (h0.2) (by decide) (by omega) (by omega) (by omega) (by decide) ?_)
      refine gw_lconst0Z dX0_rowWith_19 rfl ?_
      obtain ⟨g, H⟩ := gd_i H
      refine gw_lc_eqZ (tgt := 26) dX0_rowWith_20 rfl dX0_rowWith_21 rfl (by decide) g (by decide) (fun q => ?_) (fun q => ?_)
      · have H := bq_t q H
        refine gw_iincZ dX0_rowWith_26 rfl rfl (by decide) ?_
        refine gw_goto (tgt := 2) dX0_rowWith_29 (by decide) ?_
        exact gw_L (ih _ H) ((lvA_c rfl (lvA_c rfl (lvA_c rfl lvA_n))))
      · have H := bq_f q H
        refine gw_iload_n dX0_rowWith_24 rfl rfl ?_
        cases H
        exact gw_iret dX0_rowWith_25 rfl (by decide) (by decide) hK
set_option maxRecDepth 100000 in
set_option maxHeartbeats 4000000 in
theorem w_X0_rowWith {Φ : gwC} {hb : gwHp} {M : Nat} {sh : Nat → Option gSh} {th : Nat} {p1 : Int} {c : W0} {r : Int} {K : Option Value → gwHp → Prop} (h0 : sE sh th) (H : f_X0_rowWith th p1 c = some r) (hK : K (some (vI r)) (hp Φ hb M sh c)) : gw_Con Φ mX0_rowWith none [.ref (M + th), vI p1] (hp Φ hb M sh c) K := by
  unfold f_X0_rowWith at H
  refine gw_start okX0_rowWith (Nat.le_of_ble_eq_true rfl) ?_
  refine gw_iload_n dX0_rowWith_0 rfl rfl ?_
  refine gw_istore_n dX0_rowWith_1 rfl (by decide) ?_
  refine gw_L (l_X0_rowWith_2 h0 hK (fun H => ?_) LF _ H) ((lvA_c rfl (lvA_c rfl (lvA_c rfl lvA_n))))
  refine gw_iconstZ dX0_rowWith_32 rfl ?_
  cases H
  exact gw_iret dX0_rowWith_33 rfl (by decide) (by decide) hK
set_option maxRecDepth 100000 in
set_option maxHeartbeats 4000000 in
theorem l_X0_swap_2 {Φ : gwC} {hb : gwHp} {M : Nat} {sh : Nat → Option gSh} {th : Nat} {p1 : Int} {p2 : Int} {κ : W0 → Option (Int × W0)} {r : Int × W0} {K : Option Value → gwHp → Prop} (h0 : sE sh th) (hK : K none (hp Φ hb M sh r.2)) (hκ : ∀ (c : W0), κ c = some r → G Φ mX0_swap (gw_M Φ mX0_swap K) none 0 0 56 [] [] (hp Φ hb M sh c)) : ∀ (n : Nat) (l3 : Int) (c : W0), f_X0_swap_2 th p1 p2 κ n l3 c = some r → G Φ mX0_swap (gw_M Φ mX0_swap K) none 0 0 2 [(0, .ref (M + th)), (1, vI p1), (2, vI p2), (3, vI l3)] [] (hp Φ hb M sh c) := by
  intro n
  induction n with
  | zero => intro l3 c H; cases H
  | succ n ih =>
    intro l3 c H
    have H : b_X0_swap_2 th p1 p2 κ (f_X0_swap_2 th p1 p2 κ n) l3 c = some r := H
    unfold b_X0_swap_2 at H
    refine gw_iload_n dX0_swap_2 rfl rfl ?_
    refine gw_aload_n dX0_swap_3 rfl rfl ?_
    refine gs_getI cl0 0 0 dX0_swap_4 rfl kw_188 (by decide) (h0.1) rfl rfl ?_
    obtain ⟨g, H⟩ := gd_i H
    refine gw_icmp_gtZ (tgt := 56) dX0_swap_7 rfl (by decide) g.1 g.2 (fun q => ?_) (fun q => ?_)
    · have H := bq_t q H
      exact gw_L (hκ _ H) (lvA_n)
    · have H := bq_f q H
      refine gw_aload_n dX0_swap_10 rfl rfl ?_
      refine gs_getR cl0 2 dX0_swap_11 rfl kw_193 (by decide) (h0.1) rfl ?_
      refine gw_iload_n dX0_swap_14 rfl rfl ?_
      refine gw_iload_n dX0_swap_15 rfl rfl ?_
      obtain ⟨g, H⟩ := gd_i H
      refine gw_V2 okX1_at dX0_swap_16 kw_795 kw_441 kw_442 (hp_o (h0.2.1)) rfl ⟨by decide, by decide⟩ ⟨by decide, by decide⟩ (Nat.le_of_ble_eq_true rfl) (k_at (h0.2) (by decide) (by omega) (by omega) (by omega) (by decide) ?_)
      refine gw_lstore dX0_swap_19 rfl (by decide) ?_
      refine gw_aload_n dX0_swap_21 rfl rfl ?_
      refine gs_getR cl0 2 dX0_swap_22 rfl kw_193 (by decide) (h0.1) rfl ?_
      refine gw_iload_n dX0_swap_25 rfl rfl ?_
      refine gw_iload_n dX0_swap_26 rfl rfl ?_
      refine gw_aload_n dX0_swap_27 rfl rfl ?_
      refine gs_getR cl0 2 dX0_swap_28 rfl kw_193 (by decide) (h0.1) rfl ?_
      refine gw_iload_n dX0_swap_31 rfl rfl ?_
      refine gw_iload_n dX0_swap_32 rfl rfl ?_
      obtain ⟨g, H⟩ := gd_i H
      refine gw_V2 okX1_at dX0_swap_33 kw_795 kw_441 kw_442 (hp_o (h0.2.1)) rfl ⟨by decide, by decide⟩ ⟨by decide, by decide⟩ (Nat.le_of_ble_eq_true rfl) (k_at (h0.2) (by decide) (by omega) (by omega) (by omega) (by decide) ?_)
      obtain ⟨g, H⟩ := gd_i H
      obtain ⟨c1, e_c1, H⟩ := sto_i H
      refine gw_V3 okX1_put dX0_swap_36 kw_785 kw_420 kw_421 (hp_o (h0.2.1)) rfl ⟨by decide, by decide⟩ ⟨by decide, by decide⟩ (Nat.le_of_ble_eq_true rfl) (k_putE (h0.2) (by decide) (by omega) (by omega) (by omega) (by decide) e_c1 ?_)
      refine gw_aload_n dX0_swap_39 rfl rfl ?_
      refine gs_getR cl0 2 dX0_swap_40 rfl kw_193 (by decide) (h0.1) rfl ?_
      refine gw_iload_n dX0_swap_43 rfl rfl ?_
      refine gw_iload_n dX0_swap_44 rfl rfl ?_
      refine gw_lload dX0_swap_45 rfl rfl ?_
      obtain ⟨g, H⟩ := gd_i H
      obtain ⟨c2, e_c2, H⟩ := sto_i H
      refine gw_V3 okX1_put dX0_swap_47 kw_785 kw_420 kw_421 (hp_o (h0.2.1)) rfl ⟨by decide, by decide⟩ ⟨by decide, by decide⟩ (Nat.le_of_ble_eq_true rfl) (k_putE (h0.2) (by decide) (by omega) (by omega) (by omega) (by decide) e_c2 ?_)
      refine gw_iincZ dX0_swap_50 rfl rfl (by decide) ?_
      refine gw_goto (tgt := 2) dX0_swap_53 (by decide) ?_
      exact gw_L (ih _ _ H) ((lvA_c rfl (lvA_c rfl (lvA_c rfl (lvA_c rfl lvA_n)))))
set_option maxRecDepth 100000 in
set_option maxHeartbeats 4000000 in
theorem w_X0_swap {Φ : gwC} {hb : gwHp} {M : Nat} {sh : Nat → Option gSh} {th : Nat} {p1 : Int} {p2 : Int} {c : W0} {r : Int × W0} {K : Option Value → gwHp → Prop} (h0 : sE sh th) (H : f_X0_swap th p1 p2 c = some r) (hK : K none (hp Φ hb M sh r.2)) : gw_Con Φ mX0_swap none [.ref (M + th), vI p1, vI p2] (hp Φ hb M sh c) K := by
  unfold f_X0_swap at H
  refine gw_start okX0_swap (Nat.le_of_ble_eq_true rfl) ?_
  refine gw_iconstZ dX0_swap_0 rfl ?_
  refine gw_istore_n dX0_swap_1 rfl (by decide) ?_
  refine gw_L (l_X0_swap_2 h0 hK (fun c1 H => ?_) LF _ _ H) ((lvA_c rfl (lvA_c rfl (lvA_c rfl (lvA_c rfl lvA_n)))))
  cases H
  exact gw_vret dX0_swap_56 rfl (by decide) (by decide) hK
set_option maxRecDepth 100000 in
set_option maxHeartbeats 4000000 in
theorem l_X0_eliminate_35 {Φ : gwC} {hb : gwHp} {M : Nat} {sh : Nat → Option gSh} {th : Nat} {l1 : Int} {κ : W0 → Option (Int × W0)} {r : Int × W0} {K : Option Value → gwHp → Prop} (h0 : sE sh th) (hK : K (some (vI r.1)) (hp Φ hb M sh r.2)) (hκ : ∀ (c : W0), κ c = some r → G Φ mX0_eliminate (gw_M Φ mX0_eliminate K) none 0 0 72 [(0, .ref (M + th)), (1, vI l1)] [] (hp Φ hb M sh c)) : ∀ (n : Nat) (l3 : Int) (c : W0), f_X0_eliminate_35 th l1 κ n l3 c = some r → G Φ mX0_eliminate (gw_M Φ mX0_eliminate K) none 0 0 35 [(0, .ref (M + th)), (1, vI l1), (3, vI l3)] [] (hp Φ hb M sh c) := by
  intro n
  induction n with
  | zero => intro l3 c H; cases H
  | succ n ih =>
    intro l3 c H
    have H : b_X0_eliminate_35 th l1 κ (f_X0_eliminate_35 th l1 κ n) l3 c = some r := H
    unfold b_X0_eliminate_35 at H
    refine gw_iload_n dX0_eliminate_35 rfl rfl ?_
    refine gw_aload_n dX0_eliminate_36 rfl rfl ?_
    refine gs_getI cl0 0 0 dX0_eliminate_37 rfl kw_188 (by decide) (h0.1) rfl rfl ?_
    obtain ⟨g, H⟩ := gd_i H
    refine gw_icmp_geZ (tgt := 72) dX0_eliminate_40 rfl (by decide) g.1 g.2 (fun q => ?_) (fun q => ?_)
    · have H := bq_t q H
      exact gw_L (hκ _ H) ((lvA_c rfl (lvA_c rfl lvA_n)))
    · have H := bq_f q H
      refine gw_iload_n dX0_eliminate_43 rfl rfl ?_
      refine gw_iload_n dX0_eliminate_44 rfl rfl ?_
      obtain ⟨g, H⟩ := gd_i H
      refine gw_icmp_eqZ (tgt := 66) dX0_eliminate_45 rfl (by decide) g.1 g.2 (fun q => ?_) (fun q => ?_)
      · have H := bq_t q H
        refine gw_iincZ dX0_eliminate_66 rfl rfl (by decide) ?_
        refine gw_goto (tgt := 35) dX0_eliminate_69 (by decide) ?_
        exact gw_L (ih _ _ H) ((lvA_c rfl (lvA_c rfl (lvA_c rfl lvA_n))))
      · have H := bq_f q H
        refine gw_aload_n dX0_eliminate_48 rfl rfl ?_
        refine gs_getR cl0 2 dX0_eliminate_49 rfl kw_193 (by decide) (h0.1) rfl ?_
        refine gw_iload_n dX0_eliminate_52 rfl rfl ?_
        refine gw_iload_n dX0_eliminate_53 rfl rfl ?_
        refine gw_iload_n dX0_eliminate_54 rfl rfl ?_
        refine gw_aload_n dX0_eliminate_55 rfl rfl ?_
        refine gs_getI cl0 0 0 dX0_eliminate_56 rfl kw_188 (by decide) (h0.1) rfl rfl ?_
        refine gw_aload_n dX0_eliminate_59 rfl rfl ?_
        refine gs_getL cl0 1 1 dX0_eliminate_60 rfl kw_190 (by decide) (h0.1) rfl rfl ?_
        obtain ⟨g, H⟩ := gd_i H
        obtain ⟨c1, e_c1, H⟩ := stw_i H
        refine gw_V5 okX1_clear dX0_eliminate_63 kw_800 kw_590 kw_591 (hp_o (h0.2.1)) rfl ⟨by decide, by decide⟩ ⟨by decide, by decide⟩ (Nat.le_of_ble_eq_true rfl) (k_clearE (h0.2) (by decide) (by decide) (by decide) (by decide) g e_c1 ?_)
        refine gw_iincZ dX0_eliminate_66 rfl rfl (by decide) ?_
        refine gw_goto (tgt := 35) dX0_eliminate_69 (by decide) ?_
        exact gw_L (ih _ _ H) ((lvA_c rfl (lvA_c rfl (lvA_c rfl lvA_n))))
set_option maxRecDepth 100000 in
set_option maxHeartbeats 4000000 in
theorem l_X0_eliminate_7 {Φ : gwC} {hb : gwHp} {M : Nat} {sh : Nat → Option gSh} {th : Nat} {κ : W0 → Option (Int × W0)} {r : Int × W0} {K : Option Value → gwHp → Prop} (h0 : sE sh th) (hK : K (some (vI r.1)) (hp Φ hb M sh r.2)) (hκ : ∀ (c : W0), κ c = some r → G Φ mX0_eliminate (gw_M Φ mX0_eliminate K) none 0 0 91 [] [] (hp Φ hb M sh c)) : ∀ (n : Nat) (l1 : Int) (c : W0), f_X0_eliminate_7 th κ n l1 c = some r → G Φ mX0_eliminate (gw_M Φ mX0_eliminate K) none 0 0 7 [(0, .ref (M + th)), (1, vI l1)] [] (hp Φ hb M sh c) := by
  intro n
  induction n with
  | zero => intro l1 c H; cases H
  | succ n ih =>
    intro l1 c H
    have H : b_X0_eliminate_7 th κ (f_X0_eliminate_7 th κ n) l1 c = some r := H
    unfold b_X0_eliminate_7 at H
    refine gw_iload_n dX0_eliminate_7 rfl rfl ?_
    refine gw_aload_n dX0_eliminate_8 rfl rfl ?_
    refine gs_getI cl0 0 0 dX0_eliminate_9 rfl kw_188 (by decide) (h0.1) rfl rfl ?_
    obtain ⟨g, H⟩ := gd_i H
    refine gw_icmp_geZ (tgt := 91) dX0_eliminate_12 rfl (by decide) g.1 g.2 (fun q => ?_) (fun q => ?_)
    · have H := bq_t q H
      exact gw_L (hκ _ H) (lvA_n)
    · have H := bq_f q H
      refine gw_aload_n dX0_eliminate_15 rfl rfl ?_
      refine gw_iload_n dX0_eliminate_16 rfl rfl ?_
      obtain ⟨v1, e_v1, H⟩ := cv_i H
      refine gw_V1 okX0_rowWith dX0_eliminate_17 kw_791 kw_793 kw_10 (hp_o (h0.1)) rfl ⟨by decide, by decide⟩ ⟨by decide, by decide⟩ (Nat.le_of_ble_eq_true rfl) (w_X0_rowWith (h0) e_v1 ?_)
      refine gw_istore_n dX0_eliminate_20 rfl (by decide) ?_
      refine gw_iload_n dX0_eliminate_21 rfl rfl ?_
      obtain ⟨g, H⟩ := gd_i H
      refine gw_if_geZ (tgt := 27) dX0_eliminate_22 rfl (by decide) g (fun q => ?_) (fun q => ?_)
      · have H := bq_t q H
        refine gw_aload_n dX0_eliminate_27 rfl rfl ?_
        refine gw_iload_n dX0_eliminate_28 rfl rfl ?_
        refine gw_iload_n dX0_eliminate_29 rfl rfl ?_
        obtain ⟨v3, c2, e_c2, H⟩ := cl_i H
        refine gw_V2 okX0_swap dX0_eliminate_30 kw_796 kw_798 kw_11 (hp_o (h0.1)) rfl ⟨by decide, by decide⟩ ⟨by decide, by decide⟩ (Nat.le_of_ble_eq_true rfl) (w_X0_swap (h0) e_c2 ?_)
        refine gw_iconstZ dX0_eliminate_33 rfl ?_
        refine gw_istore_n dX0_eliminate_34 rfl (by decide) ?_
        refine gw_L (l_X0_eliminate_35 h0 hK (fun c4 H => ?_) LF _ _ H) ((lvA_c rfl (lvA_c rfl (lvA_c rfl lvA_n))))
        refine gw_aload_n dX0_eliminate_72 rfl rfl ?_
        refine gw_aload_n dX0_eliminate_73 rfl rfl ?_
        refine gs_getR cl0 2 dX0_eliminate_74 rfl kw_193 (by decide) (h0.1) rfl ?_
        refine gw_iload_n dX0_eliminate_77 rfl rfl ?_
        refine gw_iload_n dX0_eliminate_78 rfl rfl ?_
        obtain ⟨g, H⟩ := gd_i H
        refine gw_V2 okX1_at dX0_eliminate_79 kw_795 kw_441 kw_442 (hp_o (h0.2.1)) rfl ⟨by decide, by decide⟩ ⟨by decide, by decide⟩ (Nat.le_of_ble_eq_true rfl) (k_at (h0.2) (by decide) (by omega) (by omega) (by omega) (by decide) ?_)
        obtain ⟨c5, e_c5, H⟩ := sto_i H
        refine gs_putLE cl0 1 1 dX0_eliminate_82 rfl kw_190 (by decide) rfl rfl (h0.1) rfl rfl e_c5 ?_
        refine gw_iincZ dX0_eliminate_85 rfl rfl (by decide) ?_
        refine gw_goto (tgt := 7) dX0_eliminate_88 (by decide) ?_
        exact gw_L (ih _ _ H) ((lvA_c rfl (lvA_c rfl lvA_n)))
      · have H := bq_f q H
        refine gw_iconstZ dX0_eliminate_25 rfl ?_
        cases H
        exact gw_zret rfl dX0_eliminate_26 rfl (by decide) (by decide) hK
set_option maxRecDepth 100000 in
set_option maxHeartbeats 4000000 in
theorem w_X0_eliminate {Φ : gwC} {hb : gwHp} {M : Nat} {sh : Nat → Option gSh} {th : Nat} {c : W0} {r : Int × W0} {K : Option Value → gwHp → Prop} (h0 : sE sh th) (H : f_X0_eliminate th c = some r) (hK : K (some (vI r.1)) (hp Φ hb M sh r.2)) : gw_Con Φ mX0_eliminate none [.ref (M + th)] (hp Φ hb M sh c) K := by
  unfold f_X0_eliminate at H
  refine gw_start okX0_eliminate (Nat.le_of_ble_eq_true rfl) ?_
  refine gw_aload_n dX0_eliminate_0 rfl rfl ?_
  refine gw_lconst1Z dX0_eliminate_1 rfl ?_
  obtain ⟨c1, e_c1, H⟩ := sto_i H
  refine gs_putLE cl0 1 1 dX0_eliminate_2 rfl kw_190 (by decide) rfl rfl (h0.1) rfl rfl e_c1 ?_
  refine gw_iconstZ dX0_eliminate_5 rfl ?_
  refine gw_istore_n dX0_eliminate_6 rfl (by decide) ?_
  refine gw_L (l_X0_eliminate_7 h0 hK (fun c2 H => ?_) LF _ _ H) ((lvA_c rfl (lvA_c rfl lvA_n)))
  refine gw_iconstZ dX0_eliminate_91 rfl ?_
  cases H
  exact gw_zret rfl dX0_eliminate_92 rfl (by decide) (by decide) hK
set_option maxRecDepth 100000 in
set_option maxHeartbeats 4000000 in
theorem l_X0_solveDuals_39 {Φ : gwC} {hb : gwHp} {M : Nat} {sh : Nat → Option gSh} {th : Nat} {p1 : Nat} {l2 : Int} {l3 : Int} {κ : W0 → Option (Int × W0)} {r : Int × W0} {K : Option Value → gwHp → Prop} (h0 : sE sh th) (h1 : sS sh p1) (hK : K (some (vI r.1)) (hp Φ hb M sh r.2)) (hκ : ∀ (c : W0), κ c = some r → G Φ mX0_solveDuals (gw_M Φ mX0_solveDuals K) none 0 0 75 [(0, .ref (M + th)), (1, .ref (M + p1)), (2, vI l2), (3, vI l3)] [] (hp Φ hb M sh c)) : ∀ (n : Nat) (l4 : Int) (c : W0), f_X0_solveDuals_39 th p1 l2 l3 κ n l4 c = some r → G Φ mX0_solveDuals (gw_M Φ mX0_solveDuals K) none 0 0 39 [(0, .ref (M + th)), (1, .ref (M + p1)), (2, vI l2), (3, vI l3), (4, vI l4)] [] (hp Φ hb M sh c) := by
  intro n
  induction n with
  | zero => intro l4 c H; cases H
  | succ n ih =>
    intro l4 c H
    have H : b_X0_solveDuals_39 th p1 l2 l3 κ (f_X0_solveDuals_39 th p1 l2 l3 κ n) l4 c = some r := H
    unfold b_X0_solveDuals_39 at H
    refine gw_iload dX0_solveDuals_39 rfl rfl ?_
    refine gw_aload_n dX0_solveDuals_41 rfl rfl ?_
    refine gs_getI cl0 0 0 dX0_solveDuals_42 rfl kw_188 (by decide) (h0.1) rfl rfl ?_
    obtain ⟨g, H⟩ := gd_i H
    refine gw_icmp_geZ (tgt := 75) dX0_solveDuals_45 rfl (by decide) g.1 g.2 (fun q => ?_) (fun q => ?_)
    · have H := bq_t q H
      exact gw_L (hκ _ H) ((lvA_c rfl (lvA_c rfl (lvA_c rfl (lvA_c rfl lvA_n)))))
    · have H := bq_f q H
      refine gw_aload_n dX0_solveDuals_48 rfl rfl ?_
      refine gs_getR cl0 2 dX0_solveDuals_49 rfl kw_193 (by decide) (h0.1) rfl ?_
      refine gw_iload_n dX0_solveDuals_52 rfl rfl ?_
      refine gw_iload dX0_solveDuals_53 rfl rfl ?_
      refine gw_aload_n dX0_solveDuals_55 rfl rfl ?_
      refine gs_getRN cl4 0 dX0_solveDuals_56 rfl kw_121 (by decide) (h1.1) rfl ?_
      refine gw_iload dX0_solveDuals_59 rfl rfl ?_
      refine gw_iload_n dX0_solveDuals_61 rfl rfl ?_
      obtain ⟨v1, e_v1, H⟩ := cv_i H
      refine gw_V2 okX2_firstFactor dX0_solveDuals_62 kw_784 kw_433 kw_434 (hp_o (h1.2.1.1)) rfl ⟨by decide, by decide⟩ ⟨by decide, by decide⟩ (Nat.le_of_ble_eq_true rfl) (w_X2_firstFactor (h1.2.1) e_v1 ?_)
      obtain ⟨g, H⟩ := gd_i H
      refine gw_i2lZ dX0_solveDuals_65 rfl g ?_
      obtain ⟨g, H⟩ := gd_i H
      obtain ⟨c2, e_c2, H⟩ := sto_i H
      refine gw_V3 okX1_put dX0_solveDuals_66 kw_785 kw_420 kw_421 (hp_o (h0.2.1)) rfl ⟨by decide, by decide⟩ ⟨by decide, by decide⟩ (Nat.le_of_ble_eq_true rfl) (k_putE (h0.2) (by decide) (by omega) (by omega) (by omega) (by decide) e_c2 ?_)
      refine gw_iincZ dX0_solveDuals_69 rfl rfl (by decide) ?_
      refine gw_goto (tgt := 39) dX0_solveDuals_72 (by decide) ?_
      exact gw_L (ih _ _ H) ((lvA_c rfl (lvA_c rfl (lvA_c rfl (lvA_c rfl (lvA_c rfl lvA_n))))))
set_option maxRecDepth 100000 in
set_option maxHeartbeats 4000000 in
theorem l_X0_solveDuals_19 {Φ : gwC} {hb : gwHp} {M : Nat} {sh : Nat → Option gSh} {th : Nat} {p1 : Nat} {κ : W0 → Option (Int × W0)} {r : Int × W0} {K : Option Value → gwHp → Prop} (h0 : sE sh th) (h1 : sS sh p1) (hK : K (some (vI r.1)) (hp Φ hb M sh r.2)) (hκ : ∀ (c : W0), κ c = some r → G Φ mX0_solveDuals (gw_M Φ mX0_solveDuals K) none 0 0 102 [(0, .ref (M + th))] [] (hp Φ hb M sh c)) : ∀ (n : Nat) (l2 : Int) (c : W0), f_X0_solveDuals_19 th p1 κ n l2 c = some r → G Φ mX0_solveDuals (gw_M Φ mX0_solveDuals K) none 0 0 19 [(0, .ref (M + th)), (1, .ref (M + p1)), (2, vI l2)] [] (hp Φ hb M sh c) := by
  intro n
  induction n with
  | zero => intro l2 c H; cases H
  | succ n ih =>
    intro l2 c H
    have H : b_X0_solveDuals_19 th p1 κ (f_X0_solveDuals_19 th p1 κ n) l2 c = some r := H
    unfold b_X0_solveDuals_19 at H
    refine gw_iload_n dX0_solveDuals_19 rfl rfl ?_
    refine gw_aload_n dX0_solveDuals_20 rfl rfl ?_
    refine gs_getI cl0 0 0 dX0_solveDuals_21 rfl kw_188 (by decide) (h0.1) rfl rfl ?_
    obtain ⟨g, H⟩ := gd_i H
    refine gw_icmp_geZ (tgt := 102) dX0_solveDuals_24 rfl (by decide) g.1 g.2 (fun q => ?_) (fun q => ?_)
    · have H := bq_t q H
      exact gw_L (hκ _ H) ((lvA_c rfl lvA_n))
    · have H := bq_f q H
      refine gw_aload_n dX0_solveDuals_27 rfl rfl ?_
      refine gs_getRN cl4 1 dX0_solveDuals_28 rfl kw_123 (by decide) (h1.1) rfl ?_
      refine gw_iload_n dX0_solveDuals_31 rfl rfl ?_
      obtain ⟨v1, e_v1, H⟩ := cv_i H
      refine gw_V1 okX6_namedBy dX0_solveDuals_32 kw_783 kw_558 kw_559 (hp_o (h1.2.2.1)) rfl ⟨by decide, by decide⟩ ⟨by decide, by decide⟩ (Nat.le_of_ble_eq_true rfl) (w_X6_namedBy (h1.2.2) e_v1 ?_)
      refine gw_istore_n dX0_solveDuals_35 rfl (by decide) ?_
      refine gw_iconstZ dX0_solveDuals_36 rfl ?_
      refine gw_istore dX0_solveDuals_37 rfl (by decide) ?_
      refine gw_L (l_X0_solveDuals_39 h0 h1 hK (fun c2 H => ?_) LF _ _ H) ((lvA_c rfl (lvA_c rfl (lvA_c rfl (lvA_c rfl (lvA_c rfl lvA_n))))))
      refine gw_aload_n dX0_solveDuals_75 rfl rfl ?_
      refine gs_getR cl0 2 dX0_solveDuals_76 rfl kw_193 (by decide) (h0.1) rfl ?_
      refine gw_iload_n dX0_solveDuals_79 rfl rfl ?_
      refine gw_aload_n dX0_solveDuals_80 rfl rfl ?_
      refine gs_getI cl0 0 0 dX0_solveDuals_81 rfl kw_188 (by decide) (h0.1) rfl rfl ?_
      refine gw_aload_n dX0_solveDuals_84 rfl rfl ?_
      refine gs_getRN cl4 0 dX0_solveDuals_85 rfl kw_121 (by decide) (h1.1) rfl ?_
      refine gw_iload_n dX0_solveDuals_88 rfl rfl ?_
      obtain ⟨v3, e_v3, H⟩ := cv_i H
      refine gw_V1 okX2_columnProfit dX0_solveDuals_89 kw_786 kw_449 kw_450 (hp_o (h1.2.1.1)) rfl ⟨by decide, by decide⟩ ⟨by decide, by decide⟩ (Nat.le_of_ble_eq_true rfl) (w_X2_columnProfit (h1.2.1) e_v3 ?_)
      obtain ⟨g, H⟩ := gd_i H
      refine gw_i2lZ dX0_solveDuals_92 rfl g ?_
      obtain ⟨g, H⟩ := gd_i H
      obtain ⟨c4, e_c4, H⟩ := sto_i H
      refine gw_V3 okX1_put dX0_solveDuals_93 kw_785 kw_420 kw_421 (hp_o (h0.2.1)) rfl ⟨by decide, by decide⟩ ⟨by decide, by decide⟩ (Nat.le_of_ble_eq_true rfl) (k_putE (h0.2) (by decide) (by omega) (by omega) (by omega) (by decide) e_c4 ?_)
      refine gw_iincZ dX0_solveDuals_96 rfl rfl (by decide) ?_
      refine gw_goto (tgt := 19) dX0_solveDuals_99 (by decide) ?_
      exact gw_L (ih _ _ H) ((lvA_c rfl (lvA_c rfl (lvA_c rfl lvA_n))))
set_option maxRecDepth 100000 in
set_option maxHeartbeats 4000000 in
theorem w_X0_solveDuals {Φ : gwC} {hb : gwHp} {M : Nat} {sh : Nat → Option gSh} {th : Nat} {p1 : Nat} {c : W0} {r : Int × W0} {K : Option Value → gwHp → Prop} (h0 : sE sh th) (h1 : sS sh p1) (H : f_X0_solveDuals th p1 c = some r) (hK : K (some (vI r.1)) (hp Φ hb M sh r.2)) : gw_Con Φ mX0_solveDuals none [.ref (M + th), .ref (M + p1)] (hp Φ hb M sh c) K := by
  unfold f_X0_solveDuals at H
  refine gw_start okX0_solveDuals (Nat.le_of_ble_eq_true rfl) ?_
  refine gw_aload_n dX0_solveDuals_0 rfl rfl ?_
  refine gw_ifnonnull (tgt := 6) dX0_solveDuals_1 (by decide) ?_
  refine gw_aload_n dX0_solveDuals_6 rfl rfl ?_
  refine gw_aload_n dX0_solveDuals_7 rfl rfl ?_
  refine gs_getRN cl4 0 dX0_solveDuals_8 rfl kw_121 (by decide) (h1.1) rfl ?_
  refine gs_getIN cl2 1 1 dX0_solveDuals_11 rfl kw_80 (by decide) (h1.2.1.1) rfl rfl ?_
  obtain ⟨c1, e_c1, H⟩ := sto_i H
  refine gs_putIE cl0 0 0 dX0_solveDuals_14 rfl kw_188 (by decide) rfl rfl (h0.1) rfl rfl e_c1 ?_
  refine gw_iconstZ dX0_solveDuals_17 rfl ?_
  refine gw_istore_n dX0_solveDuals_18 rfl (by decide) ?_
  refine gw_L (l_X0_solveDuals_19 h0 h1 hK (fun c2 H => ?_) LF _ _ H) ((lvA_c rfl (lvA_c rfl (lvA_c rfl lvA_n))))
  refine gw_aload_n dX0_solveDuals_102 rfl rfl ?_
  obtain ⟨v3, c4, e_c4, H⟩ := cl_i H
  refine gw_V0 okX0_eliminate dX0_solveDuals_103 kw_787 kw_789 kw_9 (hp_o (h0.1)) rfl ⟨by decide, by decide⟩ ⟨by decide, by decide⟩ (Nat.le_of_ble_eq_true rfl) (w_X0_eliminate (h0) e_c4 ?_)
  obtain ⟨g, H⟩ := gd_i H
  cases H
  exact gw_zret (gs_nz g) dX0_solveDuals_106 rfl (by decide) (by decide) hK
set_option maxRecDepth 100000 in
set_option maxHeartbeats 4000000 in
theorem l_X0_solveBasis_46 {Φ : gwC} {hb : gwHp} {M : Nat} {sh : Nat → Option gSh} {th : Nat} {p1 : Nat} {p2 : Int} {l3 : Int} {l4 : Int} {κ : W0 → Option (Int × W0)} {r : Int × W0} {K : Option Value → gwHp → Prop} (h0 : sE sh th) (h1 : sP sh p1) (hK : K (some (vI r.1)) (hp Φ hb M sh r.2)) (hκ : ∀ (c : W0), κ c = some r → G Φ mX0_solveBasis (gw_M Φ mX0_solveBasis K) none 0 0 80 [(0, .ref (M + th)), (1, .ref (M + p1)), (2, vI p2), (3, vI l3), (4, vI l4)] [] (hp Φ hb M sh c)) : ∀ (n : Nat) (l5 : Int) (c : W0), f_X0_solveBasis_46 th p1 p2 l3 l4 κ n l5 c = some r → G Φ mX0_solveBasis (gw_M Φ mX0_solveBasis K) none 0 0 46 [(0, .ref (M + th)), (1, .ref (M + p1)), (2, vI p2), (3, vI l3), (4, vI l4), (5, vI l5)] [] (hp Φ hb M sh c) := by
  intro n
  induction n with
  | zero => intro l5 c H; cases H
  | succ n ih =>
    intro l5 c H
    have H : b_X0_solveBasis_46 th p1 p2 l3 l4 κ (f_X0_solveBasis_46 th p1 p2 l3 l4 κ n) l5 c = some r := H
    unfold b_X0_solveBasis_46 at H
    refine gw_iload dX0_solveBasis_46 rfl rfl ?_
    refine gw_aload_n dX0_solveBasis_48 rfl rfl ?_
    refine gs_getI cl0 0 0 dX0_solveBasis_49 rfl kw_188 (by decide) (h0.1) rfl rfl ?_
    obtain ⟨g, H⟩ := gd_i H
    refine gw_icmp_geZ (tgt := 80) dX0_solveBasis_52 rfl (by decide) g.1 g.2 (fun q => ?_) (fun q => ?_)
    · have H := bq_t q H
      exact gw_L (hκ _ H) ((lvA_c rfl (lvA_c rfl (lvA_c rfl (lvA_c rfl (lvA_c rfl lvA_n))))))
    · have H := bq_f q H
      refine gw_aload_n dX0_solveBasis_55 rfl rfl ?_
      refine gs_getR cl0 2 dX0_solveBasis_56 rfl kw_193 (by decide) (h0.1) rfl ?_
      refine gw_iload dX0_solveBasis_59 rfl rfl ?_
      refine gw_iload_n dX0_solveBasis_61 rfl rfl ?_
      refine gw_aload_n dX0_solveBasis_62 rfl rfl ?_
      refine gw_iload dX0_solveBasis_63 rfl rfl ?_
      refine gw_iload dX0_solveBasis_65 rfl rfl ?_
      obtain ⟨v1, e_v1, H⟩ := cv_i H
      refine gw_V2 okX2_firstFactor dX0_solveBasis_67 kw_784 kw_433 kw_434 (hp_o (h1.1)) rfl ⟨by decide, by decide⟩ ⟨by decide, by decide⟩ (Nat.le_of_ble_eq_true rfl) (w_X2_firstFactor (h1) e_v1 ?_)
      obtain ⟨g, H⟩ := gd_i H
      refine gw_i2lZ dX0_solveBasis_70 rfl g ?_
      obtain ⟨g, H⟩ := gd_i H
      obtain ⟨c2, e_c2, H⟩ := sto_i H
      refine gw_V3 okX1_put dX0_solveBasis_71 kw_785 kw_420 kw_421 (hp_o (h0.2.1)) rfl ⟨by decide, by decide⟩ ⟨by decide, by decide⟩ (Nat.le_of_ble_eq_true rfl) (k_putE (h0.2) (by decide) (by omega) (by omega) (by omega) (by decide) e_c2 ?_)
      refine gw_iincZ dX0_solveBasis_74 rfl rfl (by decide) ?_
      refine gw_goto (tgt := 46) dX0_solveBasis_77 (by decide) ?_
      exact gw_L (ih _ _ H) ((lvA_c rfl (lvA_c rfl (lvA_c rfl (lvA_c rfl (lvA_c rfl (lvA_c rfl lvA_n)))))))
set_option maxRecDepth 100000 in
set_option maxHeartbeats 4000000 in
theorem l_X0_solveBasis_19 {Φ : gwC} {hb : gwHp} {M : Nat} {sh : Nat → Option gSh} {th : Nat} {p1 : Nat} {p2 : Int} {κ : W0 → Option (Int × W0)} {r : Int × W0} {K : Option Value → gwHp → Prop} (h0 : sE sh th) (h1 : sP sh p1) (hK : K (some (vI r.1)) (hp Φ hb M sh r.2)) (hκ : ∀ (c : W0), κ c = some r → G Φ mX0_solveBasis (gw_M Φ mX0_solveBasis K) none 0 0 89 [(0, .ref (M + th)), (1, .ref (M + p1))] [] (hp Φ hb M sh c)) : ∀ (n : Nat) (l3 : Int) (l4 : Int) (c : W0), f_X0_solveBasis_19 th p1 p2 κ n l3 l4 c = some r → G Φ mX0_solveBasis (gw_M Φ mX0_solveBasis K) none 0 0 19 [(0, .ref (M + th)), (1, .ref (M + p1)), (2, vI p2), (3, vI l3), (4, vI l4)] [] (hp Φ hb M sh c) := by
  intro n
  induction n with
  | zero => intro l3 l4 c H; cases H
  | succ n ih =>
    intro l3 l4 c H
    have H : b_X0_solveBasis_19 th p1 p2 κ (f_X0_solveBasis_19 th p1 p2 κ n) l3 l4 c = some r := H
    unfold b_X0_solveBasis_19 at H
    refine gw_iload dX0_solveBasis_19 rfl rfl ?_
    refine gw_aload_n dX0_solveBasis_21 rfl rfl ?_
    refine gs_getIN cl2 0 0 dX0_solveBasis_22 rfl kw_76 (by decide) (h1.1) rfl rfl ?_
    refine gw_aload_n dX0_solveBasis_25 rfl rfl ?_
    refine gs_getI cl0 0 0 dX0_solveBasis_26 rfl kw_188 (by decide) (h0.1) rfl rfl ?_
    refine gw_iaddZ dX0_solveBasis_29 rfl ?_
    obtain ⟨g, H⟩ := gd_i H
    refine gw_icmp_geZ (tgt := 89) dX0_solveBasis_30 rfl (by decide) g.1 g.2 (fun q => ?_) (fun q => ?_)
    · have H := bq_t q H
      exact gw_L (hκ _ H) ((lvA_c rfl (lvA_c rfl lvA_n)))
    · have H := bq_f q H
      refine gw_iload_n dX0_solveBasis_33 rfl rfl ?_
      refine gw_iload dX0_solveBasis_34 rfl rfl ?_
      refine gw_ishrZ dX0_solveBasis_36 rfl ?_
      refine gw_iconstZ dX0_solveBasis_37 rfl ?_
      refine gw_iandZ dX0_solveBasis_38 rfl ?_
      refine gw_iconstZ dX0_solveBasis_39 rfl ?_
      obtain ⟨g, H⟩ := gd_i H
      refine gw_icmp_neZ (tgt := 83) dX0_solveBasis_40 rfl (by decide) g (by decide) (fun q => ?_) (fun q => ?_)
      · have H := bq_f q H
        refine gw_iincZ dX0_solveBasis_83 rfl rfl (by decide) ?_
        refine gw_goto (tgt := 19) dX0_solveBasis_86 (by decide) ?_
        exact gw_L (ih _ _ _ H) ((lvA_c rfl (lvA_c rfl (lvA_c rfl (lvA_c rfl (lvA_c rfl lvA_n))))))
      · have H := bq_t q H
        refine gw_iconstZ dX0_solveBasis_43 rfl ?_
        refine gw_istore dX0_solveBasis_44 rfl (by decide) ?_
        refine gw_L (l_X0_solveBasis_46 h0 h1 hK (fun c1 H => ?_) LF _ _ H) ((lvA_c rfl (lvA_c rfl (lvA_c rfl (lvA_c rfl (lvA_c rfl (lvA_c rfl lvA_n)))))))
        refine gw_iincZ dX0_solveBasis_80 rfl rfl (by decide) ?_
        refine gw_iincZ dX0_solveBasis_83 rfl rfl (by decide) ?_
        refine gw_goto (tgt := 19) dX0_solveBasis_86 (by decide) ?_
        exact gw_L (ih _ _ _ H) ((lvA_c rfl (lvA_c rfl (lvA_c rfl (lvA_c rfl (lvA_c rfl lvA_n))))))
set_option maxRecDepth 100000 in
set_option maxHeartbeats 4000000 in
theorem l_X0_solveBasis_92 {Φ : gwC} {hb : gwHp} {M : Nat} {sh : Nat → Option gSh} {th : Nat} {p1 : Nat} {κ : W0 → Option (Int × W0)} {r : Int × W0} {K : Option Value → gwHp → Prop} (h0 : sE sh th) (h1 : sP sh p1) (hK : K (some (vI r.1)) (hp Φ hb M sh r.2)) (hκ : ∀ (c : W0), κ c = some r → G Φ mX0_solveBasis (gw_M Φ mX0_solveBasis K) none 0 0 127 [(0, .ref (M + th))] [] (hp Φ hb M sh c)) : ∀ (n : Nat) (l4 : Int) (c : W0), f_X0_solveBasis_92 th p1 κ n l4 c = some r → G Φ mX0_solveBasis (gw_M Φ mX0_solveBasis K) none 0 0 92 [(0, .ref (M + th)), (1, .ref (M + p1)), (4, vI l4)] [] (hp Φ hb M sh c) := by
  intro n
  induction n with
  | zero => intro l4 c H; cases H
  | succ n ih =>
    intro l4 c H
    have H : b_X0_solveBasis_92 th p1 κ (f_X0_solveBasis_92 th p1 κ n) l4 c = some r := H
    unfold b_X0_solveBasis_92 at H
    refine gw_iload dX0_solveBasis_92 rfl rfl ?_
    refine gw_aload_n dX0_solveBasis_94 rfl rfl ?_
    refine gs_getI cl0 0 0 dX0_solveBasis_95 rfl kw_188 (by decide) (h0.1) rfl rfl ?_
    obtain ⟨g, H⟩ := gd_i H
    refine gw_icmp_geZ (tgt := 127) dX0_solveBasis_98 rfl (by decide) g.1 g.2 (fun q => ?_) (fun q => ?_)
    · have H := bq_t q H
      exact gw_L (hκ _ H) ((lvA_c rfl lvA_n))
    · have H := bq_f q H
      refine gw_aload_n dX0_solveBasis_101 rfl rfl ?_
      refine gs_getR cl0 2 dX0_solveBasis_102 rfl kw_193 (by decide) (h0.1) rfl ?_
      refine gw_iload dX0_solveBasis_105 rfl rfl ?_
      refine gw_aload_n dX0_solveBasis_107 rfl rfl ?_
      refine gs_getI cl0 0 0 dX0_solveBasis_108 rfl kw_188 (by decide) (h0.1) rfl rfl ?_
      refine gw_aload_n dX0_solveBasis_111 rfl rfl ?_
      refine gw_iload dX0_solveBasis_112 rfl rfl ?_
      obtain ⟨v1, e_v1, H⟩ := cv_i H
      refine gw_V1 okX2_bound dX0_solveBasis_114 kw_857 kw_445 kw_446 (hp_o (h1.1)) rfl ⟨by decide, by decide⟩ ⟨by decide, by decide⟩ (Nat.le_of_ble_eq_true rfl) (w_X2_bound (h1) e_v1 ?_)
      obtain ⟨g, H⟩ := gd_i H
      refine gw_i2lZ dX0_solveBasis_117 rfl g ?_
      obtain ⟨g, H⟩ := gd_i H
      obtain ⟨c2, e_c2, H⟩ := sto_i H
      refine gw_V3 okX1_put dX0_solveBasis_118 kw_785 kw_420 kw_421 (hp_o (h0.2.1)) rfl ⟨by decide, by decide⟩ ⟨by decide, by decide⟩ (Nat.le_of_ble_eq_true rfl) (k_putE (h0.2) (by decide) (by omega) (by omega) (by omega) (by decide) e_c2 ?_)
      refine gw_iincZ dX0_solveBasis_121 rfl rfl (by decide) ?_
      refine gw_goto (tgt := 92) dX0_solveBasis_124 (by decide) ?_
      exact gw_L (ih _ _ H) ((lvA_c rfl (lvA_c rfl (lvA_c rfl lvA_n))))
set_option maxRecDepth 100000 in
set_option maxHeartbeats 4000000 in
theorem w_X0_solveBasis {Φ : gwC} {hb : gwHp} {M : Nat} {sh : Nat → Option gSh} {th : Nat} {p1 : Nat} {p2 : Int} {c : W0} {r : Int × W0} {K : Option Value → gwHp → Prop} (h0 : sE sh th) (h1 : sP sh p1) (H : f_X0_solveBasis th p1 p2 c = some r) (hK : K (some (vI r.1)) (hp Φ hb M sh r.2)) : gw_Con Φ mX0_solveBasis none [.ref (M + th), .ref (M + p1), vI p2] (hp Φ hb M sh c) K := by
  unfold f_X0_solveBasis at H
  refine gw_start okX0_solveBasis (Nat.le_of_ble_eq_true rfl) ?_
  refine gw_aload_n dX0_solveBasis_0 rfl rfl ?_
  refine gw_ifnonnull (tgt := 6) dX0_solveBasis_1 (by decide) ?_
  refine gw_aload_n dX0_solveBasis_6 rfl rfl ?_
  refine gw_aload_n dX0_solveBasis_7 rfl rfl ?_
  refine gs_getIN cl2 1 1 dX0_solveBasis_8 rfl kw_80 (by decide) (h1.1) rfl rfl ?_
  obtain ⟨c1, e_c1, H⟩ := sto_i H
  refine gs_putIE cl0 0 0 dX0_solveBasis_11 rfl kw_188 (by decide) rfl rfl (h0.1) rfl rfl e_c1 ?_
  refine gw_iconstZ dX0_solveBasis_14 rfl ?_
  refine gw_istore_n dX0_solveBasis_15 rfl (by decide) ?_
  refine gw_iconstZ dX0_solveBasis_16 rfl ?_
  refine gw_istore dX0_solveBasis_17 rfl (by decide) ?_
  refine gw_L (l_X0_solveBasis_19 h0 h1 hK (fun c2 H => ?_) LF _ _ _ H) ((lvA_c rfl (lvA_c rfl (lvA_c rfl (lvA_c rfl (lvA_c rfl lvA_n))))))
  refine gw_iconstZ dX0_solveBasis_89 rfl ?_
  refine gw_istore dX0_solveBasis_90 rfl (by decide) ?_
  refine gw_L (l_X0_solveBasis_92 h0 h1 hK (fun c3 H => ?_) LF _ _ H) ((lvA_c rfl (lvA_c rfl (lvA_c rfl lvA_n))))
  refine gw_aload_n dX0_solveBasis_127 rfl rfl ?_
  obtain ⟨v4, c5, e_c5, H⟩ := cl_i H
  refine gw_V0 okX0_eliminate dX0_solveBasis_128 kw_787 kw_789 kw_9 (hp_o (h0.1)) rfl ⟨by decide, by decide⟩ ⟨by decide, by decide⟩ (Nat.le_of_ble_eq_true rfl) (w_X0_eliminate (h0) e_c5 ?_)
  obtain ⟨g, H⟩ := gd_i H
  cases H
  exact gw_zret (gs_nz g) dX0_solveBasis_131 rfl (by decide) (by decide) hK
set_option maxRecDepth 100000 in
set_option maxHeartbeats 4000000 in
theorem w_X6_copy {Φ : gwC} {hb : gwHp} {M : Nat} {sh : Nat → Option gSh} {th : Nat} {p1 : Nat} {c : W0} {r : Int × W0} {K : Option Value → gwHp → Prop} (h0 : sT sh th) (h1 : sT sh p1) (H : f_X6_copy th p1 c = some r) (hK : K none (hp Φ hb M sh r.2)) : gw_Con Φ mX6_copy none [.ref (M + th), .ref (M + p1)] (hp Φ hb M sh c) K := by
  unfold f_X6_copy at H
  refine gw_start okX6_copy (Nat.le_of_ble_eq_true rfl) ?_
  refine gw_aload_n dX6_copy_0 rfl rfl ?_
  refine gw_ifnull dX6_copy_1 rfl ?_
  refine gw_aload_n dX6_copy_4 rfl rfl ?_
  refine gw_aload_n dX6_copy_5 rfl rfl ?_
  refine gs_getI cl6 0 0 dX6_copy_6 rfl kw_100 (by decide) (h1.1) rfl rfl ?_
  obtain ⟨c1, e_c1, H⟩ := sto_i H
  refine gs_putIE cl6 0 0 dX6_copy_9 rfl kw_100 (by decide) rfl rfl (h0.1) rfl rfl e_c1 ?_
  refine gw_aload_n dX6_copy_12 rfl rfl ?_
  refine gw_aload_n dX6_copy_13 rfl rfl ?_
  refine gs_getI cl6 1 1 dX6_copy_14 rfl kw_102 (by decide) (h1.1) rfl rfl ?_
  obtain ⟨c2, e_c2, H⟩ := sto_i H
  refine gs_putIE cl6 1 1 dX6_copy_17 rfl kw_102 (by decide) rfl rfl (h0.1) rfl rfl e_c2 ?_
  refine gw_aload_n dX6_copy_20 rfl rfl ?_
  refine gw_aload_n dX6_copy_21 rfl rfl ?_
  refine gs_getL cl6 2 2 dX6_copy_22 rfl kw_104 (by decide) (h1.1) rfl rfl ?_
  obtain ⟨c3, e_c3, H⟩ := sto_i H
  refine gs_putLE cl6 2 2 dX6_copy_25 rfl kw_104 (by decide) rfl rfl (h0.1) rfl rfl e_c3 ?_
  refine gw_aload_n dX6_copy_28 rfl rfl ?_
  refine gs_getR cl6 3 dX6_copy_29 rfl kw_106 (by decide) (h0.1) rfl ?_
  refine gw_aload_n dX6_copy_32 rfl rfl ?_
  refine gs_getR cl6 3 dX6_copy_33 rfl kw_106 (by decide) (h1.1) rfl ?_
  obtain ⟨c4, e_c4, H⟩ := stw_i H
  refine gw_V1 okX1_copy dX6_copy_36 kw_358 kw_348 kw_349 (hp_o (h0.2.1.1)) rfl ⟨by decide, by decide⟩ ⟨by decide, by decide⟩ (Nat.le_of_ble_eq_true rfl) (k_GcopyE (h0.2.1) (h1.2.1) (by decide) e_c4 ?_)
  refine gw_aload_n dX6_copy_39 rfl rfl ?_
  refine gs_getR cl6 4 dX6_copy_40 rfl kw_107 (by decide) (h0.1) rfl ?_
  refine gw_aload_n dX6_copy_43 rfl rfl ?_
  refine gs_getR cl6 4 dX6_copy_44 rfl kw_107 (by decide) (h1.1) rfl ?_
  obtain ⟨c5, e_c5, H⟩ := stw_i H
  refine gw_V1 okX1_copy dX6_copy_47 kw_358 kw_348 kw_349 (hp_o (h0.2.2.1)) rfl ⟨by decide, by decide⟩ ⟨by decide, by decide⟩ (Nat.le_of_ble_eq_true rfl) (k_GcopyE (h0.2.2) (h1.2.2) (by decide) e_c5 ?_)
  cases H
  exact gw_vret dX6_copy_50 rfl (by decide) (by decide) hK
set_option maxRecDepth 100000 in
set_option maxHeartbeats 4000000 in
theorem w_X4_copy {Φ : gwC} {hb : gwHp} {M : Nat} {sh : Nat → Option gSh} {th : Nat} {p1 : Nat} {c : W0} {r : Int × W0} {K : Option Value → gwHp → Prop} (h0 : sS sh th) (h1 : sS sh p1) (H : f_X4_copy th p1 c = some r) (hK : K none (hp Φ hb M sh r.2)) : gw_Con Φ mX4_copy none [.ref (M + th), .ref (M + p1)] (hp Φ hb M sh c) K := by
  unfold f_X4_copy at H
  refine gw_start okX4_copy (Nat.le_of_ble_eq_true rfl) ?_
  refine gw_aload_n dX4_copy_0 rfl rfl ?_
  refine gw_ifnull dX4_copy_1 rfl ?_
  refine gw_aload_n dX4_copy_4 rfl rfl ?_
  refine gs_getR cl4 0 dX4_copy_5 rfl kw_119 (by decide) (h0.1) rfl ?_
  refine gw_aload_n dX4_copy_8 rfl rfl ?_
  refine gs_getR cl4 0 dX4_copy_9 rfl kw_119 (by decide) (h1.1) rfl ?_
  obtain ⟨v2, c1, e_c1, H⟩ := cl_i H
  refine gw_V1 okX2_copy dX4_copy_12 kw_343 kw_344 kw_345 (hp_o (h0.2.1.1)) rfl ⟨by decide, by decide⟩ ⟨by decide, by decide⟩ (Nat.le_of_ble_eq_true rfl) (w_X2_copy (h0.2.1) (h1.2.1) e_c1 ?_)
  refine gw_aload_n dX4_copy_15 rfl rfl ?_
  refine gs_getR cl4 1 dX4_copy_16 rfl kw_122 (by decide) (h0.1) rfl ?_
  refine gw_aload_n dX4_copy_19 rfl rfl ?_
  refine gs_getR cl4 1 dX4_copy_20 rfl kw_122 (by decide) (h1.1) rfl ?_
  obtain ⟨v4, c3, e_c3, H⟩ := cl_i H
  refine gw_V1 okX6_copy dX4_copy_23 kw_354 kw_355 kw_356 (hp_o (h0.2.2.1)) rfl ⟨by decide, by decide⟩ ⟨by decide, by decide⟩ (Nat.le_of_ble_eq_true rfl) (w_X6_copy (h0.2.2) (h1.2.2) e_c3 ?_)
  refine gw_aload_n dX4_copy_26 rfl rfl ?_
  refine gw_aload_n dX4_copy_27 rfl rfl ?_
  refine gs_getI cl4 2 2 dX4_copy_28 rfl kw_125 (by decide) (h1.1) rfl rfl ?_
  obtain ⟨c5, e_c5, H⟩ := sto_i H
  refine gs_putIE cl4 2 2 dX4_copy_31 rfl kw_125 (by decide) rfl rfl (h0.1) rfl rfl e_c5 ?_
  refine gw_aload_n dX4_copy_34 rfl rfl ?_
  refine gw_aload_n dX4_copy_35 rfl rfl ?_
  refine gs_getI cl4 3 3 dX4_copy_36 rfl kw_127 (by decide) (h1.1) rfl rfl ?_
  obtain ⟨c6, e_c6, H⟩ := sto_i H
  refine gs_putIE cl4 3 3 dX4_copy_39 rfl kw_127 (by decide) rfl rfl (h0.1) rfl rfl e_c6 ?_
  refine gw_aload_n dX4_copy_42 rfl rfl ?_
  refine gw_aload_n dX4_copy_43 rfl rfl ?_
  refine gs_getI cl4 4 4 dX4_copy_44 rfl kw_129 (by decide) (h1.1) rfl rfl ?_
  obtain ⟨c7, e_c7, H⟩ := sto_i H
  refine gs_putIE cl4 4 4 dX4_copy_47 rfl kw_129 (by decide) rfl rfl (h0.1) rfl rfl e_c7 ?_
  refine gw_aload_n dX4_copy_50 rfl rfl ?_
  refine gw_aload_n dX4_copy_51 rfl rfl ?_
  refine gs_getI cl4 5 5 dX4_copy_52 rfl kw_131 (by decide) (h1.1) rfl rfl ?_
  obtain ⟨c8, e_c8, H⟩ := sto_i H
  refine gs_putIE cl4 5 5 dX4_copy_55 rfl kw_131 (by decide) rfl rfl (h0.1) rfl rfl e_c8 ?_
  cases H
  exact gw_vret dX4_copy_58 rfl (by decide) (by decide) hK
end FW
