section FW
set_option maxRecDepth 100000 in
set_option maxHeartbeats 4000000 in
theorem w_X0_unknown {Φ : gwC} {hb : gwHp} {M : Nat} {sh : Nat → Option gSh} {th : Nat} {p1 : Int} {c : W0} {r : Int} {K : Option Value → gwHp → Prop} (h0 : sE sh th) (H : f_X0_unknown th p1 c = some r) (hK : K (some (vL r)) (hp Φ hb M sh c)) : gw_Con Φ mX0_unknown none [.ref (M + th), vI p1] (hp Φ hb M sh c) K := by
  unfold f_X0_unknown at H
  refine gw_start okX0_unknown (Nat.le_of_ble_eq_true rfl) ?_
  refine gw_aload_n dX0_unknown_0 rfl rfl ?_
  refine gs_getR cl0 2 dX0_unknown_1 rfl kw_287 (by decide) (h0.1) rfl ?_
  refine gw_iload_n dX0_unknown_4 rfl rfl ?_
  refine gw_aload_n dX0_unknown_5 rfl rfl ?_
  refine gs_getI cl0 0 0 dX0_unknown_6 rfl kw_282 (by decide) (h0.1) rfl rfl ?_
  obtain ⟨g, H⟩ := gd_i H
  refine gw_V2 okX1_at dX0_unknown_9 kw_686 kw_415 kw_416 (hp_o (h0.2.1)) rfl ⟨by decide, by decide⟩ ⟨by decide, by decide⟩ (Nat.le_of_ble_eq_true rfl) (k_at (h0.2) (by decide) (by omega) (by omega) (by omega) (by decide) ?_)
  cases H
  exact gw_lret dX0_unknown_12 rfl (by decide) (by decide) hK
set_option maxRecDepth 100000 in
set_option maxHeartbeats 4000000 in
theorem w_X6_namedBy {Φ : gwC} {hb : gwHp} {M : Nat} {sh : Nat → Option gSh} {th : Nat} {p1 : Int} {c : W0} {r : Int} {K : Option Value → gwHp → Prop} (h0 : sT sh th) (H : f_X6_namedBy th p1 c = some r) (hK : K (some (vI r)) (hp Φ hb M sh c)) : gw_Con Φ mX6_namedBy none [.ref (M + th), vI p1] (hp Φ hb M sh c) K := by
  unfold f_X6_namedBy at H
  refine gw_start okX6_namedBy (Nat.le_of_ble_eq_true rfl) ?_
  refine gw_aload_n dX6_namedBy_0 rfl rfl ?_
  refine gs_getR cl6 3 dX6_namedBy_1 rfl kw_194 (by decide) (h0.1) rfl ?_
  refine gw_iconstZ dX6_namedBy_4 rfl ?_
  refine gw_iload_n dX6_namedBy_5 rfl rfl ?_
  obtain ⟨g, H⟩ := gd_i H
  refine gw_V2 okX1_at dX6_namedBy_6 kw_450 kw_415 kw_416 (hp_o (h0.2.1.1)) rfl ⟨by decide, by decide⟩ ⟨by decide, by decide⟩ (Nat.le_of_ble_eq_true rfl) (k_at0 (h0.2.1) (by decide) (by omega) (by omega) (by decide) ?_)
  refine gw_l2iZ dX6_namedBy_9 rfl ?_
  cases H
  exact gw_iret dX6_namedBy_10 rfl (by decide) (by decide) hK
set_option maxRecDepth 100000 in
set_option maxHeartbeats 4000000 in
theorem l_X0_rowWith_2 {Φ : gwC} {hb : gwHp} {M : Nat} {sh : Nat → Option gSh} {th : Nat} {p1 : Int} {c : W0} {κ : Option Int} {r : Int} {K : Option Value → gwHp → Prop} (h0 : sE sh th) (hK : K (some (vI r)) (hp Φ hb M sh c)) (hκ : κ  = some r → G Φ mX0_rowWith (gw_M Φ mX0_rowWith K) none 0 0 32 [] [] (hp Φ hb M sh c)) : ∀ (n : Nat) (l2 : Int), f_X0_rowWith_2 th p1 c κ n l2 = some r → G Φ mX0_rowWith (gw_M Φ mX0_rowWith K) none 0 0 2 [(0, .ref (M + th)), (1, vI p1), (2, vI l2)] [] (hp Φ hb M sh c) := by
  intro n
  induction n with
  | zero => intro l2 H; cases H
  | succ n ih =>
    intro l2 H
    have H : b_X0_rowWith_2 th p1 c κ (f_X0_rowWith_2 th p1 c κ n) l2 = some r := H
    unfold b_X0_rowWith_2 at H
    refine gw_iload_n dX0_rowWith_2 rfl rfl ?_
    refine gw_aload_n dX0_rowWith_3 rfl rfl ?_
    refine gs_getI cl0 0 0 dX0_rowWith_4 rfl kw_282 (by decide) (h0.1) rfl rfl ?_
    obtain ⟨g, H⟩ := gd_i H
    refine gw_icmp_geZ (tgt := 32) dX0_rowWith_7 rfl (by decide) g.1 g.2 (fun q => ?_) (fun q => ?_)
    · have H := bq_t q H
      exact gw_L (hκ H) (lvA_n)
    · have H := bq_f q H
      refine gw_aload_n dX0_rowWith_10 rfl rfl ?_
      refine gs_getR cl0 2 dX0_rowWith_11 rfl kw_287 (by decide) (h0.1) rfl ?_
      refine gw_iload_n dX0_rowWith_14 rfl rfl ?_
      refine gw_iload_n dX0_rowWith_15 rfl rfl ?_
      obtain ⟨g, H⟩ := gd_i H
      refine gw_V2 okX1_at dX0_rowWith_16 kw_686 kw_415 kw_416 (hp_o (h0.2.1)) rfl ⟨by decide, by decide⟩ ⟨by decide, by decide⟩ (Nat.le_of_ble_eq_true rfl) (k_at (h0.2) (by decide) (by omega) (by omega) (by omega) (by decide) ?_)
      refine gw_lconst0Z dX0_rowWith_19 rfl ?_
      obtain ⟨g, H⟩ := gd_i H
      refine gw_lc_eqZ (tgt := 26) dX0_rowWith_20 rfl dX0_rowWith_21 rfl (by decide) g (by decide) (fun q => ?_) (fun q => ?_)
      · have H := bq_t q H
        refine gw_iincZ dX0_rowWith_26 rfl rfl (by decide) ?_
        refine gw_goto (tgt := 2) dX0_rowWith_29 (by decide) ?_
        exact gw_L (ih _ H) ((lvA_c rfl (lvA_c rfl (lvA_c rfl lvA_n))))
      · have H := bq_f q H
        refine gw_iload_n dX0_rowWith_24 rfl rfl ?_
        cases H
        exact gw_iret dX0_rowWith_25 rfl (by decide) (by decide) hK
set_option maxRecDepth 100000 in
set_option maxHeartbeats 4000000 in
theorem w_X0_rowWith {Φ : gwC} {hb : gwHp} {M : Nat} {sh : Nat → Option gSh} {th : Nat} {p1 : Int} {c : W0} {r : Int} {K : Option Value → gwHp → Prop} (h0 : sE sh th) (H : f_X0_rowWith th p1 c = some r) (hK : K (some (vI r)) (hp Φ hb M sh c)) : gw_Con Φ mX0_rowWith none [.ref (M + th), vI p1] (hp Φ hb M sh c) K := by
  unfold f_X0_rowWith at H
  refine gw_start okX0_rowWith (Nat.le_of_ble_eq_true rfl) ?_
  refine gw_iload_n dX0_rowWith_0 rfl rfl ?_
  refine gw_istore_n dX0_rowWith_1 rfl (by decide) ?_
  refine gw_L (l_X0_rowWith_2 h0 hK (fun H => ?_) LF _ H) ((lvA_c rfl (lvA_c rfl (lvA_c rfl lvA_n))))
  refine gw_iconstZ dX0_rowWith_32 rfl ?_
  cases H
  exact gw_iret dX0_rowWith_33 rfl (by decide) (by decide) hK
set_option maxRecDepth 100000 in
set_option maxHeartbeats 4000000 in
theorem l_X0_swap_2 {Φ : gwC} {hb : gwHp} {M : Nat} {sh : Nat → Option gSh} {th : Nat} {p1 : Int} {p2 : Int} {κ : W0 → Option (Int × W0)} {r : Int × W0} {K : Option Value → gwHp → Prop} (h0 : sE sh th) (hK : K none (hp Φ hb M sh r.2)) (hκ : ∀ (c : W0), κ c = some r → G Φ mX0_swap (gw_M Φ mX0_swap K) none 0 0 56 [] [] (hp Φ hb M sh c)) : ∀ (n : Nat) (l3 : Int) (c : W0), f_X0_swap_2 th p1 p2 κ n l3 c = some r → G Φ mX0_swap (gw_M Φ mX0_swap K) none 0 0 2 [(0, .ref (M + th)), (1, vI p1), (2, vI p2), (3, vI l3)] [] (hp Φ hb M sh c) := by
  intro n
  induction n with
  | zero => intro l3 c H; cases H
  | succ n ih =>
    intro l3 c H
    have H : b_X0_swap_2 th p1 p2 κ (f_X0_swap_2 th p1 p2 κ n) l3 c = some r := H
    unfold b_X0_swap_2 at H
    refine gw_iload_n dX0_swap_2 rfl rfl ?_
    refine gw_aload_n dX0_swap_3 rfl rfl ?_
    refine gs_getI cl0 0 0 dX0_swap_4 rfl kw_282 (by decide) (h0.1) rfl rfl ?_
    obtain ⟨g, H⟩ := gd_i H
    refine gw_icmp_gtZ (tgt := 56) dX0_swap_7 rfl (by decide) g.1 g.2 (fun q => ?_) (fun q => ?_)
    · have H := bq_t q H
      exact gw_L (hκ _ H) (lvA_n)
    · have H := bq_f q H
      refine gw_aload_n dX0_swap_10 rfl rfl ?_
      refine gs_getR cl0 2 dX0_swap_11 rfl kw_287 (by decide) (h0.1) rfl ?_
      refine gw_iload_n dX0_swap_14 rfl rfl ?_
      refine gw_iload_n dX0_swap_15 rfl rfl ?_
      obtain ⟨g, H⟩ := gd_i H
      refine gw_V2 okX1_at dX0_swap_16 kw_686 kw_415 kw_416 (hp_o (h0.2.1)) rfl ⟨by decide, by decide⟩ ⟨by decide, by decide⟩ (Nat.le_of_ble_eq_true rfl) (k_at (h0.2) (by decide) (by omega) (by omega) (by omega) (by decide) ?_)
      refine gw_lstore dX0_swap_19 rfl (by decide) ?_
      refine gw_aload_n dX0_swap_21 rfl rfl ?_
      refine gs_getR cl0 2 dX0_swap_22 rfl kw_287 (by decide) (h0.1) rfl ?_
      refine gw_iload_n dX0_swap_25 rfl rfl ?_
      refine gw_iload_n dX0_swap_26 rfl rfl ?_
      refine gw_aload_n dX0_swap_27 rfl rfl ?_
      refine gs_getR cl0 2 dX0_swap_28 rfl kw_287 (by decide) (h0.1) rfl ?_
      refine gw_iload_n dX0_swap_31 rfl rfl ?_
      refine gw_iload_n dX0_swap_32 rfl rfl ?_
      obtain ⟨g, H⟩ := gd_i H
      refine gw_V2 okX1_at dX0_swap_33 kw_686 kw_415 kw_416 (hp_o (h0.2.1)) rfl ⟨by decide, by decide⟩ ⟨by decide, by decide⟩ (Nat.le_of_ble_eq_true rfl) (k_at (h0.2) (by decide) (by omega) (by omega) (by omega) (by decide) ?_)
      obtain ⟨g, H⟩ := gd_i H
      obtain ⟨c1, e_c1, H⟩ := sto_i H
      refine gw_V3 okX1_put dX0_swap_36 kw_676 kw_403 kw_404 (hp_o (h0.2.1)) rfl ⟨by decide, by decide⟩ ⟨by decide, by decide⟩ (Nat.le_of_ble_eq_true rfl) (k_putE (h0.2) (by decide) (by omega) (by omega) (by omega) (by decide) e_c1 ?_)
      refine gw_aload_n dX0_swap_39 rfl rfl ?_
      refine gs_getR cl0 2 dX0_swap_40 rfl kw_287 (by decide) (h0.1) rfl ?_
      refine gw_iload_n dX0_swap_43 rfl rfl ?_
      refine gw_iload_n dX0_swap_44 rfl rfl ?_
      refine gw_lload dX0_swap_45 rfl rfl ?_
      obtain ⟨g, H⟩ := gd_i H
      obtain ⟨c2, e_c2, H⟩ := sto_i H
      refine gw_V3 okX1_put dX0_swap_47 kw_676 kw_403 kw_404 (hp_o (h0.2.1)) rfl ⟨by decide, by decide⟩ ⟨by decide, by decide⟩ (Nat.le_of_ble_eq_true rfl) (k_putE (h0.2) (by decide) (by omega) (by omega) (by omega) (by decide) e_c2 ?_)
      refine gw_iincZ dX0_swap_50 rfl rfl (by decide) ?_
      refine gw_goto (tgt := 2) dX0_swap_53 (by decide) ?_
      exact gw_L (ih _ _ H) ((lvA_c rfl (lvA_c rfl (lvA_c rfl (lvA_c rfl lvA_n)))))
set_option maxRecDepth 100000 in
set_option maxHeartbeats 4000000 in
theorem w_X0_swap {Φ : gwC} {hb : gwHp} {M : Nat} {sh : Nat → Option gSh} {th : Nat} {p1 : Int} {p2 : Int} {c : W0} {r : Int × W0} {K : Option Value → gwHp → Prop} (h0 : sE sh th) (H : f_X0_swap th p1 p2 c = some r) (hK : K none (hp Φ hb M sh r.2)) : gw_Con Φ mX0_swap none [.ref (M + th), vI p1, vI p2] (hp Φ hb M sh c) K := by
  unfold f_X0_swap at H
  refine gw_start okX0_swap (Nat.le_of_ble_eq_true rfl) ?_
  refine gw_iconstZ dX0_swap_0 rfl ?_
  refine gw_istore_n dX0_swap_1 rfl (by decide) ?_
  refine gw_L (l_X0_swap_2 h0 hK (fun c1 H => ?_) LF _ _ H) ((lvA_c rfl (lvA_c rfl (lvA_c rfl (lvA_c rfl lvA_n)))))
  cases H
  exact gw_vret dX0_swap_56 rfl (by decide) (by decide) hK
set_option maxRecDepth 100000 in
set_option maxHeartbeats 4000000 in
theorem l_X0_eliminate_35 {Φ : gwC} {hb : gwHp} {M : Nat} {sh : Nat → Option gSh} {th : Nat} {l1 : Int} {κ : W0 → Option (Int × W0)} {r : Int × W0} {K : Option Value → gwHp → Prop} (h0 : sE sh th) (hK : K (some (vI r.1)) (hp Φ hb M sh r.2)) (hκ : ∀ (c : W0), κ c = some r → G Φ mX0_eliminate (gw_M Φ mX0_eliminate K) none 0 0 72 [(0, .ref (M + th)), (1, vI l1)] [] (hp Φ hb M sh c)) : ∀ (n : Nat) (l3 : Int) (c : W0), f_X0_eliminate_35 th l1 κ n l3 c = some r → G Φ mX0_eliminate (gw_M Φ mX0_eliminate K) none 0 0 35 [(0, .ref (M + th)), (1, vI l1), (3, vI l3)] [] (hp Φ hb M sh c) := by
  intro n
  induction n with
  | zero => intro l3 c H; cases H
  | succ n ih =>
    intro l3 c H
    have H : b_X0_eliminate_35 th l1 κ (f_X0_eliminate_35 th l1 κ n) l3 c = some r := H
    unfold b_X0_eliminate_35 at H
    refine gw_iload_n dX0_eliminate_35 rfl rfl ?_
    refine gw_aload_n dX0_eliminate_36 rfl rfl ?_
    refine gs_getI cl0 0 0 dX0_eliminate_37 rfl kw_282 (by decide) (h0.1) rfl rfl ?_
    obtain ⟨g, H⟩ := gd_i H
    refine gw_icmp_geZ (tgt := 72) dX0_eliminate_40 rfl (by decide) g.1 g.2 (fun q => ?_) (fun q => ?_)
    · have H := bq_t q H
      exact gw_L (hκ _ H) ((lvA_c rfl (lvA_c rfl lvA_n)))
    · have H := bq_f q H
      refine gw_iload_n dX0_eliminate_43 rfl rfl ?_
      refine gw_iload_n dX0_eliminate_44 rfl rfl ?_
      obtain ⟨g, H⟩ := gd_i H
      refine gw_icmp_eqZ (tgt := 66) dX0_eliminate_45 rfl (by decide) g.1 g.2 (fun q => ?_) (fun q => ?_)
      · have H := bq_t q H
        refine gw_iincZ dX0_eliminate_66 rfl rfl (by decide) ?_
        refine gw_goto (tgt := 35) dX0_eliminate_69 (by decide) ?_
        exact gw_L (ih _ _ H) ((lvA_c rfl (lvA_c rfl (lvA_c rfl lvA_n))))
      · have H := bq_f q H
        refine gw_aload_n dX0_eliminate_48 rfl rfl ?_
        refine gs_getR cl0 2 dX0_eliminate_49 rfl kw_287 (by decide) (h0.1) rfl ?_
        refine gw_iload_n dX0_eliminate_52 rfl rfl ?_
        refine gw_iload_n dX0_eliminate_53 rfl rfl ?_
        refine gw_iload_n dX0_eliminate_54 rfl rfl ?_
        refine gw_aload_n dX0_eliminate_55 rfl rfl ?_
        refine gs_getI cl0 0 0 dX0_eliminate_56 rfl kw_282 (by decide) (h0.1) rfl rfl ?_
        refine gw_aload_n dX0_eliminate_59 rfl rfl ?_
        refine gs_getL cl0 1 1 dX0_eliminate_60 rfl kw_284 (by decide) (h0.1) rfl rfl ?_
        obtain ⟨g, H⟩ := gd_i H
        obtain ⟨c1, e_c1, H⟩ := stw_i H
        refine gw_V5 okX1_clear dX0_eliminate_63 kw_691 kw_486 kw_487 (hp_o (h0.2.1)) rfl ⟨by decide, by decide⟩ ⟨by decide, by decide⟩ (Nat.le_of_ble_eq_true rfl) (k_clearE (h0.2) (by decide) (by decide) (by decide) (by decide) g e_c1 ?_)
        refine gw_iincZ dX0_eliminate_66 rfl rfl (by decide) ?_
        refine gw_goto (tgt := 35) dX0_eliminate_69 (by decide) ?_
        exact gw_L (ih _ _ H) ((lvA_c rfl (lvA_c rfl (lvA_c rfl lvA_n))))
set_option maxRecDepth 100000 in
set_option maxHeartbeats 4000000 in
theorem l_X0_eliminate_7 {Φ : gwC} {hb : gwHp} {M : Nat} {sh : Nat → Option gSh} {th : Nat} {κ : W0 → Option (Int × W0)} {r : Int × W0} {K : Option Value → gwHp → Prop} (h0 : sE sh th) (hK : K (some (vI r.1)) (hp Φ hb M sh r.2)) (hκ : ∀ (c : W0), κ c = some r → G Φ mX0_eliminate (gw_M Φ mX0_eliminate K) none 0 0 91 [] [] (hp Φ hb M sh c)) : ∀ (n : Nat) (l1 : Int) (c : W0), f_X0_eliminate_7 th κ n l1 c = some r → G Φ mX0_eliminate (gw_M Φ mX0_eliminate K) none 0 0 7 [(0, .ref (M + th)), (1, vI l1)] [] (hp Φ hb M sh c) := by
  intro n
  induction n with
  | zero => intro l1 c H; cases H
  | succ n ih =>
    intro l1 c H
    have H : b_X0_eliminate_7 th κ (f_X0_eliminate_7 th κ n) l1 c = some r := H
    unfold b_X0_eliminate_7 at H
    refine gw_iload_n dX0_eliminate_7 rfl rfl ?_
    refine gw_aload_n dX0_eliminate_8 rfl rfl ?_
    refine gs_getI cl0 0 0 dX0_eliminate_9 rfl kw_282 (by decide) (h0.1) rfl rfl ?_
    obtain ⟨g, H⟩ := gd_i H
    refine gw_icmp_geZ (tgt := 91) dX0_eliminate_12 rfl (by decide) g.1 g.2 (fun q => ?_) (fun q => ?_)
    · have H := bq_t q H
      exact gw_L (hκ _ H) (lvA_n)
    · have H := bq_f q H
      refine gw_aload_n dX0_eliminate_15 rfl rfl ?_
      refine gw_iload_n dX0_eliminate_16 rfl rfl ?_
      obtain ⟨v1, e_v1, H⟩ := cv_i H
      refine gw_V1 okX0_rowWith dX0_eliminate_17 kw_682 kw_684 kw_10 (hp_o (h0.1)) rfl ⟨by decide, by decide⟩ ⟨by decide, by decide⟩ (Nat.le_of_ble_eq_true rfl) (w_X0_rowWith (h0) e_v1 ?_)
      refine gw_istore_n dX0_eliminate_20 rfl (by decide) ?_
      refine gw_iload_n dX0_eliminate_21 rfl rfl ?_
      obtain ⟨g, H⟩ := gd_i H
      refine gw_if_geZ (tgt := 27) dX0_eliminate_22 rfl (by decide) g (fun q => ?_) (fun q => ?_)
      · have H := bq_t q H
        refine gw_aload_n dX0_eliminate_27 rfl rfl ?_
        refine gw_iload_n dX0_eliminate_28 rfl rfl ?_
        refine gw_iload_n dX0_eliminate_29 rfl rfl ?_
        obtain ⟨v3, c2, e_c2, H⟩ := cl_i H
        refine gw_V2 okX0_swap dX0_eliminate_30 kw_687 kw_689 kw_11 (hp_o (h0.1)) rfl ⟨by decide, by decide⟩ ⟨by decide, by decide⟩ (Nat.le_of_ble_eq_true rfl) (w_X0_swap (h0) e_c2 ?_)
        refine gw_iconstZ dX0_eliminate_33 rfl ?_
        refine gw_istore_n dX0_eliminate_34 rfl (by decide) ?_
        refine gw_L (l_X0_eliminate_35 h0 hK (fun c4 H => ?_) LF _ _ H) ((lvA_c rfl (lvA_c rfl (lvA_c rfl lvA_n))))
        refine gw_aload_n dX0_eliminate_72 rfl rfl ?_
        refine gw_aload_n dX0_eliminate_73 rfl rfl ?_
        refine gs_getR cl0 2 dX0_eliminate_74 rfl kw_287 (by decide) (h0.1) rfl ?_
        refine gw_iload_n dX0_eliminate_77 rfl rfl ?_
        refine gw_iload_n dX0_eliminate_78 rfl rfl ?_
        obtain ⟨g, H⟩ := gd_i H
        refine gw_V2 okX1_at dX0_eliminate_79 kw_686 kw_415 kw_416 (hp_o (h0.2.1)) rfl ⟨by decide, by decide⟩ ⟨by decide, by decide⟩ (Nat.le_of_ble_eq_true rfl) (k_at (h0.2) (by decide) (by omega) (by omega) (by omega) (by decide) ?_)
        obtain ⟨c5, e_c5, H⟩ := sto_i H
        refine gs_putLE cl0 1 1 dX0_eliminate_82 rfl kw_284 (by decide) rfl rfl (h0.1) rfl rfl e_c5 ?_
        refine gw_iincZ dX0_eliminate_85 rfl rfl (by decide) ?_
        refine gw_goto (tgt := 7) dX0_eliminate_88 (by decide) ?_
        exact gw_L (ih _ _ H) ((lvA_c rfl (lvA_c rfl lvA_n)))
      · have H := bq_f q H
        refine gw_iconstZ dX0_eliminate_25 rfl ?_
        cases H
        exact gw_zret rfl dX0_eliminate_26 rfl (by decide) (by decide) hK
set_option maxRecDepth 100000 in
set_option maxHeartbeats 4000000 in
theorem w_X0_eliminate {Φ : gwC} {hb : gwHp} {M : Nat} {sh : Nat → Option gSh} {th : Nat} {c : W0} {r : Int × W0} {K : Option Value → gwHp → Prop} (h0 : sE sh th) (H : f_X0_eliminate th c = some r) (hK : K (some (vI r.1)) (hp Φ hb M sh r.2)) : gw_Con Φ mX0_eliminate none [.ref (M + th)] (hp Φ hb M sh c) K := by
  unfold f_X0_eliminate at H
  refine gw_start okX0_eliminate (Nat.le_of_ble_eq_true rfl) ?_
  refine gw_aload_n dX0_eliminate_0 rfl rfl ?_
  refine gw_lconst1Z dX0_eliminate_1 rfl ?_
  obtain ⟨c1, e_c1, H⟩ := sto_i H
  refine gs_putLE cl0 1 1 dX0_eliminate_2 rfl kw_284 (by decide) rfl rfl (h0.1) rfl rfl e_c1 ?_
  refine gw_iconstZ dX0_eliminate_5 rfl ?_
  refine gw_istore_n dX0_eliminate_6 rfl (by decide) ?_
  refine gw_L (l_X0_eliminate_7 h0 hK (fun c2 H => ?_) LF _ _ H) ((lvA_c rfl (lvA_c rfl lvA_n)))
  refine gw_iconstZ dX0_eliminate_91 rfl ?_
  cases H
  exact gw_zret rfl dX0_eliminate_92 rfl (by decide) (by decide) hK
set_option maxRecDepth 100000 in
set_option maxHeartbeats 4000000 in
theorem l_X0_solveDuals_39 {Φ : gwC} {hb : gwHp} {M : Nat} {sh : Nat → Option gSh} {th : Nat} {p1 : Nat} {l2 : Int} {l3 : Int} {κ : W0 → Option (Int × W0)} {r : Int × W0} {K : Option Value → gwHp → Prop} (h0 : sE sh th) (h1 : sS sh p1) (hK : K (some (vI r.1)) (hp Φ hb M sh r.2)) (hκ : ∀ (c : W0), κ c = some r → G Φ mX0_solveDuals (gw_M Φ mX0_solveDuals K) none 0 0 75 [(0, .ref (M + th)), (1, .ref (M + p1)), (2, vI l2), (3, vI l3)] [] (hp Φ hb M sh c)) : ∀ (n : Nat) (l4 : Int) (c : W0), f_X0_solveDuals_39 th p1 l2 l3 κ n l4 c = some r → G Φ mX0_solveDuals (gw_M Φ mX0_solveDuals K) none 0 0 39 [(0, .ref (M + th)), (1, .ref (M + p1)), (2, vI l2), (3, vI l3), (4, vI l4)] [] (hp Φ hb M sh c) := by
  intro n
  induction n with
  | zero => intro l4 c H; cases H
  | succ n ih =>
    intro l4 c H
    have H : b_X0_solveDuals_39 th p1 l2 l3 κ (f_X0_solveDuals_39 th p1 l2 l3 κ n) l4 c = some r := H
    unfold b_X0_solveDuals_39 at H
    refine gw_iload dX0_solveDuals_39 rfl rfl ?_
    refine gw_aload_n dX0_solveDuals_41 rfl rfl ?_
    refine gs_getI cl0 0 0 dX0_solveDuals_42 rfl kw_282 (by decide) (h0.1) rfl rfl ?_
    obtain ⟨g, H⟩ := gd_i H
    refine gw_icmp_geZ (tgt := 75) dX0_solveDuals_45 rfl (by decide) g.1 g.2 (fun q => ?_) (fun q => ?_)
    · have H := bq_t q H
      exact gw_L (hκ _ H) ((lvA_c rfl (lvA_c rfl (lvA_c rfl (lvA_c rfl lvA_n)))))
    · have H := bq_f q H
      refine gw_aload_n dX0_solveDuals_48 rfl rfl ?_
      refine gs_getR cl0 2 dX0_solveDuals_49 rfl kw_287 (by decide) (h0.1) rfl ?_
      refine gw_iload_n dX0_solveDuals_52 rfl rfl ?_
      refine gw_iload dX0_solveDuals_53 rfl rfl ?_
      refine gw_aload_n dX0_solveDuals_55 rfl rfl ?_
      refine gs_getRN cl4 0 dX0_solveDuals_56 rfl kw_209 (by decide) (h1.1) rfl ?_
      refine gw_iload dX0_solveDuals_59 rfl rfl ?_
      refine gw_iload_n dX0_solveDuals_61 rfl rfl ?_
      obtain ⟨v1, e_v1, H⟩ := cv_i H
      refine gw_V2 okX2_firstFactor dX0_solveDuals_62 kw_675 kw_407 kw_408 (hp_o (h1.2.1.1)) rfl ⟨by decide, by decide⟩ ⟨by decide, by decide⟩ (Nat.le_of_ble_eq_true rfl) (w_X2_firstFactor (h1.2.1) e_v1 ?_)
      obtain ⟨g, H⟩ := gd_i H
      refine gw_i2lZ dX0_solveDuals_65 rfl g ?_
      obtain ⟨g, H⟩ := gd_i H
      obtain ⟨c2, e_c2, H⟩ := sto_i H
      refine gw_V3 okX1_put dX0_solveDuals_66 kw_676 kw_403 kw_404 (hp_o (h0.2.1)) rfl ⟨by decide, by decide⟩ ⟨by decide, by decide⟩ (Nat.le_of_ble_eq_true rfl) (k_putE (h0.2) (by decide) (by omega) (by omega) (by omega) (by decide) e_c2 ?_)
      refine gw_iincZ dX0_solveDuals_69 rfl rfl (by decide) ?_
      refine gw_goto (tgt := 39) dX0_solveDuals_72 (by decide) ?_
      exact gw_L (ih _ _ H) ((lvA_c rfl (lvA_c rfl (lvA_c rfl (lvA_c rfl (lvA_c rfl lvA_n))))))
set_option maxRecDepth 100000 in
set_option maxHeartbeats 4000000 in
theorem l_X0_solveDuals_19 {Φ : gwC} {hb : gwHp} {M : Nat} {sh : Nat → Option gSh} {th : Nat} {p1 : Nat} {κ : W0 → Option (Int × W0)} {r : Int × W0} {K : Option Value → gwHp → Prop} (h0 : sE sh th) (h1 : sS sh p1) (hK : K (some (vI r.1)) (hp Φ hb M sh r.2)) (hκ : ∀ (c : W0), κ c = some r → G Φ mX0_solveDuals (gw_M Φ mX0_solveDuals K) none 0 0 102 [(0, .ref (M + th))] [] (hp Φ hb M sh c)) : ∀ (n : Nat) (l2 : Int) (c : W0), f_X0_solveDuals_19 th p1 κ n l2 c = some r → G Φ mX0_solveDuals (gw_M Φ mX0_solveDuals K) none 0 0 19 [(0, .ref (M + th)), (1, .ref (M + p1)), (2, vI l2)] [] (hp Φ hb M sh c) := by
  intro n
  induction n with
  | zero => intro l2 c H; cases H
  | succ n ih =>
    intro l2 c H
    have H : b_X0_solveDuals_19 th p1 κ (f_X0_solveDuals_19 th p1 κ n) l2 c = some r := H
    unfold b_X0_solveDuals_19 at H
    refine gw_iload_n dX0_solveDuals_19 rfl rfl ?_
    refine gw_aload_n dX0_solveDuals_20 rfl rfl ?_
    refine gs_getI cl0 0 0 dX0_solveDuals_21 rfl kw_282 (by decide) (h0.1) rfl rfl ?_
    obtain ⟨g, H⟩ := gd_i H
    refine gw_icmp_geZ (tgt := 102) dX0_solveDuals_24 rfl (by decide) g.1 g.2 (fun q => ?_) (fun q => ?_)
    · have H := bq_t q H
      exact gw_L (hκ _ H) ((lvA_c rfl lvA_n))
    · have H := bq_f q H
      refine gw_aload_n dX0_solveDuals_27 rfl rfl ?_
      refine gs_getRN cl4 1 dX0_solveDuals_28 rfl kw_211 (by decide) (h1.1) rfl ?_
      refine gw_iload_n dX0_solveDuals_31 rfl rfl ?_
      obtain ⟨v1, e_v1, H⟩ := cv_i H
      refine gw_V1 okX6_namedBy dX0_solveDuals_32 kw_768 kw_769 kw_770 (hp_o (h1.2.2.1)) rfl ⟨by decide, by decide⟩ ⟨by decide, by decide⟩ (Nat.le_of_ble_eq_true rfl) (w_X6_namedBy (h1.2.2) e_v1 ?_)
      refine gw_istore_n dX0_solveDuals_35 rfl (by decide) ?_
      refine gw_iconstZ dX0_solveDuals_36 rfl ?_
      refine gw_istore dX0_solveDuals_37 rfl (by decide) ?_
      refine gw_L (l_X0_solveDuals_39 h0 h1 hK (fun c2 H => ?_) LF _ _ H) ((lvA_c rfl (lvA_c rfl (lvA_c rfl (lvA_c rfl (lvA_c rfl lvA_n))))))
      refine gw_aload_n dX0_solveDuals_75 rfl rfl ?_
      refine gs_getR cl0 2 dX0_solveDuals_76 rfl kw_287 (by decide) (h0.1) rfl ?_
      refine gw_iload_n dX0_solveDuals_79 rfl rfl ?_
      refine gw_aload_n dX0_solveDuals_80 rfl rfl ?_
      refine gs_getI cl0 0 0 dX0_solveDuals_81 rfl kw_282 (by decide) (h0.1) rfl rfl ?_
      refine gw_aload_n dX0_solveDuals_84 rfl rfl ?_
      refine gs_getRN cl4 0 dX0_solveDuals_85 rfl kw_209 (by decide) (h1.1) rfl ?_
      refine gw_iload_n dX0_solveDuals_88 rfl rfl ?_
      obtain ⟨v3, e_v3, H⟩ := cv_i H
      refine gw_V1 okX2_columnProfit dX0_solveDuals_89 kw_772 kw_423 kw_424 (hp_o (h1.2.1.1)) rfl ⟨by decide, by decide⟩ ⟨by decide, by decide⟩ (Nat.le_of_ble_eq_true rfl) (w_X2_columnProfit (h1.2.1) e_v3 ?_)
      obtain ⟨g, H⟩ := gd_i H
      refine gw_i2lZ dX0_solveDuals_92 rfl g ?_
      obtain ⟨g, H⟩ := gd_i H
      obtain ⟨c4, e_c4, H⟩ := sto_i H
      refine gw_V3 okX1_put dX0_solveDuals_93 kw_676 kw_403 kw_404 (hp_o (h0.2.1)) rfl ⟨by decide, by decide⟩ ⟨by decide, by decide⟩ (Nat.le_of_ble_eq_true rfl) (k_putE (h0.2) (by decide) (by omega) (by omega) (by omega) (by decide) e_c4 ?_)
      refine gw_iincZ dX0_solveDuals_96 rfl rfl (by decide) ?_
      refine gw_goto (tgt := 19) dX0_solveDuals_99 (by decide) ?_
      exact gw_L (ih _ _ H) ((lvA_c rfl (lvA_c rfl (lvA_c rfl lvA_n))))
set_option maxRecDepth 100000 in
set_option maxHeartbeats 4000000 in
theorem w_X0_solveDuals {Φ : gwC} {hb : gwHp} {M : Nat} {sh : Nat → Option gSh} {th : Nat} {p1 : Nat} {c : W0} {r : Int × W0} {K : Option Value → gwHp → Prop} (h0 : sE sh th) (h1 : sS sh p1) (H : f_X0_solveDuals th p1 c = some r) (hK : K (some (vI r.1)) (hp Φ hb M sh r.2)) : gw_Con Φ mX0_solveDuals none [.ref (M + th), .ref (M + p1)] (hp Φ hb M sh c) K := by
  unfold f_X0_solveDuals at H
  refine gw_start okX0_solveDuals (Nat.le_of_ble_eq_true rfl) ?_
  refine gw_aload_n dX0_solveDuals_0 rfl rfl ?_
  refine gw_ifnonnull (tgt := 6) dX0_solveDuals_1 (by decide) ?_
  refine gw_aload_n dX0_solveDuals_6 rfl rfl ?_
  refine gw_aload_n dX0_solveDuals_7 rfl rfl ?_
  refine gs_getRN cl4 0 dX0_solveDuals_8 rfl kw_209 (by decide) (h1.1) rfl ?_
  refine gs_getIN cl2 1 1 dX0_solveDuals_11 rfl kw_166 (by decide) (h1.2.1.1) rfl rfl ?_
  obtain ⟨c1, e_c1, H⟩ := sto_i H
  refine gs_putIE cl0 0 0 dX0_solveDuals_14 rfl kw_282 (by decide) rfl rfl (h0.1) rfl rfl e_c1 ?_
  refine gw_iconstZ dX0_solveDuals_17 rfl ?_
  refine gw_istore_n dX0_solveDuals_18 rfl (by decide) ?_
  refine gw_L (l_X0_solveDuals_19 h0 h1 hK (fun c2 H => ?_) LF _ _ H) ((lvA_c rfl (lvA_c rfl (lvA_c rfl lvA_n))))
  refine gw_aload_n dX0_solveDuals_102 rfl rfl ?_
  obtain ⟨v3, c4, e_c4, H⟩ := cl_i H
  refine gw_V0 okX0_eliminate dX0_solveDuals_103 kw_678 kw_680 kw_9 (hp_o (h0.1)) rfl ⟨by decide, by decide⟩ ⟨by decide, by decide⟩ (Nat.le_of_ble_eq_true rfl) (w_X0_eliminate (h0) e_c4 ?_)
  obtain ⟨g, H⟩ := gd_i H
  cases H
  exact gw_zret (gs_nz g) dX0_solveDuals_106 rfl (by decide) (by decide) hK
set_option maxRecDepth 100000 in
set_option maxHeartbeats 4000000 in
theorem l_X0_solveBasis_46 {Φ : gwC} {hb : gwHp} {M : Nat} {sh : Nat → Option gSh} {th : Nat} {p1 : Nat} {p2 : Int} {l3 : Int} {l4 : Int} {κ : W0 → Option (Int × W0)} {r : Int × W0} {K : Option Value → gwHp → Prop} (h0 : sE sh th) (h1 : sP sh p1) (hK : K (some (vI r.1)) (hp Φ hb M sh r.2)) (hκ : ∀ (c : W0), κ c = some r → G Φ mX0_solveBasis (gw_M Φ mX0_solveBasis K) none 0 0 80 [(0, .ref (M + th)), (1, .ref (M + p1)), (2, vI p2), (3, vI l3), (4, vI l4)] [] (hp Φ hb M sh c)) : ∀ (n : Nat) (l5 : Int) (c : W0), f_X0_solveBasis_46 th p1 p2 l3 l4 κ n l5 c = some r → G Φ mX0_solveBasis (gw_M Φ mX0_solveBasis K) none 0 0 46 [(0, .ref (M + th)), (1, .ref (M + p1)), (2, vI p2), (3, vI l3), (4, vI l4), (5, vI l5)] [] (hp Φ hb M sh c) := by
  intro n
  induction n with
  | zero => intro l5 c H; cases H
  | succ n ih =>
    intro l5 c H
    have H : b_X0_solveBasis_46 th p1 p2 l3 l4 κ (f_X0_solveBasis_46 th p1 p2 l3 l4 κ n) l5 c = some r := H
    unfold b_X0_solveBasis_46 at H
    refine gw_iload dX0_solveBasis_46 rfl rfl ?_
    refine gw_aload_n dX0_solveBasis_48 rfl rfl ?_
    refine gs_getI cl0 0 0 dX0_solveBasis_49 rfl kw_282 (by decide) (h0.1) rfl rfl ?_
    obtain ⟨g, H⟩ := gd_i H
    refine gw_icmp_geZ (tgt := 80) dX0_solveBasis_52 rfl (by decide) g.1 g.2 (fun q => ?_) (fun q => ?_)
    · have H := bq_t q H
      exact gw_L (hκ _ H) ((lvA_c rfl (lvA_c rfl (lvA_c rfl (lvA_c rfl (lvA_c rfl lvA_n))))))
    · have H := bq_f q H
      refine gw_aload_n dX0_solveBasis_55 rfl rfl ?_
      refine gs_getR cl0 2 dX0_solveBasis_56 rfl kw_287 (by decide) (h0.1) rfl ?_
      refine gw_iload dX0_solveBasis_59 rfl rfl ?_
      refine gw_iload_n dX0_solveBasis_61 rfl rfl ?_
      refine gw_aload_n dX0_solveBasis_62 rfl rfl ?_
      refine gw_iload dX0_solveBasis_63 rfl rfl ?_
      refine gw_iload dX0_solveBasis_65 rfl rfl ?_
      obtain ⟨v1, e_v1, H⟩ := cv_i H
      refine gw_V2 okX2_firstFactor dX0_solveBasis_67 kw_675 kw_407 kw_408 (hp_o (h1.1)) rfl ⟨by decide, by decide⟩ ⟨by decide, by decide⟩ (Nat.le_of_ble_eq_true rfl) (w_X2_firstFactor (h1) e_v1 ?_)
      obtain ⟨g, H⟩ := gd_i H
      refine gw_i2lZ dX0_solveBasis_70 rfl g ?_
      obtain ⟨g, H⟩ := gd_i H
      obtain ⟨c2, e_c2, H⟩ := sto_i H
      refine gw_V3 okX1_put dX0_solveBasis_71 kw_676 kw_403 kw_404 (hp_o (h0.2.1)) rfl ⟨by decide, by decide⟩ ⟨by decide, by decide⟩ (Nat.le_of_ble_eq_true rfl) (k_putE (h0.2) (by decide) (by omega) (by omega) (by omega) (by decide) e_c2 ?_)
      refine gw_iincZ dX0_solveBasis_74 rfl rfl (by decide) ?_
      refine gw_goto (tgt := 46) dX0_solveBasis_77 (by decide) ?_
      exact gw_L (ih _ _ H) ((lvA_c rfl (lvA_c rfl (lvA_c rfl (lvA_c rfl (lvA_c rfl (lvA_c rfl lvA_n)))))))
set_option maxRecDepth 100000 in
set_option maxHeartbeats 4000000 in
theorem l_X0_solveBasis_19 {Φ : gwC} {hb : gwHp} {M : Nat} {sh : Nat → Option gSh} {th : Nat} {p1 : Nat} {p2 : Int} {κ : W0 → Option (Int × W0)} {r : Int × W0} {K : Option Value → gwHp → Prop} (h0 : sE sh th) (h1 : sP sh p1) (hK : K (some (vI r.1)) (hp Φ hb M sh r.2)) (hκ : ∀ (c : W0), κ c = some r → G Φ mX0_solveBasis (gw_M Φ mX0_solveBasis K) none 0 0 89 [(0, .ref (M + th)), (1, .ref (M + p1))] [] (hp Φ hb M sh c)) : ∀ (n : Nat) (l3 : Int) (l4 : Int) (c : W0), f_X0_solveBasis_19 th p1 p2 κ n l3 l4 c = some r → G Φ mX0_solveBasis (gw_M Φ mX0_solveBasis K) none 0 0 19 [(0, .ref (M + th)), (1, .ref (M + p1)), (2, vI p2), (3, vI l3), (4, vI l4)] [] (hp Φ hb M sh c) := by
  intro n
  induction n with
  | zero => intro l3 l4 c H; cases H
  | succ n ih =>
    intro l3 l4 c H
    have H : b_X0_solveBasis_19 th p1 p2 κ (f_X0_solveBasis_19 th p1 p2 κ n) l3 l4 c = some r := H
    unfold b_X0_solveBasis_19 at H
    refine gw_iload dX0_solveBasis_19 rfl rfl ?_
    refine gw_aload_n dX0_solveBasis_21 rfl rfl ?_
    refine gs_getIN cl2 0 0 dX0_solveBasis_22 rfl kw_160 (by decide) (h1.1) rfl rfl ?_
    refine gw_aload_n dX0_solveBasis_25 rfl rfl ?_
    refine gs_getI cl0 0 0 dX0_solveBasis_26 rfl kw_282 (by decide) (h0.1) rfl rfl ?_
    refine gw_iaddZ dX0_solveBasis_29 rfl ?_
    obtain ⟨g, H⟩ := gd_i H
    refine gw_icmp_geZ (tgt := 89) dX0_solveBasis_30 rfl (by decide) g.1 g.2 (fun q => ?_) (fun q => ?_)
    · have H := bq_t q H
      exact gw_L (hκ _ H) ((lvA_c rfl (lvA_c rfl lvA_n)))
    · have H := bq_f q H
      refine gw_iload_n dX0_solveBasis_33 rfl rfl ?_
      refine gw_iload dX0_solveBasis_34 rfl rfl ?_
      refine gw_ishrZ dX0_solveBasis_36 rfl ?_
      refine gw_iconstZ dX0_solveBasis_37 rfl ?_
      refine gw_iandZ dX0_solveBasis_38 rfl ?_
      refine gw_iconstZ dX0_solveBasis_39 rfl ?_
      obtain ⟨g, H⟩ := gd_i H
      refine gw_icmp_neZ (tgt := 83) dX0_solveBasis_40 rfl (by decide) g (by decide) (fun q => ?_) (fun q => ?_)
      · have H := bq_f q H
        refine gw_iincZ dX0_solveBasis_83 rfl rfl (by decide) ?_
        refine gw_goto (tgt := 19) dX0_solveBasis_86 (by decide) ?_
        exact gw_L (ih _ _ _ H) ((lvA_c rfl (lvA_c rfl (lvA_c rfl (lvA_c rfl (lvA_c rfl lvA_n))))))
      · have H := bq_t q H
        refine gw_iconstZ dX0_solveBasis_43 rfl ?_
        refine gw_istore dX0_solveBasis_44 rfl (by decide) ?_
        refine gw_L (l_X0_solveBasis_46 h0 h1 hK (fun c1 H => ?_) LF _ _ H) ((lvA_c rfl (lvA_c rfl (lvA_c rfl (lvA_c rfl (lvA_c rfl (lvA_c rfl lvA_n)))))))
        refine gw_iincZ dX0_solveBasis_80 rfl rfl (by decide) ?_
        refine gw_iincZ dX0_solveBasis_83 rfl rfl (by decide) ?_
        refine gw_goto (tgt := 19) dX0_solveBasis_86 (by decide) ?_
        exact gw_L (ih _ _ _ H) ((lvA_c rfl (lvA_c rfl (lvA_c rfl (lvA_c rfl (lvA_c rfl lvA_n))))))
set_option maxRecDepth 100000 in
set_option maxHeartbeats 4000000 in
theorem l_X0_solveBasis_92 {Φ : gwC} {hb : gwHp} {M : Nat} {sh : Nat → Option gSh} {th : Nat} {p1 : Nat} {κ : W0 → Option (Int × W0)} {r : Int × W0} {K : Option Value → gwHp → Prop} (h0 : sE sh th) (h1 : sP sh p1) (hK : K (some (vI r.1)) (hp Φ hb M sh r.2)) (hκ : ∀ (c : W0), κ c = some r → G Φ mX0_solveBasis (gw_M Φ mX0_solveBasis K) none 0 0 127 [(0, .ref (M + th))] [] (hp Φ hb M sh c)) : ∀ (n : Nat) (l4 : Int) (c : W0), f_X0_solveBasis_92 th p1 κ n l4 c = some r → G Φ mX0_solveBasis (gw_M Φ mX0_solveBasis K) none 0 0 92 [(0, .ref (M + th)), (1, .ref (M + p1)), (4, vI l4)] [] (hp Φ hb M sh c) := by
  intro n
  induction n with
  | zero => intro l4 c H; cases H
  | succ n ih =>
    intro l4 c H
    have H : b_X0_solveBasis_92 th p1 κ (f_X0_solveBasis_92 th p1 κ n) l4 c = some r := H
    unfold b_X0_solveBasis_92 at H
    refine gw_iload dX0_solveBasis_92 rfl rfl ?_
    refine gw_aload_n dX0_solveBasis_94 rfl rfl ?_
    refine gs_getI cl0 0 0 dX0_solveBasis_95 rfl kw_282 (by decide) (h0.1) rfl rfl ?_
    obtain ⟨g, H⟩ := gd_i H
    refine gw_icmp_geZ (tgt := 127) dX0_solveBasis_98 rfl (by decide) g.1 g.2 (fun q => ?_) (fun q => ?_)
    · have H := bq_t q H
      exact gw_L (hκ _ H) ((lvA_c rfl lvA_n))
    · have H := bq_f q H
      refine gw_aload_n dX0_solveBasis_101 rfl rfl ?_
      refine gs_getR cl0 2 dX0_solveBasis_102 rfl kw_287 (by decide) (h0.1) rfl ?_
      refine gw_iload dX0_solveBasis_105 rfl rfl ?_
      refine gw_aload_n dX0_solveBasis_107 rfl rfl ?_
      refine gs_getI cl0 0 0 dX0_solveBasis_108 rfl kw_282 (by decide) (h0.1) rfl rfl ?_
      refine gw_aload_n dX0_solveBasis_111 rfl rfl ?_
      refine gw_iload dX0_solveBasis_112 rfl rfl ?_
      obtain ⟨v1, e_v1, H⟩ := cv_i H
      refine gw_V1 okX2_bound dX0_solveBasis_114 kw_677 kw_419 kw_420 (hp_o (h1.1)) rfl ⟨by decide, by decide⟩ ⟨by decide, by decide⟩ (Nat.le_of_ble_eq_true rfl) (w_X2_bound (h1) e_v1 ?_)
      obtain ⟨g, H⟩ := gd_i H
      refine gw_i2lZ dX0_solveBasis_117 rfl g ?_
      obtain ⟨g, H⟩ := gd_i H
      obtain ⟨c2, e_c2, H⟩ := sto_i H
      refine gw_V3 okX1_put dX0_solveBasis_118 kw_676 kw_403 kw_404 (hp_o (h0.2.1)) rfl ⟨by decide, by decide⟩ ⟨by decide, by decide⟩ (Nat.le_of_ble_eq_true rfl) (k_putE (h0.2) (by decide) (by omega) (by omega) (by omega) (by decide) e_c2 ?_)
      refine gw_iincZ dX0_solveBasis_121 rfl rfl (by decide) ?_
      refine gw_goto (tgt := 92) dX0_solveBasis_124 (by decide) ?_
      exact gw_L (ih _ _ H) ((lvA_c rfl (lvA_c rfl (lvA_c rfl lvA_n))))
set_option maxRecDepth 100000 in
set_option maxHeartbeats 4000000 in
theorem w_X0_solveBasis {Φ : gwC} {hb : gwHp} {M : Nat} {sh : Nat → Option gSh} {th : Nat} {p1 : Nat} {p2 : Int} {c : W0} {r : Int × W0} {K : Option Value → gwHp → Prop} (h0 : sE sh th) (h1 : sP sh p1) (H : f_X0_solveBasis th p1 p2 c = some r) (hK : K (some (vI r.1)) (hp Φ hb M sh r.2)) : gw_Con Φ mX0_solveBasis none [.ref (M + th), .ref (M + p1), vI p2] (hp Φ hb M sh c) K := by
  unfold f_X0_solveBasis at H
  refine gw_start okX0_solveBasis (Nat.le_of_ble_eq_true rfl) ?_
  refine gw_aload_n dX0_solveBasis_0 rfl rfl ?_
  refine gw_ifnonnull (tgt := 6) dX0_solveBasis_1 (by decide) ?_
  refine gw_aload_n dX0_solveBasis_6 rfl rfl ?_
  refine gw_aload_n dX0_solveBasis_7 rfl rfl ?_
  refine gs_getIN cl2 1 1 dX0_solveBasis_8 rfl kw_166 (by decide) (h1.1) rfl rfl ?_
  obtain ⟨c1, e_c1, H⟩ := sto_i H
  refine gs_putIE cl0 0 0 dX0_solveBasis_11 rfl kw_282 (by decide) rfl rfl (h0.1) rfl rfl e_c1 ?_
  refine gw_iconstZ dX0_solveBasis_14 rfl ?_
  refine gw_istore_n dX0_solveBasis_15 rfl (by decide) ?_
  refine gw_iconstZ dX0_solveBasis_16 rfl ?_
  refine gw_istore dX0_solveBasis_17 rfl (by decide) ?_
  refine gw_L (l_X0_solveBasis_19 h0 h1 hK (fun c2 H => ?_) LF _ _ _ H) ((lvA_c rfl (lvA_c rfl (lvA_c rfl (lvA_c rfl (lvA_c rfl lvA_n))))))
  refine gw_iconstZ dX0_solveBasis_89 rfl ?_
  refine gw_istore dX0_solveBasis_90 rfl (by decide) ?_
  refine gw_L (l_X0_solveBasis_92 h0 h1 hK (fun c3 H => ?_) LF _ _ H) ((lvA_c rfl (lvA_c rfl (lvA_c rfl lvA_n))))
  refine gw_aload_n dX0_solveBasis_127 rfl rfl ?_
  obtain ⟨v4, c5, e_c5, H⟩ := cl_i H
  refine gw_V0 okX0_eliminate dX0_solveBasis_128 kw_678 kw_680 kw_9 (hp_o (h0.1)) rfl ⟨by decide, by decide⟩ ⟨by decide, by decide⟩ (Nat.le_of_ble_eq_true rfl) (w_X0_eliminate (h0) e_c5 ?_)
  obtain ⟨g, H⟩ := gd_i H
  cases H
  exact gw_zret (gs_nz g) dX0_solveBasis_131 rfl (by decide) (by decide) hK
set_option maxRecDepth 100000 in
set_option maxHeartbeats 4000000 in
theorem w_X7_copy {Φ : gwC} {hb : gwHp} {M : Nat} {sh : Nat → Option gSh} {th : Nat} {p1 : Nat} {c : W0} {r : Int × W0} {K : Option Value → gwHp → Prop} (h0 : sX sh th) (h1 : sX sh p1) (H : f_X7_copy th p1 c = some r) (hK : K none (hp Φ hb M sh r.2)) : gw_Con Φ mX7_copy none [.ref (M + th), .ref (M + p1)] (hp Φ hb M sh c) K := by
  unfold f_X7_copy at H
  refine gw_start okX7_copy (Nat.le_of_ble_eq_true rfl) ?_
  refine gw_aload_n dX7_copy_0 rfl rfl ?_
  refine gw_ifnull dX7_copy_1 rfl ?_
  refine gw_aload_n dX7_copy_4 rfl rfl ?_
  refine gw_aload_n dX7_copy_5 rfl rfl ?_
  refine gs_getI cl7 0 0 dX7_copy_6 rfl kw_244 (by decide) (h1.1) rfl rfl ?_
  obtain ⟨c1, e_c1, H⟩ := sto_i H
  refine gs_putIE cl7 0 0 dX7_copy_9 rfl kw_244 (by decide) rfl rfl (h0.1) rfl rfl e_c1 ?_
  refine gw_aload_n dX7_copy_12 rfl rfl ?_
  refine gs_getR cl7 1 dX7_copy_13 rfl kw_246 (by decide) (h0.1) rfl ?_
  refine gw_aload_n dX7_copy_16 rfl rfl ?_
  refine gs_getR cl7 1 dX7_copy_17 rfl kw_246 (by decide) (h1.1) rfl ?_
  obtain ⟨c2, e_c2, H⟩ := stw_i H
  refine gw_V1 okX1_copy dX7_copy_20 kw_511 kw_383 kw_384 (hp_o (h0.2.1)) rfl ⟨by decide, by decide⟩ ⟨by decide, by decide⟩ (Nat.le_of_ble_eq_true rfl) (k_GcopyE (h0.2) (h1.2) (by decide) e_c2 ?_)
  cases H
  exact gw_vret dX7_copy_23 rfl (by decide) (by decide) hK
set_option maxRecDepth 100000 in
set_option maxHeartbeats 4000000 in
theorem w_X7_codeAt {Φ : gwC} {hb : gwHp} {M : Nat} {sh : Nat → Option gSh} {th : Nat} {p1 : Int} {c : W0} {r : Int} {K : Option Value → gwHp → Prop} (h0 : sX sh th) (H : f_X7_codeAt th p1 c = some r) (hK : K (some (vI r)) (hp Φ hb M sh c)) : gw_Con Φ mX7_codeAt none [.ref (M + th), vI p1] (hp Φ hb M sh c) K := by
  unfold f_X7_codeAt at H
  refine gw_start okX7_codeAt (Nat.le_of_ble_eq_true rfl) ?_
  refine gw_aload_n dX7_codeAt_0 rfl rfl ?_
  refine gs_getR cl7 1 dX7_codeAt_1 rfl kw_246 (by decide) (h0.1) rfl ?_
  refine gw_iconstZ dX7_codeAt_4 rfl ?_
  refine gw_iload_n dX7_codeAt_5 rfl rfl ?_
  obtain ⟨g, H⟩ := gd_i H
  refine gw_V2 okX1_at dX7_codeAt_6 kw_520 kw_415 kw_416 (hp_o (h0.2.1)) rfl ⟨by decide, by decide⟩ ⟨by decide, by decide⟩ (Nat.le_of_ble_eq_true rfl) (k_at0 (h0.2) (by decide) (by omega) (by omega) (by decide) ?_)
  refine gw_l2iZ dX7_codeAt_9 rfl ?_
  cases H
  exact gw_iret dX7_codeAt_10 rfl (by decide) (by decide) hK
set_option maxRecDepth 100000 in
set_option maxHeartbeats 4000000 in
theorem w_X3_take {Φ : gwC} {hb : gwHp} {M : Nat} {sh : Nat → Option gSh} {th : Nat} {p1 : Int} {c : W0} {r : Int × W0} {K : Option Value → gwHp → Prop} (h0 : sR sh th) (H : f_X3_take th p1 c = some r) (hK : K (some (vI r.1)) (hp Φ hb M sh r.2)) : gw_Con Φ mX3_take none [.ref (M + th), vI p1] (hp Φ hb M sh c) K := by
  unfold f_X3_take at H
  refine gw_start okX3_take (Nat.le_of_ble_eq_true rfl) ?_
  refine gw_aload_n dX3_take_0 rfl rfl ?_
  refine gs_getI cl3 2 2 dX3_take_1 rfl kw_265 (by decide) (h0.1) rfl rfl ?_
  refine gw_aload_n dX3_take_4 rfl rfl ?_
  refine gs_getR cl3 0 dX3_take_5 rfl kw_262 (by decide) (h0.1) rfl ?_
  refine gs_getIN cl7 0 0 dX3_take_8 rfl kw_243 (by decide) (h0.2.1.1) rfl rfl ?_
  obtain ⟨g, H⟩ := gd_i H
  refine gw_icmp_geZ (tgt := 29) dX3_take_11 rfl (by decide) g.1 g.2 (fun q => ?_) (fun q => ?_)
  · have H := bq_t q H
    refine gw_iconstZ dX3_take_29 rfl ?_
    cases H
    exact gw_zret rfl dX3_take_30 rfl (by decide) (by decide) hK
  · have H := bq_f q H
    refine gw_aload_n dX3_take_14 rfl rfl ?_
    refine gs_getR cl3 0 dX3_take_15 rfl kw_262 (by decide) (h0.1) rfl ?_
    refine gw_aload_n dX3_take_18 rfl rfl ?_
    refine gs_getI cl3 2 2 dX3_take_19 rfl kw_265 (by decide) (h0.1) rfl rfl ?_
    obtain ⟨v1, e_v1, H⟩ := cv_i H
    refine gw_V1 okX7_codeAt dX3_take_22 kw_516 kw_517 kw_518 (hp_o (h0.2.1.1)) rfl ⟨by decide, by decide⟩ ⟨by decide, by decide⟩ (Nat.le_of_ble_eq_true rfl) (w_X7_codeAt (h0.2.1) e_v1 ?_)
    refine gw_iload_n dX3_take_25 rfl rfl ?_
    obtain ⟨g, H⟩ := gd_i H
    refine gw_icmp_eqZ (tgt := 31) dX3_take_26 rfl (by decide) g.1 g.2 (fun q => ?_) (fun q => ?_)
    · have H := bq_t q H
      refine gw_aload_n dX3_take_31 rfl rfl ?_
      refine gw_dup dX3_take_32 rfl rfl ?_
      refine gs_getI cl3 2 2 dX3_take_33 rfl kw_265 (by decide) (h0.1) rfl rfl ?_
      refine gw_iconstZ dX3_take_36 rfl ?_
      refine gw_iaddZ dX3_take_37 rfl ?_
      obtain ⟨c2, e_c2, H⟩ := sto_i H
      refine gs_putIE cl3 2 2 dX3_take_38 rfl kw_265 (by decide) rfl rfl (h0.1) rfl rfl e_c2 ?_
      refine gw_iconstZ dX3_take_41 rfl ?_
      cases H
      exact gw_zret rfl dX3_take_42 rfl (by decide) (by decide) hK
    · have H := bq_f q H
      refine gw_iconstZ dX3_take_29 rfl ?_
      cases H
      exact gw_zret rfl dX3_take_30 rfl (by decide) (by decide) hK
set_option maxRecDepth 100000 in
set_option maxHeartbeats 4000000 in
theorem w_X3_nextIsDigit {Φ : gwC} {hb : gwHp} {M : Nat} {sh : Nat → Option gSh} {th : Nat} {p1 : Int} {p2 : Int} {c : W0} {r : Int} {K : Option Value → gwHp → Prop} (h0 : sR sh th) (H : f_X3_nextIsDigit th p1 p2 c = some r) (hK : K (some (vI r)) (hp Φ hb M sh c)) : gw_Con Φ mX3_nextIsDigit none [.ref (M + th), vI p1, vI p2] (hp Φ hb M sh c) K := by
  unfold f_X3_nextIsDigit at H
  refine gw_start okX3_nextIsDigit (Nat.le_of_ble_eq_true rfl) ?_
  refine gw_aload_n dX3_nextIsDigit_0 rfl rfl ?_
  refine gs_getI cl3 2 2 dX3_nextIsDigit_1 rfl kw_265 (by decide) (h0.1) rfl rfl ?_
  refine gw_aload_n dX3_nextIsDigit_4 rfl rfl ?_
  refine gs_getR cl3 0 dX3_nextIsDigit_5 rfl kw_262 (by decide) (h0.1) rfl ?_
  refine gs_getIN cl7 0 0 dX3_nextIsDigit_8 rfl kw_243 (by decide) (h0.2.1.1) rfl rfl ?_
  obtain ⟨g, H⟩ := gd_i H
  refine gw_icmp_geZ (tgt := 48) dX3_nextIsDigit_11 rfl (by decide) g.1 g.2 (fun q => ?_) (fun q => ?_)
  · have H := bq_t q H
    refine gw_iconstZ dX3_nextIsDigit_48 rfl ?_
    cases H
    exact gw_zret rfl dX3_nextIsDigit_49 rfl (by decide) (by decide) hK
  · have H := bq_f q H
    refine gw_aload_n dX3_nextIsDigit_14 rfl rfl ?_
    refine gs_getR cl3 0 dX3_nextIsDigit_15 rfl kw_262 (by decide) (h0.1) rfl ?_
    refine gw_aload_n dX3_nextIsDigit_18 rfl rfl ?_
    refine gs_getI cl3 2 2 dX3_nextIsDigit_19 rfl kw_265 (by decide) (h0.1) rfl rfl ?_
    obtain ⟨v1, e_v1, H⟩ := cv_i H
    refine gw_V1 okX7_codeAt dX3_nextIsDigit_22 kw_516 kw_517 kw_518 (hp_o (h0.2.1.1)) rfl ⟨by decide, by decide⟩ ⟨by decide, by decide⟩ (Nat.le_of_ble_eq_true rfl) (w_X7_codeAt (h0.2.1) e_v1 ?_)
    refine gw_iload_n dX3_nextIsDigit_25 rfl rfl ?_
    obtain ⟨g, H⟩ := gd_i H
    refine gw_icmp_ltZ (tgt := 48) dX3_nextIsDigit_26 rfl (by decide) g.1 g.2 (fun q => ?_) (fun q => ?_)
    · have H := bq_t q H
      refine gw_iconstZ dX3_nextIsDigit_48 rfl ?_
      cases H
      exact gw_zret rfl dX3_nextIsDigit_49 rfl (by decide) (by decide) hK
    · have H := bq_f q H
      refine gw_aload_n dX3_nextIsDigit_29 rfl rfl ?_
      refine gs_getR cl3 0 dX3_nextIsDigit_30 rfl kw_262 (by decide) (h0.1) rfl ?_
      refine gw_aload_n dX3_nextIsDigit_33 rfl rfl ?_
      refine gs_getI cl3 2 2 dX3_nextIsDigit_34 rfl kw_265 (by decide) (h0.1) rfl rfl ?_
      obtain ⟨v2, e_v2, H⟩ := cv_i H
      refine gw_V1 okX7_codeAt dX3_nextIsDigit_37 kw_516 kw_517 kw_518 (hp_o (h0.2.1.1)) rfl ⟨by decide, by decide⟩ ⟨by decide, by decide⟩ (Nat.le_of_ble_eq_true rfl) (w_X7_codeAt (h0.2.1) e_v2 ?_)
      refine gw_iload_n dX3_nextIsDigit_40 rfl rfl ?_
      obtain ⟨g, H⟩ := gd_i H
      refine gw_icmp_gtZ (tgt := 48) dX3_nextIsDigit_41 rfl (by decide) g.1 g.2 (fun q => ?_) (fun q => ?_)
      · have H := bq_t q H
        refine gw_iconstZ dX3_nextIsDigit_48 rfl ?_
        cases H
        exact gw_zret rfl dX3_nextIsDigit_49 rfl (by decide) (by decide) hK
      · have H := bq_f q H
        refine gw_iconstZ dX3_nextIsDigit_44 rfl ?_
        refine gw_goto (tgt := 49) dX3_nextIsDigit_45 (by decide) ?_
        cases H
        exact gw_zret rfl dX3_nextIsDigit_49 rfl (by decide) (by decide) hK
set_option maxRecDepth 100000 in
set_option maxHeartbeats 4000000 in
theorem w_X3_takeDigit {Φ : gwC} {hb : gwHp} {M : Nat} {sh : Nat → Option gSh} {th : Nat} {c : W0} {r : Int × W0} {K : Option Value → gwHp → Prop} (h0 : sR sh th) (H : f_X3_takeDigit th c = some r) (hK : K (some (vI r.1)) (hp Φ hb M sh r.2)) : gw_Con Φ mX3_takeDigit none [.ref (M + th)] (hp Φ hb M sh c) K := by
  unfold f_X3_takeDigit at H
  refine gw_start okX3_takeDigit (Nat.le_of_ble_eq_true rfl) ?_
  refine gw_aload_n dX3_takeDigit_0 rfl rfl ?_
  refine gs_getR cl3 0 dX3_takeDigit_1 rfl kw_262 (by decide) (h0.1) rfl ?_
  refine gw_aload_n dX3_takeDigit_4 rfl rfl ?_
  refine gs_getI cl3 2 2 dX3_takeDigit_5 rfl kw_265 (by decide) (h0.1) rfl rfl ?_
  obtain ⟨v1, e_v1, H⟩ := cv_i H
  refine gw_V1 okX7_codeAt dX3_takeDigit_8 kw_516 kw_517 kw_518 (hp_o (h0.2.1.1)) rfl ⟨by decide, by decide⟩ ⟨by decide, by decide⟩ (Nat.le_of_ble_eq_true rfl) (w_X7_codeAt (h0.2.1) e_v1 ?_)
  refine gw_bipushZ dX3_takeDigit_11 rfl (by decide) ?_
  refine gw_isubZ dX3_takeDigit_13 rfl ?_
  refine gw_istore_n dX3_takeDigit_14 rfl (by decide) ?_
  refine gw_aload_n dX3_takeDigit_15 rfl rfl ?_
  refine gw_dup dX3_takeDigit_16 rfl rfl ?_
  refine gs_getI cl3 2 2 dX3_takeDigit_17 rfl kw_265 (by decide) (h0.1) rfl rfl ?_
  refine gw_iconstZ dX3_takeDigit_20 rfl ?_
  refine gw_iaddZ dX3_takeDigit_21 rfl ?_
  obtain ⟨c2, e_c2, H⟩ := sto_i H
  refine gs_putIE cl3 2 2 dX3_takeDigit_22 rfl kw_265 (by decide) rfl rfl (h0.1) rfl rfl e_c2 ?_
  refine gw_iload_n dX3_takeDigit_25 rfl rfl ?_
  cases H
  exact gw_iret dX3_takeDigit_26 rfl (by decide) (by decide) hK
set_option maxRecDepth 100000 in
set_option maxHeartbeats 4000000 in
theorem l_X3_takeFactors_2 {Φ : gwC} {hb : gwHp} {M : Nat} {sh : Nat → Option gSh} {th : Nat} {p1 : Int} {κ : W0 → Option (Int × W0)} {r : Int × W0} {K : Option Value → gwHp → Prop} (h0 : sR sh th) (hK : K (some (vI r.1)) (hp Φ hb M sh r.2)) (hκ : ∀ (c : W0), κ c = some r → G Φ mX3_takeFactors (gw_M Φ mX3_takeFactors K) none 0 0 90 [] [] (hp Φ hb M sh c)) : ∀ (n : Nat) (l2 : Int) (c : W0), f_X3_takeFactors_2 th p1 κ n l2 c = some r → G Φ mX3_takeFactors (gw_M Φ mX3_takeFactors K) none 0 0 2 [(0, .ref (M + th)), (1, vI p1), (2, vI l2)] [] (hp Φ hb M sh c) := by
  intro n
  induction n with
  | zero => intro l2 c H; cases H
  | succ n ih =>
    intro l2 c H
    have H : b_X3_takeFactors_2 th p1 κ (f_X3_takeFactors_2 th p1 κ n) l2 c = some r := H
    unfold b_X3_takeFactors_2 at H
    refine gw_iload_n dX3_takeFactors_2 rfl rfl ?_
    refine gw_aload_n dX3_takeFactors_3 rfl rfl ?_
    refine gs_getR cl3 1 dX3_takeFactors_4 rfl kw_263 (by decide) (h0.1) rfl ?_
    refine gs_getIN cl2 0 0 dX3_takeFactors_7 rfl kw_162 (by decide) (h0.2.2.1) rfl rfl ?_
    obtain ⟨g, H⟩ := gd_i H
    refine gw_icmp_geZ (tgt := 90) dX3_takeFactors_10 rfl (by decide) g.1 g.2 (fun q => ?_) (fun q => ?_)
    · have H := bq_t q H
      exact gw_L (hκ _ H) (lvA_n)
    · have H := bq_f q H
      refine gw_iload_n dX3_takeFactors_13 rfl rfl ?_
      obtain ⟨g, H⟩ := gd_i H
      obtain ⟨k1, e_k1, H⟩ := jn_i H
      have hJ : ∀ (c2 : W0), k1 c2 = some r → G Φ mX3_takeFactors (gw_M Φ mX3_takeFactors K) none 0 0 28 [(0, .ref (M + th)), (1, vI p1), (2, vI l2)] [] (hp Φ hb M sh c2) := by
        intro c2 H
        subst e_k1
        refine gw_aload_n dX3_takeFactors_28 rfl rfl ?_
        refine gw_bipushZ dX3_takeFactors_29 rfl (by decide) ?_
        obtain ⟨v3, c4, e_c4, H⟩ := cl_i H
        refine gw_V1 okX3_take dX3_takeFactors_31 kw_512 kw_514 kw_3 (hp_o (h0.1)) rfl ⟨by decide, by decide⟩ ⟨by decide, by decide⟩ (Nat.le_of_ble_eq_true rfl) (w_X3_take (h0) e_c4 ?_)
        obtain ⟨g, H⟩ := gd_i H
        obtain ⟨k5, e_k5, H⟩ := jn_i H
        have hJ : ∀ (v6 : Int), k5 v6 = some r → G Φ mX3_takeFactors (gw_M Φ mX3_takeFactors K) none 0 0 42 [(0, .ref (M + th)), (1, vI p1), (2, vI l2)] [vI v6] (hp Φ hb M sh c4) := by
          intro v6 H
          subst e_k5
          refine gw_istore_n dX3_takeFactors_42 rfl (by decide) ?_
          refine gw_aload_n dX3_takeFactors_43 rfl rfl ?_
          refine gw_iload_n dX3_takeFactors_44 rfl rfl ?_
          obtain ⟨g, H⟩ := gd_i H
          obtain ⟨k7, e_k7, H⟩ := jn_i H
          have hJ : ∀ (v8 : Int), k7 v8 = some r → G Φ mX3_takeFactors (gw_M Φ mX3_takeFactors K) none 0 0 55 [(0, .ref (M + th)), (1, vI p1), (2, vI l2), (3, vI v6)] [vI v8, .ref (M + th)] (hp Φ hb M sh c4) := by
            intro v8 H
            subst e_k7
            refine gw_bipushZ dX3_takeFactors_55 rfl (by decide) ?_
            obtain ⟨v9, e_v9, H⟩ := cv_i H
            refine gw_V2 okX3_nextIsDigit dX3_takeFactors_57 kw_521 kw_523 kw_4 (hp_o (h0.1)) rfl ⟨by decide, by decide⟩ ⟨by decide, by decide⟩ (Nat.le_of_ble_eq_true rfl) (w_X3_nextIsDigit (h0) e_v9 ?_)
            obtain ⟨g, H⟩ := gd_i H
            refine gw_if_neZ (tgt := 65) dX3_takeFactors_60 rfl (by decide) g (fun q => ?_) (fun q => ?_)
            · have H := bq_f q H
              refine gw_aload_n dX3_takeFactors_65 rfl rfl ?_
              refine gs_getR cl3 1 dX3_takeFactors_66 rfl kw_263 (by decide) (h0.1) rfl ?_
              refine gs_getRN cl2 2 dX3_takeFactors_69 rfl kw_172 (by decide) (h0.2.2.1) rfl ?_
              refine gw_iload_n dX3_takeFactors_72 rfl rfl ?_
              refine gw_iload_n dX3_takeFactors_73 rfl rfl ?_
              refine gw_iload_n dX3_takeFactors_74 rfl rfl ?_
              refine gw_aload_n dX3_takeFactors_75 rfl rfl ?_
              obtain ⟨v10, c11, e_c11, H⟩ := cl_i H
              refine gw_V0 okX3_takeDigit dX3_takeFactors_76 kw_525 kw_527 kw_5 (hp_o (h0.1)) rfl ⟨by decide, by decide⟩ ⟨by decide, by decide⟩ (Nat.le_of_ble_eq_true rfl) (w_X3_takeDigit (h0) e_c11 ?_)
              refine gw_imulZ dX3_takeFactors_79 rfl ?_
              obtain ⟨g, H⟩ := gd_i H
              refine gw_i2lZ dX3_takeFactors_80 rfl g ?_
              obtain ⟨g, H⟩ := gd_i H
              obtain ⟨c12, e_c12, H⟩ := sto_i H
              refine gw_V3 okX1_put dX3_takeFactors_81 kw_542 kw_403 kw_404 (hp_o (h0.2.2.2.1)) rfl ⟨by decide, by decide⟩ ⟨by decide, by decide⟩ (Nat.le_of_ble_eq_true rfl) (k_putE (h0.2.2.2) (by decide) (by omega) (by omega) (by omega) (by decide) e_c12 ?_)
              refine gw_iincZ dX3_takeFactors_84 rfl rfl (by decide) ?_
              refine gw_goto (tgt := 2) dX3_takeFactors_87 (by decide) ?_
              exact gw_L (ih _ _ H) ((lvA_c rfl (lvA_c rfl (lvA_c rfl lvA_n))))
            · have H := bq_t q H
              refine gw_iconstZ dX3_takeFactors_63 rfl ?_
              cases H
              exact gw_zret rfl dX3_takeFactors_64 rfl (by decide) (by decide) hK
          refine gw_if_geZ (tgt := 53) dX3_takeFactors_45 rfl (by decide) g (fun q => ?_) (fun q => ?_)
          · have H := bq_t q H
            refine gw_bipushZ dX3_takeFactors_53 rfl (by decide) ?_
            exact gw_L (hJ _ H) ((lvA_c rfl (lvA_c rfl (lvA_c rfl (lvA_c rfl lvA_n)))))
          · have H := bq_f q H
            refine gw_bipushZ dX3_takeFactors_48 rfl (by decide) ?_
            refine gw_goto (tgt := 55) dX3_takeFactors_50 (by decide) ?_
            exact gw_L (hJ _ H) ((lvA_c rfl (lvA_c rfl (lvA_c rfl (lvA_c rfl lvA_n)))))
        refine gw_if_eqZ (tgt := 41) dX3_takeFactors_34 rfl (by decide) g (fun q => ?_) (fun q => ?_)
        · have H := bq_t q H
          refine gw_iconstZ dX3_takeFactors_41 rfl ?_
          exact gw_L (hJ _ H) ((lvA_c rfl (lvA_c rfl (lvA_c rfl lvA_n))))
        · have H := bq_f q H
          refine gw_iconstZ dX3_takeFactors_37 rfl ?_
          refine gw_goto (tgt := 42) dX3_takeFactors_38 (by decide) ?_
          exact gw_L (hJ _ H) ((lvA_c rfl (lvA_c rfl (lvA_c rfl lvA_n))))
      refine gw_if_leZ (tgt := 28) dX3_takeFactors_14 rfl (by decide) g (fun q => ?_) (fun q => ?_)
      · have H := bq_t q H
        exact gw_L (hJ _ H) ((lvA_c rfl (lvA_c rfl (lvA_c rfl lvA_n))))
      · have H := bq_f q H
        refine gw_aload_n dX3_takeFactors_17 rfl rfl ?_
        refine gw_bipushZ dX3_takeFactors_18 rfl (by decide) ?_
        obtain ⟨v13, c14, e_c14, H⟩ := cl_i H
        refine gw_V1 okX3_take dX3_takeFactors_20 kw_512 kw_514 kw_3 (hp_o (h0.1)) rfl ⟨by decide, by decide⟩ ⟨by decide, by decide⟩ (Nat.le_of_ble_eq_true rfl) (w_X3_take (h0) e_c14 ?_)
        obtain ⟨g, H⟩ := gd_i H
        refine gw_if_neZ (tgt := 28) dX3_takeFactors_23 rfl (by decide) g (fun q => ?_) (fun q => ?_)
        · have H := bq_f q H
          exact gw_L (hJ _ H) ((lvA_c rfl (lvA_c rfl (lvA_c rfl lvA_n))))
        · have H := bq_t q H
          refine gw_iconstZ dX3_takeFactors_26 rfl ?_
          cases H
          exact gw_zret rfl dX3_takeFactors_27 rfl (by decide) (by decide) hK
set_option maxRecDepth 100000 in
set_option maxHeartbeats 4000000 in
theorem w_X3_takeFactors {Φ : gwC} {hb : gwHp} {M : Nat} {sh : Nat → Option gSh} {th : Nat} {p1 : Int} {c : W0} {r : Int × W0} {K : Option Value → gwHp → Prop} (h0 : sR sh th) (H : f_X3_takeFactors th p1 c = some r) (hK : K (some (vI r.1)) (hp Φ hb M sh r.2)) : gw_Con Φ mX3_takeFactors none [.ref (M + th), vI p1] (hp Φ hb M sh c) K := by
  unfold f_X3_takeFactors at H
  refine gw_start okX3_takeFactors (Nat.le_of_ble_eq_true rfl) ?_
  refine gw_iconstZ dX3_takeFactors_0 rfl ?_
  refine gw_istore_n dX3_takeFactors_1 rfl (by decide) ?_
  refine gw_L (l_X3_takeFactors_2 h0 hK (fun c1 H => ?_) LF _ _ H) ((lvA_c rfl (lvA_c rfl (lvA_c rfl lvA_n))))
  refine gw_iconstZ dX3_takeFactors_90 rfl ?_
  cases H
  exact gw_zret rfl dX3_takeFactors_91 rfl (by decide) (by decide) hK
set_option maxRecDepth 100000 in
set_option maxHeartbeats 4000000 in
theorem w_X3_takeBound {Φ : gwC} {hb : gwHp} {M : Nat} {sh : Nat → Option gSh} {th : Nat} {p1 : Int} {c : W0} {r : Int × W0} {K : Option Value → gwHp → Prop} (h0 : sR sh th) (H : f_X3_takeBound th p1 c = some r) (hK : K (some (vI r.1)) (hp Φ hb M sh r.2)) : gw_Con Φ mX3_takeBound none [.ref (M + th), vI p1] (hp Φ hb M sh c) K := by
  unfold f_X3_takeBound at H
  refine gw_start okX3_takeBound (Nat.le_of_ble_eq_true rfl) ?_
  refine gw_aload_n dX3_takeBound_0 rfl rfl ?_
  refine gw_bipushZ dX3_takeBound_1 rfl (by decide) ?_
  refine gw_bipushZ dX3_takeBound_3 rfl (by decide) ?_
  obtain ⟨v1, e_v1, H⟩ := cv_i H
  refine gw_V2 okX3_nextIsDigit dX3_takeBound_5 kw_521 kw_523 kw_4 (hp_o (h0.1)) rfl ⟨by decide, by decide⟩ ⟨by decide, by decide⟩ (Nat.le_of_ble_eq_true rfl) (w_X3_nextIsDigit (h0) e_v1 ?_)
  obtain ⟨g, H⟩ := gd_i H
  refine gw_if_neZ (tgt := 13) dX3_takeBound_8 rfl (by decide) g (fun q => ?_) (fun q => ?_)
  · have H := bq_f q H
    refine gw_aload_n dX3_takeBound_13 rfl rfl ?_
    obtain ⟨v2, c3, e_c3, H⟩ := cl_i H
    refine gw_V0 okX3_takeDigit dX3_takeBound_14 kw_525 kw_527 kw_5 (hp_o (h0.1)) rfl ⟨by decide, by decide⟩ ⟨by decide, by decide⟩ (Nat.le_of_ble_eq_true rfl) (w_X3_takeDigit (h0) e_c3 ?_)
    refine gw_istore_n dX3_takeBound_17 rfl (by decide) ?_
    refine gw_iload_n dX3_takeBound_18 rfl rfl ?_
    obtain ⟨g, H⟩ := gd_i H
    obtain ⟨k4, e_k4, H⟩ := jn_i H
    have hJ : ∀ (v5 : Int) (c6 : W0), k4 v5 c6 = some r → G Φ mX3_takeBound (gw_M Φ mX3_takeBound K) none 0 0 43 [(0, .ref (M + th)), (1, vI p1), (2, vI v5)] [] (hp Φ hb M sh c6) := by
      intro v5 c6 H
      subst e_k4
      refine gw_aload_n dX3_takeBound_43 rfl rfl ?_
      refine gs_getR cl3 1 dX3_takeBound_44 rfl kw_263 (by decide) (h0.1) rfl ?_
      refine gw_iload_n dX3_takeBound_47 rfl rfl ?_
      refine gw_iload_n dX3_takeBound_48 rfl rfl ?_
      obtain ⟨v8, c7, e_c7, H⟩ := cl_i H
      refine gw_V2 okX2_putBound dX3_takeBound_49 kw_563 kw_556 kw_557 (hp_o (h0.2.2.1)) rfl ⟨by decide, by decide⟩ ⟨by decide, by decide⟩ (Nat.le_of_ble_eq_true rfl) (w_X2_putBound (h0.2.2) e_c7 ?_)
      refine gw_iconstZ dX3_takeBound_52 rfl ?_
      cases H
      exact gw_zret rfl dX3_takeBound_53 rfl (by decide) (by decide) hK
    refine gw_if_leZ (tgt := 43) dX3_takeBound_19 rfl (by decide) g (fun q => ?_) (fun q => ?_)
    · have H := bq_t q H
      exact gw_L (hJ _ _ H) ((lvA_c rfl (lvA_c rfl (lvA_c rfl lvA_n))))
    · have H := bq_f q H
      refine gw_aload_n dX3_takeBound_22 rfl rfl ?_
      refine gw_bipushZ dX3_takeBound_23 rfl (by decide) ?_
      refine gw_bipushZ dX3_takeBound_25 rfl (by decide) ?_
      obtain ⟨v9, e_v9, H⟩ := cv_i H
      refine gw_V2 okX3_nextIsDigit dX3_takeBound_27 kw_521 kw_523 kw_4 (hp_o (h0.1)) rfl ⟨by decide, by decide⟩ ⟨by decide, by decide⟩ (Nat.le_of_ble_eq_true rfl) (w_X3_nextIsDigit (h0) e_v9 ?_)
      obtain ⟨g, H⟩ := gd_i H
      refine gw_if_eqZ (tgt := 43) dX3_takeBound_30 rfl (by decide) g (fun q => ?_) (fun q => ?_)
      · have H := bq_t q H
        exact gw_L (hJ _ _ H) ((lvA_c rfl (lvA_c rfl (lvA_c rfl lvA_n))))
      · have H := bq_f q H
        refine gw_bipushZ dX3_takeBound_33 rfl (by decide) ?_
        refine gw_iload_n dX3_takeBound_35 rfl rfl ?_
        refine gw_imulZ dX3_takeBound_36 rfl ?_
        refine gw_aload_n dX3_takeBound_37 rfl rfl ?_
        obtain ⟨v10, c11, e_c11, H⟩ := cl_i H
        refine gw_V0 okX3_takeDigit dX3_takeBound_38 kw_525 kw_527 kw_5 (hp_o (h0.1)) rfl ⟨by decide, by decide⟩ ⟨by decide, by decide⟩ (Nat.le_of_ble_eq_true rfl) (w_X3_takeDigit (h0) e_c11 ?_)
        refine gw_iaddZ dX3_takeBound_41 rfl ?_
        refine gw_istore_n dX3_takeBound_42 rfl (by decide) ?_
        exact gw_L (hJ _ _ H) ((lvA_c rfl (lvA_c rfl (lvA_c rfl lvA_n))))
  · have H := bq_t q H
    refine gw_iconstZ dX3_takeBound_11 rfl ?_
    cases H
    exact gw_zret rfl dX3_takeBound_12 rfl (by decide) (by decide) hK
set_option maxRecDepth 100000 in
set_option maxHeartbeats 4000000 in
theorem w_X3_takeConstraint {Φ : gwC} {hb : gwHp} {M : Nat} {sh : Nat → Option gSh} {th : Nat} {c : W0} {r : Int × W0} {K : Option Value → gwHp → Prop} (h0 : sR sh th) (H : f_X3_takeConstraint th c = some r) (hK : K (some (vI r.1)) (hp Φ hb M sh r.2)) : gw_Con Φ mX3_takeConstraint none [.ref (M + th)] (hp Φ hb M sh c) K := by
  unfold f_X3_takeConstraint at H
  refine gw_start okX3_takeConstraint (Nat.le_of_ble_eq_true rfl) ?_
  refine gw_aload_n dX3_takeConstraint_0 rfl rfl ?_
  refine gs_getR cl3 1 dX3_takeConstraint_1 rfl kw_263 (by decide) (h0.1) rfl ?_
  refine gw_iconstZ dX3_takeConstraint_4 rfl ?_
  obtain ⟨v1, c2, e_c2, H⟩ := cl_i H
  refine gw_V1 okX2_add dX3_takeConstraint_5 kw_547 kw_548 kw_549 (hp_o (h0.2.2.1)) rfl ⟨by decide, by decide⟩ ⟨by decide, by decide⟩ (Nat.le_of_ble_eq_true rfl) (w_X2_add (h0.2.2) e_c2 ?_)
  refine gw_istore_n dX3_takeConstraint_8 rfl (by decide) ?_
  refine gw_aload_n dX3_takeConstraint_9 rfl rfl ?_
  refine gw_bipushZ dX3_takeConstraint_10 rfl (by decide) ?_
  obtain ⟨v3, c4, e_c4, H⟩ := cl_i H
  refine gw_V1 okX3_take dX3_takeConstraint_12 kw_512 kw_514 kw_3 (hp_o (h0.1)) rfl ⟨by decide, by decide⟩ ⟨by decide, by decide⟩ (Nat.le_of_ble_eq_true rfl) (w_X3_take (h0) e_c4 ?_)
  obtain ⟨g, H⟩ := gd_i H
  refine gw_if_eqZ (tgt := 56) dX3_takeConstraint_15 rfl (by decide) g (fun q => ?_) (fun q => ?_)
  · have H := bq_t q H
    refine gw_iconstZ dX3_takeConstraint_56 rfl ?_
    cases H
    exact gw_zret rfl dX3_takeConstraint_57 rfl (by decide) (by decide) hK
  · have H := bq_f q H
    refine gw_aload_n dX3_takeConstraint_18 rfl rfl ?_
    refine gw_bipushZ dX3_takeConstraint_19 rfl (by decide) ?_
    obtain ⟨v5, c6, e_c6, H⟩ := cl_i H
    refine gw_V1 okX3_take dX3_takeConstraint_21 kw_512 kw_514 kw_3 (hp_o (h0.1)) rfl ⟨by decide, by decide⟩ ⟨by decide, by decide⟩ (Nat.le_of_ble_eq_true rfl) (w_X3_take (h0) e_c6 ?_)
    obtain ⟨g, H⟩ := gd_i H
    refine gw_if_eqZ (tgt := 56) dX3_takeConstraint_24 rfl (by decide) g (fun q => ?_) (fun q => ?_)
    · have H := bq_t q H
      refine gw_iconstZ dX3_takeConstraint_56 rfl ?_
      cases H
      exact gw_zret rfl dX3_takeConstraint_57 rfl (by decide) (by decide) hK
    · have H := bq_f q H
      refine gw_aload_n dX3_takeConstraint_27 rfl rfl ?_
      refine gw_iload_n dX3_takeConstraint_28 rfl rfl ?_
      obtain ⟨v7, c8, e_c8, H⟩ := cl_i H
      refine gw_V1 okX3_takeFactors dX3_takeConstraint_29 kw_538 kw_540 kw_6 (hp_o (h0.1)) rfl ⟨by decide, by decide⟩ ⟨by decide, by decide⟩ (Nat.le_of_ble_eq_true rfl) (w_X3_takeFactors (h0) e_c8 ?_)
      obtain ⟨g, H⟩ := gd_i H
      refine gw_if_eqZ (tgt := 56) dX3_takeConstraint_32 rfl (by decide) g (fun q => ?_) (fun q => ?_)
      · have H := bq_t q H
        refine gw_iconstZ dX3_takeConstraint_56 rfl ?_
        cases H
        exact gw_zret rfl dX3_takeConstraint_57 rfl (by decide) (by decide) hK
      · have H := bq_f q H
        refine gw_aload_n dX3_takeConstraint_35 rfl rfl ?_
        refine gw_bipushZ dX3_takeConstraint_36 rfl (by decide) ?_
        obtain ⟨v9, c10, e_c10, H⟩ := cl_i H
        refine gw_V1 okX3_take dX3_takeConstraint_38 kw_512 kw_514 kw_3 (hp_o (h0.1)) rfl ⟨by decide, by decide⟩ ⟨by decide, by decide⟩ (Nat.le_of_ble_eq_true rfl) (w_X3_take (h0) e_c10 ?_)
        obtain ⟨g, H⟩ := gd_i H
        refine gw_if_eqZ (tgt := 56) dX3_takeConstraint_41 rfl (by decide) g (fun q => ?_) (fun q => ?_)
        · have H := bq_t q H
          refine gw_iconstZ dX3_takeConstraint_56 rfl ?_
          cases H
          exact gw_zret rfl dX3_takeConstraint_57 rfl (by decide) (by decide) hK
        · have H := bq_f q H
          refine gw_aload_n dX3_takeConstraint_44 rfl rfl ?_
          refine gw_iload_n dX3_takeConstraint_45 rfl rfl ?_
          obtain ⟨v11, c12, e_c12, H⟩ := cl_i H
          refine gw_V1 okX3_takeBound dX3_takeConstraint_46 kw_559 kw_561 kw_8 (hp_o (h0.1)) rfl ⟨by decide, by decide⟩ ⟨by decide, by decide⟩ (Nat.le_of_ble_eq_true rfl) (w_X3_takeBound (h0) e_c12 ?_)
          obtain ⟨g, H⟩ := gd_i H
          refine gw_if_eqZ (tgt := 56) dX3_takeConstraint_49 rfl (by decide) g (fun q => ?_) (fun q => ?_)
          · have H := bq_t q H
            refine gw_iconstZ dX3_takeConstraint_56 rfl ?_
            cases H
            exact gw_zret rfl dX3_takeConstraint_57 rfl (by decide) (by decide) hK
          · have H := bq_f q H
            refine gw_iconstZ dX3_takeConstraint_52 rfl ?_
            refine gw_goto (tgt := 57) dX3_takeConstraint_53 (by decide) ?_
            cases H
            exact gw_zret rfl dX3_takeConstraint_57 rfl (by decide) (by decide) hK
set_option maxRecDepth 100000 in
set_option maxHeartbeats 4000000 in
theorem l_X3_read_76 {Φ : gwC} {hb : gwHp} {M : Nat} {sh : Nat → Option gSh} {th : Nat} {p1 : Nat} {κ : W0 → Option (Int × W0)} {r : Int × W0} {K : Option Value → gwHp → Prop} (h0 : sR sh th) (h1 : sX sh p1) (hK : K (some (vI r.1)) (hp Φ hb M sh r.2)) (hκ : ∀ (c : W0), κ c = some r → G Φ mX3_read (gw_M Φ mX3_read K) none 0 0 110 [(0, .ref (M + th))] [] (hp Φ hb M sh c)) : ∀ (n : Nat) (l2 : Int) (c : W0), f_X3_read_76 th p1 κ n l2 c = some r → G Φ mX3_read (gw_M Φ mX3_read K) none 0 0 76 [(0, .ref (M + th)), (2, vI l2)] [] (hp Φ hb M sh c) := by
  intro n
  induction n with
  | zero => intro l2 c H; cases H
  | succ n ih =>
    intro l2 c H
    have H : b_X3_read_76 th p1 κ (f_X3_read_76 th p1 κ n) l2 c = some r := H
    unfold b_X3_read_76 at H
    refine gw_iload_n dX3_read_76 rfl rfl ?_
    refine gw_iconstZ dX3_read_77 rfl ?_
    obtain ⟨g, H⟩ := gd_i H
    refine gw_icmp_geZ (tgt := 110) dX3_read_78 rfl (by decide) g (by decide) (fun q => ?_) (fun q => ?_)
    · have H := bq_t q H
      exact gw_L (hκ _ H) ((lvA_c rfl lvA_n))
    · have H := bq_f q H
      refine gw_aload_n dX3_read_81 rfl rfl ?_
      refine gs_getI cl3 2 2 dX3_read_82 rfl kw_265 (by decide) (h0.1) rfl rfl ?_
      refine gw_aload_n dX3_read_85 rfl rfl ?_
      refine gs_getR cl3 0 dX3_read_86 rfl kw_262 (by decide) (h0.1) rfl ?_
      refine gs_getIN cl7 0 0 dX3_read_89 rfl kw_243 (by decide) (h0.2.1.1) rfl rfl ?_
      obtain ⟨g, H⟩ := gd_i H
      refine gw_icmp_geZ (tgt := 110) dX3_read_92 rfl (by decide) g.1 g.2 (fun q => ?_) (fun q => ?_)
      · have H := bq_t q H
        exact gw_L (hκ _ H) ((lvA_c rfl lvA_n))
      · have H := bq_f q H
        refine gw_aload_n dX3_read_95 rfl rfl ?_
        obtain ⟨v1, c2, e_c2, H⟩ := cl_i H
        refine gw_V0 okX3_takeConstraint dX3_read_96 kw_543 kw_545 kw_7 (hp_o (h0.1)) rfl ⟨by decide, by decide⟩ ⟨by decide, by decide⟩ (Nat.le_of_ble_eq_true rfl) (w_X3_takeConstraint (h0) e_c2 ?_)
        obtain ⟨g, H⟩ := gd_i H
        refine gw_if_neZ (tgt := 104) dX3_read_99 rfl (by decide) g (fun q => ?_) (fun q => ?_)
        · have H := bq_f q H
          refine gw_iincZ dX3_read_104 rfl rfl (by decide) ?_
          refine gw_goto (tgt := 76) dX3_read_107 (by decide) ?_
          exact gw_L (ih _ _ H) ((lvA_c rfl (lvA_c rfl lvA_n)))
        · have H := bq_t q H
          refine gw_iconstZ dX3_read_102 rfl ?_
          cases H
          exact gw_zret rfl dX3_read_103 rfl (by decide) (by decide) hK
set_option maxRecDepth 100000 in
set_option maxHeartbeats 4000000 in
theorem w_X3_read {Φ : gwC} {hb : gwHp} {M : Nat} {sh : Nat → Option gSh} {th : Nat} {p1 : Nat} {c : W0} {r : Int × W0} {K : Option Value → gwHp → Prop} (h0 : sR sh th) (h1 : sX sh p1) (H : f_X3_read th p1 c = some r) (hK : K (some (vI r.1)) (hp Φ hb M sh r.2)) : gw_Con Φ mX3_read none [.ref (M + th), .ref (M + p1)] (hp Φ hb M sh c) K := by
  unfold f_X3_read at H
  refine gw_start okX3_read (Nat.le_of_ble_eq_true rfl) ?_
  refine gw_aload_n dX3_read_0 rfl rfl ?_
  refine gs_getR cl3 0 dX3_read_1 rfl kw_262 (by decide) (h0.1) rfl ?_
  refine gw_aload_n dX3_read_4 rfl rfl ?_
  obtain ⟨v2, c1, e_c1, H⟩ := cl_i H
  refine gw_V1 okX7_copy dX3_read_5 kw_507 kw_508 kw_509 (hp_o (h0.2.1.1)) rfl ⟨by decide, by decide⟩ ⟨by decide, by decide⟩ (Nat.le_of_ble_eq_true rfl) (w_X7_copy (h0.2.1) (h1) e_c1 ?_)
  refine gw_aload_n dX3_read_8 rfl rfl ?_
  refine gw_iconstZ dX3_read_9 rfl ?_
  obtain ⟨c3, e_c3, H⟩ := sto_i H
  refine gs_putIE cl3 2 2 dX3_read_10 rfl kw_265 (by decide) rfl rfl (h0.1) rfl rfl e_c3 ?_
  refine gw_aload_n dX3_read_13 rfl rfl ?_
  refine gw_bipushZ dX3_read_14 rfl (by decide) ?_
  obtain ⟨v4, c5, e_c5, H⟩ := cl_i H
  refine gw_V1 okX3_take dX3_read_16 kw_512 kw_514 kw_3 (hp_o (h0.1)) rfl ⟨by decide, by decide⟩ ⟨by decide, by decide⟩ (Nat.le_of_ble_eq_true rfl) (w_X3_take (h0) e_c5 ?_)
  obtain ⟨g, H⟩ := gd_i H
  refine gw_if_eqZ (tgt := 33) dX3_read_19 rfl (by decide) g (fun q => ?_) (fun q => ?_)
  · have H := bq_t q H
    refine gw_iconstZ dX3_read_33 rfl ?_
    cases H
    exact gw_zret rfl dX3_read_34 rfl (by decide) (by decide) hK
  · have H := bq_f q H
    refine gw_aload_n dX3_read_22 rfl rfl ?_
    refine gw_bipushZ dX3_read_23 rfl (by decide) ?_
    refine gw_bipushZ dX3_read_25 rfl (by decide) ?_
    obtain ⟨v6, e_v6, H⟩ := cv_i H
    refine gw_V2 okX3_nextIsDigit dX3_read_27 kw_521 kw_523 kw_4 (hp_o (h0.1)) rfl ⟨by decide, by decide⟩ ⟨by decide, by decide⟩ (Nat.le_of_ble_eq_true rfl) (w_X3_nextIsDigit (h0) e_v6 ?_)
    obtain ⟨g, H⟩ := gd_i H
    refine gw_if_neZ (tgt := 35) dX3_read_30 rfl (by decide) g (fun q => ?_) (fun q => ?_)
    · have H := bq_f q H
      refine gw_aload_n dX3_read_35 rfl rfl ?_
      refine gs_getR cl3 1 dX3_read_36 rfl kw_263 (by decide) (h0.1) rfl ?_
      refine gw_aload_n dX3_read_39 rfl rfl ?_
      obtain ⟨v7, c8, e_c8, H⟩ := cl_i H
      refine gw_V0 okX3_takeDigit dX3_read_40 kw_525 kw_527 kw_5 (hp_o (h0.1)) rfl ⟨by decide, by decide⟩ ⟨by decide, by decide⟩ (Nat.le_of_ble_eq_true rfl) (w_X3_takeDigit (h0) e_c8 ?_)
      obtain ⟨v10, c9, e_c9, H⟩ := cl_i H
      refine gw_V1 okX2_empty dX3_read_43 kw_529 kw_530 kw_531 (hp_o (h0.2.2.1)) rfl ⟨by decide, by decide⟩ ⟨by decide, by decide⟩ (Nat.le_of_ble_eq_true rfl) (w_X2_empty (h0.2.2) e_c9 ?_)
      refine gw_aload_n dX3_read_46 rfl rfl ?_
      refine gw_bipushZ dX3_read_47 rfl (by decide) ?_
      obtain ⟨v11, c12, e_c12, H⟩ := cl_i H
      refine gw_V1 okX3_take dX3_read_49 kw_512 kw_514 kw_3 (hp_o (h0.1)) rfl ⟨by decide, by decide⟩ ⟨by decide, by decide⟩ (Nat.le_of_ble_eq_true rfl) (w_X3_take (h0) e_c12 ?_)
      obtain ⟨g, H⟩ := gd_i H
      refine gw_if_eqZ (tgt := 72) dX3_read_52 rfl (by decide) g (fun q => ?_) (fun q => ?_)
      · have H := bq_t q H
        refine gw_iconstZ dX3_read_72 rfl ?_
        cases H
        exact gw_zret rfl dX3_read_73 rfl (by decide) (by decide) hK
      · have H := bq_f q H
        refine gw_aload_n dX3_read_55 rfl rfl ?_
        refine gw_bipushZ dX3_read_56 rfl (by decide) ?_
        obtain ⟨v13, c14, e_c14, H⟩ := cl_i H
        refine gw_V1 okX3_take dX3_read_58 kw_512 kw_514 kw_3 (hp_o (h0.1)) rfl ⟨by decide, by decide⟩ ⟨by decide, by decide⟩ (Nat.le_of_ble_eq_true rfl) (w_X3_take (h0) e_c14 ?_)
        obtain ⟨g, H⟩ := gd_i H
        refine gw_if_eqZ (tgt := 72) dX3_read_61 rfl (by decide) g (fun q => ?_) (fun q => ?_)
        · have H := bq_t q H
          refine gw_iconstZ dX3_read_72 rfl ?_
          cases H
          exact gw_zret rfl dX3_read_73 rfl (by decide) (by decide) hK
        · have H := bq_f q H
          refine gw_aload_n dX3_read_64 rfl rfl ?_
          refine gw_iconstZ dX3_read_65 rfl ?_
          obtain ⟨v15, c16, e_c16, H⟩ := cl_i H
          refine gw_V1 okX3_takeFactors dX3_read_66 kw_538 kw_540 kw_6 (hp_o (h0.1)) rfl ⟨by decide, by decide⟩ ⟨by decide, by decide⟩ (Nat.le_of_ble_eq_true rfl) (w_X3_takeFactors (h0) e_c16 ?_)
          obtain ⟨g, H⟩ := gd_i H
          refine gw_if_neZ (tgt := 74) dX3_read_69 rfl (by decide) g (fun q => ?_) (fun q => ?_)
          · have H := bq_f q H
            refine gw_iconstZ dX3_read_74 rfl ?_
            refine gw_istore_n dX3_read_75 rfl (by decide) ?_
            refine gw_L (l_X3_read_76 h0 h1 hK (fun c17 H => ?_) LF _ _ H) ((lvA_c rfl (lvA_c rfl lvA_n)))
            refine gw_aload_n dX3_read_110 rfl rfl ?_
            refine gs_getI cl3 2 2 dX3_read_111 rfl kw_265 (by decide) (h0.1) rfl rfl ?_
            refine gw_aload_n dX3_read_114 rfl rfl ?_
            refine gs_getR cl3 0 dX3_read_115 rfl kw_262 (by decide) (h0.1) rfl ?_
            refine gs_getIN cl7 0 0 dX3_read_118 rfl kw_243 (by decide) (h0.2.1.1) rfl rfl ?_
            obtain ⟨g, H⟩ := gd_i H
            refine gw_icmp_neZ (tgt := 128) dX3_read_121 rfl (by decide) g.1 g.2 (fun q => ?_) (fun q => ?_)
            · have H := bq_f q H
              refine gw_iconstZ dX3_read_128 rfl ?_
              cases H
              exact gw_zret rfl dX3_read_129 rfl (by decide) (by decide) hK
            · have H := bq_t q H
              refine gw_iconstZ dX3_read_124 rfl ?_
              refine gw_goto (tgt := 129) dX3_read_125 (by decide) ?_
              cases H
              exact gw_zret rfl dX3_read_129 rfl (by decide) (by decide) hK
          · have H := bq_t q H
            refine gw_iconstZ dX3_read_72 rfl ?_
            cases H
            exact gw_zret rfl dX3_read_73 rfl (by decide) (by decide) hK
    · have H := bq_t q H
      refine gw_iconstZ dX3_read_33 rfl ?_
      cases H
      exact gw_zret rfl dX3_read_34 rfl (by decide) (by decide) hK
set_option maxRecDepth 100000 in
set_option maxHeartbeats 4000000 in
theorem w_X6_copy {Φ : gwC} {hb : gwHp} {M : Nat} {sh : Nat → Option gSh} {th : Nat} {p1 : Nat} {c : W0} {r : Int × W0} {K : Option Value → gwHp → Prop} (h0 : sT sh th) (h1 : sT sh p1) (H : f_X6_copy th p1 c = some r) (hK : K none (hp Φ hb M sh r.2)) : gw_Con Φ mX6_copy none [.ref (M + th), .ref (M + p1)] (hp Φ hb M sh c) K := by
  unfold f_X6_copy at H
  refine gw_start okX6_copy (Nat.le_of_ble_eq_true rfl) ?_
  refine gw_aload_n dX6_copy_0 rfl rfl ?_
  refine gw_ifnull dX6_copy_1 rfl ?_
  refine gw_aload_n dX6_copy_4 rfl rfl ?_
  refine gw_aload_n dX6_copy_5 rfl rfl ?_
  refine gs_getI cl6 0 0 dX6_copy_6 rfl kw_188 (by decide) (h1.1) rfl rfl ?_
  obtain ⟨c1, e_c1, H⟩ := sto_i H
  refine gs_putIE cl6 0 0 dX6_copy_9 rfl kw_188 (by decide) rfl rfl (h0.1) rfl rfl e_c1 ?_
  refine gw_aload_n dX6_copy_12 rfl rfl ?_
  refine gw_aload_n dX6_copy_13 rfl rfl ?_
  refine gs_getI cl6 1 1 dX6_copy_14 rfl kw_190 (by decide) (h1.1) rfl rfl ?_
  obtain ⟨c2, e_c2, H⟩ := sto_i H
  refine gs_putIE cl6 1 1 dX6_copy_17 rfl kw_190 (by decide) rfl rfl (h0.1) rfl rfl e_c2 ?_
  refine gw_aload_n dX6_copy_20 rfl rfl ?_
  refine gw_aload_n dX6_copy_21 rfl rfl ?_
  refine gs_getL cl6 2 2 dX6_copy_22 rfl kw_192 (by decide) (h1.1) rfl rfl ?_
  obtain ⟨c3, e_c3, H⟩ := sto_i H
  refine gs_putLE cl6 2 2 dX6_copy_25 rfl kw_192 (by decide) rfl rfl (h0.1) rfl rfl e_c3 ?_
  refine gw_aload_n dX6_copy_28 rfl rfl ?_
  refine gs_getR cl6 3 dX6_copy_29 rfl kw_194 (by decide) (h0.1) rfl ?_
  refine gw_aload_n dX6_copy_32 rfl rfl ?_
  refine gs_getR cl6 3 dX6_copy_33 rfl kw_194 (by decide) (h1.1) rfl ?_
  obtain ⟨c4, e_c4, H⟩ := stw_i H
  refine gw_V1 okX1_copy dX6_copy_36 kw_393 kw_383 kw_384 (hp_o (h0.2.1.1)) rfl ⟨by decide, by decide⟩ ⟨by decide, by decide⟩ (Nat.le_of_ble_eq_true rfl) (k_GcopyE (h0.2.1) (h1.2.1) (by decide) e_c4 ?_)
  refine gw_aload_n dX6_copy_39 rfl rfl ?_
  refine gs_getR cl6 4 dX6_copy_40 rfl kw_195 (by decide) (h0.1) rfl ?_
  refine gw_aload_n dX6_copy_43 rfl rfl ?_
  refine gs_getR cl6 4 dX6_copy_44 rfl kw_195 (by decide) (h1.1) rfl ?_
  obtain ⟨c5, e_c5, H⟩ := stw_i H
  refine gw_V1 okX1_copy dX6_copy_47 kw_393 kw_383 kw_384 (hp_o (h0.2.2.1)) rfl ⟨by decide, by decide⟩ ⟨by decide, by decide⟩ (Nat.le_of_ble_eq_true rfl) (k_GcopyE (h0.2.2) (h1.2.2) (by decide) e_c5 ?_)
  cases H
  exact gw_vret dX6_copy_50 rfl (by decide) (by decide) hK
set_option maxRecDepth 100000 in
set_option maxHeartbeats 4000000 in
theorem w_X4_copy {Φ : gwC} {hb : gwHp} {M : Nat} {sh : Nat → Option gSh} {th : Nat} {p1 : Nat} {c : W0} {r : Int × W0} {K : Option Value → gwHp → Prop} (h0 : sS sh th) (h1 : sS sh p1) (H : f_X4_copy th p1 c = some r) (hK : K none (hp Φ hb M sh r.2)) : gw_Con Φ mX4_copy none [.ref (M + th), .ref (M + p1)] (hp Φ hb M sh c) K := by
  unfold f_X4_copy at H
  refine gw_start okX4_copy (Nat.le_of_ble_eq_true rfl) ?_
  refine gw_aload_n dX4_copy_0 rfl rfl ?_
  refine gw_ifnull dX4_copy_1 rfl ?_
  refine gw_aload_n dX4_copy_4 rfl rfl ?_
  refine gs_getR cl4 0 dX4_copy_5 rfl kw_207 (by decide) (h0.1) rfl ?_
  refine gw_aload_n dX4_copy_8 rfl rfl ?_
  refine gs_getR cl4 0 dX4_copy_9 rfl kw_207 (by decide) (h1.1) rfl ?_
  obtain ⟨v2, c1, e_c1, H⟩ := cl_i H
  refine gw_V1 okX2_copy dX4_copy_12 kw_378 kw_379 kw_380 (hp_o (h0.2.1.1)) rfl ⟨by decide, by decide⟩ ⟨by decide, by decide⟩ (Nat.le_of_ble_eq_true rfl) (w_X2_copy (h0.2.1) (h1.2.1) e_c1 ?_)
  refine gw_aload_n dX4_copy_15 rfl rfl ?_
  refine gs_getR cl4 1 dX4_copy_16 rfl kw_210 (by decide) (h0.1) rfl ?_
  refine gw_aload_n dX4_copy_19 rfl rfl ?_
  refine gs_getR cl4 1 dX4_copy_20 rfl kw_210 (by decide) (h1.1) rfl ?_
  obtain ⟨v4, c3, e_c3, H⟩ := cl_i H
  refine gw_V1 okX6_copy dX4_copy_23 kw_389 kw_390 kw_391 (hp_o (h0.2.2.1)) rfl ⟨by decide, by decide⟩ ⟨by decide, by decide⟩ (Nat.le_of_ble_eq_true rfl) (w_X6_copy (h0.2.2) (h1.2.2) e_c3 ?_)
  refine gw_aload_n dX4_copy_26 rfl rfl ?_
  refine gw_aload_n dX4_copy_27 rfl rfl ?_
  refine gs_getI cl4 2 2 dX4_copy_28 rfl kw_213 (by decide) (h1.1) rfl rfl ?_
  obtain ⟨c5, e_c5, H⟩ := sto_i H
  refine gs_putIE cl4 2 2 dX4_copy_31 rfl kw_213 (by decide) rfl rfl (h0.1) rfl rfl e_c5 ?_
  refine gw_aload_n dX4_copy_34 rfl rfl ?_
  refine gw_aload_n dX4_copy_35 rfl rfl ?_
  refine gs_getI cl4 3 3 dX4_copy_36 rfl kw_215 (by decide) (h1.1) rfl rfl ?_
  obtain ⟨c6, e_c6, H⟩ := sto_i H
  refine gs_putIE cl4 3 3 dX4_copy_39 rfl kw_215 (by decide) rfl rfl (h0.1) rfl rfl e_c6 ?_
  refine gw_aload_n dX4_copy_42 rfl rfl ?_
  refine gw_aload_n dX4_copy_43 rfl rfl ?_
  refine gs_getI cl4 4 4 dX4_copy_44 rfl kw_217 (by decide) (h1.1) rfl rfl ?_
  obtain ⟨c7, e_c7, H⟩ := sto_i H
  refine gs_putIE cl4 4 4 dX4_copy_47 rfl kw_217 (by decide) rfl rfl (h0.1) rfl rfl e_c7 ?_
  refine gw_aload_n dX4_copy_50 rfl rfl ?_
  refine gw_aload_n dX4_copy_51 rfl rfl ?_
  refine gs_getI cl4 5 5 dX4_copy_52 rfl kw_219 (by decide) (h1.1) rfl rfl ?_
  obtain ⟨c8, e_c8, H⟩ := sto_i H
  refine gs_putIE cl4 5 5 dX4_copy_55 rfl kw_219 (by decide) rfl rfl (h0.1) rfl rfl e_c8 ?_
  cases H
  exact gw_vret dX4_copy_58 rfl (by decide) (by decide) hK
set_option maxRecDepth 100000 in
set_option maxHeartbeats 4000000 in
theorem l_X6_start_59 {Φ : gwC} {hb : gwHp} {M : Nat} {sh : Nat → Option gSh} {th : Nat} {p1 : Nat} {l2 : Int} {κ : W0 → Option (Int × W0)} {r : Int × W0} {K : Option Value → gwHp → Prop} (h0 : sT sh th) (h1 : sP sh p1) (hK : K none (hp Φ hb M sh r.2)) (hκ : ∀ (c : W0), κ c = some r → G Φ mX6_start (gw_M Φ mX6_start K) none 0 0 89 [(0, .ref (M + th)), (1, .ref (M + p1)), (2, vI l2)] [] (hp Φ hb M sh c)) : ∀ (n : Nat) (l3 : Int) (c : W0), f_X6_start_59 th p1 l2 κ n l3 c = some r → G Φ mX6_start (gw_M Φ mX6_start K) none 0 0 59 [(0, .ref (M + th)), (1, .ref (M + p1)), (2, vI l2), (3, vI l3)] [] (hp Φ hb M sh c) := by
  intro n
  induction n with
  | zero => intro l3 c H; cases H
  | succ n ih =>
    intro l3 c H
    have H : b_X6_start_59 th p1 l2 κ (f_X6_start_59 th p1 l2 κ n) l3 c = some r := H
    unfold b_X6_start_59 at H
    refine gw_iload_n dX6_start_59 rfl rfl ?_
    refine gw_aload_n dX6_start_60 rfl rfl ?_
    refine gs_getI cl6 1 1 dX6_start_61 rfl kw_190 (by decide) (h0.1) rfl rfl ?_
    obtain ⟨g, H⟩ := gd_i H
    refine gw_icmp_geZ (tgt := 89) dX6_start_64 rfl (by decide) g.1 g.2 (fun q => ?_) (fun q => ?_)
    · have H := bq_t q H
      exact gw_L (hκ _ H) ((lvA_c rfl (lvA_c rfl (lvA_c rfl lvA_n))))
    · have H := bq_f q H
      refine gw_aload_n dX6_start_67 rfl rfl ?_
      refine gs_getR cl6 4 dX6_start_68 rfl kw_195 (by decide) (h0.1) rfl ?_
      refine gw_iload_n dX6_start_71 rfl rfl ?_
      refine gw_iload_n dX6_start_72 rfl rfl ?_
      refine gw_aload_n dX6_start_73 rfl rfl ?_
      refine gw_iload_n dX6_start_74 rfl rfl ?_
      refine gw_iload_n dX6_start_75 rfl rfl ?_
      obtain ⟨v1, e_v1, H⟩ := cv_i H
      refine gw_V2 okX2_firstFactor dX6_start_76 kw_406 kw_407 kw_408 (hp_o (h1.1)) rfl ⟨by decide, by decide⟩ ⟨by decide, by decide⟩ (Nat.le_of_ble_eq_true rfl) (w_X2_firstFactor (h1) e_v1 ?_)
      obtain ⟨g, H⟩ := gd_i H
      refine gw_i2lZ dX6_start_79 rfl g ?_
      obtain ⟨g, H⟩ := gd_i H
      obtain ⟨c2, e_c2, H⟩ := sto_i H
      refine gw_V3 okX1_put dX6_start_80 kw_402 kw_403 kw_404 (hp_o (h0.2.2.1)) rfl ⟨by decide, by decide⟩ ⟨by decide, by decide⟩ (Nat.le_of_ble_eq_true rfl) (k_putE (h0.2.2) (by decide) (by omega) (by omega) (by omega) (by decide) e_c2 ?_)
      refine gw_iincZ dX6_start_83 rfl rfl (by decide) ?_
      refine gw_goto (tgt := 59) dX6_start_86 (by decide) ?_
      exact gw_L (ih _ _ H) ((lvA_c rfl (lvA_c rfl (lvA_c rfl (lvA_c rfl lvA_n)))))
set_option maxRecDepth 100000 in
set_option maxHeartbeats 4000000 in
theorem l_X6_start_33 {Φ : gwC} {hb : gwHp} {M : Nat} {sh : Nat → Option gSh} {th : Nat} {p1 : Nat} {κ : W0 → Option (Int × W0)} {r : Int × W0} {K : Option Value → gwHp → Prop} (h0 : sT sh th) (h1 : sP sh p1) (hK : K none (hp Φ hb M sh r.2)) (hκ : ∀ (c : W0), κ c = some r → G Φ mX6_start (gw_M Φ mX6_start K) none 0 0 113 [(0, .ref (M + th)), (1, .ref (M + p1))] [] (hp Φ hb M sh c)) : ∀ (n : Nat) (l2 : Int) (c : W0), f_X6_start_33 th p1 κ n l2 c = some r → G Φ mX6_start (gw_M Φ mX6_start K) none 0 0 33 [(0, .ref (M + th)), (1, .ref (M + p1)), (2, vI l2)] [] (hp Φ hb M sh c) := by
  intro n
  induction n with
  | zero => intro l2 c H; cases H
  | succ n ih =>
    intro l2 c H
    have H : b_X6_start_33 th p1 κ (f_X6_start_33 th p1 κ n) l2 c = some r := H
    unfold b_X6_start_33 at H
    refine gw_iload_n dX6_start_33 rfl rfl ?_
    refine gw_aload_n dX6_start_34 rfl rfl ?_
    refine gs_getI cl6 0 0 dX6_start_35 rfl kw_188 (by decide) (h0.1) rfl rfl ?_
    obtain ⟨g, H⟩ := gd_i H
    refine gw_icmp_geZ (tgt := 113) dX6_start_38 rfl (by decide) g.1 g.2 (fun q => ?_) (fun q => ?_)
    · have H := bq_t q H
      exact gw_L (hκ _ H) ((lvA_c rfl (lvA_c rfl lvA_n)))
    · have H := bq_f q H
      refine gw_aload_n dX6_start_41 rfl rfl ?_
      refine gs_getR cl6 3 dX6_start_42 rfl kw_194 (by decide) (h0.1) rfl ?_
      refine gw_iconstZ dX6_start_45 rfl ?_
      refine gw_iload_n dX6_start_46 rfl rfl ?_
      refine gw_aload_n dX6_start_47 rfl rfl ?_
      refine gs_getIN cl2 0 0 dX6_start_48 rfl kw_157 (by decide) (h1.1) rfl rfl ?_
      refine gw_iload_n dX6_start_51 rfl rfl ?_
      refine gw_iaddZ dX6_start_52 rfl ?_
      obtain ⟨g, H⟩ := gd_i H
      refine gw_i2lZ dX6_start_53 rfl g ?_
      obtain ⟨g, H⟩ := gd_i H
      obtain ⟨c1, e_c1, H⟩ := sto_i H
      refine gw_V3 okX1_put dX6_start_54 kw_402 kw_403 kw_404 (hp_o (h0.2.1.1)) rfl ⟨by decide, by decide⟩ ⟨by decide, by decide⟩ (Nat.le_of_ble_eq_true rfl) (k_put0E (h0.2.1) (by decide) (by omega) (by omega) (by decide) e_c1 ?_)
      refine gw_iconstZ dX6_start_57 rfl ?_
      refine gw_istore_n dX6_start_58 rfl (by decide) ?_
      refine gw_L (l_X6_start_59 h0 h1 hK (fun c2 H => ?_) LF _ _ H) ((lvA_c rfl (lvA_c rfl (lvA_c rfl (lvA_c rfl lvA_n)))))
      refine gw_aload_n dX6_start_89 rfl rfl ?_
      refine gs_getR cl6 4 dX6_start_90 rfl kw_195 (by decide) (h0.1) rfl ?_
      refine gw_iload_n dX6_start_93 rfl rfl ?_
      refine gw_aload_n dX6_start_94 rfl rfl ?_
      refine gs_getI cl6 1 1 dX6_start_95 rfl kw_190 (by decide) (h0.1) rfl rfl ?_
      refine gw_aload_n dX6_start_98 rfl rfl ?_
      refine gw_iload_n dX6_start_99 rfl rfl ?_
      obtain ⟨v3, e_v3, H⟩ := cv_i H
      refine gw_V1 okX2_bound dX6_start_100 kw_418 kw_419 kw_420 (hp_o (h1.1)) rfl ⟨by decide, by decide⟩ ⟨by decide, by decide⟩ (Nat.le_of_ble_eq_true rfl) (w_X2_bound (h1) e_v3 ?_)
      obtain ⟨g, H⟩ := gd_i H
      refine gw_i2lZ dX6_start_103 rfl g ?_
      obtain ⟨g, H⟩ := gd_i H
      obtain ⟨c4, e_c4, H⟩ := sto_i H
      refine gw_V3 okX1_put dX6_start_104 kw_402 kw_403 kw_404 (hp_o (h0.2.2.1)) rfl ⟨by decide, by decide⟩ ⟨by decide, by decide⟩ (Nat.le_of_ble_eq_true rfl) (k_putE (h0.2.2) (by decide) (by omega) (by omega) (by omega) (by decide) e_c4 ?_)
      refine gw_iincZ dX6_start_107 rfl rfl (by decide) ?_
      refine gw_goto (tgt := 33) dX6_start_110 (by decide) ?_
      exact gw_L (ih _ _ H) ((lvA_c rfl (lvA_c rfl (lvA_c rfl lvA_n))))
set_option maxRecDepth 100000 in
set_option maxHeartbeats 4000000 in
theorem l_X6_start_115 {Φ : gwC} {hb : gwHp} {M : Nat} {sh : Nat → Option gSh} {th : Nat} {p1 : Nat} {κ : W0 → Option (Int × W0)} {r : Int × W0} {K : Option Value → gwHp → Prop} (h0 : sT sh th) (h1 : sP sh p1) (hK : K none (hp Φ hb M sh r.2)) (hκ : ∀ (c : W0), κ c = some r → G Φ mX6_start (gw_M Φ mX6_start K) none 0 0 147 [(0, .ref (M + th))] [] (hp Φ hb M sh c)) : ∀ (n : Nat) (l2 : Int) (c : W0), f_X6_start_115 th p1 κ n l2 c = some r → G Φ mX6_start (gw_M Φ mX6_start K) none 0 0 115 [(0, .ref (M + th)), (1, .ref (M + p1)), (2, vI l2)] [] (hp Φ hb M sh c) := by
  intro n
  induction n with
  | zero => intro l2 c H; cases H
  | succ n ih =>
    intro l2 c H
    have H : b_X6_start_115 th p1 κ (f_X6_start_115 th p1 κ n) l2 c = some r := H
    unfold b_X6_start_115 at H
    refine gw_iload_n dX6_start_115 rfl rfl ?_
    refine gw_aload_n dX6_start_116 rfl rfl ?_
    refine gs_getI cl6 1 1 dX6_start_117 rfl kw_190 (by decide) (h0.1) rfl rfl ?_
    obtain ⟨g, H⟩ := gd_i H
    refine gw_icmp_geZ (tgt := 147) dX6_start_120 rfl (by decide) g.1 g.2 (fun q => ?_) (fun q => ?_)
    · have H := bq_t q H
      exact gw_L (hκ _ H) ((lvA_c rfl lvA_n))
    · have H := bq_f q H
      refine gw_aload_n dX6_start_123 rfl rfl ?_
      refine gs_getR cl6 4 dX6_start_124 rfl kw_195 (by decide) (h0.1) rfl ?_
      refine gw_aload_n dX6_start_127 rfl rfl ?_
      refine gs_getI cl6 0 0 dX6_start_128 rfl kw_188 (by decide) (h0.1) rfl rfl ?_
      refine gw_iload_n dX6_start_131 rfl rfl ?_
      refine gw_aload_n dX6_start_132 rfl rfl ?_
      refine gw_iload_n dX6_start_133 rfl rfl ?_
      obtain ⟨v1, e_v1, H⟩ := cv_i H
      refine gw_V1 okX2_columnProfit dX6_start_134 kw_422 kw_423 kw_424 (hp_o (h1.1)) rfl ⟨by decide, by decide⟩ ⟨by decide, by decide⟩ (Nat.le_of_ble_eq_true rfl) (w_X2_columnProfit (h1) e_v1 ?_)
      obtain ⟨g, H⟩ := gd_i H
      refine gw_i2lZ dX6_start_137 rfl g ?_
      obtain ⟨g, H⟩ := gd_i H
      obtain ⟨c2, e_c2, H⟩ := sto_i H
      refine gw_V3 okX1_put dX6_start_138 kw_402 kw_403 kw_404 (hp_o (h0.2.2.1)) rfl ⟨by decide, by decide⟩ ⟨by decide, by decide⟩ (Nat.le_of_ble_eq_true rfl) (k_putE (h0.2.2) (by decide) (by omega) (by omega) (by omega) (by decide) e_c2 ?_)
      refine gw_iincZ dX6_start_141 rfl rfl (by decide) ?_
      refine gw_goto (tgt := 115) dX6_start_144 (by decide) ?_
      exact gw_L (ih _ _ H) ((lvA_c rfl (lvA_c rfl (lvA_c rfl lvA_n))))
set_option maxRecDepth 100000 in
set_option maxHeartbeats 4000000 in
theorem w_X6_start {Φ : gwC} {hb : gwHp} {M : Nat} {sh : Nat → Option gSh} {th : Nat} {p1 : Nat} {c : W0} {r : Int × W0} {K : Option Value → gwHp → Prop} (h0 : sT sh th) (h1 : sP sh p1) (H : f_X6_start th p1 c = some r) (hK : K none (hp Φ hb M sh r.2)) : gw_Con Φ mX6_start none [.ref (M + th), .ref (M + p1)] (hp Φ hb M sh c) K := by
  unfold f_X6_start at H
  refine gw_start okX6_start (Nat.le_of_ble_eq_true rfl) ?_
  refine gw_aload_n dX6_start_0 rfl rfl ?_
  refine gw_ifnonnull (tgt := 5) dX6_start_1 (by decide) ?_
  refine gw_aload_n dX6_start_5 rfl rfl ?_
  refine gw_aload_n dX6_start_6 rfl rfl ?_
  refine gs_getIN cl2 1 1 dX6_start_7 rfl kw_164 (by decide) (h1.1) rfl rfl ?_
  obtain ⟨c1, e_c1, H⟩ := sto_i H
  refine gs_putIE cl6 0 0 dX6_start_10 rfl kw_188 (by decide) rfl rfl (h0.1) rfl rfl e_c1 ?_
  refine gw_aload_n dX6_start_13 rfl rfl ?_
  refine gw_aload_n dX6_start_14 rfl rfl ?_
  refine gs_getIN cl2 0 0 dX6_start_15 rfl kw_157 (by decide) (h1.1) rfl rfl ?_
  refine gw_aload_n dX6_start_18 rfl rfl ?_
  refine gs_getIN cl2 1 1 dX6_start_19 rfl kw_164 (by decide) (h1.1) rfl rfl ?_
  refine gw_iaddZ dX6_start_22 rfl ?_
  obtain ⟨c2, e_c2, H⟩ := sto_i H
  refine gs_putIE cl6 1 1 dX6_start_23 rfl kw_190 (by decide) rfl rfl (h0.1) rfl rfl e_c2 ?_
  refine gw_aload_n dX6_start_26 rfl rfl ?_
  refine gw_lconst1Z dX6_start_27 rfl ?_
  obtain ⟨c3, e_c3, H⟩ := sto_i H
  refine gs_putLE cl6 2 2 dX6_start_28 rfl kw_192 (by decide) rfl rfl (h0.1) rfl rfl e_c3 ?_
  refine gw_iconstZ dX6_start_31 rfl ?_
  refine gw_istore_n dX6_start_32 rfl (by decide) ?_
  refine gw_L (l_X6_start_33 h0 h1 hK (fun c4 H => ?_) LF _ _ H) ((lvA_c rfl (lvA_c rfl (lvA_c rfl lvA_n))))
  refine gw_iconstZ dX6_start_113 rfl ?_
  refine gw_istore_n dX6_start_114 rfl (by decide) ?_
  refine gw_L (l_X6_start_115 h0 h1 hK (fun c5 H => ?_) LF _ _ H) ((lvA_c rfl (lvA_c rfl (lvA_c rfl lvA_n))))
  refine gw_aload_n dX6_start_147 rfl rfl ?_
  refine gs_getR cl6 4 dX6_start_148 rfl kw_195 (by decide) (h0.1) rfl ?_
  refine gw_aload_n dX6_start_151 rfl rfl ?_
  refine gs_getI cl6 0 0 dX6_start_152 rfl kw_188 (by decide) (h0.1) rfl rfl ?_
  refine gw_aload_n dX6_start_155 rfl rfl ?_
  refine gs_getI cl6 1 1 dX6_start_156 rfl kw_190 (by decide) (h0.1) rfl rfl ?_
  refine gw_lconst0Z dX6_start_159 rfl ?_
  obtain ⟨g, H⟩ := gd_i H
  obtain ⟨c6, e_c6, H⟩ := sto_i H
  refine gw_V3 okX1_put dX6_start_160 kw_402 kw_403 kw_404 (hp_o (h0.2.2.1)) rfl ⟨by decide, by decide⟩ ⟨by decide, by decide⟩ (Nat.le_of_ble_eq_true rfl) (k_putE (h0.2.2) (by decide) (by omega) (by omega) (by omega) (by decide) e_c6 ?_)
  cases H
  exact gw_vret dX6_start_163 rfl (by decide) (by decide) hK
set_option maxRecDepth 100000 in
set_option maxHeartbeats 4000000 in
theorem w_X4_start {Φ : gwC} {hb : gwHp} {M : Nat} {sh : Nat → Option gSh} {th : Nat} {c : W0} {r : Int × W0} {K : Option Value → gwHp → Prop} (h0 : sS sh th) (H : f_X4_start th c = some r) (hK : K none (hp Φ hb M sh r.2)) : gw_Con Φ mX4_start none [.ref (M + th)] (hp Φ hb M sh c) K := by
  unfold f_X4_start at H
  refine gw_start okX4_start (Nat.le_of_ble_eq_true rfl) ?_
  refine gw_aload_n dX4_start_0 rfl rfl ?_
  refine gs_getR cl4 1 dX4_start_1 rfl kw_210 (by decide) (h0.1) rfl ?_
  refine gw_aload_n dX4_start_4 rfl rfl ?_
  refine gs_getR cl4 0 dX4_start_5 rfl kw_207 (by decide) (h0.1) rfl ?_
  obtain ⟨v2, c1, e_c1, H⟩ := cl_i H
  refine gw_V1 okX6_start dX4_start_8 kw_398 kw_399 kw_400 (hp_o (h0.2.2.1)) rfl ⟨by decide, by decide⟩ ⟨by decide, by decide⟩ (Nat.le_of_ble_eq_true rfl) (w_X6_start (h0.2.2) (h0.2.1) e_c1 ?_)
  refine gw_aload_n dX4_start_11 rfl rfl ?_
  refine gw_iconstZ dX4_start_12 rfl ?_
  obtain ⟨c3, e_c3, H⟩ := sto_i H
  refine gs_putIE cl4 3 3 dX4_start_13 rfl kw_215 (by decide) rfl rfl (h0.1) rfl rfl e_c3 ?_
  cases H
  exact gw_vret dX4_start_16 rfl (by decide) (by decide) hK
set_option maxRecDepth 100000 in
set_option maxHeartbeats 4000000 in
theorem w_X6_reduced {Φ : gwC} {hb : gwHp} {M : Nat} {sh : Nat → Option gSh} {th : Nat} {p1 : Int} {c : W0} {r : Int} {K : Option Value → gwHp → Prop} (h0 : sT sh th) (H : f_X6_reduced th p1 c = some r) (hK : K (some (vL r)) (hp Φ hb M sh c)) : gw_Con Φ mX6_reduced none [.ref (M + th), vI p1] (hp Φ hb M sh c) K := by
  unfold f_X6_reduced at H
  refine gw_start okX6_reduced (Nat.le_of_ble_eq_true rfl) ?_
  refine gw_aload_n dX6_reduced_0 rfl rfl ?_
  refine gs_getR cl6 4 dX6_reduced_1 rfl kw_195 (by decide) (h0.1) rfl ?_
  refine gw_aload_n dX6_reduced_4 rfl rfl ?_
  refine gs_getI cl6 0 0 dX6_reduced_5 rfl kw_188 (by decide) (h0.1) rfl rfl ?_
  refine gw_iload_n dX6_reduced_8 rfl rfl ?_
  obtain ⟨g, H⟩ := gd_i H
  refine gw_V2 okX1_at dX6_reduced_9 kw_450 kw_415 kw_416 (hp_o (h0.2.2.1)) rfl ⟨by decide, by decide⟩ ⟨by decide, by decide⟩ (Nat.le_of_ble_eq_true rfl) (k_at (h0.2.2) (by decide) (by omega) (by omega) (by omega) (by decide) ?_)
  cases H
  exact gw_lret dX6_reduced_12 rfl (by decide) (by decide) hK
end FW
