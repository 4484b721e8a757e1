section FW
set_option maxRecDepth 100000 in
set_option maxHeartbeats 4000000 in
theorem l_X9_begins_2 {Φ : gwC} {hb : gwHp} {M : Nat} {sh : Nat → Option gSh} {th : Nat} {κ : W0 → Option (Int × W0)} {r : Int × W0} {K : Option Value → gwHp → Prop} (h0 : sM sh th) (hK : K none (hp Φ hb M sh r.2)) (hκ : ∀ (c : W0), κ c = some r → G Φ mX9_begins (gw_M Φ mX9_begins K) none 0 0 44 [(0, .ref (M + th))] [] (hp Φ hb M sh c)) : ∀ (n : Nat) (l1 : Int) (c : W0), f_X9_begins_2 th κ n l1 c = some r → G Φ mX9_begins (gw_M Φ mX9_begins K) none 0 0 2 [(0, .ref (M + th)), (1, vI l1)] [] (hp Φ hb M sh c) := by
  intro n
  induction n with
  | zero => intro l1 c H; cases H
  | succ n ih =>
    intro l1 c H
    have H : b_X9_begins_2 th κ (f_X9_begins_2 th κ n) l1 c = some r := H
    unfold b_X9_begins_2 at H
    refine gw_iload_n dX9_begins_2 rfl rfl ?_
    refine gw_iconstZ dX9_begins_3 rfl ?_
    obtain ⟨g, H⟩ := gd_i H
    refine gw_icmp_geZ (tgt := 44) dX9_begins_4 rfl (by decide) g (by decide) (fun q => ?_) (fun q => ?_)
    · have H := bq_t q H
      exact gw_L (hκ _ H) ((lvA_c rfl lvA_n))
    · have H := bq_f q H
      refine gw_aload_n dX9_begins_7 rfl rfl ?_
      refine gs_getR cl9 1 dX9_begins_8 rfl kw_1320 (by decide) (h0.1) rfl ?_
      refine gw_bipushZ dX9_begins_11 rfl (by decide) ?_
      refine gw_iload_n dX9_begins_13 rfl rfl ?_
      refine gw_iaddZ dX9_begins_14 rfl ?_
      refine gw_iload_n dX9_begins_15 rfl rfl ?_
      refine gw_aload_n dX9_begins_16 rfl rfl ?_
      refine gs_getR cl9 1 dX9_begins_17 rfl kw_1320 (by decide) (h0.1) rfl ?_
      refine gw_iconstZ dX9_begins_20 rfl ?_
      refine gs_ialdZ dX9_begins_21 rfl (h0.2.1) (by decide) (by decide) ?_
      obtain ⟨g, H⟩ := gd_i H
      refine gw_icmp_geZ (tgt := 36) dX9_begins_22 rfl (by decide) g.1 g.2 (fun q => ?_) (fun q => ?_)
      · have H := bq_t q H
        refine gw_iconstZ dX9_begins_36 rfl ?_
        obtain ⟨g, H⟩ := gd_i H
        obtain ⟨c1, e_c1, H⟩ := sto_i H
        refine gs_iastZE dX9_begins_37 rfl (h0.2.1) g (by decide) e_c1 ?_
        refine gw_iincZ dX9_begins_38 rfl rfl (by decide) ?_
        refine gw_goto (tgt := 2) dX9_begins_41 (by decide) ?_
        exact gw_L (ih _ _ H) ((lvA_c rfl (lvA_c rfl lvA_n)))
      · have H := bq_f q H
        refine gw_aload_n dX9_begins_25 rfl rfl ?_
        refine gs_getR cl9 1 dX9_begins_26 rfl kw_1320 (by decide) (h0.1) rfl ?_
        refine gw_iconstZ dX9_begins_29 rfl ?_
        refine gs_ialdZ dX9_begins_30 rfl (h0.2.1) (by decide) (by decide) ?_
        refine gw_iload_n dX9_begins_31 rfl rfl ?_
        refine gw_iaddZ dX9_begins_32 rfl ?_
        refine gw_goto (tgt := 37) dX9_begins_33 (by decide) ?_
        obtain ⟨g, H⟩ := gd_i H
        obtain ⟨c2, e_c2, H⟩ := sto_i H
        refine gs_iastZE dX9_begins_37 rfl (h0.2.1) g (by decide) e_c2 ?_
        refine gw_iincZ dX9_begins_38 rfl rfl (by decide) ?_
        refine gw_goto (tgt := 2) dX9_begins_41 (by decide) ?_
        exact gw_L (ih _ _ H) ((lvA_c rfl (lvA_c rfl lvA_n)))
set_option maxRecDepth 100000 in
set_option maxHeartbeats 4000000 in
theorem w_X9_begins {Φ : gwC} {hb : gwHp} {M : Nat} {sh : Nat → Option gSh} {th : Nat} {c : W0} {r : Int × W0} {K : Option Value → gwHp → Prop} (h0 : sM sh th) (H : f_X9_begins th c = some r) (hK : K none (hp Φ hb M sh r.2)) : gw_Con Φ mX9_begins none [.ref (M + th)] (hp Φ hb M sh c) K := by
  unfold f_X9_begins at H
  refine gw_start okX9_begins (Nat.le_of_ble_eq_true rfl) ?_
  refine gw_iconstZ dX9_begins_0 rfl ?_
  refine gw_istore_n dX9_begins_1 rfl (by decide) ?_
  refine gw_L (l_X9_begins_2 h0 hK (fun c1 H => ?_) LF _ _ H) ((lvA_c rfl (lvA_c rfl lvA_n)))
  refine gw_aload_n dX9_begins_44 rfl rfl ?_
  refine gs_getR cl9 1 dX9_begins_45 rfl kw_1320 (by decide) (h0.1) rfl ?_
  refine gw_bipushZ dX9_begins_48 rfl (by decide) ?_
  refine gw_iconstZ dX9_begins_50 rfl ?_
  obtain ⟨c2, e_c2, H⟩ := sto_i H
  refine gs_iastZE dX9_begins_51 rfl (h0.2.1) (by decide) (by decide) e_c2 ?_
  cases H
  exact gw_vret dX9_begins_52 rfl (by decide) (by decide) hK
set_option maxRecDepth 100000 in
set_option maxHeartbeats 4000000 in
theorem l_X9_divisor_28 {Φ : gwC} {hb : gwHp} {M : Nat} {sh : Nat → Option gSh} {c : W0} {κ : Int → Option Int} {r : Int} {K : Option Value → gwHp → Prop}  (hK : K (some (vL r)) (hp Φ hb M sh c)) (hκ : ∀ (x4 : Int), κ x4 = some r → G Φ mX9_divisor (gw_M Φ mX9_divisor K) none 0 0 53 [(4, vL x4)] [] (hp Φ hb M sh c)) : ∀ (n : Nat) (l4 : Int) (l6 : Int), f_X9_divisor_28  κ n l4 l6 = some r → G Φ mX9_divisor (gw_M Φ mX9_divisor K) none 0 0 28 [(4, vL l4), (6, vL l6)] [] (hp Φ hb M sh c) := by
  intro n
  induction n with
  | zero => intro l4 l6 H; cases H
  | succ n ih =>
    intro l4 l6 H
    have H : b_X9_divisor_28  κ (f_X9_divisor_28  κ n) l4 l6 = some r := H
    unfold b_X9_divisor_28 at H
    refine gw_lload dX9_divisor_28 rfl rfl ?_
    refine gw_lconst0Z dX9_divisor_30 rfl ?_
    obtain ⟨g, H⟩ := gd_i H
    refine gw_lc_eqZ (tgt := 53) dX9_divisor_31 rfl dX9_divisor_32 rfl (by decide) g (by decide) (fun q => ?_) (fun q => ?_)
    · have H := bq_t q H
      exact gw_L (hκ _ H) ((lvA_c rfl lvA_n))
    · have H := bq_f q H
      refine gw_lload dX9_divisor_35 rfl rfl ?_
      refine gw_lload dX9_divisor_37 rfl rfl ?_
      obtain ⟨g, H⟩ := gd_i H
      refine gw_lremZ dX9_divisor_39 rfl g.1 g.2.1 g.2.2 ?_
      refine gw_lstore dX9_divisor_40 rfl (by decide) ?_
      refine gw_lload dX9_divisor_42 rfl rfl ?_
      refine gw_lstore dX9_divisor_44 rfl (by decide) ?_
      refine gw_lload dX9_divisor_46 rfl rfl ?_
      refine gw_lstore dX9_divisor_48 rfl (by decide) ?_
      refine gw_goto (tgt := 28) dX9_divisor_50 (by decide) ?_
      exact gw_L (ih _ _ H) ((lvA_c rfl (lvA_c rfl lvA_n)))
set_option maxRecDepth 100000 in
set_option maxHeartbeats 4000000 in
theorem w_X9_divisor {Φ : gwC} {hb : gwHp} {M : Nat} {sh : Nat → Option gSh} {p1 : Int} {p2 : Int} {c : W0} {r : Int} {K : Option Value → gwHp → Prop}  (H : f_X9_divisor p1 p2 = some r) (hK : K (some (vL r)) (hp Φ hb M sh c)) : gw_Con Φ mX9_divisor none [vL p1, vL p2] (hp Φ hb M sh c) K := by
  unfold f_X9_divisor at H
  refine gw_start okX9_divisor (Nat.le_of_ble_eq_true rfl) ?_
  refine gw_lload_n dX9_divisor_0 rfl rfl ?_
  refine gw_lconst0Z dX9_divisor_1 rfl ?_
  obtain ⟨g, H⟩ := gd_i H
  obtain ⟨k1, e_k1, H⟩ := jn_i H
  have hJ : ∀ (v2 : Int), k1 v2 = some r → G Φ mX9_divisor (gw_M Φ mX9_divisor K) none 0 0 12 [(2, vL p2)] [vL v2] (hp Φ hb M sh c) := by
    intro v2 H
    subst e_k1
    refine gw_lstore dX9_divisor_12 rfl (by decide) ?_
    refine gw_lload_n dX9_divisor_14 rfl rfl ?_
    refine gw_lconst0Z dX9_divisor_15 rfl ?_
    obtain ⟨g, H⟩ := gd_i H
    obtain ⟨k3, e_k3, H⟩ := jn_i H
    have hJ : ∀ (v4 : Int), k3 v4 = some r → G Φ mX9_divisor (gw_M Φ mX9_divisor K) none 0 0 26 [(4, vL v2)] [vL v4] (hp Φ hb M sh c) := by
      intro v4 H
      subst e_k3
      refine gw_lstore dX9_divisor_26 rfl (by decide) ?_
      refine gw_L (l_X9_divisor_28  hK (fun v5 H => ?_) LF _ _ H) ((lvA_c rfl (lvA_c rfl lvA_n)))
      refine gw_lload dX9_divisor_53 rfl rfl ?_
      cases H
      exact gw_lret dX9_divisor_55 rfl (by decide) (by decide) hK
    refine gw_lc_geZ (tgt := 25) dX9_divisor_16 rfl dX9_divisor_17 rfl (by decide) g (by decide) (fun q => ?_) (fun q => ?_)
    · have H := bq_t q H
      refine gw_lload_n dX9_divisor_25 rfl rfl ?_
      exact gw_L (hJ _ H) ((lvA_c rfl lvA_n))
    · have H := bq_f q H
      refine gw_lload_n dX9_divisor_20 rfl rfl ?_
      refine gw_lnegZ dX9_divisor_21 rfl ?_
      refine gw_goto (tgt := 26) dX9_divisor_22 (by decide) ?_
      exact gw_L (hJ _ H) ((lvA_c rfl lvA_n))
  refine gw_lc_geZ (tgt := 11) dX9_divisor_2 rfl dX9_divisor_3 rfl (by decide) g (by decide) (fun q => ?_) (fun q => ?_)
  · have H := bq_t q H
    refine gw_lload_n dX9_divisor_11 rfl rfl ?_
    exact gw_L (hJ _ H) ((lvA_c rfl lvA_n))
  · have H := bq_f q H
    refine gw_lload_n dX9_divisor_6 rfl rfl ?_
    refine gw_lnegZ dX9_divisor_7 rfl ?_
    refine gw_goto (tgt := 12) dX9_divisor_8 (by decide) ?_
    exact gw_L (hJ _ H) ((lvA_c rfl lvA_n))
set_option maxRecDepth 100000 in
set_option maxHeartbeats 4000000 in
theorem w_X9_becomes {Φ : gwC} {hb : gwHp} {M : Nat} {sh : Nat → Option gSh} {th : Nat} {p1 : Int} {p2 : Int} {c : W0} {r : Int × W0} {K : Option Value → gwHp → Prop} (h0 : sM sh th) (H : f_X9_becomes th p1 p2 c = some r) (hK : K none (hp Φ hb M sh r.2)) : gw_Con Φ mX9_becomes none [.ref (M + th), vL p1, vL p2] (hp Φ hb M sh c) K := by
  unfold f_X9_becomes at H
  refine gw_start okX9_becomes (Nat.le_of_ble_eq_true rfl) ?_
  refine gw_lload_n dX9_becomes_0 rfl rfl ?_
  refine gw_lload_n dX9_becomes_1 rfl rfl ?_
  obtain ⟨v1, e_v1, H⟩ := cv_i H
  refine gw_S2 okX9_divisor dX9_becomes_2 kw_1508 kw_1509 ⟨by decide, by decide⟩ ⟨by decide, by decide⟩ (Nat.le_of_ble_eq_true rfl) (w_X9_divisor  e_v1 ?_)
  refine gw_lstore dX9_becomes_5 rfl (by decide) ?_
  refine gw_lload_n dX9_becomes_7 rfl rfl ?_
  refine gw_lconst0Z dX9_becomes_8 rfl ?_
  obtain ⟨g, H⟩ := gd_i H
  obtain ⟨k2, e_k2, H⟩ := jn_i H
  have hJ : ∀ (v3 : Int), k2 v3 = some r → G Φ mX9_becomes (gw_M Φ mX9_becomes K) none 0 0 21 [(0, .ref (M + th)), (1, vL p1), (3, vL p2)] [vL v3] (hp Φ hb M sh c) := by
    intro v3 H
    subst e_k2
    refine gw_lstore dX9_becomes_21 rfl (by decide) ?_
    refine gw_aload_n dX9_becomes_23 rfl rfl ?_
    refine gw_lload_n dX9_becomes_24 rfl rfl ?_
    refine gw_lload dX9_becomes_25 rfl rfl ?_
    obtain ⟨g, H⟩ := gd_i H
    refine gw_ldivZ dX9_becomes_27 rfl g.1 g.2.1 g.2.2 ?_
    obtain ⟨c4, e_c4, H⟩ := sto_i H
    refine gs_putLE cl9 16 16 dX9_becomes_28 rfl kw_1335 (by decide) rfl rfl (h0.1) rfl rfl e_c4 ?_
    refine gw_aload_n dX9_becomes_31 rfl rfl ?_
    refine gw_lload_n dX9_becomes_32 rfl rfl ?_
    refine gw_lload dX9_becomes_33 rfl rfl ?_
    obtain ⟨g, H⟩ := gd_i H
    refine gw_ldivZ dX9_becomes_35 rfl g.1 g.2.1 g.2.2 ?_
    obtain ⟨c5, e_c5, H⟩ := sto_i H
    refine gs_putLE cl9 17 17 dX9_becomes_36 rfl kw_1336 (by decide) rfl rfl (h0.1) rfl rfl e_c5 ?_
    cases H
    exact gw_vret dX9_becomes_39 rfl (by decide) (by decide) hK
  refine gw_lc_geZ (tgt := 19) dX9_becomes_9 rfl dX9_becomes_10 rfl (by decide) g (by decide) (fun q => ?_) (fun q => ?_)
  · have H := bq_t q H
    refine gw_lload dX9_becomes_19 rfl rfl ?_
    exact gw_L (hJ _ H) ((lvA_c rfl (lvA_c rfl (lvA_c rfl lvA_n))))
  · have H := bq_f q H
    refine gw_lload dX9_becomes_13 rfl rfl ?_
    refine gw_lnegZ dX9_becomes_15 rfl ?_
    refine gw_goto (tgt := 21) dX9_becomes_16 (by decide) ?_
    exact gw_L (hJ _ H) ((lvA_c rfl (lvA_c rfl (lvA_c rfl lvA_n))))
set_option maxRecDepth 100000 in
set_option maxHeartbeats 4000000 in
theorem w_X9_adds {Φ : gwC} {hb : gwHp} {M : Nat} {sh : Nat → Option gSh} {th : Nat} {p1 : Int} {p2 : Int} {p3 : Int} {c : W0} {r : Int × W0} {K : Option Value → gwHp → Prop} (h0 : sM sh th) (H : f_X9_adds th p1 p2 p3 c = some r) (hK : K none (hp Φ hb M sh r.2)) : gw_Con Φ mX9_adds none [.ref (M + th), vL p1, vL p2, vL p3] (hp Φ hb M sh c) K := by
  unfold f_X9_adds at H
  refine gw_start okX9_adds (Nat.le_of_ble_eq_true rfl) ?_
  refine gw_aload_n dX9_adds_0 rfl rfl ?_
  refine gw_aload_n dX9_adds_1 rfl rfl ?_
  refine gs_getL cl9 16 16 dX9_adds_2 rfl kw_1335 (by decide) (h0.1) rfl rfl ?_
  refine gw_lload dX9_adds_5 rfl rfl ?_
  refine gw_lmulZ dX9_adds_7 rfl ?_
  refine gw_lload_n dX9_adds_8 rfl rfl ?_
  refine gw_lload_n dX9_adds_9 rfl rfl ?_
  refine gw_lmulZ dX9_adds_10 rfl ?_
  refine gw_aload_n dX9_adds_11 rfl rfl ?_
  refine gs_getL cl9 17 17 dX9_adds_12 rfl kw_1336 (by decide) (h0.1) rfl rfl ?_
  refine gw_lmulZ dX9_adds_15 rfl ?_
  refine gw_laddZ dX9_adds_16 rfl ?_
  refine gw_aload_n dX9_adds_17 rfl rfl ?_
  refine gs_getL cl9 17 17 dX9_adds_18 rfl kw_1336 (by decide) (h0.1) rfl rfl ?_
  refine gw_lload dX9_adds_21 rfl rfl ?_
  refine gw_lmulZ dX9_adds_23 rfl ?_
  obtain ⟨v2, c1, e_c1, H⟩ := cl_i H
  refine gw_V2 okX9_becomes dX9_adds_24 kw_1504 kw_1506 kw_48 (hp_o (h0.1)) rfl ⟨by decide, by decide⟩ ⟨by decide, by decide⟩ (Nat.le_of_ble_eq_true rfl) (w_X9_becomes (h0) e_c1 ?_)
  cases H
  exact gw_vret dX9_adds_27 rfl (by decide) (by decide) hK
set_option maxRecDepth 100000 in
set_option maxHeartbeats 4000000 in
theorem w_X9_firstFactor {Φ : gwC} {hb : gwHp} {M : Nat} {sh : Nat → Option gSh} {th : Nat} {p1 : Int} {p2 : Int} {c : W0} {r : Int} {K : Option Value → gwHp → Prop} (h0 : sM sh th) (H : f_X9_firstFactor th p1 p2 c = some r) (hK : K (some (vI r)) (hp Φ hb M sh c)) : gw_Con Φ mX9_firstFactor none [.ref (M + th), vI p1, vI p2] (hp Φ hb M sh c) K := by
  unfold f_X9_firstFactor at H
  refine gw_start okX9_firstFactor (Nat.le_of_ble_eq_true rfl) ?_
  refine gw_iload_n dX9_firstFactor_0 rfl rfl ?_
  refine gw_bipushZ dX9_firstFactor_1 rfl (by decide) ?_
  obtain ⟨g, H⟩ := gd_i H
  refine gw_icmp_neZ (tgt := 18) dX9_firstFactor_3 rfl (by decide) g (by decide) (fun q => ?_) (fun q => ?_)
  · have H := bq_f q H
    refine gw_iload_n dX9_firstFactor_18 rfl rfl ?_
    refine gw_aload_n dX9_firstFactor_19 rfl rfl ?_
    refine gs_getR cl9 1 dX9_firstFactor_20 rfl kw_1320 (by decide) (h0.1) rfl ?_
    refine gw_iconstZ dX9_firstFactor_23 rfl ?_
    refine gs_ialdZ dX9_firstFactor_24 rfl (h0.2.1) (by decide) (by decide) ?_
    obtain ⟨g, H⟩ := gd_i H
    refine gw_icmp_geZ (tgt := 44) dX9_firstFactor_25 rfl (by decide) g.1 g.2 (fun q => ?_) (fun q => ?_)
    · have H := bq_t q H
      refine gw_iload_n dX9_firstFactor_44 rfl rfl ?_
      refine gw_aload_n dX9_firstFactor_45 rfl rfl ?_
      refine gs_getR cl9 1 dX9_firstFactor_46 rfl kw_1320 (by decide) (h0.1) rfl ?_
      refine gw_iconstZ dX9_firstFactor_49 rfl ?_
      refine gs_ialdZ dX9_firstFactor_50 rfl (h0.2.1) (by decide) (by decide) ?_
      refine gw_isubZ dX9_firstFactor_51 rfl ?_
      refine gw_iload_n dX9_firstFactor_52 rfl rfl ?_
      obtain ⟨g, H⟩ := gd_i H
      refine gw_icmp_neZ (tgt := 60) dX9_firstFactor_53 rfl (by decide) g.1 g.2 (fun q => ?_) (fun q => ?_)
      · have H := bq_f q H
        refine gw_iconstZ dX9_firstFactor_60 rfl ?_
        cases H
        exact gw_iret dX9_firstFactor_61 rfl (by decide) (by decide) hK
      · have H := bq_t q H
        refine gw_iconstZ dX9_firstFactor_56 rfl ?_
        refine gw_goto (tgt := 61) dX9_firstFactor_57 (by decide) ?_
        cases H
        exact gw_iret dX9_firstFactor_61 rfl (by decide) (by decide) hK
    · have H := bq_f q H
      refine gw_aload_n dX9_firstFactor_28 rfl rfl ?_
      refine gs_getR cl9 1 dX9_firstFactor_29 rfl kw_1320 (by decide) (h0.1) rfl ?_
      refine gw_bipushZ dX9_firstFactor_32 rfl (by decide) ?_
      refine gw_iconstZ dX9_firstFactor_34 rfl ?_
      refine gw_iload_n dX9_firstFactor_35 rfl rfl ?_
      refine gw_imulZ dX9_firstFactor_36 rfl ?_
      refine gw_iaddZ dX9_firstFactor_37 rfl ?_
      refine gw_iload_n dX9_firstFactor_38 rfl rfl ?_
      refine gw_iaddZ dX9_firstFactor_39 rfl ?_
      obtain ⟨g, H⟩ := gd_i H
      refine gs_ialdZ dX9_firstFactor_40 rfl (h0.2.1) g (by decide) ?_
      refine gw_goto (tgt := 61) dX9_firstFactor_41 (by decide) ?_
      cases H
      exact gw_iret dX9_firstFactor_61 rfl (by decide) (by decide) hK
  · have H := bq_t q H
    refine gw_aload_n dX9_firstFactor_6 rfl rfl ?_
    refine gs_getR cl9 1 dX9_firstFactor_7 rfl kw_1320 (by decide) (h0.1) rfl ?_
    refine gw_bipushZ dX9_firstFactor_10 rfl (by decide) ?_
    refine gw_iload_n dX9_firstFactor_12 rfl rfl ?_
    refine gw_iaddZ dX9_firstFactor_13 rfl ?_
    obtain ⟨g, H⟩ := gd_i H
    refine gs_ialdZ dX9_firstFactor_14 rfl (h0.2.1) g (by decide) ?_
    refine gw_goto (tgt := 61) dX9_firstFactor_15 (by decide) ?_
    cases H
    exact gw_iret dX9_firstFactor_61 rfl (by decide) (by decide) hK
set_option maxRecDepth 100000 in
set_option maxHeartbeats 4000000 in
theorem l_X9_lessens_3 {Φ : gwC} {hb : gwHp} {M : Nat} {sh : Nat → Option gSh} {th : Nat} {p1 : Int} {p2 : Int} {p3 : Int} {p4 : Int} {κ : W0 → Option (Int × W0)} {r : Int × W0} {K : Option Value → gwHp → Prop} (h0 : sM sh th) (hK : K none (hp Φ hb M sh r.2)) (hκ : ∀ (c : W0), κ c = some r → G Φ mX9_lessens (gw_M Φ mX9_lessens K) none 0 0 136 [] [] (hp Φ hb M sh c)) : ∀ (n : Nat) (l7 : Int) (c : W0), f_X9_lessens_3 th p1 p2 p3 p4 κ n l7 c = some r → G Φ mX9_lessens (gw_M Φ mX9_lessens K) none 0 0 3 [(0, .ref (M + th)), (1, vI p1), (2, vI p2), (3, vL p3), (5, vL p4), (7, vI l7)] [] (hp Φ hb M sh c) := by
  intro n
  induction n with
  | zero => intro l7 c H; cases H
  | succ n ih =>
    intro l7 c H
    have H : b_X9_lessens_3 th p1 p2 p3 p4 κ (f_X9_lessens_3 th p1 p2 p3 p4 κ n) l7 c = some r := H
    unfold b_X9_lessens_3 at H
    refine gw_iload dX9_lessens_3 rfl rfl ?_
    refine gw_bipushZ dX9_lessens_5 rfl (by decide) ?_
    obtain ⟨g, H⟩ := gd_i H
    refine gw_icmp_geZ (tgt := 136) dX9_lessens_7 rfl (by decide) g (by decide) (fun q => ?_) (fun q => ?_)
    · have H := bq_t q H
      exact gw_L (hκ _ H) (lvA_n)
    · have H := bq_f q H
      refine gw_aload_n dX9_lessens_10 rfl rfl ?_
      refine gw_aload_n dX9_lessens_11 rfl rfl ?_
      refine gs_getR cl9 13 dX9_lessens_12 rfl kw_1332 (by decide) (h0.1) rfl ?_
      refine gw_bipushZ dX9_lessens_15 rfl (by decide) ?_
      refine gw_iload_n dX9_lessens_17 rfl rfl ?_
      refine gw_imulZ dX9_lessens_18 rfl ?_
      refine gw_iload dX9_lessens_19 rfl rfl ?_
      refine gw_iaddZ dX9_lessens_21 rfl ?_
      obtain ⟨g, H⟩ := gd_i H
      refine gs_laldZ dX9_lessens_22 rfl (h0.2.2.2.2.2.2.2.2.2.2.1) g (by decide) ?_
      refine gw_lload dX9_lessens_23 rfl rfl ?_
      refine gw_lmulZ dX9_lessens_25 rfl ?_
      refine gw_aload_n dX9_lessens_26 rfl rfl ?_
      refine gs_getR cl9 14 dX9_lessens_27 rfl kw_1333 (by decide) (h0.1) rfl ?_
      refine gw_bipushZ dX9_lessens_30 rfl (by decide) ?_
      refine gw_iload_n dX9_lessens_32 rfl rfl ?_
      refine gw_imulZ dX9_lessens_33 rfl ?_
      refine gw_iload dX9_lessens_34 rfl rfl ?_
      refine gw_iaddZ dX9_lessens_36 rfl ?_
      obtain ⟨g, H⟩ := gd_i H
      refine gs_laldZ dX9_lessens_37 rfl (h0.2.2.2.2.2.2.2.2.2.2.2.1) g (by decide) ?_
      refine gw_lmulZ dX9_lessens_38 rfl ?_
      refine gw_lload_n dX9_lessens_39 rfl rfl ?_
      refine gw_aload_n dX9_lessens_40 rfl rfl ?_
      refine gs_getR cl9 13 dX9_lessens_41 rfl kw_1332 (by decide) (h0.1) rfl ?_
      refine gw_bipushZ dX9_lessens_44 rfl (by decide) ?_
      refine gw_iload_n dX9_lessens_46 rfl rfl ?_
      refine gw_imulZ dX9_lessens_47 rfl ?_
      refine gw_iload dX9_lessens_48 rfl rfl ?_
      refine gw_iaddZ dX9_lessens_50 rfl ?_
      obtain ⟨g, H⟩ := gd_i H
      refine gs_laldZ dX9_lessens_51 rfl (h0.2.2.2.2.2.2.2.2.2.2.1) g (by decide) ?_
      refine gw_lmulZ dX9_lessens_52 rfl ?_
      refine gw_aload_n dX9_lessens_53 rfl rfl ?_
      refine gs_getR cl9 14 dX9_lessens_54 rfl kw_1333 (by decide) (h0.1) rfl ?_
      refine gw_bipushZ dX9_lessens_57 rfl (by decide) ?_
      refine gw_iload_n dX9_lessens_59 rfl rfl ?_
      refine gw_imulZ dX9_lessens_60 rfl ?_
      refine gw_iload dX9_lessens_61 rfl rfl ?_
      refine gw_iaddZ dX9_lessens_63 rfl ?_
      obtain ⟨g, H⟩ := gd_i H
      refine gs_laldZ dX9_lessens_64 rfl (h0.2.2.2.2.2.2.2.2.2.2.2.1) g (by decide) ?_
      refine gw_lmulZ dX9_lessens_65 rfl ?_
      refine gw_lsubZ dX9_lessens_66 rfl ?_
      refine gw_aload_n dX9_lessens_67 rfl rfl ?_
      refine gs_getR cl9 14 dX9_lessens_68 rfl kw_1333 (by decide) (h0.1) rfl ?_
      refine gw_bipushZ dX9_lessens_71 rfl (by decide) ?_
      refine gw_iload_n dX9_lessens_73 rfl rfl ?_
      refine gw_imulZ dX9_lessens_74 rfl ?_
      refine gw_iload dX9_lessens_75 rfl rfl ?_
      refine gw_iaddZ dX9_lessens_77 rfl ?_
      obtain ⟨g, H⟩ := gd_i H
      refine gs_laldZ dX9_lessens_78 rfl (h0.2.2.2.2.2.2.2.2.2.2.2.1) g (by decide) ?_
      refine gw_lload dX9_lessens_79 rfl rfl ?_
      refine gw_lmulZ dX9_lessens_81 rfl ?_
      refine gw_aload_n dX9_lessens_82 rfl rfl ?_
      refine gs_getR cl9 14 dX9_lessens_83 rfl kw_1333 (by decide) (h0.1) rfl ?_
      refine gw_bipushZ dX9_lessens_86 rfl (by decide) ?_
      refine gw_iload_n dX9_lessens_88 rfl rfl ?_
      refine gw_imulZ dX9_lessens_89 rfl ?_
      refine gw_iload dX9_lessens_90 rfl rfl ?_
      refine gw_iaddZ dX9_lessens_92 rfl ?_
      obtain ⟨g, H⟩ := gd_i H
      refine gs_laldZ dX9_lessens_93 rfl (h0.2.2.2.2.2.2.2.2.2.2.2.1) g (by decide) ?_
      refine gw_lmulZ dX9_lessens_94 rfl ?_
      obtain ⟨v2, c1, e_c1, H⟩ := cl_i H
      refine gw_V2 okX9_becomes dX9_lessens_95 kw_1504 kw_1506 kw_48 (hp_o (h0.1)) rfl ⟨by decide, by decide⟩ ⟨by decide, by decide⟩ (Nat.le_of_ble_eq_true rfl) (w_X9_becomes (h0) e_c1 ?_)
      refine gw_aload_n dX9_lessens_98 rfl rfl ?_
      refine gs_getR cl9 13 dX9_lessens_99 rfl kw_1332 (by decide) (h0.1) rfl ?_
      refine gw_bipushZ dX9_lessens_102 rfl (by decide) ?_
      refine gw_iload_n dX9_lessens_104 rfl rfl ?_
      refine gw_imulZ dX9_lessens_105 rfl ?_
      refine gw_iload dX9_lessens_106 rfl rfl ?_
      refine gw_iaddZ dX9_lessens_108 rfl ?_
      refine gw_aload_n dX9_lessens_109 rfl rfl ?_
      refine gs_getL cl9 16 16 dX9_lessens_110 rfl kw_1335 (by decide) (h0.1) rfl rfl ?_
      obtain ⟨g, H⟩ := gd_i H
      obtain ⟨c3, e_c3, H⟩ := sto_i H
      refine gs_lastZE dX9_lessens_113 rfl (h0.2.2.2.2.2.2.2.2.2.2.1) g (by decide) e_c3 ?_
      refine gw_aload_n dX9_lessens_114 rfl rfl ?_
      refine gs_getR cl9 14 dX9_lessens_115 rfl kw_1333 (by decide) (h0.1) rfl ?_
      refine gw_bipushZ dX9_lessens_118 rfl (by decide) ?_
      refine gw_iload_n dX9_lessens_120 rfl rfl ?_
      refine gw_imulZ dX9_lessens_121 rfl ?_
      refine gw_iload dX9_lessens_122 rfl rfl ?_
      refine gw_iaddZ dX9_lessens_124 rfl ?_
      refine gw_aload_n dX9_lessens_125 rfl rfl ?_
      refine gs_getL cl9 17 17 dX9_lessens_126 rfl kw_1336 (by decide) (h0.1) rfl rfl ?_
      obtain ⟨g, H⟩ := gd_i H
      obtain ⟨c4, e_c4, H⟩ := sto_i H
      refine gs_lastZE dX9_lessens_129 rfl (h0.2.2.2.2.2.2.2.2.2.2.2.1) g (by decide) e_c4 ?_
      refine gw_iincZ dX9_lessens_130 rfl rfl (by decide) ?_
      refine gw_goto (tgt := 3) dX9_lessens_133 (by decide) ?_
      exact gw_L (ih _ _ H) ((lvA_c rfl (lvA_c rfl (lvA_c rfl (lvA_c rfl (lvA_c rfl (lvA_c rfl lvA_n)))))))
set_option maxRecDepth 100000 in
set_option maxHeartbeats 4000000 in
theorem w_X9_lessens {Φ : gwC} {hb : gwHp} {M : Nat} {sh : Nat → Option gSh} {th : Nat} {p1 : Int} {p2 : Int} {p3 : Int} {p4 : Int} {c : W0} {r : Int × W0} {K : Option Value → gwHp → Prop} (h0 : sM sh th) (H : f_X9_lessens th p1 p2 p3 p4 c = some r) (hK : K none (hp Φ hb M sh r.2)) : gw_Con Φ mX9_lessens none [.ref (M + th), vI p1, vI p2, vL p3, vL p4] (hp Φ hb M sh c) K := by
  unfold f_X9_lessens at H
  refine gw_start okX9_lessens (Nat.le_of_ble_eq_true rfl) ?_
  refine gw_iconstZ dX9_lessens_0 rfl ?_
  refine gw_istore dX9_lessens_1 rfl (by decide) ?_
  refine gw_L (l_X9_lessens_3 h0 hK (fun c1 H => ?_) LF _ _ H) ((lvA_c rfl (lvA_c rfl (lvA_c rfl (lvA_c rfl (lvA_c rfl (lvA_c rfl lvA_n)))))))
  cases H
  exact gw_vret dX9_lessens_136 rfl (by decide) (by decide) hK
set_option maxRecDepth 100000 in
set_option maxHeartbeats 4000000 in
theorem l_X9_divides_3 {Φ : gwC} {hb : gwHp} {M : Nat} {sh : Nat → Option gSh} {th : Nat} {p1 : Int} {p2 : Int} {p3 : Int} {κ : W0 → Option (Int × W0)} {r : Int × W0} {K : Option Value → gwHp → Prop} (h0 : sM sh th) (hK : K none (hp Φ hb M sh r.2)) (hκ : ∀ (c : W0), κ c = some r → G Φ mX9_divides (gw_M Φ mX9_divides K) none 0 0 81 [] [] (hp Φ hb M sh c)) : ∀ (n : Nat) (l6 : Int) (c : W0), f_X9_divides_3 th p1 p2 p3 κ n l6 c = some r → G Φ mX9_divides (gw_M Φ mX9_divides K) none 0 0 3 [(0, .ref (M + th)), (1, vI p1), (2, vL p2), (4, vL p3), (6, vI l6)] [] (hp Φ hb M sh c) := by
  intro n
  induction n with
  | zero => intro l6 c H; cases H
  | succ n ih =>
    intro l6 c H
    have H : b_X9_divides_3 th p1 p2 p3 κ (f_X9_divides_3 th p1 p2 p3 κ n) l6 c = some r := H
    unfold b_X9_divides_3 at H
    refine gw_iload dX9_divides_3 rfl rfl ?_
    refine gw_bipushZ dX9_divides_5 rfl (by decide) ?_
    obtain ⟨g, H⟩ := gd_i H
    refine gw_icmp_geZ (tgt := 81) dX9_divides_7 rfl (by decide) g (by decide) (fun q => ?_) (fun q => ?_)
    · have H := bq_t q H
      exact gw_L (hκ _ H) (lvA_n)
    · have H := bq_f q H
      refine gw_aload_n dX9_divides_10 rfl rfl ?_
      refine gw_aload_n dX9_divides_11 rfl rfl ?_
      refine gs_getR cl9 13 dX9_divides_12 rfl kw_1332 (by decide) (h0.1) rfl ?_
      refine gw_bipushZ dX9_divides_15 rfl (by decide) ?_
      refine gw_iload_n dX9_divides_17 rfl rfl ?_
      refine gw_imulZ dX9_divides_18 rfl ?_
      refine gw_iload dX9_divides_19 rfl rfl ?_
      refine gw_iaddZ dX9_divides_21 rfl ?_
      obtain ⟨g, H⟩ := gd_i H
      refine gs_laldZ dX9_divides_22 rfl (h0.2.2.2.2.2.2.2.2.2.2.1) g (by decide) ?_
      refine gw_lload dX9_divides_23 rfl rfl ?_
      refine gw_lmulZ dX9_divides_25 rfl ?_
      refine gw_aload_n dX9_divides_26 rfl rfl ?_
      refine gs_getR cl9 14 dX9_divides_27 rfl kw_1333 (by decide) (h0.1) rfl ?_
      refine gw_bipushZ dX9_divides_30 rfl (by decide) ?_
      refine gw_iload_n dX9_divides_32 rfl rfl ?_
      refine gw_imulZ dX9_divides_33 rfl ?_
      refine gw_iload dX9_divides_34 rfl rfl ?_
      refine gw_iaddZ dX9_divides_36 rfl ?_
      obtain ⟨g, H⟩ := gd_i H
      refine gs_laldZ dX9_divides_37 rfl (h0.2.2.2.2.2.2.2.2.2.2.2.1) g (by decide) ?_
      refine gw_lload_n dX9_divides_38 rfl rfl ?_
      refine gw_lmulZ dX9_divides_39 rfl ?_
      obtain ⟨v2, c1, e_c1, H⟩ := cl_i H
      refine gw_V2 okX9_becomes dX9_divides_40 kw_1504 kw_1506 kw_48 (hp_o (h0.1)) rfl ⟨by decide, by decide⟩ ⟨by decide, by decide⟩ (Nat.le_of_ble_eq_true rfl) (w_X9_becomes (h0) e_c1 ?_)
      refine gw_aload_n dX9_divides_43 rfl rfl ?_
      refine gs_getR cl9 13 dX9_divides_44 rfl kw_1332 (by decide) (h0.1) rfl ?_
      refine gw_bipushZ dX9_divides_47 rfl (by decide) ?_
      refine gw_iload_n dX9_divides_49 rfl rfl ?_
      refine gw_imulZ dX9_divides_50 rfl ?_
      refine gw_iload dX9_divides_51 rfl rfl ?_
      refine gw_iaddZ dX9_divides_53 rfl ?_
      refine gw_aload_n dX9_divides_54 rfl rfl ?_
      refine gs_getL cl9 16 16 dX9_divides_55 rfl kw_1335 (by decide) (h0.1) rfl rfl ?_
      obtain ⟨g, H⟩ := gd_i H
      obtain ⟨c3, e_c3, H⟩ := sto_i H
      refine gs_lastZE dX9_divides_58 rfl (h0.2.2.2.2.2.2.2.2.2.2.1) g (by decide) e_c3 ?_
      refine gw_aload_n dX9_divides_59 rfl rfl ?_
      refine gs_getR cl9 14 dX9_divides_60 rfl kw_1333 (by decide) (h0.1) rfl ?_
      refine gw_bipushZ dX9_divides_63 rfl (by decide) ?_
      refine gw_iload_n dX9_divides_65 rfl rfl ?_
      refine gw_imulZ dX9_divides_66 rfl ?_
      refine gw_iload dX9_divides_67 rfl rfl ?_
      refine gw_iaddZ dX9_divides_69 rfl ?_
      refine gw_aload_n dX9_divides_70 rfl rfl ?_
      refine gs_getL cl9 17 17 dX9_divides_71 rfl kw_1336 (by decide) (h0.1) rfl rfl ?_
      obtain ⟨g, H⟩ := gd_i H
      obtain ⟨c4, e_c4, H⟩ := sto_i H
      refine gs_lastZE dX9_divides_74 rfl (h0.2.2.2.2.2.2.2.2.2.2.2.1) g (by decide) e_c4 ?_
      refine gw_iincZ dX9_divides_75 rfl rfl (by decide) ?_
      refine gw_goto (tgt := 3) dX9_divides_78 (by decide) ?_
      exact gw_L (ih _ _ H) ((lvA_c rfl (lvA_c rfl (lvA_c rfl (lvA_c rfl (lvA_c rfl lvA_n))))))
set_option maxRecDepth 100000 in
set_option maxHeartbeats 4000000 in
theorem w_X9_divides {Φ : gwC} {hb : gwHp} {M : Nat} {sh : Nat → Option gSh} {th : Nat} {p1 : Int} {p2 : Int} {p3 : Int} {c : W0} {r : Int × W0} {K : Option Value → gwHp → Prop} (h0 : sM sh th) (H : f_X9_divides th p1 p2 p3 c = some r) (hK : K none (hp Φ hb M sh r.2)) : gw_Con Φ mX9_divides none [.ref (M + th), vI p1, vL p2, vL p3] (hp Φ hb M sh c) K := by
  unfold f_X9_divides at H
  refine gw_start okX9_divides (Nat.le_of_ble_eq_true rfl) ?_
  refine gw_iconstZ dX9_divides_0 rfl ?_
  refine gw_istore dX9_divides_1 rfl (by decide) ?_
  refine gw_L (l_X9_divides_3 h0 hK (fun c1 H => ?_) LF _ _ H) ((lvA_c rfl (lvA_c rfl (lvA_c rfl (lvA_c rfl (lvA_c rfl lvA_n))))))
  cases H
  exact gw_vret dX9_divides_81 rfl (by decide) (by decide) hK
set_option maxRecDepth 100000 in
set_option maxHeartbeats 4000000 in
theorem l_X9_freeRow_12 {Φ : gwC} {hb : gwHp} {M : Nat} {sh : Nat → Option gSh} {th : Nat} {p1 : Int} {p2 : Int} {c : W0} {κ : Int → Option Int} {r : Int} {K : Option Value → gwHp → Prop} (h0 : sM sh th) (hK : K (some (vI r)) (hp Φ hb M sh c)) (hκ : ∀ (x3 : Int), κ x3 = some r → G Φ mX9_freeRow (gw_M Φ mX9_freeRow K) none 0 0 56 [(3, vI x3)] [] (hp Φ hb M sh c)) : ∀ (n : Nat) (l3 : Int) (l4 : Int), f_X9_freeRow_12 th p1 p2 c κ n l3 l4 = some r → G Φ mX9_freeRow (gw_M Φ mX9_freeRow K) none 0 0 12 [(0, .ref (M + th)), (1, vI p1), (2, vI p2), (3, vI l3), (4, vI l4)] [] (hp Φ hb M sh c) := by
  intro n
  induction n with
  | zero => intro l3 l4 H; cases H
  | succ n ih =>
    intro l3 l4 H
    have H : b_X9_freeRow_12 th p1 p2 c κ (f_X9_freeRow_12 th p1 p2 c κ n) l3 l4 = some r := H
    unfold b_X9_freeRow_12 at H
    refine gw_iload dX9_freeRow_12 rfl rfl ?_
    obtain ⟨g, H⟩ := gd_i H
    refine gw_if_ltZ (tgt := 56) dX9_freeRow_14 rfl (by decide) g (fun q => ?_) (fun q => ?_)
    · have H := bq_t q H
      exact gw_L (hκ _ H) ((lvA_c rfl lvA_n))
    · have H := bq_f q H
      refine gw_iload_n dX9_freeRow_17 rfl rfl ?_
      refine gw_iload dX9_freeRow_18 rfl rfl ?_
      refine gw_ishrZ dX9_freeRow_20 rfl ?_
      refine gw_iconstZ dX9_freeRow_21 rfl ?_
      refine gw_iandZ dX9_freeRow_22 rfl ?_
      obtain ⟨g, H⟩ := gd_i H
      refine gw_if_neZ (tgt := 48) dX9_freeRow_23 rfl (by decide) g (fun q => ?_) (fun q => ?_)
      · have H := bq_f q H
        refine gw_iload_n dX9_freeRow_48 rfl rfl ?_
        refine gw_istore_n dX9_freeRow_49 rfl (by decide) ?_
        refine gw_iincZ dX9_freeRow_50 rfl rfl (by decide) ?_
        refine gw_goto (tgt := 12) dX9_freeRow_53 (by decide) ?_
        exact gw_L (ih _ _ H) ((lvA_c rfl (lvA_c rfl (lvA_c rfl (lvA_c rfl (lvA_c rfl lvA_n))))))
      · have H := bq_t q H
        refine gw_aload_n dX9_freeRow_26 rfl rfl ?_
        refine gs_getR cl9 13 dX9_freeRow_27 rfl kw_1332 (by decide) (h0.1) rfl ?_
        refine gw_bipushZ dX9_freeRow_30 rfl (by decide) ?_
        refine gw_iload dX9_freeRow_32 rfl rfl ?_
        refine gw_imulZ dX9_freeRow_34 rfl ?_
        refine gw_iload_n dX9_freeRow_35 rfl rfl ?_
        refine gw_iaddZ dX9_freeRow_36 rfl ?_
        obtain ⟨g, H⟩ := gd_i H
        refine gs_laldZ dX9_freeRow_37 rfl (h0.2.2.2.2.2.2.2.2.2.2.1) g (by decide) ?_
        refine gw_lconst0Z dX9_freeRow_38 rfl ?_
        obtain ⟨g, H⟩ := gd_i H
        refine gw_lc_eqZ (tgt := 48) dX9_freeRow_39 rfl dX9_freeRow_40 rfl (by decide) g (by decide) (fun q => ?_) (fun q => ?_)
        · have H := bq_t q H
          refine gw_iload_n dX9_freeRow_48 rfl rfl ?_
          refine gw_istore_n dX9_freeRow_49 rfl (by decide) ?_
          refine gw_iincZ dX9_freeRow_50 rfl rfl (by decide) ?_
          refine gw_goto (tgt := 12) dX9_freeRow_53 (by decide) ?_
          exact gw_L (ih _ _ H) ((lvA_c rfl (lvA_c rfl (lvA_c rfl (lvA_c rfl (lvA_c rfl lvA_n))))))
        · have H := bq_f q H
          refine gw_iload dX9_freeRow_43 rfl rfl ?_
          refine gw_goto (tgt := 49) dX9_freeRow_45 (by decide) ?_
          refine gw_istore_n dX9_freeRow_49 rfl (by decide) ?_
          refine gw_iincZ dX9_freeRow_50 rfl rfl (by decide) ?_
          refine gw_goto (tgt := 12) dX9_freeRow_53 (by decide) ?_
          exact gw_L (ih _ _ H) ((lvA_c rfl (lvA_c rfl (lvA_c rfl (lvA_c rfl (lvA_c rfl lvA_n))))))
set_option maxRecDepth 100000 in
set_option maxHeartbeats 4000000 in
theorem w_X9_freeRow {Φ : gwC} {hb : gwHp} {M : Nat} {sh : Nat → Option gSh} {th : Nat} {p1 : Int} {p2 : Int} {c : W0} {r : Int} {K : Option Value → gwHp → Prop} (h0 : sM sh th) (H : f_X9_freeRow th p1 p2 c = some r) (hK : K (some (vI r)) (hp Φ hb M sh c)) : gw_Con Φ mX9_freeRow none [.ref (M + th), vI p1, vI p2] (hp Φ hb M sh c) K := by
  unfold f_X9_freeRow at H
  refine gw_start okX9_freeRow (Nat.le_of_ble_eq_true rfl) ?_
  refine gw_iconstZ dX9_freeRow_0 rfl ?_
  refine gw_istore_n dX9_freeRow_1 rfl (by decide) ?_
  refine gw_aload_n dX9_freeRow_2 rfl rfl ?_
  refine gs_getR cl9 1 dX9_freeRow_3 rfl kw_1320 (by decide) (h0.1) rfl ?_
  refine gw_iconstZ dX9_freeRow_6 rfl ?_
  refine gs_ialdZ dX9_freeRow_7 rfl (h0.2.1) (by decide) (by decide) ?_
  refine gw_iconstZ dX9_freeRow_8 rfl ?_
  refine gw_isubZ dX9_freeRow_9 rfl ?_
  refine gw_istore dX9_freeRow_10 rfl (by decide) ?_
  refine gw_L (l_X9_freeRow_12 h0 hK (fun v1 H => ?_) LF _ _ H) ((lvA_c rfl (lvA_c rfl (lvA_c rfl (lvA_c rfl (lvA_c rfl lvA_n))))))
  refine gw_iload_n dX9_freeRow_56 rfl rfl ?_
  cases H
  exact gw_iret dX9_freeRow_57 rfl (by decide) (by decide) hK
set_option maxRecDepth 100000 in
set_option maxHeartbeats 4000000 in
theorem l_X9_lays_2 {Φ : gwC} {hb : gwHp} {M : Nat} {sh : Nat → Option gSh} {th : Nat} {κ : W0 → Option (Int × W0)} {r : Int × W0} {K : Option Value → gwHp → Prop} (h0 : sM sh th) (hK : K (some (vI r.1)) (hp Φ hb M sh r.2)) (hκ : ∀ (c : W0), κ c = some r → G Φ mX9_lays (gw_M Φ mX9_lays K) none 0 0 67 [(0, .ref (M + th))] [] (hp Φ hb M sh c)) : ∀ (n : Nat) (l1 : Int) (c : W0), f_X9_lays_2 th κ n l1 c = some r → G Φ mX9_lays (gw_M Φ mX9_lays K) none 0 0 2 [(0, .ref (M + th)), (1, vI l1)] [] (hp Φ hb M sh c) := by
  intro n
  induction n with
  | zero => intro l1 c H; cases H
  | succ n ih =>
    intro l1 c H
    have H : b_X9_lays_2 th κ (f_X9_lays_2 th κ n) l1 c = some r := H
    unfold b_X9_lays_2 at H
    refine gw_iload_n dX9_lays_2 rfl rfl ?_
    refine gw_bipushZ dX9_lays_3 rfl (by decide) ?_
    refine gw_aload_n dX9_lays_5 rfl rfl ?_
    refine gs_getR cl9 1 dX9_lays_6 rfl kw_1320 (by decide) (h0.1) rfl ?_
    refine gw_iconstZ dX9_lays_9 rfl ?_
    refine gs_ialdZ dX9_lays_10 rfl (h0.2.1) (by decide) (by decide) ?_
    refine gw_imulZ dX9_lays_11 rfl ?_
    obtain ⟨g, H⟩ := gd_i H
    refine gw_icmp_geZ (tgt := 67) dX9_lays_12 rfl (by decide) g.1 g.2 (fun q => ?_) (fun q => ?_)
    · have H := bq_t q H
      exact gw_L (hκ _ H) ((lvA_c rfl lvA_n))
    · have H := bq_f q H
      refine gw_iload_n dX9_lays_15 rfl rfl ?_
      refine gw_bipushZ dX9_lays_16 rfl (by decide) ?_
      obtain ⟨g, H⟩ := gd_i H
      refine gw_iremZ dX9_lays_18 rfl (by decide) g (by decide) ?_
      refine gw_istore_n dX9_lays_19 rfl (by decide) ?_
      refine gw_aload_n dX9_lays_20 rfl rfl ?_
      refine gs_getR cl9 13 dX9_lays_21 rfl kw_1332 (by decide) (h0.1) rfl ?_
      refine gw_iload_n dX9_lays_24 rfl rfl ?_
      refine gw_iload_n dX9_lays_25 rfl rfl ?_
      refine gw_aload_n dX9_lays_26 rfl rfl ?_
      obtain ⟨v1, e_v1, H⟩ := cv_i H
      refine gw_V0 okX9_columns dX9_lays_27 kw_1476 kw_1478 kw_41 (hp_o (h0.1)) rfl ⟨by decide, by decide⟩ ⟨by decide, by decide⟩ (Nat.le_of_ble_eq_true rfl) (w_X9_columns (h0) e_v1 ?_)
      obtain ⟨g, H⟩ := gd_i H
      obtain ⟨k2, e_k2, H⟩ := jn_i H
      have hJ : ∀ (u3 : Unit), k2 u3 = some r → G Φ mX9_lays (gw_M Φ mX9_lays K) none 0 0 39 [(0, .ref (M + th)), (1, vI l1), (2, vI (Int.tmod l1 9))] [vI l1, .ref (M + (th + 10))] (hp Φ hb M sh c) := by
        intro u3 H
        subst e_k2
        refine gw_aload_n dX9_lays_39 rfl rfl ?_
        refine gw_iload_n dX9_lays_40 rfl rfl ?_
        refine gw_bipushZ dX9_lays_41 rfl (by decide) ?_
        obtain ⟨g, H⟩ := gd_i H
        refine gw_idivZ dX9_lays_43 rfl (by decide) g (by decide) ?_
        refine gw_iload_n dX9_lays_44 rfl rfl ?_
        obtain ⟨v4, e_v4, H⟩ := cv_i H
        refine gw_V2 okX9_firstFactor dX9_lays_45 kw_1492 kw_1494 kw_45 (hp_o (h0.1)) rfl ⟨by decide, by decide⟩ ⟨by decide, by decide⟩ (Nat.le_of_ble_eq_true rfl) (w_X9_firstFactor (h0) e_v4 ?_)
        obtain ⟨g, H⟩ := gd_i H
        refine gw_i2lZ dX9_lays_48 rfl g ?_
        refine gw_goto (tgt := 53) dX9_lays_49 (by decide) ?_
        obtain ⟨g, H⟩ := gd_i H
        obtain ⟨c5, e_c5, H⟩ := sto_i H
        refine gs_lastZE dX9_lays_53 rfl (h0.2.2.2.2.2.2.2.2.2.2.1) g (by decide) e_c5 ?_
        refine gw_aload_n dX9_lays_54 rfl rfl ?_
        refine gs_getR cl9 14 dX9_lays_55 rfl kw_1333 (by decide) (h0.1) rfl ?_
        refine gw_iload_n dX9_lays_58 rfl rfl ?_
        refine gw_lconst1Z dX9_lays_59 rfl ?_
        obtain ⟨g, H⟩ := gd_i H
        obtain ⟨c6, e_c6, H⟩ := sto_i H
        refine gs_lastZE dX9_lays_60 rfl (h0.2.2.2.2.2.2.2.2.2.2.2.1) g (by decide) e_c6 ?_
        refine gw_iincZ dX9_lays_61 rfl rfl (by decide) ?_
        refine gw_goto (tgt := 2) dX9_lays_64 (by decide) ?_
        exact gw_L (ih _ _ H) ((lvA_c rfl (lvA_c rfl lvA_n)))
      refine gw_icmp_ltZ (tgt := 39) dX9_lays_30 rfl (by decide) g.1 g.2 (fun q => ?_) (fun q => ?_)
      · have H := bq_t q H
        exact gw_L (hJ _ H) ((lvA_c rfl (lvA_c rfl (lvA_c rfl lvA_n))))
      · have H := bq_f q H
        refine gw_iload_n dX9_lays_33 rfl rfl ?_
        refine gw_bipushZ dX9_lays_34 rfl (by decide) ?_
        obtain ⟨g, H⟩ := gd_i H
        refine gw_icmp_neZ (tgt := 52) dX9_lays_36 rfl (by decide) g (by decide) (fun q => ?_) (fun q => ?_)
        · have H := bq_f q H
          refine gw_lconst0Z dX9_lays_52 rfl ?_
          obtain ⟨g, H⟩ := gd_i H
          obtain ⟨c7, e_c7, H⟩ := sto_i H
          refine gs_lastZE dX9_lays_53 rfl (h0.2.2.2.2.2.2.2.2.2.2.1) g (by decide) e_c7 ?_
          refine gw_aload_n dX9_lays_54 rfl rfl ?_
          refine gs_getR cl9 14 dX9_lays_55 rfl kw_1333 (by decide) (h0.1) rfl ?_
          refine gw_iload_n dX9_lays_58 rfl rfl ?_
          refine gw_lconst1Z dX9_lays_59 rfl ?_
          obtain ⟨g, H⟩ := gd_i H
          obtain ⟨c8, e_c8, H⟩ := sto_i H
          refine gs_lastZE dX9_lays_60 rfl (h0.2.2.2.2.2.2.2.2.2.2.2.1) g (by decide) e_c8 ?_
          refine gw_iincZ dX9_lays_61 rfl rfl (by decide) ?_
          refine gw_goto (tgt := 2) dX9_lays_64 (by decide) ?_
          exact gw_L (ih _ _ H) ((lvA_c rfl (lvA_c rfl lvA_n)))
        · have H := bq_t q H
          exact gw_L (hJ _ H) ((lvA_c rfl (lvA_c rfl (lvA_c rfl lvA_n))))
set_option maxRecDepth 100000 in
set_option maxHeartbeats 4000000 in
theorem l_X9_lays_152 {Φ : gwC} {hb : gwHp} {M : Nat} {sh : Nat → Option gSh} {th : Nat} {l1 : Int} {l2 : Int} {l3 : Int} {κ : W0 → Option (Int × W0)} {r : Int × W0} {K : Option Value → gwHp → Prop} (h0 : sM sh th) (hK : K (some (vI r.1)) (hp Φ hb M sh r.2)) (hκ : ∀ (c : W0), κ c = some r → G Φ mX9_lays (gw_M Φ mX9_lays K) none 0 0 216 [(0, .ref (M + th)), (1, vI l1), (2, vI l2)] [] (hp Φ hb M sh c)) : ∀ (n : Nat) (l4 : Int) (c : W0), f_X9_lays_152 th l1 l2 l3 κ n l4 c = some r → G Φ mX9_lays (gw_M Φ mX9_lays K) none 0 0 152 [(0, .ref (M + th)), (1, vI l1), (2, vI l2), (3, vI l3), (4, vI l4)] [] (hp Φ hb M sh c) := by
  intro n
  induction n with
  | zero => intro l4 c H; cases H
  | succ n ih =>
    intro l4 c H
    have H : b_X9_lays_152 th l1 l2 l3 κ (f_X9_lays_152 th l1 l2 l3 κ n) l4 c = some r := H
    unfold b_X9_lays_152 at H
    refine gw_iload dX9_lays_152 rfl rfl ?_
    refine gw_aload_n dX9_lays_154 rfl rfl ?_
    refine gs_getR cl9 1 dX9_lays_155 rfl kw_1320 (by decide) (h0.1) rfl ?_
    refine gw_iconstZ dX9_lays_158 rfl ?_
    refine gs_ialdZ dX9_lays_159 rfl (h0.2.1) (by decide) (by decide) ?_
    obtain ⟨g, H⟩ := gd_i H
    refine gw_icmp_geZ (tgt := 216) dX9_lays_160 rfl (by decide) g.1 g.2 (fun q => ?_) (fun q => ?_)
    · have H := bq_t q H
      exact gw_L (hκ _ H) ((lvA_c rfl (lvA_c rfl (lvA_c rfl lvA_n))))
    · have H := bq_f q H
      refine gw_iload dX9_lays_163 rfl rfl ?_
      refine gw_iload_n dX9_lays_165 rfl rfl ?_
      obtain ⟨g, H⟩ := gd_i H
      refine gw_icmp_eqZ (tgt := 210) dX9_lays_166 rfl (by decide) g.1 g.2 (fun q => ?_) (fun q => ?_)
      · have H := bq_t q H
        refine gw_iincZ dX9_lays_210 rfl rfl (by decide) ?_
        refine gw_goto (tgt := 152) dX9_lays_213 (by decide) ?_
        exact gw_L (ih _ _ H) ((lvA_c rfl (lvA_c rfl (lvA_c rfl (lvA_c rfl (lvA_c rfl lvA_n))))))
      · have H := bq_f q H
        refine gw_aload_n dX9_lays_169 rfl rfl ?_
        refine gw_iload dX9_lays_170 rfl rfl ?_
        refine gw_iload_n dX9_lays_172 rfl rfl ?_
        refine gw_aload_n dX9_lays_173 rfl rfl ?_
        refine gs_getR cl9 13 dX9_lays_174 rfl kw_1332 (by decide) (h0.1) rfl ?_
        refine gw_bipushZ dX9_lays_177 rfl (by decide) ?_
        refine gw_iload dX9_lays_179 rfl rfl ?_
        refine gw_imulZ dX9_lays_181 rfl ?_
        refine gw_aload_n dX9_lays_182 rfl rfl ?_
        refine gs_getR cl9 11 dX9_lays_183 rfl kw_1330 (by decide) (h0.1) rfl ?_
        refine gw_iload_n dX9_lays_186 rfl rfl ?_
        obtain ⟨g, H⟩ := gd_i H
        refine gs_ialdZ dX9_lays_187 rfl (h0.2.2.2.2.2.2.2.2.1) g (by decide) ?_
        refine gw_iaddZ dX9_lays_188 rfl ?_
        obtain ⟨g, H⟩ := gd_i H
        refine gs_laldZ dX9_lays_189 rfl (h0.2.2.2.2.2.2.2.2.2.2.1) g (by decide) ?_
        refine gw_aload_n dX9_lays_190 rfl rfl ?_
        refine gs_getR cl9 14 dX9_lays_191 rfl kw_1333 (by decide) (h0.1) rfl ?_
        refine gw_bipushZ dX9_lays_194 rfl (by decide) ?_
        refine gw_iload dX9_lays_196 rfl rfl ?_
        refine gw_imulZ dX9_lays_198 rfl ?_
        refine gw_aload_n dX9_lays_199 rfl rfl ?_
        refine gs_getR cl9 11 dX9_lays_200 rfl kw_1330 (by decide) (h0.1) rfl ?_
        refine gw_iload_n dX9_lays_203 rfl rfl ?_
        obtain ⟨g, H⟩ := gd_i H
        refine gs_ialdZ dX9_lays_204 rfl (h0.2.2.2.2.2.2.2.2.1) g (by decide) ?_
        refine gw_iaddZ dX9_lays_205 rfl ?_
        obtain ⟨g, H⟩ := gd_i H
        refine gs_laldZ dX9_lays_206 rfl (h0.2.2.2.2.2.2.2.2.2.2.2.1) g (by decide) ?_
        obtain ⟨v2, c1, e_c1, H⟩ := cl_i H
        refine gw_V4 okX9_lessens dX9_lays_207 kw_1511 kw_1513 kw_49 (hp_o (h0.1)) rfl ⟨by decide, by decide⟩ ⟨by decide, by decide⟩ (Nat.le_of_ble_eq_true rfl) (w_X9_lessens (h0) e_c1 ?_)
        refine gw_iincZ dX9_lays_210 rfl rfl (by decide) ?_
        refine gw_goto (tgt := 152) dX9_lays_213 (by decide) ?_
        exact gw_L (ih _ _ H) ((lvA_c rfl (lvA_c rfl (lvA_c rfl (lvA_c rfl (lvA_c rfl lvA_n))))))
set_option maxRecDepth 100000 in
set_option maxHeartbeats 4000000 in
theorem l_X9_lays_71 {Φ : gwC} {hb : gwHp} {M : Nat} {sh : Nat → Option gSh} {th : Nat} {κ : W0 → Option (Int × W0)} {r : Int × W0} {K : Option Value → gwHp → Prop} (h0 : sM sh th) (hK : K (some (vI r.1)) (hp Φ hb M sh r.2)) (hκ : ∀ (c : W0), κ c = some r → G Φ mX9_lays (gw_M Φ mX9_lays K) none 0 0 222 [(0, .ref (M + th))] [] (hp Φ hb M sh c)) : ∀ (n : Nat) (l1 : Int) (l2 : Int) (c : W0), f_X9_lays_71 th κ n l1 l2 c = some r → G Φ mX9_lays (gw_M Φ mX9_lays K) none 0 0 71 [(0, .ref (M + th)), (1, vI l1), (2, vI l2)] [] (hp Φ hb M sh c) := by
  intro n
  induction n with
  | zero => intro l1 l2 c H; cases H
  | succ n ih =>
    intro l1 l2 c H
    have H : b_X9_lays_71 th κ (f_X9_lays_71 th κ n) l1 l2 c = some r := H
    unfold b_X9_lays_71 at H
    refine gw_iload_n dX9_lays_71 rfl rfl ?_
    refine gw_aload_n dX9_lays_72 rfl rfl ?_
    refine gs_getR cl9 1 dX9_lays_73 rfl kw_1320 (by decide) (h0.1) rfl ?_
    refine gw_iconstZ dX9_lays_76 rfl ?_
    refine gs_ialdZ dX9_lays_77 rfl (h0.2.1) (by decide) (by decide) ?_
    obtain ⟨g, H⟩ := gd_i H
    refine gw_icmp_geZ (tgt := 222) dX9_lays_78 rfl (by decide) g.1 g.2 (fun q => ?_) (fun q => ?_)
    · have H := bq_t q H
      exact gw_L (hκ _ H) ((lvA_c rfl lvA_n))
    · have H := bq_f q H
      refine gw_aload_n dX9_lays_81 rfl rfl ?_
      refine gw_aload_n dX9_lays_82 rfl rfl ?_
      refine gs_getR cl9 11 dX9_lays_83 rfl kw_1330 (by decide) (h0.1) rfl ?_
      refine gw_iload_n dX9_lays_86 rfl rfl ?_
      obtain ⟨g, H⟩ := gd_i H
      refine gs_ialdZ dX9_lays_87 rfl (h0.2.2.2.2.2.2.2.2.1) g (by decide) ?_
      refine gw_iload_n dX9_lays_88 rfl rfl ?_
      obtain ⟨v1, e_v1, H⟩ := cv_i H
      refine gw_V2 okX9_freeRow dX9_lays_89 kw_1496 kw_1498 kw_46 (hp_o (h0.1)) rfl ⟨by decide, by decide⟩ ⟨by decide, by decide⟩ (Nat.le_of_ble_eq_true rfl) (w_X9_freeRow (h0) e_v1 ?_)
      refine gw_istore_n dX9_lays_92 rfl (by decide) ?_
      refine gw_iload_n dX9_lays_93 rfl rfl ?_
      obtain ⟨g, H⟩ := gd_i H
      refine gw_if_geZ (tgt := 99) dX9_lays_94 rfl (by decide) g (fun q => ?_) (fun q => ?_)
      · have H := bq_t q H
        refine gw_iload_n dX9_lays_99 rfl rfl ?_
        refine gw_iconstZ dX9_lays_100 rfl ?_
        refine gw_iload_n dX9_lays_101 rfl rfl ?_
        refine gw_ishlZ dX9_lays_102 rfl ?_
        refine gw_iorZ dX9_lays_103 rfl ?_
        refine gw_istore_n dX9_lays_104 rfl (by decide) ?_
        refine gw_aload_n dX9_lays_105 rfl rfl ?_
        refine gs_getR cl9 12 dX9_lays_106 rfl kw_1331 (by decide) (h0.1) rfl ?_
        refine gw_iload_n dX9_lays_109 rfl rfl ?_
        refine gw_iload_n dX9_lays_110 rfl rfl ?_
        obtain ⟨g, H⟩ := gd_i H
        obtain ⟨c2, e_c2, H⟩ := sto_i H
        refine gs_iastZE dX9_lays_111 rfl (h0.2.2.2.2.2.2.2.2.2.1) g (by decide) e_c2 ?_
        refine gw_aload_n dX9_lays_112 rfl rfl ?_
        refine gw_iload_n dX9_lays_113 rfl rfl ?_
        refine gw_aload_n dX9_lays_114 rfl rfl ?_
        refine gs_getR cl9 13 dX9_lays_115 rfl kw_1332 (by decide) (h0.1) rfl ?_
        refine gw_bipushZ dX9_lays_118 rfl (by decide) ?_
        refine gw_iload_n dX9_lays_120 rfl rfl ?_
        refine gw_imulZ dX9_lays_121 rfl ?_
        refine gw_aload_n dX9_lays_122 rfl rfl ?_
        refine gs_getR cl9 11 dX9_lays_123 rfl kw_1330 (by decide) (h0.1) rfl ?_
        refine gw_iload_n dX9_lays_126 rfl rfl ?_
        obtain ⟨g, H⟩ := gd_i H
        refine gs_ialdZ dX9_lays_127 rfl (h0.2.2.2.2.2.2.2.2.1) g (by decide) ?_
        refine gw_iaddZ dX9_lays_128 rfl ?_
        obtain ⟨g, H⟩ := gd_i H
        refine gs_laldZ dX9_lays_129 rfl (h0.2.2.2.2.2.2.2.2.2.2.1) g (by decide) ?_
        refine gw_aload_n dX9_lays_130 rfl rfl ?_
        refine gs_getR cl9 14 dX9_lays_131 rfl kw_1333 (by decide) (h0.1) rfl ?_
        refine gw_bipushZ dX9_lays_134 rfl (by decide) ?_
        refine gw_iload_n dX9_lays_136 rfl rfl ?_
        refine gw_imulZ dX9_lays_137 rfl ?_
        refine gw_aload_n dX9_lays_138 rfl rfl ?_
        refine gs_getR cl9 11 dX9_lays_139 rfl kw_1330 (by decide) (h0.1) rfl ?_
        refine gw_iload_n dX9_lays_142 rfl rfl ?_
        obtain ⟨g, H⟩ := gd_i H
        refine gs_ialdZ dX9_lays_143 rfl (h0.2.2.2.2.2.2.2.2.1) g (by decide) ?_
        refine gw_iaddZ dX9_lays_144 rfl ?_
        obtain ⟨g, H⟩ := gd_i H
        refine gs_laldZ dX9_lays_145 rfl (h0.2.2.2.2.2.2.2.2.2.2.2.1) g (by decide) ?_
        obtain ⟨v4, c3, e_c3, H⟩ := cl_i H
        refine gw_V3 okX9_divides dX9_lays_146 kw_1500 kw_1502 kw_47 (hp_o (h0.1)) rfl ⟨by decide, by decide⟩ ⟨by decide, by decide⟩ (Nat.le_of_ble_eq_true rfl) (w_X9_divides (h0) e_c3 ?_)
        refine gw_iconstZ dX9_lays_149 rfl ?_
        refine gw_istore dX9_lays_150 rfl (by decide) ?_
        refine gw_L (l_X9_lays_152 h0 hK (fun c5 H => ?_) LF _ _ H) ((lvA_c rfl (lvA_c rfl (lvA_c rfl (lvA_c rfl (lvA_c rfl lvA_n))))))
        refine gw_iincZ dX9_lays_216 rfl rfl (by decide) ?_
        refine gw_goto (tgt := 71) dX9_lays_219 (by decide) ?_
        exact gw_L (ih _ _ _ H) ((lvA_c rfl (lvA_c rfl (lvA_c rfl lvA_n))))
      · have H := bq_f q H
        refine gw_iconstZ dX9_lays_97 rfl ?_
        cases H
        exact gw_zret rfl dX9_lays_98 rfl (by decide) (by decide) hK
set_option maxRecDepth 100000 in
set_option maxHeartbeats 4000000 in
theorem l_X9_lays_224 {Φ : gwC} {hb : gwHp} {M : Nat} {sh : Nat → Option gSh} {th : Nat} {κ : W0 → Option (Int × W0)} {r : Int × W0} {K : Option Value → gwHp → Prop} (h0 : sM sh th) (hK : K (some (vI r.1)) (hp Φ hb M sh r.2)) (hκ : ∀ (c : W0), κ c = some r → G Φ mX9_lays (gw_M Φ mX9_lays K) none 0 0 299 [] [] (hp Φ hb M sh c)) : ∀ (n : Nat) (l2 : Int) (c : W0), f_X9_lays_224 th κ n l2 c = some r → G Φ mX9_lays (gw_M Φ mX9_lays K) none 0 0 224 [(0, .ref (M + th)), (2, vI l2)] [] (hp Φ hb M sh c) := by
  intro n
  induction n with
  | zero => intro l2 c H; cases H
  | succ n ih =>
    intro l2 c H
    have H : b_X9_lays_224 th κ (f_X9_lays_224 th κ n) l2 c = some r := H
    unfold b_X9_lays_224 at H
    refine gw_iload_n dX9_lays_224 rfl rfl ?_
    refine gw_bipushZ dX9_lays_225 rfl (by decide) ?_
    refine gw_aload_n dX9_lays_227 rfl rfl ?_
    refine gs_getR cl9 1 dX9_lays_228 rfl kw_1320 (by decide) (h0.1) rfl ?_
    refine gw_iconstZ dX9_lays_231 rfl ?_
    refine gs_ialdZ dX9_lays_232 rfl (h0.2.1) (by decide) (by decide) ?_
    refine gw_imulZ dX9_lays_233 rfl ?_
    obtain ⟨g, H⟩ := gd_i H
    refine gw_icmp_geZ (tgt := 299) dX9_lays_234 rfl (by decide) g.1 g.2 (fun q => ?_) (fun q => ?_)
    · have H := bq_t q H
      exact gw_L (hκ _ H) (lvA_n)
    · have H := bq_f q H
      refine gw_aload_n dX9_lays_237 rfl rfl ?_
      refine gs_getR cl9 9 dX9_lays_238 rfl kw_1328 (by decide) (h0.1) rfl ?_
      refine gw_iload_n dX9_lays_241 rfl rfl ?_
      refine gw_aload_n dX9_lays_242 rfl rfl ?_
      refine gs_getR cl9 13 dX9_lays_243 rfl kw_1332 (by decide) (h0.1) rfl ?_
      refine gw_bipushZ dX9_lays_246 rfl (by decide) ?_
      refine gw_aload_n dX9_lays_248 rfl rfl ?_
      refine gs_getR cl9 12 dX9_lays_249 rfl kw_1331 (by decide) (h0.1) rfl ?_
      refine gw_iload_n dX9_lays_252 rfl rfl ?_
      refine gw_bipushZ dX9_lays_253 rfl (by decide) ?_
      obtain ⟨g, H⟩ := gd_i H
      refine gw_idivZ dX9_lays_255 rfl (by decide) g (by decide) ?_
      obtain ⟨g, H⟩ := gd_i H
      refine gs_ialdZ dX9_lays_256 rfl (h0.2.2.2.2.2.2.2.2.2.1) g (by decide) ?_
      refine gw_imulZ dX9_lays_257 rfl ?_
      refine gw_iload_n dX9_lays_258 rfl rfl ?_
      refine gw_bipushZ dX9_lays_259 rfl (by decide) ?_
      obtain ⟨g, H⟩ := gd_i H
      refine gw_iremZ dX9_lays_261 rfl (by decide) g (by decide) ?_
      refine gw_iaddZ dX9_lays_262 rfl ?_
      obtain ⟨g, H⟩ := gd_i H
      refine gs_laldZ dX9_lays_263 rfl (h0.2.2.2.2.2.2.2.2.2.2.1) g (by decide) ?_
      obtain ⟨g, H⟩ := gd_i H
      obtain ⟨c1, e_c1, H⟩ := sto_i H
      refine gs_lastZE dX9_lays_264 rfl (h0.2.2.2.2.2.2.1) g (by decide) e_c1 ?_
      refine gw_aload_n dX9_lays_265 rfl rfl ?_
      refine gs_getR cl9 10 dX9_lays_266 rfl kw_1329 (by decide) (h0.1) rfl ?_
      refine gw_iload_n dX9_lays_269 rfl rfl ?_
      refine gw_aload_n dX9_lays_270 rfl rfl ?_
      refine gs_getR cl9 14 dX9_lays_271 rfl kw_1333 (by decide) (h0.1) rfl ?_
      refine gw_bipushZ dX9_lays_274 rfl (by decide) ?_
      refine gw_aload_n dX9_lays_276 rfl rfl ?_
      refine gs_getR cl9 12 dX9_lays_277 rfl kw_1331 (by decide) (h0.1) rfl ?_
      refine gw_iload_n dX9_lays_280 rfl rfl ?_
      refine gw_bipushZ dX9_lays_281 rfl (by decide) ?_
      obtain ⟨g, H⟩ := gd_i H
      refine gw_idivZ dX9_lays_283 rfl (by decide) g (by decide) ?_
      obtain ⟨g, H⟩ := gd_i H
      refine gs_ialdZ dX9_lays_284 rfl (h0.2.2.2.2.2.2.2.2.2.1) g (by decide) ?_
      refine gw_imulZ dX9_lays_285 rfl ?_
      refine gw_iload_n dX9_lays_286 rfl rfl ?_
      refine gw_bipushZ dX9_lays_287 rfl (by decide) ?_
      obtain ⟨g, H⟩ := gd_i H
      refine gw_iremZ dX9_lays_289 rfl (by decide) g (by decide) ?_
      refine gw_iaddZ dX9_lays_290 rfl ?_
      obtain ⟨g, H⟩ := gd_i H
      refine gs_laldZ dX9_lays_291 rfl (h0.2.2.2.2.2.2.2.2.2.2.2.1) g (by decide) ?_
      obtain ⟨g, H⟩ := gd_i H
      obtain ⟨c2, e_c2, H⟩ := sto_i H
      refine gs_lastZE dX9_lays_292 rfl (h0.2.2.2.2.2.2.2.1) g (by decide) e_c2 ?_
      refine gw_iincZ dX9_lays_293 rfl rfl (by decide) ?_
      refine gw_goto (tgt := 224) dX9_lays_296 (by decide) ?_
      exact gw_L (ih _ _ H) ((lvA_c rfl (lvA_c rfl lvA_n)))
set_option maxRecDepth 100000 in
set_option maxHeartbeats 4000000 in
theorem w_X9_lays {Φ : gwC} {hb : gwHp} {M : Nat} {sh : Nat → Option gSh} {th : Nat} {c : W0} {r : Int × W0} {K : Option Value → gwHp → Prop} (h0 : sM sh th) (H : f_X9_lays th c = some r) (hK : K (some (vI r.1)) (hp Φ hb M sh r.2)) : gw_Con Φ mX9_lays none [.ref (M + th)] (hp Φ hb M sh c) K := by
  unfold f_X9_lays at H
  refine gw_start okX9_lays (Nat.le_of_ble_eq_true rfl) ?_
  refine gw_iconstZ dX9_lays_0 rfl ?_
  refine gw_istore_n dX9_lays_1 rfl (by decide) ?_
  refine gw_L (l_X9_lays_2 h0 hK (fun c1 H => ?_) LF _ _ H) ((lvA_c rfl (lvA_c rfl lvA_n)))
  refine gw_iconstZ dX9_lays_67 rfl ?_
  refine gw_istore_n dX9_lays_68 rfl (by decide) ?_
  refine gw_iconstZ dX9_lays_69 rfl ?_
  refine gw_istore_n dX9_lays_70 rfl (by decide) ?_
  refine gw_L (l_X9_lays_71 h0 hK (fun c2 H => ?_) LF _ _ _ H) ((lvA_c rfl (lvA_c rfl (lvA_c rfl lvA_n))))
  refine gw_iconstZ dX9_lays_222 rfl ?_
  refine gw_istore_n dX9_lays_223 rfl (by decide) ?_
  refine gw_L (l_X9_lays_224 h0 hK (fun c3 H => ?_) LF _ _ H) ((lvA_c rfl (lvA_c rfl lvA_n)))
  refine gw_iconstZ dX9_lays_299 rfl ?_
  cases H
  exact gw_zret rfl dX9_lays_300 rfl (by decide) (by decide) hK
set_option maxRecDepth 100000 in
set_option maxHeartbeats 4000000 in
theorem l_X9_laysNow_2 {Φ : gwC} {hb : gwHp} {M : Nat} {sh : Nat → Option gSh} {th : Nat} {κ : W0 → Option (Int × W0)} {r : Int × W0} {K : Option Value → gwHp → Prop} (h0 : sM sh th) (hK : K none (hp Φ hb M sh r.2)) (hκ : ∀ (c : W0), κ c = some r → G Φ mX9_laysNow (gw_M Φ mX9_laysNow K) none 0 0 33 [(0, .ref (M + th))] [] (hp Φ hb M sh c)) : ∀ (n : Nat) (l1 : Int) (c : W0), f_X9_laysNow_2 th κ n l1 c = some r → G Φ mX9_laysNow (gw_M Φ mX9_laysNow K) none 0 0 2 [(0, .ref (M + th)), (1, vI l1)] [] (hp Φ hb M sh c) := by
  intro n
  induction n with
  | zero => intro l1 c H; cases H
  | succ n ih =>
    intro l1 c H
    have H : b_X9_laysNow_2 th κ (f_X9_laysNow_2 th κ n) l1 c = some r := H
    unfold b_X9_laysNow_2 at H
    refine gw_iload_n dX9_laysNow_2 rfl rfl ?_
    refine gw_aload_n dX9_laysNow_3 rfl rfl ?_
    refine gs_getR cl9 1 dX9_laysNow_4 rfl kw_1320 (by decide) (h0.1) rfl ?_
    refine gw_iconstZ dX9_laysNow_7 rfl ?_
    refine gs_ialdZ dX9_laysNow_8 rfl (h0.2.1) (by decide) (by decide) ?_
    obtain ⟨g, H⟩ := gd_i H
    refine gw_icmp_geZ (tgt := 33) dX9_laysNow_9 rfl (by decide) g.1 g.2 (fun q => ?_) (fun q => ?_)
    · have H := bq_t q H
      exact gw_L (hκ _ H) ((lvA_c rfl lvA_n))
    · have H := bq_f q H
      refine gw_aload_n dX9_laysNow_12 rfl rfl ?_
      refine gs_getR cl9 11 dX9_laysNow_13 rfl kw_1330 (by decide) (h0.1) rfl ?_
      refine gw_iload_n dX9_laysNow_16 rfl rfl ?_
      refine gw_aload_n dX9_laysNow_17 rfl rfl ?_
      refine gs_getR cl9 1 dX9_laysNow_18 rfl kw_1320 (by decide) (h0.1) rfl ?_
      refine gw_bipushZ dX9_laysNow_21 rfl (by decide) ?_
      refine gw_iload_n dX9_laysNow_23 rfl rfl ?_
      refine gw_iaddZ dX9_laysNow_24 rfl ?_
      obtain ⟨g, H⟩ := gd_i H
      refine gs_ialdZ dX9_laysNow_25 rfl (h0.2.1) g (by decide) ?_
      obtain ⟨g, H⟩ := gd_i H
      obtain ⟨c1, e_c1, H⟩ := sto_i H
      refine gs_iastZE dX9_laysNow_26 rfl (h0.2.2.2.2.2.2.2.2.1) g (by decide) e_c1 ?_
      refine gw_iincZ dX9_laysNow_27 rfl rfl (by decide) ?_
      refine gw_goto (tgt := 2) dX9_laysNow_30 (by decide) ?_
      exact gw_L (ih _ _ H) ((lvA_c rfl (lvA_c rfl lvA_n)))
set_option maxRecDepth 100000 in
set_option maxHeartbeats 4000000 in
theorem w_X9_laysNow {Φ : gwC} {hb : gwHp} {M : Nat} {sh : Nat → Option gSh} {th : Nat} {c : W0} {r : Int × W0} {K : Option Value → gwHp → Prop} (h0 : sM sh th) (H : f_X9_laysNow th c = some r) (hK : K none (hp Φ hb M sh r.2)) : gw_Con Φ mX9_laysNow none [.ref (M + th)] (hp Φ hb M sh c) K := by
  unfold f_X9_laysNow at H
  refine gw_start okX9_laysNow (Nat.le_of_ble_eq_true rfl) ?_
  refine gw_iconstZ dX9_laysNow_0 rfl ?_
  refine gw_istore_n dX9_laysNow_1 rfl (by decide) ?_
  refine gw_L (l_X9_laysNow_2 h0 hK (fun c1 H => ?_) LF _ _ H) ((lvA_c rfl (lvA_c rfl lvA_n)))
  refine gw_aload_n dX9_laysNow_33 rfl rfl ?_
  obtain ⟨v2, c3, e_c3, H⟩ := cl_i H
  refine gw_V0 okX9_lays dX9_laysNow_34 kw_1488 kw_1490 kw_44 (hp_o (h0.1)) rfl ⟨by decide, by decide⟩ ⟨by decide, by decide⟩ (Nat.le_of_ble_eq_true rfl) (w_X9_lays (h0) e_c3 ?_)
  refine gw_istore_n dX9_laysNow_37 rfl (by decide) ?_
  cases H
  exact gw_vret dX9_laysNow_38 rfl (by decide) (by decide) hK
set_option maxRecDepth 100000 in
set_option maxHeartbeats 4000000 in
theorem w_X9_profit {Φ : gwC} {hb : gwHp} {M : Nat} {sh : Nat → Option gSh} {th : Nat} {p1 : Int} {c : W0} {r : Int} {K : Option Value → gwHp → Prop} (h0 : sM sh th) (H : f_X9_profit th p1 c = some r) (hK : K (some (vI r)) (hp Φ hb M sh c)) : gw_Con Φ mX9_profit none [.ref (M + th), vI p1] (hp Φ hb M sh c) K := by
  unfold f_X9_profit at H
  refine gw_start okX9_profit (Nat.le_of_ble_eq_true rfl) ?_
  refine gw_iload_n dX9_profit_0 rfl rfl ?_
  refine gw_aload_n dX9_profit_1 rfl rfl ?_
  refine gs_getR cl9 1 dX9_profit_2 rfl kw_1320 (by decide) (h0.1) rfl ?_
  refine gw_iconstZ dX9_profit_5 rfl ?_
  refine gs_ialdZ dX9_profit_6 rfl (h0.2.1) (by decide) (by decide) ?_
  obtain ⟨g, H⟩ := gd_i H
  refine gw_icmp_geZ (tgt := 21) dX9_profit_7 rfl (by decide) g.1 g.2 (fun q => ?_) (fun q => ?_)
  · have H := bq_t q H
    refine gw_iconstZ dX9_profit_21 rfl ?_
    cases H
    exact gw_iret dX9_profit_22 rfl (by decide) (by decide) hK
  · have H := bq_f q H
    refine gw_aload_n dX9_profit_10 rfl rfl ?_
    refine gs_getR cl9 1 dX9_profit_11 rfl kw_1320 (by decide) (h0.1) rfl ?_
    refine gw_iconstZ dX9_profit_14 rfl ?_
    refine gw_iload_n dX9_profit_15 rfl rfl ?_
    refine gw_iaddZ dX9_profit_16 rfl ?_
    obtain ⟨g, H⟩ := gd_i H
    refine gs_ialdZ dX9_profit_17 rfl (h0.2.1) g (by decide) ?_
    refine gw_goto (tgt := 22) dX9_profit_18 (by decide) ?_
    cases H
    exact gw_iret dX9_profit_22 rfl (by decide) (by decide) hK
set_option maxRecDepth 100000 in
set_option maxHeartbeats 4000000 in
theorem w_X9_entry {Φ : gwC} {hb : gwHp} {M : Nat} {sh : Nat → Option gSh} {th : Nat} {p1 : Int} {p2 : Int} {c : W0} {r : Int} {K : Option Value → gwHp → Prop} (h0 : sM sh th) (H : f_X9_entry th p1 p2 c = some r) (hK : K (some (vL r)) (hp Φ hb M sh c)) : gw_Con Φ mX9_entry none [.ref (M + th), vI p1, vI p2] (hp Φ hb M sh c) K := by
  unfold f_X9_entry at H
  refine gw_start okX9_entry (Nat.le_of_ble_eq_true rfl) ?_
  refine gw_aload_n dX9_entry_0 rfl rfl ?_
  refine gs_getR cl9 9 dX9_entry_1 rfl kw_1328 (by decide) (h0.1) rfl ?_
  refine gw_bipushZ dX9_entry_4 rfl (by decide) ?_
  refine gw_iload_n dX9_entry_6 rfl rfl ?_
  refine gw_imulZ dX9_entry_7 rfl ?_
  refine gw_iload_n dX9_entry_8 rfl rfl ?_
  refine gw_iaddZ dX9_entry_9 rfl ?_
  obtain ⟨g, H⟩ := gd_i H
  refine gs_laldZ dX9_entry_10 rfl (h0.2.2.2.2.2.2.1) g (by decide) ?_
  cases H
  exact gw_lret dX9_entry_11 rfl (by decide) (by decide) hK
set_option maxRecDepth 100000 in
set_option maxHeartbeats 4000000 in
theorem l_X9_isFeasible_4 {Φ : gwC} {hb : gwHp} {M : Nat} {sh : Nat → Option gSh} {th : Nat} {c : W0} {κ : Int → Option Int} {r : Int} {K : Option Value → gwHp → Prop} (h0 : sM sh th) (hK : K (some (vI r)) (hp Φ hb M sh c)) (hκ : ∀ (x1 : Int), κ x1 = some r → G Φ mX9_isFeasible (gw_M Φ mX9_isFeasible K) none 0 0 42 [(1, vI x1)] [] (hp Φ hb M sh c)) : ∀ (n : Nat) (l1 : Int) (l2 : Int), f_X9_isFeasible_4 th c κ n l1 l2 = some r → G Φ mX9_isFeasible (gw_M Φ mX9_isFeasible K) none 0 0 4 [(0, .ref (M + th)), (1, vI l1), (2, vI l2)] [] (hp Φ hb M sh c) := by
  intro n
  induction n with
  | zero => intro l1 l2 H; cases H
  | succ n ih =>
    intro l1 l2 H
    have H : b_X9_isFeasible_4 th c κ (f_X9_isFeasible_4 th c κ n) l1 l2 = some r := H
    unfold b_X9_isFeasible_4 at H
    refine gw_iload_n dX9_isFeasible_4 rfl rfl ?_
    refine gw_aload_n dX9_isFeasible_5 rfl rfl ?_
    refine gs_getR cl9 1 dX9_isFeasible_6 rfl kw_1320 (by decide) (h0.1) rfl ?_
    refine gw_iconstZ dX9_isFeasible_9 rfl ?_
    refine gs_ialdZ dX9_isFeasible_10 rfl (h0.2.1) (by decide) (by decide) ?_
    obtain ⟨g, H⟩ := gd_i H
    refine gw_icmp_geZ (tgt := 42) dX9_isFeasible_11 rfl (by decide) g.1 g.2 (fun q => ?_) (fun q => ?_)
    · have H := bq_t q H
      exact gw_L (hκ _ H) ((lvA_c rfl lvA_n))
    · have H := bq_f q H
      refine gw_iload_n dX9_isFeasible_14 rfl rfl ?_
      obtain ⟨g, H⟩ := gd_i H
      refine gw_if_eqZ (tgt := 34) dX9_isFeasible_15 rfl (by decide) g (fun q => ?_) (fun q => ?_)
      · have H := bq_t q H
        refine gw_iconstZ dX9_isFeasible_34 rfl ?_
        refine gw_istore_n dX9_isFeasible_35 rfl (by decide) ?_
        refine gw_iincZ dX9_isFeasible_36 rfl rfl (by decide) ?_
        refine gw_goto (tgt := 4) dX9_isFeasible_39 (by decide) ?_
        exact gw_L (ih _ _ H) ((lvA_c rfl (lvA_c rfl (lvA_c rfl lvA_n))))
      · have H := bq_f q H
        refine gw_aload_n dX9_isFeasible_18 rfl rfl ?_
        refine gw_iload_n dX9_isFeasible_19 rfl rfl ?_
        refine gw_bipushZ dX9_isFeasible_20 rfl (by decide) ?_
        obtain ⟨v1, e_v1, H⟩ := cv_i H
        refine gw_V2 okX9_entry dX9_isFeasible_22 kw_1531 kw_1533 kw_54 (hp_o (h0.1)) rfl ⟨by decide, by decide⟩ ⟨by decide, by decide⟩ (Nat.le_of_ble_eq_true rfl) (w_X9_entry (h0) e_v1 ?_)
        refine gw_lconst0Z dX9_isFeasible_25 rfl ?_
        obtain ⟨g, H⟩ := gd_i H
        refine gw_lc_ltZ (tgt := 34) dX9_isFeasible_26 rfl dX9_isFeasible_27 rfl (by decide) g (by decide) (fun q => ?_) (fun q => ?_)
        · have H := bq_t q H
          refine gw_iconstZ dX9_isFeasible_34 rfl ?_
          refine gw_istore_n dX9_isFeasible_35 rfl (by decide) ?_
          refine gw_iincZ dX9_isFeasible_36 rfl rfl (by decide) ?_
          refine gw_goto (tgt := 4) dX9_isFeasible_39 (by decide) ?_
          exact gw_L (ih _ _ H) ((lvA_c rfl (lvA_c rfl (lvA_c rfl lvA_n))))
        · have H := bq_f q H
          refine gw_iconstZ dX9_isFeasible_30 rfl ?_
          refine gw_goto (tgt := 35) dX9_isFeasible_31 (by decide) ?_
          refine gw_istore_n dX9_isFeasible_35 rfl (by decide) ?_
          refine gw_iincZ dX9_isFeasible_36 rfl rfl (by decide) ?_
          refine gw_goto (tgt := 4) dX9_isFeasible_39 (by decide) ?_
          exact gw_L (ih _ _ H) ((lvA_c rfl (lvA_c rfl (lvA_c rfl lvA_n))))
set_option maxRecDepth 100000 in
set_option maxHeartbeats 4000000 in
theorem w_X9_isFeasible {Φ : gwC} {hb : gwHp} {M : Nat} {sh : Nat → Option gSh} {th : Nat} {c : W0} {r : Int} {K : Option Value → gwHp → Prop} (h0 : sM sh th) (H : f_X9_isFeasible th c = some r) (hK : K (some (vI r)) (hp Φ hb M sh c)) : gw_Con Φ mX9_isFeasible none [.ref (M + th)] (hp Φ hb M sh c) K := by
  unfold f_X9_isFeasible at H
  refine gw_start okX9_isFeasible (Nat.le_of_ble_eq_true rfl) ?_
  refine gw_iconstZ dX9_isFeasible_0 rfl ?_
  refine gw_istore_n dX9_isFeasible_1 rfl (by decide) ?_
  refine gw_iconstZ dX9_isFeasible_2 rfl ?_
  refine gw_istore_n dX9_isFeasible_3 rfl (by decide) ?_
  refine gw_L (l_X9_isFeasible_4 h0 hK (fun v1 H => ?_) LF _ _ H) ((lvA_c rfl (lvA_c rfl (lvA_c rfl lvA_n))))
  refine gw_iload_n dX9_isFeasible_42 rfl rfl ?_
  obtain ⟨g, H⟩ := gd_i H
  cases H
  exact gw_zret (gs_nz g) dX9_isFeasible_43 rfl (by decide) (by decide) hK
set_option maxRecDepth 100000 in
set_option maxHeartbeats 4000000 in
theorem l_X9_values_8 {Φ : gwC} {hb : gwHp} {M : Nat} {sh : Nat → Option gSh} {th : Nat} {κ : W0 → Option (Int × W0)} {r : Int × W0} {K : Option Value → gwHp → Prop} (h0 : sM sh th) (hK : K none (hp Φ hb M sh r.2)) (hκ : ∀ (c : W0), κ c = some r → G Φ mX9_values (gw_M Φ mX9_values K) none 0 0 60 [] [] (hp Φ hb M sh c)) : ∀ (n : Nat) (l1 : Int) (c : W0), f_X9_values_8 th κ n l1 c = some r → G Φ mX9_values (gw_M Φ mX9_values K) none 0 0 8 [(0, .ref (M + th)), (1, vI l1)] [] (hp Φ hb M sh c) := by
  intro n
  induction n with
  | zero => intro l1 c H; cases H
  | succ n ih =>
    intro l1 c H
    have H : b_X9_values_8 th κ (f_X9_values_8 th κ n) l1 c = some r := H
    unfold b_X9_values_8 at H
    refine gw_iload_n dX9_values_8 rfl rfl ?_
    refine gw_aload_n dX9_values_9 rfl rfl ?_
    refine gs_getR cl9 1 dX9_values_10 rfl kw_1320 (by decide) (h0.1) rfl ?_
    refine gw_iconstZ dX9_values_13 rfl ?_
    refine gs_ialdZ dX9_values_14 rfl (h0.2.1) (by decide) (by decide) ?_
    obtain ⟨g, H⟩ := gd_i H
    refine gw_icmp_geZ (tgt := 60) dX9_values_15 rfl (by decide) g.1 g.2 (fun q => ?_) (fun q => ?_)
    · have H := bq_t q H
      exact gw_L (hκ _ H) (lvA_n)
    · have H := bq_f q H
      refine gw_aload_n dX9_values_18 rfl rfl ?_
      refine gw_aload_n dX9_values_19 rfl rfl ?_
      refine gw_aload_n dX9_values_20 rfl rfl ?_
      refine gs_getR cl9 11 dX9_values_21 rfl kw_1330 (by decide) (h0.1) rfl ?_
      refine gw_iload_n dX9_values_24 rfl rfl ?_
      obtain ⟨g, H⟩ := gd_i H
      refine gs_ialdZ dX9_values_25 rfl (h0.2.2.2.2.2.2.2.2.1) g (by decide) ?_
      obtain ⟨v1, e_v1, H⟩ := cv_i H
      refine gw_V1 okX9_profit dX9_values_26 kw_1527 kw_1529 kw_53 (hp_o (h0.1)) rfl ⟨by decide, by decide⟩ ⟨by decide, by decide⟩ (Nat.le_of_ble_eq_true rfl) (w_X9_profit (h0) e_v1 ?_)
      obtain ⟨g, H⟩ := gd_i H
      refine gw_i2lZ dX9_values_29 rfl g ?_
      refine gw_aload_n dX9_values_30 rfl rfl ?_
      refine gw_iload_n dX9_values_31 rfl rfl ?_
      refine gw_bipushZ dX9_values_32 rfl (by decide) ?_
      obtain ⟨v2, e_v2, H⟩ := cv_i H
      refine gw_V2 okX9_entry dX9_values_34 kw_1531 kw_1533 kw_54 (hp_o (h0.1)) rfl ⟨by decide, by decide⟩ ⟨by decide, by decide⟩ (Nat.le_of_ble_eq_true rfl) (w_X9_entry (h0) e_v2 ?_)
      refine gw_aload_n dX9_values_37 rfl rfl ?_
      refine gs_getR cl9 10 dX9_values_38 rfl kw_1329 (by decide) (h0.1) rfl ?_
      refine gw_bipushZ dX9_values_41 rfl (by decide) ?_
      refine gw_iload_n dX9_values_43 rfl rfl ?_
      refine gw_imulZ dX9_values_44 rfl ?_
      refine gw_bipushZ dX9_values_45 rfl (by decide) ?_
      refine gw_iaddZ dX9_values_47 rfl ?_
      refine gw_iconstZ dX9_values_48 rfl ?_
      refine gw_isubZ dX9_values_49 rfl ?_
      obtain ⟨g, H⟩ := gd_i H
      refine gs_laldZ dX9_values_50 rfl (h0.2.2.2.2.2.2.2.1) g (by decide) ?_
      obtain ⟨v4, c3, e_c3, H⟩ := cl_i H
      refine gw_V3 okX9_adds dX9_values_51 kw_1535 kw_1537 kw_55 (hp_o (h0.1)) rfl ⟨by decide, by decide⟩ ⟨by decide, by decide⟩ (Nat.le_of_ble_eq_true rfl) (w_X9_adds (h0) e_c3 ?_)
      refine gw_iincZ dX9_values_54 rfl rfl (by decide) ?_
      refine gw_goto (tgt := 8) dX9_values_57 (by decide) ?_
      exact gw_L (ih _ _ H) ((lvA_c rfl (lvA_c rfl lvA_n)))
set_option maxRecDepth 100000 in
set_option maxHeartbeats 4000000 in
theorem w_X9_values {Φ : gwC} {hb : gwHp} {M : Nat} {sh : Nat → Option gSh} {th : Nat} {c : W0} {r : Int × W0} {K : Option Value → gwHp → Prop} (h0 : sM sh th) (H : f_X9_values th c = some r) (hK : K none (hp Φ hb M sh r.2)) : gw_Con Φ mX9_values none [.ref (M + th)] (hp Φ hb M sh c) K := by
  unfold f_X9_values at H
  refine gw_start okX9_values (Nat.le_of_ble_eq_true rfl) ?_
  refine gw_aload_n dX9_values_0 rfl rfl ?_
  refine gw_lconst0Z dX9_values_1 rfl ?_
  refine gw_lconst1Z dX9_values_2 rfl ?_
  obtain ⟨v2, c1, e_c1, H⟩ := cl_i H
  refine gw_V2 okX9_becomes dX9_values_3 kw_1504 kw_1506 kw_48 (hp_o (h0.1)) rfl ⟨by decide, by decide⟩ ⟨by decide, by decide⟩ (Nat.le_of_ble_eq_true rfl) (w_X9_becomes (h0) e_c1 ?_)
  refine gw_iconstZ dX9_values_6 rfl ?_
  refine gw_istore_n dX9_values_7 rfl (by decide) ?_
  refine gw_L (l_X9_values_8 h0 hK (fun c3 H => ?_) LF _ _ H) ((lvA_c rfl (lvA_c rfl lvA_n)))
  cases H
  exact gw_vret dX9_values_60 rfl (by decide) (by decide) hK
set_option maxRecDepth 100000 in
set_option maxHeartbeats 4000000 in
theorem l_X9_reduces_13 {Φ : gwC} {hb : gwHp} {M : Nat} {sh : Nat → Option gSh} {th : Nat} {p1 : Int} {κ : W0 → Option (Int × W0)} {r : Int × W0} {K : Option Value → gwHp → Prop} (h0 : sM sh th) (hK : K none (hp Φ hb M sh r.2)) (hκ : ∀ (c : W0), κ c = some r → G Φ mX9_reduces (gw_M Φ mX9_reduces K) none 0 0 62 [] [] (hp Φ hb M sh c)) : ∀ (n : Nat) (l2 : Int) (c : W0), f_X9_reduces_13 th p1 κ n l2 c = some r → G Φ mX9_reduces (gw_M Φ mX9_reduces K) none 0 0 13 [(0, .ref (M + th)), (1, vI p1), (2, vI l2)] [] (hp Φ hb M sh c) := by
  intro n
  induction n with
  | zero => intro l2 c H; cases H
  | succ n ih =>
    intro l2 c H
    have H : b_X9_reduces_13 th p1 κ (f_X9_reduces_13 th p1 κ n) l2 c = some r := H
    unfold b_X9_reduces_13 at H
    refine gw_iload_n dX9_reduces_13 rfl rfl ?_
    refine gw_aload_n dX9_reduces_14 rfl rfl ?_
    refine gs_getR cl9 1 dX9_reduces_15 rfl kw_1320 (by decide) (h0.1) rfl ?_
    refine gw_iconstZ dX9_reduces_18 rfl ?_
    refine gs_ialdZ dX9_reduces_19 rfl (h0.2.1) (by decide) (by decide) ?_
    obtain ⟨g, H⟩ := gd_i H
    refine gw_icmp_geZ (tgt := 62) dX9_reduces_20 rfl (by decide) g.1 g.2 (fun q => ?_) (fun q => ?_)
    · have H := bq_t q H
      exact gw_L (hκ _ H) (lvA_n)
    · have H := bq_f q H
      refine gw_aload_n dX9_reduces_23 rfl rfl ?_
      refine gw_aload_n dX9_reduces_24 rfl rfl ?_
      refine gw_aload_n dX9_reduces_25 rfl rfl ?_
      refine gs_getR cl9 11 dX9_reduces_26 rfl kw_1330 (by decide) (h0.1) rfl ?_
      refine gw_iload_n dX9_reduces_29 rfl rfl ?_
      obtain ⟨g, H⟩ := gd_i H
      refine gs_ialdZ dX9_reduces_30 rfl (h0.2.2.2.2.2.2.2.2.1) g (by decide) ?_
      obtain ⟨v1, e_v1, H⟩ := cv_i H
      refine gw_V1 okX9_profit dX9_reduces_31 kw_1527 kw_1529 kw_53 (hp_o (h0.1)) rfl ⟨by decide, by decide⟩ ⟨by decide, by decide⟩ (Nat.le_of_ble_eq_true rfl) (w_X9_profit (h0) e_v1 ?_)
      refine gw_inegZ dX9_reduces_34 rfl ?_
      obtain ⟨g, H⟩ := gd_i H
      refine gw_i2lZ dX9_reduces_35 rfl g ?_
      refine gw_aload_n dX9_reduces_36 rfl rfl ?_
      refine gw_iload_n dX9_reduces_37 rfl rfl ?_
      refine gw_iload_n dX9_reduces_38 rfl rfl ?_
      obtain ⟨v2, e_v2, H⟩ := cv_i H
      refine gw_V2 okX9_entry dX9_reduces_39 kw_1531 kw_1533 kw_54 (hp_o (h0.1)) rfl ⟨by decide, by decide⟩ ⟨by decide, by decide⟩ (Nat.le_of_ble_eq_true rfl) (w_X9_entry (h0) e_v2 ?_)
      refine gw_aload_n dX9_reduces_42 rfl rfl ?_
      refine gs_getR cl9 10 dX9_reduces_43 rfl kw_1329 (by decide) (h0.1) rfl ?_
      refine gw_bipushZ dX9_reduces_46 rfl (by decide) ?_
      refine gw_iload_n dX9_reduces_48 rfl rfl ?_
      refine gw_imulZ dX9_reduces_49 rfl ?_
      refine gw_iload_n dX9_reduces_50 rfl rfl ?_
      refine gw_iaddZ dX9_reduces_51 rfl ?_
      obtain ⟨g, H⟩ := gd_i H
      refine gs_laldZ dX9_reduces_52 rfl (h0.2.2.2.2.2.2.2.1) g (by decide) ?_
      obtain ⟨v4, c3, e_c3, H⟩ := cl_i H
      refine gw_V3 okX9_adds dX9_reduces_53 kw_1535 kw_1537 kw_55 (hp_o (h0.1)) rfl ⟨by decide, by decide⟩ ⟨by decide, by decide⟩ (Nat.le_of_ble_eq_true rfl) (w_X9_adds (h0) e_c3 ?_)
      refine gw_iincZ dX9_reduces_56 rfl rfl (by decide) ?_
      refine gw_goto (tgt := 13) dX9_reduces_59 (by decide) ?_
      exact gw_L (ih _ _ H) ((lvA_c rfl (lvA_c rfl (lvA_c rfl lvA_n))))
set_option maxRecDepth 100000 in
set_option maxHeartbeats 4000000 in
theorem w_X9_reduces {Φ : gwC} {hb : gwHp} {M : Nat} {sh : Nat → Option gSh} {th : Nat} {p1 : Int} {c : W0} {r : Int × W0} {K : Option Value → gwHp → Prop} (h0 : sM sh th) (H : f_X9_reduces th p1 c = some r) (hK : K none (hp Φ hb M sh r.2)) : gw_Con Φ mX9_reduces none [.ref (M + th), vI p1] (hp Φ hb M sh c) K := by
  unfold f_X9_reduces at H
  refine gw_start okX9_reduces (Nat.le_of_ble_eq_true rfl) ?_
  refine gw_aload_n dX9_reduces_0 rfl rfl ?_
  refine gw_aload_n dX9_reduces_1 rfl rfl ?_
  refine gw_iload_n dX9_reduces_2 rfl rfl ?_
  obtain ⟨v1, e_v1, H⟩ := cv_i H
  refine gw_V1 okX9_profit dX9_reduces_3 kw_1527 kw_1529 kw_53 (hp_o (h0.1)) rfl ⟨by decide, by decide⟩ ⟨by decide, by decide⟩ (Nat.le_of_ble_eq_true rfl) (w_X9_profit (h0) e_v1 ?_)
  obtain ⟨g, H⟩ := gd_i H
  refine gw_i2lZ dX9_reduces_6 rfl g ?_
  refine gw_lconst1Z dX9_reduces_7 rfl ?_
  obtain ⟨v3, c2, e_c2, H⟩ := cl_i H
  refine gw_V2 okX9_becomes dX9_reduces_8 kw_1504 kw_1506 kw_48 (hp_o (h0.1)) rfl ⟨by decide, by decide⟩ ⟨by decide, by decide⟩ (Nat.le_of_ble_eq_true rfl) (w_X9_becomes (h0) e_c2 ?_)
  refine gw_iconstZ dX9_reduces_11 rfl ?_
  refine gw_istore_n dX9_reduces_12 rfl (by decide) ?_
  refine gw_L (l_X9_reduces_13 h0 hK (fun c4 H => ?_) LF _ _ H) ((lvA_c rfl (lvA_c rfl (lvA_c rfl lvA_n))))
  cases H
  exact gw_vret dX9_reduces_62 rfl (by decide) (by decide) hK
set_option maxRecDepth 100000 in
set_option maxHeartbeats 4000000 in
theorem w_X9_isRising {Φ : gwC} {hb : gwHp} {M : Nat} {sh : Nat → Option gSh} {th : Nat} {p1 : Int} {c : W0} {r : Int × W0} {K : Option Value → gwHp → Prop} (h0 : sM sh th) (H : f_X9_isRising th p1 c = some r) (hK : K (some (vI r.1)) (hp Φ hb M sh r.2)) : gw_Con Φ mX9_isRising none [.ref (M + th), vI p1] (hp Φ hb M sh c) K := by
  unfold f_X9_isRising at H
  refine gw_start okX9_isRising (Nat.le_of_ble_eq_true rfl) ?_
  refine gw_aload_n dX9_isRising_0 rfl rfl ?_
  refine gw_iload_n dX9_isRising_1 rfl rfl ?_
  obtain ⟨v2, c1, e_c1, H⟩ := cl_i H
  refine gw_V1 okX9_reduces dX9_isRising_2 kw_1523 kw_1525 kw_52 (hp_o (h0.1)) rfl ⟨by decide, by decide⟩ ⟨by decide, by decide⟩ (Nat.le_of_ble_eq_true rfl) (w_X9_reduces (h0) e_c1 ?_)
  refine gw_aload_n dX9_isRising_5 rfl rfl ?_
  refine gs_getL cl9 16 16 dX9_isRising_6 rfl kw_1335 (by decide) (h0.1) rfl rfl ?_
  refine gw_lconst0Z dX9_isRising_9 rfl ?_
  obtain ⟨g, H⟩ := gd_i H
  refine gw_lc_leZ (tgt := 18) dX9_isRising_10 rfl dX9_isRising_11 rfl (by decide) g (by decide) (fun q => ?_) (fun q => ?_)
  · have H := bq_t q H
    refine gw_iconstZ dX9_isRising_18 rfl ?_
    cases H
    exact gw_zret rfl dX9_isRising_19 rfl (by decide) (by decide) hK
  · have H := bq_f q H
    refine gw_iconstZ dX9_isRising_14 rfl ?_
    refine gw_goto (tgt := 19) dX9_isRising_15 (by decide) ?_
    cases H
    exact gw_zret rfl dX9_isRising_19 rfl (by decide) (by decide) hK
set_option maxRecDepth 100000 in
set_option maxHeartbeats 4000000 in
theorem l_X9_hasEntry_4 {Φ : gwC} {hb : gwHp} {M : Nat} {sh : Nat → Option gSh} {th : Nat} {p1 : Int} {c : W0} {κ : Int → Option Int} {r : Int} {K : Option Value → gwHp → Prop} (h0 : sM sh th) (hK : K (some (vI r)) (hp Φ hb M sh c)) (hκ : ∀ (x2 : Int), κ x2 = some r → G Φ mX9_hasEntry (gw_M Φ mX9_hasEntry K) none 0 0 41 [(2, vI x2)] [] (hp Φ hb M sh c)) : ∀ (n : Nat) (l2 : Int) (l3 : Int), f_X9_hasEntry_4 th p1 c κ n l2 l3 = some r → G Φ mX9_hasEntry (gw_M Φ mX9_hasEntry K) none 0 0 4 [(0, .ref (M + th)), (1, vI p1), (2, vI l2), (3, vI l3)] [] (hp Φ hb M sh c) := by
  intro n
  induction n with
  | zero => intro l2 l3 H; cases H
  | succ n ih =>
    intro l2 l3 H
    have H : b_X9_hasEntry_4 th p1 c κ (f_X9_hasEntry_4 th p1 c κ n) l2 l3 = some r := H
    unfold b_X9_hasEntry_4 at H
    refine gw_iload_n dX9_hasEntry_4 rfl rfl ?_
    refine gw_aload_n dX9_hasEntry_5 rfl rfl ?_
    refine gs_getR cl9 1 dX9_hasEntry_6 rfl kw_1320 (by decide) (h0.1) rfl ?_
    refine gw_iconstZ dX9_hasEntry_9 rfl ?_
    refine gs_ialdZ dX9_hasEntry_10 rfl (h0.2.1) (by decide) (by decide) ?_
    obtain ⟨g, H⟩ := gd_i H
    refine gw_icmp_geZ (tgt := 41) dX9_hasEntry_11 rfl (by decide) g.1 g.2 (fun q => ?_) (fun q => ?_)
    · have H := bq_t q H
      exact gw_L (hκ _ H) ((lvA_c rfl lvA_n))
    · have H := bq_f q H
      refine gw_iload_n dX9_hasEntry_14 rfl rfl ?_
      obtain ⟨g, H⟩ := gd_i H
      obtain ⟨k1, e_k1, H⟩ := jn_i H
      have hJ : ∀ (u2 : Unit), k1 u2 = some r → G Φ mX9_hasEntry (gw_M Φ mX9_hasEntry K) none 0 0 29 [(0, .ref (M + th)), (1, vI p1), (3, vI l3)] [] (hp Φ hb M sh c) := by
        intro u2 H
        subst e_k1
        refine gw_iconstZ dX9_hasEntry_29 rfl ?_
        refine gw_goto (tgt := 34) dX9_hasEntry_30 (by decide) ?_
        refine gw_istore_n dX9_hasEntry_34 rfl (by decide) ?_
        refine gw_iincZ dX9_hasEntry_35 rfl rfl (by decide) ?_
        refine gw_goto (tgt := 4) dX9_hasEntry_38 (by decide) ?_
        exact gw_L (ih _ _ H) ((lvA_c rfl (lvA_c rfl (lvA_c rfl (lvA_c rfl lvA_n)))))
      refine gw_if_neZ (tgt := 29) dX9_hasEntry_15 rfl (by decide) g (fun q => ?_) (fun q => ?_)
      · have H := bq_f q H
        exact gw_L (hJ _ H) ((lvA_c rfl (lvA_c rfl (lvA_c rfl lvA_n))))
      · have H := bq_t q H
        refine gw_aload_n dX9_hasEntry_18 rfl rfl ?_
        refine gw_iload_n dX9_hasEntry_19 rfl rfl ?_
        refine gw_iload_n dX9_hasEntry_20 rfl rfl ?_
        obtain ⟨v3, e_v3, H⟩ := cv_i H
        refine gw_V2 okX9_entry dX9_hasEntry_21 kw_1531 kw_1533 kw_54 (hp_o (h0.1)) rfl ⟨by decide, by decide⟩ ⟨by decide, by decide⟩ (Nat.le_of_ble_eq_true rfl) (w_X9_entry (h0) e_v3 ?_)
        refine gw_lconst0Z dX9_hasEntry_24 rfl ?_
        obtain ⟨g, H⟩ := gd_i H
        refine gw_lc_leZ (tgt := 33) dX9_hasEntry_25 rfl dX9_hasEntry_26 rfl (by decide) g (by decide) (fun q => ?_) (fun q => ?_)
        · have H := bq_t q H
          refine gw_iconstZ dX9_hasEntry_33 rfl ?_
          refine gw_istore_n dX9_hasEntry_34 rfl (by decide) ?_
          refine gw_iincZ dX9_hasEntry_35 rfl rfl (by decide) ?_
          refine gw_goto (tgt := 4) dX9_hasEntry_38 (by decide) ?_
          exact gw_L (ih _ _ H) ((lvA_c rfl (lvA_c rfl (lvA_c rfl (lvA_c rfl lvA_n)))))
        · have H := bq_f q H
          exact gw_L (hJ _ H) ((lvA_c rfl (lvA_c rfl (lvA_c rfl lvA_n))))
set_option maxRecDepth 100000 in
set_option maxHeartbeats 4000000 in
theorem w_X9_hasEntry {Φ : gwC} {hb : gwHp} {M : Nat} {sh : Nat → Option gSh} {th : Nat} {p1 : Int} {c : W0} {r : Int} {K : Option Value → gwHp → Prop} (h0 : sM sh th) (H : f_X9_hasEntry th p1 c = some r) (hK : K (some (vI r)) (hp Φ hb M sh c)) : gw_Con Φ mX9_hasEntry none [.ref (M + th), vI p1] (hp Φ hb M sh c) K := by
  unfold f_X9_hasEntry at H
  refine gw_start okX9_hasEntry (Nat.le_of_ble_eq_true rfl) ?_
  refine gw_iconstZ dX9_hasEntry_0 rfl ?_
  refine gw_istore_n dX9_hasEntry_1 rfl (by decide) ?_
  refine gw_iconstZ dX9_hasEntry_2 rfl ?_
  refine gw_istore_n dX9_hasEntry_3 rfl (by decide) ?_
  refine gw_L (l_X9_hasEntry_4 h0 hK (fun v1 H => ?_) LF _ _ H) ((lvA_c rfl (lvA_c rfl (lvA_c rfl (lvA_c rfl lvA_n)))))
  refine gw_iload_n dX9_hasEntry_41 rfl rfl ?_
  obtain ⟨g, H⟩ := gd_i H
  cases H
  exact gw_zret (gs_nz g) dX9_hasEntry_42 rfl (by decide) (by decide) hK
end FW
