section CP
variable {Φ : gwC} {hb : gwHp} {M : Nat} {sh : Nat → Option gSh} {c : Nat → Int → Int} {K : Option Value → gwHp → Prop}
variable {p g a p2 g2 a2 : Nat} {r v j z : Int}
def shP (sh : Nat → Option gSh) (p g a : Nat) : Prop := sh p = some (0, 2, [.inl 0, .inl 0, .inl (g + 2)]) ∧ shG sh g a 5 25
def ffZ (n : Int) (F : Int → Int) (r j : Int) : Int := if j < n then F (r * 5 + j) else if j - n = r then 1 else 0
def cpZ (n : Int) (F : Int → Int) (j : Int) : Int := if j < n then F (4 * 5 + j) else 0
def rszZ (F : Int → Int) (z v r : Int) : Int → Int := fun i => if 0 ≤ i ∧ i < 25 ∧ (z ≤ i % 5 ∧ i % 5 < v ∨ i % 5 = v ∧ i / 5 < r) then 0 else F i
def dropZ (F : Int → Int) (r k v : Int) : Int → Int := fun i => if 0 ≤ i ∧ i < 25 ∧ (r ≤ i / 5 ∧ i / 5 < k ∨ i / 5 = k ∧ i % 5 < v) then F (i + 5) else F i
def addZ (F : Int → Int) (r v : Int) : Int → Int := fun i => if r * 5 ≤ i ∧ i < r * 5 + v then 0 else F i
set_option maxRecDepth 100000 in
set_option maxHeartbeats 4000000 in
theorem k_profit (hP : shP sh p g a) (hv : 0 ≤ v ∧ v < 4) (hK : K (some (vI (c a (4 * 5 + v)))) (hp Φ hb M sh c)) : gw_Con Φ mX2_profit none [.ref (M + p), vI v] (hp Φ hb M sh c) K := by
  refine gw_start okX2_profit (Nat.le_of_ble_eq_true rfl) ?_
  refine gw_aload_n dX2_profit_0 rfl rfl ?_
  refine gs_getR cl2 2 dX2_profit_1 rfl kw_84 (by decide) (hP).1 rfl ?_
  refine gw_iconstZ dX2_profit_4 rfl ?_
  refine gw_iload_n dX2_profit_5 rfl rfl ?_
  refine gw_V2 okX1_at dX2_profit_6 kw_440 kw_441 kw_442 (hp_o (hP.2).1) rfl ⟨by decide, by decide⟩ ⟨by decide, by decide⟩ (Nat.le_of_ble_eq_true rfl) (k_at hP.2 (by omega) (by omega) (by omega) (by omega) (by omega) ?_)
  refine gw_l2iZ dX2_profit_9 rfl ?_
  exact gw_iret dX2_profit_10 rfl (by decide) (by decide) hK
set_option maxRecDepth 100000 in
set_option maxHeartbeats 4000000 in
theorem k_putProfit (hP : shP sh p g a) (hv : 0 ≤ v ∧ v < 4) (hz : R32 z) (hK : K none (hp Φ hb M sh (upc c a (updZ (c a) (4 * 5 + v) z)))) : gw_Con Φ mX2_putProfit none [.ref (M + p), vI v, vI z] (hp Φ hb M sh c) K := by
  refine gw_start okX2_putProfit (Nat.le_of_ble_eq_true rfl) ?_
  refine gw_aload_n dX2_putProfit_0 rfl rfl ?_
  refine gs_getR cl2 2 dX2_putProfit_1 rfl kw_84 (by decide) (hP).1 rfl ?_
  refine gw_iconstZ dX2_putProfit_4 rfl ?_
  refine gw_iload_n dX2_putProfit_5 rfl rfl ?_
  refine gw_iload_n dX2_putProfit_6 rfl rfl ?_
  refine gw_i2lZ dX2_putProfit_7 rfl (by omega) ?_
  refine gw_V3 okX1_put dX2_putProfit_8 kw_419 kw_420 kw_421 (hp_o (hP.2).1) rfl ⟨by decide, by decide⟩ ⟨by decide, by decide⟩ (Nat.le_of_ble_eq_true rfl) (k_put hP.2 (by omega) (by omega) (by omega) (by omega) (by omega) ?_)
  exact gw_vret dX2_putProfit_11 rfl (by decide) (by decide) hK
set_option maxRecDepth 100000 in
set_option maxHeartbeats 4000000 in
theorem k_coefficient (hP : shP sh p g a) (hr : 0 ≤ r ∧ r < 4) (hv : 0 ≤ v ∧ v < 4) (hK : K (some (vI (c a (r * 5 + v)))) (hp Φ hb M sh c)) : gw_Con Φ mX2_coefficient none [.ref (M + p), vI r, vI v] (hp Φ hb M sh c) K := by
  refine gw_start okX2_coefficient (Nat.le_of_ble_eq_true rfl) ?_
  refine gw_aload_n dX2_coefficient_0 rfl rfl ?_
  refine gs_getR cl2 2 dX2_coefficient_1 rfl kw_84 (by decide) (hP).1 rfl ?_
  refine gw_iload_n dX2_coefficient_4 rfl rfl ?_
  refine gw_iload_n dX2_coefficient_5 rfl rfl ?_
  refine gw_V2 okX1_at dX2_coefficient_6 kw_440 kw_441 kw_442 (hp_o (hP.2).1) rfl ⟨by decide, by decide⟩ ⟨by decide, by decide⟩ (Nat.le_of_ble_eq_true rfl) (k_at hP.2 (by omega) (by omega) (by omega) (by omega) (by omega) ?_)
  refine gw_l2iZ dX2_coefficient_9 rfl ?_
  exact gw_iret dX2_coefficient_10 rfl (by decide) (by decide) hK
set_option maxRecDepth 100000 in
set_option maxHeartbeats 4000000 in
theorem k_putCoefficient (hP : shP sh p g a) (hr : 0 ≤ r ∧ r < 4) (hv : 0 ≤ v ∧ v < 4) (hz : R32 z) (hK : K none (hp Φ hb M sh (upc c a (updZ (c a) (r * 5 + v) z)))) : gw_Con Φ mX2_putCoefficient none [.ref (M + p), vI r, vI v, vI z] (hp Φ hb M sh c) K := by
  refine gw_start okX2_putCoefficient (Nat.le_of_ble_eq_true rfl) ?_
  refine gw_aload_n dX2_putCoefficient_0 rfl rfl ?_
  refine gs_getR cl2 2 dX2_putCoefficient_1 rfl kw_84 (by decide) (hP).1 rfl ?_
  refine gw_iload_n dX2_putCoefficient_4 rfl rfl ?_
  refine gw_iload_n dX2_putCoefficient_5 rfl rfl ?_
  refine gw_iload_n dX2_putCoefficient_6 rfl rfl ?_
  refine gw_i2lZ dX2_putCoefficient_7 rfl (by omega) ?_
  refine gw_V3 okX1_put dX2_putCoefficient_8 kw_419 kw_420 kw_421 (hp_o (hP.2).1) rfl ⟨by decide, by decide⟩ ⟨by decide, by decide⟩ (Nat.le_of_ble_eq_true rfl) (k_put hP.2 (by omega) (by omega) (by omega) (by omega) (by omega) ?_)
  exact gw_vret dX2_putCoefficient_11 rfl (by decide) (by decide) hK
set_option maxRecDepth 100000 in
set_option maxHeartbeats 4000000 in
theorem k_bound (hP : shP sh p g a) (hr : 0 ≤ r ∧ r < 4) (hK : K (some (vI (c a (r * 5 + 4)))) (hp Φ hb M sh c)) : gw_Con Φ mX2_bound none [.ref (M + p), vI r] (hp Φ hb M sh c) K := by
  refine gw_start okX2_bound (Nat.le_of_ble_eq_true rfl) ?_
  refine gw_aload_n dX2_bound_0 rfl rfl ?_
  refine gs_getR cl2 2 dX2_bound_1 rfl kw_84 (by decide) (hP).1 rfl ?_
  refine gw_iload_n dX2_bound_4 rfl rfl ?_
  refine gw_iconstZ dX2_bound_5 rfl ?_
  refine gw_V2 okX1_at dX2_bound_6 kw_440 kw_441 kw_442 (hp_o (hP.2).1) rfl ⟨by decide, by decide⟩ ⟨by decide, by decide⟩ (Nat.le_of_ble_eq_true rfl) (k_at hP.2 (by omega) (by omega) (by omega) (by omega) (by omega) ?_)
  refine gw_l2iZ dX2_bound_9 rfl ?_
  exact gw_iret dX2_bound_10 rfl (by decide) (by decide) hK
set_option maxRecDepth 100000 in
set_option maxHeartbeats 4000000 in
theorem k_putBound (hP : shP sh p g a) (hr : 0 ≤ r ∧ r < 4) (hz : R32 z) (hK : K none (hp Φ hb M sh (upc c a (updZ (c a) (r * 5 + 4) z)))) : gw_Con Φ mX2_putBound none [.ref (M + p), vI r, vI z] (hp Φ hb M sh c) K := by
  refine gw_start okX2_putBound (Nat.le_of_ble_eq_true rfl) ?_
  refine gw_aload_n dX2_putBound_0 rfl rfl ?_
  refine gs_getR cl2 2 dX2_putBound_1 rfl kw_84 (by decide) (hP).1 rfl ?_
  refine gw_iload_n dX2_putBound_4 rfl rfl ?_
  refine gw_iconstZ dX2_putBound_5 rfl ?_
  refine gw_iload_n dX2_putBound_6 rfl rfl ?_
  refine gw_i2lZ dX2_putBound_7 rfl (by omega) ?_
  refine gw_V3 okX1_put dX2_putBound_8 kw_419 kw_420 kw_421 (hp_o (hP.2).1) rfl ⟨by decide, by decide⟩ ⟨by decide, by decide⟩ (Nat.le_of_ble_eq_true rfl) (k_put hP.2 (by omega) (by omega) (by omega) (by omega) (by omega) ?_)
  exact gw_vret dX2_putBound_11 rfl (by decide) (by decide) hK
set_option maxRecDepth 100000 in
set_option maxHeartbeats 4000000 in
theorem k_firstFactor (hP : shP sh p g a) (hr : 0 ≤ r ∧ r < 4) (hn : 0 ≤ c p 0 ∧ c p 0 ≤ 4) (hj : 0 ≤ j ∧ j ≤ 8) (hK : K (some (vI (ffZ (c p 0) (c a) r j))) (hp Φ hb M sh c)) : gw_Con Φ mX2_firstFactor none [.ref (M + p), vI r, vI j] (hp Φ hb M sh c) K := by
  refine gw_start okX2_firstFactor (Nat.le_of_ble_eq_true rfl) ?_
  refine gw_iload_n dX2_firstFactor_0 rfl rfl ?_
  refine gw_aload_n dX2_firstFactor_1 rfl rfl ?_
  refine gs_getI cl2 0 0 dX2_firstFactor_2 rfl kw_72 (by decide) (hP).1 rfl rfl ?_
  refine gw_icmp_geZ (tgt := 15) dX2_firstFactor_5 rfl (by decide) (by omega) (by omega) (fun c_5 => ?_) (fun c_5 => ?_)
  · refine gw_iload_n dX2_firstFactor_15 rfl rfl ?_
    refine gw_aload_n dX2_firstFactor_16 rfl rfl ?_
    refine gs_getI cl2 0 0 dX2_firstFactor_17 rfl kw_72 (by decide) (hP).1 rfl rfl ?_
    refine gw_isubZ dX2_firstFactor_20 rfl ?_
    refine gw_iload_n dX2_firstFactor_21 rfl rfl ?_
    refine gw_icmp_neZ (tgt := 29) dX2_firstFactor_22 rfl (by decide) (by omega) (by omega) (fun c_22 => ?_) (fun c_22 => ?_)
    · refine gw_iconstZ dX2_firstFactor_29 rfl ?_
      exact gw_iret dX2_firstFactor_30 rfl (by decide) (by decide) (by unfold ffZ at hK; first | (rw [if_neg (by omega), if_pos (by omega)] at hK; exact hK) | (rw [if_neg (by omega), if_neg (by omega)] at hK; exact hK))
    · refine gw_iconstZ dX2_firstFactor_25 rfl ?_
      refine gw_goto (tgt := 30) dX2_firstFactor_26 (by decide) ?_
      exact gw_iret dX2_firstFactor_30 rfl (by decide) (by decide) (by unfold ffZ at hK; first | (rw [if_neg (by omega), if_pos (by omega)] at hK; exact hK) | (rw [if_neg (by omega), if_neg (by omega)] at hK; exact hK))
  · refine gw_aload_n dX2_firstFactor_8 rfl rfl ?_
    refine gw_iload_n dX2_firstFactor_9 rfl rfl ?_
    refine gw_iload_n dX2_firstFactor_10 rfl rfl ?_
    refine gw_V2 okX2_coefficient dX2_firstFactor_11 kw_436 kw_437 kw_438 (hp_o (hP).1) rfl ⟨by decide, by decide⟩ ⟨by decide, by decide⟩ (Nat.le_of_ble_eq_true rfl) (k_coefficient hP (by omega) (by omega) ?_)
    exact gw_iret dX2_firstFactor_14 rfl (by decide) (by decide) (by unfold ffZ at hK; rw [if_pos (by omega)] at hK; exact hK)
set_option maxRecDepth 100000 in
set_option maxHeartbeats 4000000 in
theorem k_columnProfit (hP : shP sh p g a) (hn : 0 ≤ c p 0 ∧ c p 0 ≤ 4) (hj : 0 ≤ j ∧ j ≤ 8) (hK : K (some (vI (cpZ (c p 0) (c a) j))) (hp Φ hb M sh c)) : gw_Con Φ mX2_columnProfit none [.ref (M + p), vI j] (hp Φ hb M sh c) K := by
  refine gw_start okX2_columnProfit (Nat.le_of_ble_eq_true rfl) ?_
  refine gw_iload_n dX2_columnProfit_0 rfl rfl ?_
  refine gw_aload_n dX2_columnProfit_1 rfl rfl ?_
  refine gs_getI cl2 0 0 dX2_columnProfit_2 rfl kw_72 (by decide) (hP).1 rfl rfl ?_
  refine gw_icmp_geZ (tgt := 16) dX2_columnProfit_5 rfl (by decide) (by omega) (by omega) (fun c_5 => ?_) (fun c_5 => ?_)
  · refine gw_iconstZ dX2_columnProfit_16 rfl ?_
    exact gw_iret dX2_columnProfit_17 rfl (by decide) (by decide) (by unfold cpZ at hK; first | (rw [if_pos (by omega)] at hK; exact hK) | (rw [if_neg (by omega)] at hK; exact hK))
  · refine gw_aload_n dX2_columnProfit_8 rfl rfl ?_
    refine gw_iload_n dX2_columnProfit_9 rfl rfl ?_
    refine gw_V1 okX2_profit dX2_columnProfit_10 kw_452 kw_453 kw_454 (hp_o (hP).1) rfl ⟨by decide, by decide⟩ ⟨by decide, by decide⟩ (Nat.le_of_ble_eq_true rfl) (k_profit hP (by omega) ?_)
    refine gw_goto (tgt := 17) dX2_columnProfit_13 (by decide) ?_
    exact gw_iret dX2_columnProfit_17 rfl (by decide) (by decide) (by unfold cpZ at hK; first | (rw [if_pos (by omega)] at hK; exact hK) | (rw [if_neg (by omega)] at hK; exact hK))
set_option maxRecDepth 100000 in
set_option maxHeartbeats 4000000 in
theorem l_resize2 {E : gwE} (hP : shP sh p g a) (hz : 0 ≤ z ∧ z ≤ 4) (hv : z ≤ v ∧ v < 4) (kk : ∀ c', c' = upc c a (rszZ (c a) z v (5)) → G Φ mX2_resize E none 0 0 30 [(0, .ref (M + p)), (1, vI z), (2, vI v), (3, vI (5))] [] (hp Φ hb M sh c')) : ∀ (m : Nat) (r : Int) (c' : Nat → Int → Int), 0 ≤ r → r + m = 5 → c' = upc c a (rszZ (c a) z v r) → G Φ mX2_resize E none 0 0 9 [(0, .ref (M + p)), (1, vI z), (2, vI v), (3, vI r)] [] (hp Φ hb M sh c') := by
  intro m
  induction m with
  | zero =>
    intro r c' h0 hm hI
    obtain rfl : r = 5 := by omega
    refine gw_iload_n dX2_resize_9 rfl rfl ?_
    refine gw_iconstZ dX2_resize_10 rfl ?_
    refine gw_icmp_gtZ (tgt := 30) dX2_resize_11 rfl (by decide) (by omega) (by omega) (fun c_11 => ?_) (fun c_11 => False.elim (by omega))
    exact gw_L (kk c' hI) ((lvA_c rfl (lvA_c rfl (lvA_c rfl (lvA_c rfl lvA_n)))))
  | succ m ih =>
    intro r c' h0 hm hI
    subst hI
    refine gw_iload_n dX2_resize_9 rfl rfl ?_
    refine gw_iconstZ dX2_resize_10 rfl ?_
    refine gw_icmp_gtZ (tgt := 30) dX2_resize_11 rfl (by decide) (by omega) (by omega) (fun c_11 => False.elim (by omega)) (fun c_11 => ?_)
    refine gw_aload_n dX2_resize_14 rfl rfl ?_
    refine gs_getR cl2 2 dX2_resize_15 rfl kw_84 (by decide) (hP).1 rfl ?_
    refine gw_iload_n dX2_resize_18 rfl rfl ?_
    refine gw_iload_n dX2_resize_19 rfl rfl ?_
    refine gw_lconst0Z dX2_resize_20 rfl ?_
    refine gw_V3 okX1_put dX2_resize_21 kw_419 kw_420 kw_421 (hp_o (hP.2).1) rfl ⟨by decide, by decide⟩ ⟨by decide, by decide⟩ (Nat.le_of_ble_eq_true rfl) (k_put hP.2 (by omega) (by omega) (by omega) (by omega) (by omega) ?_)
    refine gw_iincZ dX2_resize_24 rfl rfl (by decide) ?_
    refine gw_goto (tgt := 9) dX2_resize_27 (by decide) ?_
    exact gw_L (ih (r + 1) _ (by omega) (by omega) (by
            rw [upc_u, upc_s]
            congr 1
            funext i
            unfold updZ rszZ
            (repeat' split) <;> omega)) ((lvA_c rfl (lvA_c rfl (lvA_c rfl (lvA_c rfl lvA_n)))))
set_option maxRecDepth 100000 in
set_option maxHeartbeats 4000000 in
theorem l_resize1 {E : gwE} (hP : shP sh p g a) (hz : 0 ≤ z ∧ z ≤ 4) (kk : ∀ c', c' = upc c a (rszZ (c a) z (4) 0) → G Φ mX2_resize E none 0 0 36 [(0, .ref (M + p)), (1, vI z), (2, vI (4))] [] (hp Φ hb M sh c')) : ∀ (m : Nat) (v : Int) (c' : Nat → Int → Int), z ≤ v → v + m = 4 → c' = upc c a (rszZ (c a) z v 0) → G Φ mX2_resize E none 0 0 2 [(0, .ref (M + p)), (1, vI z), (2, vI v)] [] (hp Φ hb M sh c') := by
  intro m
  induction m with
  | zero =>
    intro v c' h0 hm hI
    obtain rfl : v = 4 := by omega
    refine gw_iload_n dX2_resize_2 rfl rfl ?_
    refine gw_iconstZ dX2_resize_3 rfl ?_
    refine gw_icmp_geZ (tgt := 36) dX2_resize_4 rfl (by decide) (by omega) (by omega) (fun c_4 => ?_) (fun c_4 => False.elim (by omega))
    exact gw_L (kk c' hI) ((lvA_c rfl (lvA_c rfl (lvA_c rfl lvA_n))))
  | succ m ih =>
    intro v c' h0 hm hI
    subst hI
    refine gw_iload_n dX2_resize_2 rfl rfl ?_
    refine gw_iconstZ dX2_resize_3 rfl ?_
    refine gw_icmp_geZ (tgt := 36) dX2_resize_4 rfl (by decide) (by omega) (by omega) (fun c_4 => False.elim (by omega)) (fun c_4 => ?_)
    refine gw_iconstZ dX2_resize_7 rfl ?_
    refine gw_istore_n dX2_resize_8 rfl (by decide) ?_
    refine gw_L (l_resize2 (c := c) hP hz ⟨by omega, by omega⟩ (fun c' hI => ?_) 5 0 _ (by omega) (by omega) rfl) ((lvA_c rfl (lvA_c rfl (lvA_c rfl (lvA_c rfl lvA_n)))))
    subst hI
    refine gw_iincZ dX2_resize_30 rfl rfl (by decide) ?_
    refine gw_goto (tgt := 2) dX2_resize_33 (by decide) ?_
    exact gw_L (ih (v + 1) _ (by omega) (by omega) (by congr 1; funext i; unfold rszZ; (repeat' split) <;> omega)) ((lvA_c rfl (lvA_c rfl (lvA_c rfl lvA_n))))
set_option maxRecDepth 100000 in
set_option maxHeartbeats 4000000 in
theorem k_resize (hP : shP sh p g a) (hz : 0 ≤ z ∧ z ≤ 4) (hK : K none (hp Φ hb M sh (upc (upc c a (rszZ (c a) z 4 0)) p (updZ (upc c a (rszZ (c a) z 4 0) p) 0 z)))) : gw_Con Φ mX2_resize none [.ref (M + p), vI z] (hp Φ hb M sh c) K := by
  refine gw_start okX2_resize (Nat.le_of_ble_eq_true rfl) ?_
  refine gw_iload_n dX2_resize_0 rfl rfl ?_
  refine gw_istore_n dX2_resize_1 rfl (by decide) ?_
  refine gw_L (l_resize1 (c := c) hP hz (fun c' hI => ?_) (4 - z).toNat z _ (by omega) (by omega) ?_) ((lvA_c rfl (lvA_c rfl (lvA_c rfl lvA_n))))
  · subst hI
    refine gw_aload_n dX2_resize_36 rfl rfl ?_
    refine gw_iload_n dX2_resize_37 rfl rfl ?_
    refine gs_putI cl2 0 0 dX2_resize_38 rfl kw_72 (by decide) rfl rfl (hP).1 rfl rfl ?_
    exact gw_vret dX2_resize_41 rfl (by decide) (by decide) hK
  · rw [show rszZ (c a) z z 0 = c a by (funext i; unfold rszZ; (repeat' split) <;> omega), upc_i]
set_option maxRecDepth 100000 in
set_option maxHeartbeats 4000000 in
theorem l_add {E : gwE} (hP : shP sh p g a) (hr : 0 ≤ r ∧ r < 4) (kk : ∀ c', c' = upc c a (addZ (c a) r (4)) → G Φ mX2_add E none 0 0 25 [(0, .ref (M + p)), (1, vI z), (2, vI r), (3, vI (4))] [] (hp Φ hb M sh c')) : ∀ (m : Nat) (v : Int) (c' : Nat → Int → Int), 0 ≤ v → v + m = 4 → c' = upc c a (addZ (c a) r v) → G Φ mX2_add E none 0 0 7 [(0, .ref (M + p)), (1, vI z), (2, vI r), (3, vI v)] [] (hp Φ hb M sh c') := by
  intro m
  induction m with
  | zero =>
    intro v c' h0 hm hI
    obtain rfl : v = 4 := by omega
    refine gw_iload_n dX2_add_7 rfl rfl ?_
    refine gw_iconstZ dX2_add_8 rfl ?_
    refine gw_icmp_geZ (tgt := 25) dX2_add_9 rfl (by decide) (by omega) (by omega) (fun c_9 => ?_) (fun c_9 => False.elim (by omega))
    exact gw_L (kk c' hI) ((lvA_c rfl (lvA_c rfl (lvA_c rfl (lvA_c rfl lvA_n)))))
  | succ m ih =>
    intro v c' h0 hm hI
    subst hI
    refine gw_iload_n dX2_add_7 rfl rfl ?_
    refine gw_iconstZ dX2_add_8 rfl ?_
    refine gw_icmp_geZ (tgt := 25) dX2_add_9 rfl (by decide) (by omega) (by omega) (fun c_9 => False.elim (by omega)) (fun c_9 => ?_)
    refine gw_aload_n dX2_add_12 rfl rfl ?_
    refine gw_iload_n dX2_add_13 rfl rfl ?_
    refine gw_iload_n dX2_add_14 rfl rfl ?_
    refine gw_iconstZ dX2_add_15 rfl ?_
    refine gw_V3 okX2_putCoefficient dX2_add_16 kw_502 kw_503 kw_504 (hp_o (hP).1) rfl ⟨by decide, by decide⟩ ⟨by decide, by decide⟩ (Nat.le_of_ble_eq_true rfl) (k_putCoefficient hP (by omega) (by omega) (by omega) ?_)
    refine gw_iincZ dX2_add_19 rfl rfl (by decide) ?_
    refine gw_goto (tgt := 7) dX2_add_22 (by decide) ?_
    exact gw_L (ih (v + 1) _ (by omega) (by omega) (by
            rw [upc_u, upc_s]
            congr 1
            funext i
            unfold updZ addZ
            (repeat' split) <;> omega)) ((lvA_c rfl (lvA_c rfl (lvA_c rfl (lvA_c rfl lvA_n)))))
set_option maxRecDepth 100000 in
set_option maxHeartbeats 4000000 in
theorem k_add (hP : shP sh p g a) (hm : 0 ≤ c p 1 ∧ c p 1 < 4) (hz : R32 z) (hpa : p ≠ a) (hK : K (some (vI (c p 1))) (hp Φ hb M sh (upc (upc c a (updZ (addZ (c a) (c p 1) 4) (c p 1 * 5 + 4) z)) p (updZ (c p) 1 (c p 1 + 1))))) : gw_Con Φ mX2_add none [.ref (M + p), vI z] (hp Φ hb M sh c) K := by
  refine gw_start okX2_add (Nat.le_of_ble_eq_true rfl) ?_
  refine gw_aload_n dX2_add_0 rfl rfl ?_
  refine gs_getI cl2 1 1 dX2_add_1 rfl kw_83 (by decide) (hP).1 rfl rfl ?_
  refine gw_istore_n dX2_add_4 rfl (by decide) ?_
  refine gw_iconstZ dX2_add_5 rfl ?_
  refine gw_istore_n dX2_add_6 rfl (by decide) ?_
  refine gw_L (l_add (c := c) hP hm (fun c' hI => ?_) 4 0 _ (by omega) (by omega) ?_) ((lvA_c rfl (lvA_c rfl (lvA_c rfl (lvA_c rfl lvA_n)))))
  · subst hI
    refine gw_aload_n dX2_add_25 rfl rfl ?_
    refine gw_iload_n dX2_add_26 rfl rfl ?_
    refine gw_iload_n dX2_add_27 rfl rfl ?_
    refine gw_V2 okX2_putBound dX2_add_28 kw_506 kw_507 kw_508 (hp_o (hP).1) rfl ⟨by decide, by decide⟩ ⟨by decide, by decide⟩ (Nat.le_of_ble_eq_true rfl) (k_putBound hP (by omega) (by omega) ?_)
    refine gw_aload_n dX2_add_31 rfl rfl ?_
    refine gw_dup dX2_add_32 rfl rfl ?_
    refine gs_getI cl2 1 1 dX2_add_33 rfl kw_83 (by decide) (hP).1 rfl rfl ?_
    refine gw_iconstZ dX2_add_36 rfl ?_
    refine gw_iaddZ dX2_add_37 rfl ?_
    refine gs_putI cl2 1 1 dX2_add_38 rfl kw_83 (by decide) rfl rfl (hP).1 rfl rfl ?_
    refine gw_iload_n dX2_add_41 rfl rfl ?_
    exact gw_iret dX2_add_42 rfl (by decide) (by decide) (by rw [upc_u, upc_s, upc_n hpa] at *; exact hK)
  · rw [show addZ (c a) (c p 1) 0 = c a by (funext i; unfold addZ; (repeat' split) <;> omega), upc_i]
set_option maxRecDepth 100000 in
set_option maxHeartbeats 4000000 in
theorem l_drop2 {E : gwE} (hP : shP sh p g a) (hr : 0 ≤ r ∧ r ≤ j ∧ j < 3) (kk : ∀ c', c' = upc c a (dropZ (c a) r j (5)) → G Φ mX2_drop E none 0 0 45 [(0, .ref (M + p)), (1, vI r), (2, vI j), (3, vI (5))] [] (hp Φ hb M sh c')) : ∀ (m : Nat) (v : Int) (c' : Nat → Int → Int), 0 ≤ v → v + m = 5 → c' = upc c a (dropZ (c a) r j v) → G Φ mX2_drop E none 0 0 14 [(0, .ref (M + p)), (1, vI r), (2, vI j), (3, vI v)] [] (hp Φ hb M sh c') := by
  intro m
  induction m with
  | zero =>
    intro v c' h0 hm hI
    obtain rfl : v = 5 := by omega
    refine gw_iload_n dX2_drop_14 rfl rfl ?_
    refine gw_iconstZ dX2_drop_15 rfl ?_
    refine gw_icmp_gtZ (tgt := 45) dX2_drop_16 rfl (by decide) (by omega) (by omega) (fun c_16 => ?_) (fun c_16 => False.elim (by omega))
    exact gw_L (kk c' hI) ((lvA_c rfl (lvA_c rfl (lvA_c rfl (lvA_c rfl lvA_n)))))
  | succ m ih =>
    intro v c' h0 hm hI
    subst hI
    refine gw_iload_n dX2_drop_14 rfl rfl ?_
    refine gw_iconstZ dX2_drop_15 rfl ?_
    refine gw_icmp_gtZ (tgt := 45) dX2_drop_16 rfl (by decide) (by omega) (by omega) (fun c_16 => False.elim (by omega)) (fun c_16 => ?_)
    refine gw_aload_n dX2_drop_19 rfl rfl ?_
    refine gs_getR cl2 2 dX2_drop_20 rfl kw_84 (by decide) (hP).1 rfl ?_
    refine gw_iload_n dX2_drop_23 rfl rfl ?_
    refine gw_iload_n dX2_drop_24 rfl rfl ?_
    refine gw_aload_n dX2_drop_25 rfl rfl ?_
    refine gs_getR cl2 2 dX2_drop_26 rfl kw_84 (by decide) (hP).1 rfl ?_
    refine gw_iload_n dX2_drop_29 rfl rfl ?_
    refine gw_iconstZ dX2_drop_30 rfl ?_
    refine gw_iaddZ dX2_drop_31 rfl ?_
    refine gw_iload_n dX2_drop_32 rfl rfl ?_
    refine gw_V2 okX1_at dX2_drop_33 kw_440 kw_441 kw_442 (hp_o (hP.2).1) rfl ⟨by decide, by decide⟩ ⟨by decide, by decide⟩ (Nat.le_of_ble_eq_true rfl) (k_at hP.2 (by omega) (by omega) (by omega) (by omega) (by omega) ?_)
    refine gw_V3 okX1_put dX2_drop_36 kw_419 kw_420 kw_421 (hp_o (hP.2).1) rfl ⟨by decide, by decide⟩ ⟨by decide, by decide⟩ (Nat.le_of_ble_eq_true rfl) (k_put hP.2 (by omega) (by omega) (by omega) (by omega) (by omega) ?_)
    refine gw_iincZ dX2_drop_39 rfl rfl (by decide) ?_
    refine gw_goto (tgt := 14) dX2_drop_42 (by decide) ?_
    exact gw_L (ih (v + 1) _ (by omega) (by omega) (by
            rw [upc_u, upc_s]
            congr 1
            funext i
            unfold updZ dropZ
            by_cases hi : i = j * 5 + v
            · subst hi
              rw [if_pos rfl, if_neg (by omega), if_pos (by omega)]
              congr 1
              omega
            · rw [if_neg hi]
              (repeat' split) <;> omega)) ((lvA_c rfl (lvA_c rfl (lvA_c rfl (lvA_c rfl lvA_n)))))
set_option maxRecDepth 100000 in
set_option maxHeartbeats 4000000 in
theorem l_drop1 {E : gwE} (hP : shP sh p g a) (hm : 0 ≤ r ∧ r < c p 1 ∧ c p 1 ≤ 4) (hpa : p ≠ a) (kk : ∀ c', c' = upc c a (dropZ (c a) r (c p 1 - 1) 0) → G Φ mX2_drop E none 0 0 51 [(0, .ref (M + p)), (1, vI r), (2, vI (c p 1 - 1))] [] (hp Φ hb M sh c')) : ∀ (m : Nat) (j : Int) (c' : Nat → Int → Int), r ≤ j → j + m = c p 1 - 1 → c' = upc c a (dropZ (c a) r j 0) → G Φ mX2_drop E none 0 0 2 [(0, .ref (M + p)), (1, vI r), (2, vI j)] [] (hp Φ hb M sh c') := by
  intro m
  induction m with
  | zero =>
    intro j c' h0 hm hI
    obtain rfl : j = c p 1 - 1 := by omega
    subst hI
    refine gw_iload_n dX2_drop_2 rfl rfl ?_
    refine gw_aload_n dX2_drop_3 rfl rfl ?_
    refine gs_getI cl2 1 1 dX2_drop_4 rfl kw_83 (by decide) (hP).1 rfl rfl ?_
    refine gw_iconstZ dX2_drop_7 rfl ?_
    refine gw_isubZ dX2_drop_8 rfl ?_
    refine gw_icmp_geZ (tgt := 51) dX2_drop_9 rfl (by decide) (by omega) (by rw [upc_n hpa]; omega) (fun c_9 => ?_) (fun c_9 => False.elim (by rw [upc_n hpa] at c_9; omega))
    exact gw_L (kk _ rfl) ((lvA_c rfl (lvA_c rfl (lvA_c rfl lvA_n))))
  | succ m ih =>
    intro j c' h0 hm hI
    subst hI
    refine gw_iload_n dX2_drop_2 rfl rfl ?_
    refine gw_aload_n dX2_drop_3 rfl rfl ?_
    refine gs_getI cl2 1 1 dX2_drop_4 rfl kw_83 (by decide) (hP).1 rfl rfl ?_
    refine gw_iconstZ dX2_drop_7 rfl ?_
    refine gw_isubZ dX2_drop_8 rfl ?_
    refine gw_icmp_geZ (tgt := 51) dX2_drop_9 rfl (by decide) (by omega) (by rw [upc_n hpa]; omega) (fun c_9 => False.elim (by rw [upc_n hpa] at c_9; omega)) (fun c_9 => ?_)
    refine gw_iconstZ dX2_drop_12 rfl ?_
    refine gw_istore_n dX2_drop_13 rfl (by decide) ?_
    refine gw_L (l_drop2 (c := c) hP ⟨by omega, by omega, by omega⟩ (fun c' hI => ?_) 5 0 _ (by omega) (by omega) rfl) ((lvA_c rfl (lvA_c rfl (lvA_c rfl (lvA_c rfl lvA_n)))))
    subst hI
    refine gw_iincZ dX2_drop_45 rfl rfl (by decide) ?_
    refine gw_goto (tgt := 2) dX2_drop_48 (by decide) ?_
    exact gw_L (ih (j + 1) _ (by omega) (by omega) (by congr 1; funext i; unfold dropZ; (repeat' split) <;> omega)) ((lvA_c rfl (lvA_c rfl (lvA_c rfl lvA_n))))
set_option maxRecDepth 100000 in
set_option maxHeartbeats 4000000 in
theorem k_drop (hP : shP sh p g a) (hm : 0 ≤ r ∧ r < c p 1 ∧ c p 1 ≤ 4) (hpa : p ≠ a) (hK : K none (hp Φ hb M sh (upc (upc c a (dropZ (c a) r (c p 1 - 1) 0)) p (updZ (c p) 1 (c p 1 - 1))))) : gw_Con Φ mX2_drop none [.ref (M + p), vI r] (hp Φ hb M sh c) K := by
  refine gw_start okX2_drop (Nat.le_of_ble_eq_true rfl) ?_
  refine gw_iload_n dX2_drop_0 rfl rfl ?_
  refine gw_istore_n dX2_drop_1 rfl (by decide) ?_
  refine gw_L (l_drop1 (c := c) hP hm hpa (fun c' hI => ?_) (c p 1 - 1 - r).toNat r _ (by omega) (by omega) ?_) ((lvA_c rfl (lvA_c rfl (lvA_c rfl lvA_n))))
  · subst hI
    refine gw_aload_n dX2_drop_51 rfl rfl ?_
    refine gw_dup dX2_drop_52 rfl rfl ?_
    refine gs_getI cl2 1 1 dX2_drop_53 rfl kw_83 (by decide) (hP).1 rfl rfl ?_
    refine gw_iconstZ dX2_drop_56 rfl ?_
    refine gw_isubZ dX2_drop_57 rfl ?_
    refine gs_putI cl2 1 1 dX2_drop_58 rfl kw_83 (by decide) rfl rfl (hP).1 rfl rfl ?_
    exact gw_vret dX2_drop_61 rfl (by decide) (by decide) (by rw [upc_n hpa]; exact hK)
  · rw [show dropZ (c a) r r 0 = c a by (funext i; unfold dropZ; (repeat' split) <;> omega), upc_i]
set_option maxRecDepth 100000 in
set_option maxHeartbeats 4000000 in
theorem k_Pcopy (hP : shP sh p g a) (hP2 : shP sh p2 g2 a2) (hpp : p2 ≠ p ∧ a2 ≠ p ∧ p2 ≠ a) (hK : K none (hp Φ hb M sh (upc (upc c p (updZ (updZ (c p) 0 (c p2 0)) 1 (c p2 1))) a (c a2)))) : gw_Con Φ mX2_copy none [.ref (M + p), .ref (M + p2)] (hp Φ hb M sh c) K := by
  refine gw_start okX2_copy (Nat.le_of_ble_eq_true rfl) ?_
  refine gw_aload_n dX2_copy_0 rfl rfl ?_
  refine gw_ifnull dX2_copy_1 rfl ?_
  refine gw_aload_n dX2_copy_4 rfl rfl ?_
  refine gw_aload_n dX2_copy_5 rfl rfl ?_
  refine gs_getI cl2 0 0 dX2_copy_6 rfl kw_72 (by decide) (hP2).1 rfl rfl ?_
  refine gs_putI cl2 0 0 dX2_copy_9 rfl kw_72 (by decide) rfl rfl (hP).1 rfl rfl ?_
  refine gw_aload_n dX2_copy_12 rfl rfl ?_
  refine gw_aload_n dX2_copy_13 rfl rfl ?_
  refine gs_getI cl2 1 1 dX2_copy_14 rfl kw_83 (by decide) (hP2).1 rfl rfl ?_
  refine gs_putI cl2 1 1 dX2_copy_17 rfl kw_83 (by decide) rfl rfl (hP).1 rfl rfl ?_
  refine gw_aload_n dX2_copy_20 rfl rfl ?_
  refine gs_getR cl2 2 dX2_copy_21 rfl kw_84 (by decide) (hP).1 rfl ?_
  refine gw_aload_n dX2_copy_24 rfl rfl ?_
  refine gs_getR cl2 2 dX2_copy_25 rfl kw_84 (by decide) (hP2).1 rfl ?_
  refine gw_V1 okX1_copy dX2_copy_28 kw_347 kw_348 kw_349 (hp_o (hP.2).1) rfl ⟨by decide, by decide⟩ ⟨by decide, by decide⟩ (Nat.le_of_ble_eq_true rfl) (k_Gcopy hP.2 hP2.2 (by omega) ?_)
  exact gw_vret dX2_copy_31 rfl (by decide) (by decide) (by simp only [upc_u, upc_s, upc_n hpp.1, upc_n hpp.2.1]; exact hK)
end CP
