section CG
variable {Φ : gwC} {h : gwHp} {g c n : Nat} {w r k v : Int} {F : Int → Int} {K : Option Value → gwHp → Prop}
set_option maxRecDepth 100000 in
set_option maxHeartbeats 4000000 in
theorem c_at (hg : h g = some (.inr (1, [vI w, .ref c]))) (hc : h c = some (gwLz Φ n F)) (hw : w ≤ 1000) (hr : 0 ≤ r ∧ r ≤ 1000) (hk : 0 ≤ k ∧ k < w) (hi : r * w + k < n) (hn : n ≤ 1000000) (hK : K (some (vL (F (r * w + k)))) h) : gw_Con Φ mX1_at none [.ref g, vI r, vI k] h K := by
  have h0 : 0 ≤ r * w := Int.mul_nonneg hr.1 (by omega)
  refine gw_start okX1_at (Nat.le_of_ble_eq_true rfl) ?_
  refine gw_iload_n dX1_at_0 rfl rfl ?_
  refine gw_aload_n dX1_at_1 rfl rfl ?_
  refine gw_get cl1 0 dX1_at_2 rfl kw_64 (by decide) (by assumption) rfl ?_
  refine gw_imulZ dX1_at_5 rfl ?_
  refine gw_iload_n dX1_at_6 rfl rfl ?_
  refine gw_iaddZ dX1_at_7 rfl ?_
  refine gw_istore_n dX1_at_8 rfl (by decide) ?_
  refine gw_iload_n dX1_at_9 rfl rfl ?_
  refine gw_if_ltZ (tgt := 38) dX1_at_10 rfl (by decide) (by omega) (fun c_10 => False.elim (by omega)) (fun c_10 => ?_)
  refine gw_iload_n dX1_at_13 rfl rfl ?_
  refine gw_if_ltZ (tgt := 38) dX1_at_14 rfl (by decide) (by omega) (fun c_14 => False.elim (by omega)) (fun c_14 => ?_)
  refine gw_iload_n dX1_at_17 rfl rfl ?_
  refine gw_aload_n dX1_at_18 rfl rfl ?_
  refine gw_get cl1 0 dX1_at_19 rfl kw_64 (by decide) (by assumption) rfl ?_
  refine gw_icmp_geZ (tgt := 38) dX1_at_22 rfl (by decide) (by omega) (by omega) (fun c_22 => False.elim (by omega)) (fun c_22 => ?_)
  refine gw_iload_n dX1_at_25 rfl rfl ?_
  refine gw_if_ltZ (tgt := 38) dX1_at_26 rfl (by decide) (by omega) (fun c_26 => False.elim (by omega)) (fun c_26 => ?_)
  refine gw_iload_n dX1_at_29 rfl rfl ?_
  refine gw_aload_n dX1_at_30 rfl rfl ?_
  refine gw_get cl1 1 dX1_at_31 rfl kw_65 (by decide) (by assumption) rfl ?_
  refine gw_alenL dX1_at_34 rfl (by assumption) ?_
  refine gw_icmp_ltZ (tgt := 40) dX1_at_35 rfl (by decide) (by omega) (by omega) (fun c_35 => ?_) (fun c_35 => False.elim (by omega))
  refine gw_aload_n dX1_at_40 rfl rfl ?_
  refine gw_get cl1 1 dX1_at_41 rfl kw_65 (by decide) (by assumption) rfl ?_
  refine gw_iload_n dX1_at_44 rfl rfl ?_
  refine gw_laldZ dX1_at_45 rfl (by assumption) (by omega) (by omega) ?_
  exact gw_lret dX1_at_46 rfl (by decide) (by decide) hK
set_option maxRecDepth 100000 in
set_option maxHeartbeats 4000000 in
theorem c_put (hg : h g = some (.inr (1, [vI w, .ref c]))) (hc : h c = some (gwLz Φ n F)) (hw : w ≤ 1000) (hr : 0 ≤ r ∧ r ≤ 1000) (hk : 0 ≤ k ∧ k < w) (hi : r * w + k < n) (hn : n ≤ 1000000) (hK : K none (gw_up h c (gwLz Φ n (updZ F (r * w + k) v)))) : gw_Con Φ mX1_put none [.ref g, vI r, vI k, vL v] h K := by
  have h0 : 0 ≤ r * w := Int.mul_nonneg hr.1 (by omega)
  refine gw_start okX1_put (Nat.le_of_ble_eq_true rfl) ?_
  refine gw_iload_n dX1_put_0 rfl rfl ?_
  refine gw_aload_n dX1_put_1 rfl rfl ?_
  refine gw_get cl1 0 dX1_put_2 rfl kw_64 (by decide) (by assumption) rfl ?_
  refine gw_imulZ dX1_put_5 rfl ?_
  refine gw_iload_n dX1_put_6 rfl rfl ?_
  refine gw_iaddZ dX1_put_7 rfl ?_
  refine gw_istore dX1_put_8 rfl (by decide) ?_
  refine gw_iload_n dX1_put_10 rfl rfl ?_
  refine gw_if_ltZ (tgt := 49) dX1_put_11 rfl (by decide) (by omega) (fun c_11 => False.elim (by omega)) (fun c_11 => ?_)
  refine gw_iload_n dX1_put_14 rfl rfl ?_
  refine gw_if_ltZ (tgt := 49) dX1_put_15 rfl (by decide) (by omega) (fun c_15 => False.elim (by omega)) (fun c_15 => ?_)
  refine gw_iload_n dX1_put_18 rfl rfl ?_
  refine gw_aload_n dX1_put_19 rfl rfl ?_
  refine gw_get cl1 0 dX1_put_20 rfl kw_64 (by decide) (by assumption) rfl ?_
  refine gw_icmp_geZ (tgt := 49) dX1_put_23 rfl (by decide) (by omega) (by omega) (fun c_23 => False.elim (by omega)) (fun c_23 => ?_)
  refine gw_iload dX1_put_26 rfl rfl ?_
  refine gw_if_ltZ (tgt := 49) dX1_put_28 rfl (by decide) (by omega) (fun c_28 => False.elim (by omega)) (fun c_28 => ?_)
  refine gw_iload dX1_put_31 rfl rfl ?_
  refine gw_aload_n dX1_put_33 rfl rfl ?_
  refine gw_get cl1 1 dX1_put_34 rfl kw_65 (by decide) (by assumption) rfl ?_
  refine gw_alenL dX1_put_37 rfl (by assumption) ?_
  refine gw_icmp_geZ (tgt := 49) dX1_put_38 rfl (by decide) (by omega) (by omega) (fun c_38 => False.elim (by omega)) (fun c_38 => ?_)
  refine gw_aload_n dX1_put_41 rfl rfl ?_
  refine gw_get cl1 1 dX1_put_42 rfl kw_65 (by decide) (by assumption) rfl ?_
  refine gw_iload dX1_put_45 rfl rfl ?_
  refine gw_lload_n dX1_put_47 rfl rfl ?_
  refine gw_lastZ dX1_put_48 rfl (by assumption) (by omega) (by omega) ?_
  exact gw_vret dX1_put_49 rfl (by decide) (by decide) hK
set_option maxRecDepth 100000 in
set_option maxHeartbeats 4000000 in
theorem c_Gcopy {g2 c2 : Nat} {w2 : Int} {F2 : Int → Int} (hg : h g = some (.inr (1, [vI w, .ref c]))) (hc : h c = some (gwLz Φ n F)) (hg2 : h g2 = some (.inr (1, [vI w2, .ref c2]))) (hc2 : h c2 = some (gwLz Φ n F2)) (hn : n ≤ 1000000) (hK : K none (gw_up h c (gwLz Φ n F2))) : gw_Con Φ mX1_copy none [.ref g, .ref g2] h K := by
  refine gw_start okX1_copy (Nat.le_of_ble_eq_true rfl) ?_
  refine gw_aload_n dX1_copy_0 rfl rfl ?_
  refine gw_ifnull dX1_copy_1 rfl ?_
  refine gw_aload_n dX1_copy_4 rfl rfl ?_
  refine gw_get cl1 1 dX1_copy_5 rfl kw_65 (by decide) hg2 rfl ?_
  refine gw_alenL dX1_copy_8 rfl hc2 ?_
  refine gw_aload_n dX1_copy_9 rfl rfl ?_
  refine gw_get cl1 1 dX1_copy_10 rfl kw_65 (by decide) hg rfl ?_
  refine gw_alenL dX1_copy_13 rfl hc ?_
  refine gw_icmp_neZ (tgt := 35) dX1_copy_14 rfl (by decide) (by omega) (by omega) (fun c_14 => False.elim (by omega)) (fun c_14 => ?_)
  refine gw_aload_n dX1_copy_17 rfl rfl ?_
  refine gw_get cl1 1 dX1_copy_18 rfl kw_65 (by decide) hg2 rfl ?_
  refine gw_iconstZ dX1_copy_21 rfl ?_
  refine gw_aload_n dX1_copy_22 rfl rfl ?_
  refine gw_get cl1 1 dX1_copy_23 rfl kw_65 (by decide) hg rfl ?_
  refine gw_iconstZ dX1_copy_26 rfl ?_
  refine gw_aload_n dX1_copy_27 rfl rfl ?_
  refine gw_get cl1 1 dX1_copy_28 rfl kw_65 (by decide) hg rfl ?_
  refine gw_alenL dX1_copy_31 rfl hc ?_
  refine gw_copyZ dX1_copy_32 rfl kw_351 kw_353 kw_352 kw_31 hc2 hc (by omega) (by decide) (Nat.le_of_ble_eq_true rfl) ?_
  exact gw_vret dX1_copy_35 rfl (by decide) (by decide) hK
/-- a row's cell behind 'clear' -/
def clrV (F : Int → Int) (w row b col D q : Int) : Int := (F (row * w + q) * F (b * w + col) - F (row * w + col) * F (b * w + q)).tdiv D
def clr (F : Int → Int) (w row b col D p : Int) : Int → Int := fun j => if row * w ≤ j ∧ j < row * w + p then clrV F w row b col D (j - row * w) else F j
theorem clr_0 {F : Int → Int} {w row b col D : Int} : clr F w row b col D 0 = F := by
  funext j
  unfold clr
  rw [if_neg (by omega)]
theorem clr_s {F : Int → Int} {w row b col D p : Int} (hp : 0 ≤ p) : updZ (clr F w row b col D p) (row * w + p) (clrV F w row b col D p) = clr F w row b col D (p + 1) := by
  funext j
  unfold updZ clr
  by_cases h1 : j = row * w + p
  · rw [if_pos h1, if_pos (by omega), show j - row * w = p by omega]
  · rw [if_neg h1]
    by_cases h2 : row * w ≤ j ∧ j < row * w + p
    · rw [if_pos h2, if_pos (by omega)]
    · rw [if_neg h2, if_neg (by omega)]
theorem clr_n {F : Int → Int} {w row b col D p j : Int} (hj : ¬ (row * w ≤ j ∧ j < row * w + p)) : clr F w row b col D p j = F j := by unfold clr; rw [if_neg hj]
theorem row_ne {w row b p q : Int} (hne : row ≠ b) (hq : 0 ≤ q ∧ q < w) (hp : p ≤ w) : ¬ (row * w ≤ b * w + q ∧ b * w + q < row * w + p) := by
  rcases Int.lt_or_gt_of_ne hne with h | h
  · have h1 : (row + 1) * w ≤ b * w := Int.mul_le_mul_of_nonneg_right (by omega) (by omega)
    rw [Int.add_mul, Int.one_mul] at h1
    omega
  · have h1 : (b + 1) * w ≤ row * w := Int.mul_le_mul_of_nonneg_right (by omega) (by omega)
    rw [Int.add_mul, Int.one_mul] at h1
    omega
set_option maxRecDepth 100000 in
set_option maxHeartbeats 4000000 in
theorem l_clear {row b col last D : Int} (hg : h g = some (.inr (1, [vI w, .ref c]))) (hc : h c = some (gwLz Φ n F)) (hw : w ≤ 1000) (hro : 0 ≤ row ∧ row ≤ 1000) (hb : 0 ≤ b ∧ b ≤ 1000) (hne : row ≠ b) (hco : 0 ≤ col ∧ col < w) (hla : 0 ≤ last ∧ last < w) (hir : row * w + w ≤ n) (hib : b * w + w ≤ n) (hn : n ≤ 1000000) (hD : R64 D) (hD0 : ¬ D = 0) (hR : ∀ q, 0 ≤ q → q ≤ last → R64 (F (row * w + q) * F (b * w + col) - F (row * w + col) * F (b * w + q))) (hK : K none (gw_up h c (gwLz Φ n (clr F w row b col D (last + 1))))) : ∀ (m : Nat) (p : Int), 0 ≤ p → p + m = last + 1 → G Φ mX1_clear (gw_M Φ mX1_clear K) none 0 0 19 [(0, .ref g), (1, vI row), (2, vI b), (4, vI last), (5, vL D), (7, vL (F (b * w + col))), (9, vL (F (row * w + col))), (11, vI p)] [] (gw_up h c (gwLz Φ n (clr F w row b col D p))) := by
  have hgc : g ≠ c := fun z => by rw [z, hc] at hg; cases hg
  have h0 : 0 ≤ row * w := Int.mul_nonneg hro.1 (by omega)
  have h1 : 0 ≤ b * w := Int.mul_nonneg hb.1 (by omega)
  intro m
  induction m with
  | zero =>
    intro p hp hm
    obtain rfl : p = last + 1 := by omega
    refine gw_iload dX1_clear_19 rfl rfl ?_
    refine gw_iload dX1_clear_21 rfl rfl ?_
    refine gw_icmp_gtZ (tgt := 78) dX1_clear_23 rfl (by decide) (by omega) (by omega) (fun c_23 => ?_) (fun c_23 => False.elim (by omega))
    exact gw_vret dX1_clear_78 rfl (by decide) (by decide) hK
  | succ m ih =>
    intro p hp hm
    have hg1 : gw_up h c (gwLz Φ n (clr F w row b col D p)) g = some (.inr (1, [vI w, .ref c])) := by rw [gw_un hgc]; exact hg
    have hc1 : gw_up h c (gwLz Φ n (clr F w row b col D p)) c = some (gwLz Φ n (clr F w row b col D p)) := gw_us
    refine gw_iload dX1_clear_19 rfl rfl ?_
    refine gw_iload dX1_clear_21 rfl rfl ?_
    refine gw_icmp_gtZ (tgt := 78) dX1_clear_23 rfl (by decide) (by omega) (by omega) (fun c_23 => False.elim (by omega)) (fun c_23 => ?_)
    refine gw_aload_n dX1_clear_26 rfl rfl ?_
    refine gw_iload_n dX1_clear_27 rfl rfl ?_
    refine gw_iload dX1_clear_28 rfl rfl ?_
    refine gw_V2 okX1_at dX1_clear_30 kw_593 kw_441 kw_442 (by assumption) rfl ⟨by decide, by decide⟩ ⟨by decide, by decide⟩ (Nat.le_of_ble_eq_true rfl) (c_at (by assumption) (by assumption) (by omega) (by omega) (by omega) (by omega) (by omega) ?_)
    refine gw_lload dX1_clear_33 rfl rfl ?_
    refine gw_lmulZ dX1_clear_35 rfl ?_
    refine gw_lload dX1_clear_36 rfl rfl ?_
    refine gw_aload_n dX1_clear_38 rfl rfl ?_
    refine gw_iload_n dX1_clear_39 rfl rfl ?_
    refine gw_iload dX1_clear_40 rfl rfl ?_
    refine gw_V2 okX1_at dX1_clear_42 kw_593 kw_441 kw_442 (by assumption) rfl ⟨by decide, by decide⟩ ⟨by decide, by decide⟩ (Nat.le_of_ble_eq_true rfl) (c_at (by assumption) (by assumption) (by omega) (by omega) (by omega) (by omega) (by omega) ?_)
    refine gw_lmulZ dX1_clear_45 rfl ?_
    refine gw_lsubZ dX1_clear_46 rfl ?_
    refine gw_lstore dX1_clear_47 rfl (by decide) ?_
    refine gw_aload_n dX1_clear_49 rfl rfl ?_
    refine gw_iload_n dX1_clear_50 rfl rfl ?_
    refine gw_iload dX1_clear_51 rfl rfl ?_
    refine gw_lload dX1_clear_53 rfl rfl ?_
    refine gw_lconst0Z dX1_clear_55 rfl ?_
    refine gw_lc_neZ (tgt := 64) dX1_clear_56 rfl dX1_clear_57 rfl (by decide) (by omega) (by omega) (fun c_56 => ?_) (fun c_56 => False.elim (by omega))
    refine gw_lload dX1_clear_64 rfl rfl ?_
    refine gw_lload dX1_clear_66 rfl rfl ?_
    refine gw_ldivZ dX1_clear_68 rfl hD0 (by rw [clr_n (by omega), clr_n (row_ne hne (by omega) (by omega))]; exact hR p hp (by omega)) hD ?_
    refine gw_V3 okX1_put dX1_clear_69 kw_594 kw_420 kw_421 (by assumption) rfl ⟨by decide, by decide⟩ ⟨by decide, by decide⟩ (Nat.le_of_ble_eq_true rfl) (c_put (by assumption) (by assumption) (by omega) (by omega) (by omega) (by omega) (by omega) ?_)
    refine gw_iincZ dX1_clear_72 rfl rfl (by decide) ?_
    refine gw_goto (tgt := 19) dX1_clear_75 (by decide) ?_
    refine gw_Heq (h' := gw_up h c (gwLz Φ n (clr F w row b col D (p + 1)))) ?_ (gw_L (ih (p + 1) (by omega) (by omega)) ((lvA_c rfl (lvA_c rfl (lvA_c rfl (lvA_c rfl (lvA_c rfl (lvA_c rfl (lvA_c rfl (lvA_c rfl lvA_n))))))))))
    rw [gw_uu, clr_n (by omega), clr_n (row_ne hne (by omega) (by omega))]
    show gw_up h c (gwLz Φ n (updZ _ (row * w + p) (clrV F w row b col D p))) = _
    rw [clr_s hp]
set_option maxRecDepth 100000 in
set_option maxHeartbeats 4000000 in
theorem c_clear {row b col last D : Int} (hg : h g = some (.inr (1, [vI w, .ref c]))) (hc : h c = some (gwLz Φ n F)) (hw : w ≤ 1000) (hro : 0 ≤ row ∧ row ≤ 1000) (hb : 0 ≤ b ∧ b ≤ 1000) (hne : row ≠ b) (hco : 0 ≤ col ∧ col < w) (hla : 0 ≤ last ∧ last < w) (hir : row * w + w ≤ n) (hib : b * w + w ≤ n) (hn : n ≤ 1000000) (hD : R64 D) (hD0 : ¬ D = 0) (hR : ∀ q, 0 ≤ q → q ≤ last → R64 (F (row * w + q) * F (b * w + col) - F (row * w + col) * F (b * w + q))) (hK : K none (gw_up h c (gwLz Φ n (clr F w row b col D (last + 1))))) : gw_Con Φ mX1_clear none [.ref g, vI row, vI b, vI col, vI last, vL D] h K := by
  have h0 : 0 ≤ row * w := Int.mul_nonneg hro.1 (by omega)
  have h1 : 0 ≤ b * w := Int.mul_nonneg hb.1 (by omega)
  refine gw_start okX1_clear (Nat.le_of_ble_eq_true rfl) ?_
  refine gw_aload_n dX1_clear_0 rfl rfl ?_
  refine gw_iload_n dX1_clear_1 rfl rfl ?_
  refine gw_iload_n dX1_clear_2 rfl rfl ?_
  refine gw_V2 okX1_at dX1_clear_3 kw_593 kw_441 kw_442 (by assumption) rfl ⟨by decide, by decide⟩ ⟨by decide, by decide⟩ (Nat.le_of_ble_eq_true rfl) (c_at (by assumption) (by assumption) (by omega) (by omega) (by omega) (by omega) (by omega) ?_)
  refine gw_lstore dX1_clear_6 rfl (by decide) ?_
  refine gw_aload_n dX1_clear_8 rfl rfl ?_
  refine gw_iload_n dX1_clear_9 rfl rfl ?_
  refine gw_iload_n dX1_clear_10 rfl rfl ?_
  refine gw_V2 okX1_at dX1_clear_11 kw_593 kw_441 kw_442 (by assumption) rfl ⟨by decide, by decide⟩ ⟨by decide, by decide⟩ (Nat.le_of_ble_eq_true rfl) (c_at (by assumption) (by assumption) (by omega) (by omega) (by omega) (by omega) (by omega) ?_)
  refine gw_lstore dX1_clear_14 rfl (by decide) ?_
  refine gw_iconstZ dX1_clear_16 rfl ?_
  refine gw_istore dX1_clear_17 rfl (by decide) ?_
  refine gw_Heq (h' := gw_up h c (gwLz Φ n (clr F w row b col D 0))) (by rw [clr_0, gw_id hc]) (gw_L (l_clear hg hc hw hro hb hne hco hla hir hib hn hD hD0 hR hK (last + 1).toNat 0 (by omega) (by omega)) ((lvA_c rfl (lvA_c rfl (lvA_c rfl (lvA_c rfl (lvA_c rfl (lvA_c rfl (lvA_c rfl (lvA_c rfl lvA_n))))))))))
end CG
