section CT2
variable {Φ : gwC} {hb : gwHp} {M : Nat} {sh : Nat → Option gSh} {c : Nat → Int → Int} {K : Option Value → gwHp → Prop}
variable {t g1 a1 g2 a2 t2 h1 b1 h2 b2 p g a n : Nat} {r v j z k w : Int}
def trnZ (T : Int → Int) (row col D i q : Int) : Int := if i = row then T (row * 9 + q) else clrV T 9 i row col D q
set_option maxRecDepth 100000 in
set_option maxHeartbeats 4000000 in
theorem l_turn {E : gwE} (hT : shT sh t g1 a1 g2 a2) (hR : 0 ≤ c t 0 ∧ c t 0 ≤ 4) (hC : 0 ≤ c t 1 ∧ c t 1 ≤ 8) (hr : 0 ≤ r ∧ r < c t 0) (hz : 0 ≤ z ∧ z < c t 1) (hta : t ≠ a2 ∧ t ≠ a1 ∧ a1 ≠ a2) (hD : R64 (c t 2)) (hD0 : ¬ c t 2 = 0) (hX : ∀ i q, 0 ≤ i → i ≤ c t 0 → 0 ≤ q → q ≤ c t 1 → R64 (c a2 (i * 9 + q) * c a2 (r * 9 + z) - c a2 (i * 9 + z) * c a2 (r * 9 + q))) (kk : ∀ c', (∃ F', c' = upc c a2 F' ∧ ∀ i q, 0 ≤ i → i ≤ c t 0 → 0 ≤ q → q ≤ c t 1 → F' (i * 9 + q) = if i < (c t 0 + 1) ∧ i ≠ r then clrV (c a2) 9 i r z (c t 2) q else c a2 (i * 9 + q)) → G Φ mX6_turn E none 0 0 57 [(0, .ref (M + t)), (1, vI r), (2, vI z), (3, vL v), (5, vI (c t 0 + 1))] [] (hp Φ hb M sh c')) : ∀ (m : Nat) (j : Int) (c' : Nat → Int → Int), 0 ≤ j → j + m = c t 0 + 1 → (∃ F', c' = upc c a2 F' ∧ ∀ i q, 0 ≤ i → i ≤ c t 0 → 0 ≤ q → q ≤ c t 1 → F' (i * 9 + q) = if i < j ∧ i ≠ r then clrV (c a2) 9 i r z (c t 2) q else c a2 (i * 9 + q)) → G Φ mX6_turn E none 0 0 17 [(0, .ref (M + t)), (1, vI r), (2, vI z), (3, vL v), (5, vI j)] [] (hp Φ hb M sh c') := by
  intro m
  induction m with
  | zero =>
    intro j c' h0 hm hI
    obtain rfl : j = c t 0 + 1 := by omega
    obtain ⟨F', rfl, hF⟩ := hI
    refine gw_iload dX6_turn_17 rfl rfl ?_
    refine gw_aload_n dX6_turn_19 rfl rfl ?_
    refine gs_getI cl6 0 0 dX6_turn_20 rfl kw_188 (by decide) (hT).1 rfl rfl ?_
    refine gw_icmp_gtZ (tgt := 57) dX6_turn_23 rfl (by decide) (by omega) (by rw [upc_n hta.1]; omega) (fun c_23 => ?_) (fun c_23 => False.elim (by rw [upc_n hta.1] at c_23; omega))
    exact gw_L (kk _ ⟨_, rfl, hF⟩) ((lvA_c rfl (lvA_c rfl (lvA_c rfl (lvA_c rfl (lvA_c rfl lvA_n))))))
  | succ m ih =>
    intro j c' h0 hm hI
    obtain ⟨F', rfl, hF⟩ := hI
    refine gw_iload dX6_turn_17 rfl rfl ?_
    refine gw_aload_n dX6_turn_19 rfl rfl ?_
    refine gs_getI cl6 0 0 dX6_turn_20 rfl kw_188 (by decide) (hT).1 rfl rfl ?_
    refine gw_icmp_gtZ (tgt := 57) dX6_turn_23 rfl (by decide) (by omega) (by rw [upc_n hta.1]; omega) (fun c_23 => False.elim (by rw [upc_n hta.1] at c_23; omega)) (fun c_23 => ?_)
    refine gw_iload dX6_turn_26 rfl rfl ?_
    refine gw_iload_n dX6_turn_28 rfl rfl ?_
    refine gw_icmp_eqZ (tgt := 51) dX6_turn_29 rfl (by decide) (by omega) (by omega) (fun c_29 => ?_) (fun c_29 => ?_)
    · refine gw_iincZ dX6_turn_51 rfl rfl (by decide) ?_
      refine gw_goto (tgt := 17) dX6_turn_54 (by decide) ?_
      first
      | exact gw_L (ih (j + 1) _ (by omega) (by omega) ⟨F', rfl, fun i q hi0 hi hq0 hq => by
          rw [hF i q hi0 hi hq0 hq]
          by_cases e : i = j
          · rw [if_neg (by omega), if_neg (by omega)]
          · by_cases e2 : i < j ∧ i ≠ r
            · rw [if_pos e2, if_pos (by omega)]
            · rw [if_neg e2, if_neg (by omega)]⟩) ((lvA_c rfl (lvA_c rfl (lvA_c rfl (lvA_c rfl (lvA_c rfl lvA_n))))))
      | (rw [upc_u, upc_s, upc_n hta.1]
         exact gw_L (ih (j + 1) _ (by omega) (by omega) ⟨_, rfl, fun i q hi0 hi hq0 hq => by
          by_cases e : i = j
          · rw [if_pos (by omega)]
            subst e
            unfold clr
            rw [if_pos (by omega), show i * 9 + q - i * 9 = q by omega]
            unfold clrV
            rw [hF i q h0 (by omega) hq0 hq, hF i z h0 (by omega) hz.1 (by omega), hF r q hr.1 (by omega) hq0 hq, hF r z hr.1 (by omega) hz.1 (by omega), if_neg (by omega), if_neg (by omega), if_neg (by omega), if_neg (by omega)]
          · rw [clr_n (by omega), hF i q hi0 hi hq0 hq]
            by_cases e2 : i < j ∧ i ≠ r
            · rw [if_pos e2, if_pos (by omega)]
            · rw [if_neg e2, if_neg (by omega)]⟩) ((lvA_c rfl (lvA_c rfl (lvA_c rfl (lvA_c rfl (lvA_c rfl lvA_n)))))))
    · refine gw_aload_n dX6_turn_32 rfl rfl ?_
      refine gs_getR cl6 4 dX6_turn_33 rfl kw_195 (by decide) (hT).1 rfl ?_
      refine gw_iload dX6_turn_36 rfl rfl ?_
      refine gw_iload_n dX6_turn_38 rfl rfl ?_
      refine gw_iload_n dX6_turn_39 rfl rfl ?_
      refine gw_aload_n dX6_turn_40 rfl rfl ?_
      refine gs_getI cl6 1 1 dX6_turn_41 rfl kw_190 (by decide) (hT).1 rfl rfl ?_
      refine gw_aload_n dX6_turn_44 rfl rfl ?_
      refine gs_getL cl6 2 2 dX6_turn_45 rfl kw_192 (by decide) (hT).1 rfl rfl ?_
      refine gw_V5 okX1_clear dX6_turn_48 kw_485 kw_486 kw_487 (hp_o (hT.2.2).1) rfl ⟨by decide, by decide⟩ ⟨by decide, by decide⟩ (Nat.le_of_ble_eq_true rfl) (k_clear hT.2.2 (by omega) (by omega) (by omega) (by omega) (by omega) (by rw [upc_n hta.1]; omega) (by omega) (by omega) (by omega) (by rw [upc_n hta.1]; exact hD) (by rw [upc_n hta.1]; exact hD0) (fun q hq0 hq => by
  rw [upc_n hta.1] at hq
  rw [upc_s, hF j q h0 (by omega) hq0 hq, hF j z h0 (by omega) hz.1 (by omega), hF r q hr.1 (by omega) hq0 hq, hF r z hr.1 (by omega) hz.1 (by omega), if_neg (by omega), if_neg (by omega), if_neg (by omega), if_neg (by omega)]
  exact hX j q h0 (by omega) hq0 hq) ?_)
      refine gw_iincZ dX6_turn_51 rfl rfl (by decide) ?_
      refine gw_goto (tgt := 17) dX6_turn_54 (by decide) ?_
      first
      | exact gw_L (ih (j + 1) _ (by omega) (by omega) ⟨F', rfl, fun i q hi0 hi hq0 hq => by
          rw [hF i q hi0 hi hq0 hq]
          by_cases e : i = j
          · rw [if_neg (by omega), if_neg (by omega)]
          · by_cases e2 : i < j ∧ i ≠ r
            · rw [if_pos e2, if_pos (by omega)]
            · rw [if_neg e2, if_neg (by omega)]⟩) ((lvA_c rfl (lvA_c rfl (lvA_c rfl (lvA_c rfl (lvA_c rfl lvA_n))))))
      | (rw [upc_u, upc_s, upc_n hta.1]
         exact gw_L (ih (j + 1) _ (by omega) (by omega) ⟨_, rfl, fun i q hi0 hi hq0 hq => by
          by_cases e : i = j
          · rw [if_pos (by omega)]
            subst e
            unfold clr
            rw [if_pos (by omega), show i * 9 + q - i * 9 = q by omega]
            unfold clrV
            rw [hF i q h0 (by omega) hq0 hq, hF i z h0 (by omega) hz.1 (by omega), hF r q hr.1 (by omega) hq0 hq, hF r z hr.1 (by omega) hz.1 (by omega), if_neg (by omega), if_neg (by omega), if_neg (by omega), if_neg (by omega)]
          · rw [clr_n (by omega), hF i q hi0 hi hq0 hq]
            by_cases e2 : i < j ∧ i ≠ r
            · rw [if_pos e2, if_pos (by omega)]
            · rw [if_neg e2, if_neg (by omega)]⟩) ((lvA_c rfl (lvA_c rfl (lvA_c rfl (lvA_c rfl (lvA_c rfl lvA_n)))))))
set_option maxRecDepth 100000 in
set_option maxHeartbeats 4000000 in
theorem k_turn (hT : shT sh t g1 a1 g2 a2) (hR : 0 ≤ c t 0 ∧ c t 0 ≤ 4) (hC : 0 ≤ c t 1 ∧ c t 1 ≤ 8) (hr : 0 ≤ r ∧ r < c t 0) (hz : 0 ≤ z ∧ z < c t 1) (hta : t ≠ a2 ∧ t ≠ a1 ∧ a1 ≠ a2) (hD : R64 (c t 2)) (hD0 : ¬ c t 2 = 0) (hX : ∀ i q, 0 ≤ i → i ≤ c t 0 → 0 ≤ q → q ≤ c t 1 → R64 (c a2 (i * 9 + q) * c a2 (r * 9 + z) - c a2 (i * 9 + z) * c a2 (r * 9 + q))) (hp0 : 0 < c a2 (r * 9 + z)) (hp1 : R64 (c a2 (r * 9 + z))) (hK : (∀ F', (∀ i q, 0 ≤ i → i ≤ c t 0 → 0 ≤ q → q ≤ c t 1 → F' (i * 9 + q) = trnZ (c a2) r z (c t 2) i q) → K none (hp Φ hb M sh (upc (upc (upc c a2 F') a1 (updZ (c a1) r z)) t (updZ (c t) 2 (c a2 (r * 9 + z))))))) : gw_Con Φ mX6_turn none [.ref (M + t), vI r, vI z] (hp Φ hb M sh c) K := by
  refine gw_start okX6_turn (Nat.le_of_ble_eq_true rfl) ?_
  refine gw_aload_n dX6_turn_0 rfl rfl ?_
  refine gw_iload_n dX6_turn_1 rfl rfl ?_
  refine gw_iload_n dX6_turn_2 rfl rfl ?_
  refine gw_V2 okX6_entry dX6_turn_3 kw_471 kw_472 kw_473 (hp_o (hT).1) rfl ⟨by decide, by decide⟩ ⟨by decide, by decide⟩ (Nat.le_of_ble_eq_true rfl) (k_entry hT (by omega) (by omega) ?_)
  refine gw_lstore_n dX6_turn_6 rfl (by decide) ?_
  refine gw_lload_n dX6_turn_7 rfl rfl ?_
  refine gw_lconst0Z dX6_turn_8 rfl ?_
  refine gw_lc_gtZ (tgt := 14) dX6_turn_9 rfl dX6_turn_10 rfl (by decide) (by omega) (by omega) (fun c_9 => ?_) (fun c_9 => False.elim (by omega))
  refine gw_iconstZ dX6_turn_14 rfl ?_
  refine gw_istore dX6_turn_15 rfl (by decide) ?_
  refine gw_L (l_turn (c := c) (v := c a2 (r * 9 + z)) hT hR hC hr hz hta hD hD0 hX (fun c' hI => ?_) (c t 0 + 1).toNat 0 _ (by omega) (by omega) ⟨c a2, upc_i.symm, fun i q hi0 hi hq0 hq => by rw [if_neg (by omega)]⟩) ((lvA_c rfl (lvA_c rfl (lvA_c rfl (lvA_c rfl (lvA_c rfl lvA_n))))))
  obtain ⟨F', rfl, hF⟩ := hI
  refine gw_aload_n dX6_turn_57 rfl rfl ?_
  refine gs_getR cl6 3 dX6_turn_58 rfl kw_194 (by decide) (hT).1 rfl ?_
  refine gw_iconstZ dX6_turn_61 rfl ?_
  refine gw_iload_n dX6_turn_62 rfl rfl ?_
  refine gw_iload_n dX6_turn_63 rfl rfl ?_
  refine gw_i2lZ dX6_turn_64 rfl (by omega) ?_
  refine gw_V3 okX1_put dX6_turn_65 kw_402 kw_403 kw_404 (hp_o (hT.2.1).1) rfl ⟨by decide, by decide⟩ ⟨by decide, by decide⟩ (Nat.le_of_ble_eq_true rfl) (k_put0 hT.2.1 (by omega) (by omega) (by omega) (by omega) ?_)
  refine gw_aload_n dX6_turn_68 rfl rfl ?_
  refine gw_lload_n dX6_turn_69 rfl rfl ?_
  refine gs_putL cl6 2 2 dX6_turn_70 rfl kw_192 (by decide) rfl rfl (hT).1 rfl rfl ?_
  exact gw_vret dX6_turn_73 rfl (by decide) (by decide) (by
        have h9 := hK F' (fun i q hi0 hi hq0 hq => by
          rw [hF i q hi0 hi hq0 hq]
          unfold trnZ
          by_cases e : i = r
          · rw [if_neg (by omega), if_pos e, e]
          · rw [if_pos ⟨by omega, e⟩, if_neg e])
        rw [upc_n hta.2.1, upc_n hta.1, upc_n hta.2.2]
        exact h9)
set_option maxRecDepth 100000 in
set_option maxHeartbeats 4000000 in
theorem k_Tcopy (hT : shT sh t g1 a1 g2 a2) (hT2 : shT sh t2 h1 b1 h2 b2) (hne : t ≠ a1 ∧ t ≠ a2 ∧ a1 ≠ a2 ∧ t2 ≠ t ∧ b1 ≠ t ∧ b2 ≠ t ∧ b1 ≠ a1 ∧ b2 ≠ a1 ∧ b2 ≠ a2) (hK : K none (hp Φ hb M sh (upc (upc (upc c t (updZ (updZ (updZ (c t) 0 (c t2 0)) 1 (c t2 1)) 2 (c t2 2))) a1 (c b1)) a2 (c b2)))) : gw_Con Φ mX6_copy none [.ref (M + t), .ref (M + t2)] (hp Φ hb M sh c) K := by
  refine gw_start okX6_copy (Nat.le_of_ble_eq_true rfl) ?_
  refine gw_aload_n dX6_copy_0 rfl rfl ?_
  refine gw_ifnull dX6_copy_1 rfl ?_
  refine gw_aload_n dX6_copy_4 rfl rfl ?_
  refine gw_aload_n dX6_copy_5 rfl rfl ?_
  refine gs_getI cl6 0 0 dX6_copy_6 rfl kw_188 (by decide) (hT2).1 rfl rfl ?_
  refine gs_putI cl6 0 0 dX6_copy_9 rfl kw_188 (by decide) rfl rfl (hT).1 rfl rfl ?_
  refine gw_aload_n dX6_copy_12 rfl rfl ?_
  refine gw_aload_n dX6_copy_13 rfl rfl ?_
  refine gs_getI cl6 1 1 dX6_copy_14 rfl kw_190 (by decide) (hT2).1 rfl rfl ?_
  refine gs_putI cl6 1 1 dX6_copy_17 rfl kw_190 (by decide) rfl rfl (hT).1 rfl rfl ?_
  refine gw_aload_n dX6_copy_20 rfl rfl ?_
  refine gw_aload_n dX6_copy_21 rfl rfl ?_
  refine gs_getL cl6 2 2 dX6_copy_22 rfl kw_192 (by decide) (hT2).1 rfl rfl ?_
  refine gs_putL cl6 2 2 dX6_copy_25 rfl kw_192 (by decide) rfl rfl (hT).1 rfl rfl ?_
  refine gw_aload_n dX6_copy_28 rfl rfl ?_
  refine gs_getR cl6 3 dX6_copy_29 rfl kw_194 (by decide) (hT).1 rfl ?_
  refine gw_aload_n dX6_copy_32 rfl rfl ?_
  refine gs_getR cl6 3 dX6_copy_33 rfl kw_194 (by decide) (hT2).1 rfl ?_
  refine gw_V1 okX1_copy dX6_copy_36 kw_393 kw_383 kw_384 (hp_o (hT.2.1).1) rfl ⟨by decide, by decide⟩ ⟨by decide, by decide⟩ (Nat.le_of_ble_eq_true rfl) (k_Gcopy hT.2.1 hT2.2.1 (by omega) ?_)
  refine gw_aload_n dX6_copy_39 rfl rfl ?_
  refine gs_getR cl6 4 dX6_copy_40 rfl kw_195 (by decide) (hT).1 rfl ?_
  refine gw_aload_n dX6_copy_43 rfl rfl ?_
  refine gs_getR cl6 4 dX6_copy_44 rfl kw_195 (by decide) (hT2).1 rfl ?_
  refine gw_V1 okX1_copy dX6_copy_47 kw_393 kw_383 kw_384 (hp_o (hT.2.2).1) rfl ⟨by decide, by decide⟩ ⟨by decide, by decide⟩ (Nat.le_of_ble_eq_true rfl) (k_Gcopy hT.2.2 hT2.2.2 (by omega) ?_)
  exact gw_vret dX6_copy_50 rfl (by decide) (by decide) (by obtain ⟨e1, e2, e3, e4, e5, e6, e7, e8, e9⟩ := hne; simp only [upc_u, upc_s, upc_n e4, upc_n e5, upc_n e6, upc_n e7, upc_n e8, upc_n e9]; exact hK)
theorem ffZ_r {n r j : Int} {F : Int → Int} (hF : ∀ i, 0 ≤ i → i < 25 → R32 (F i)) (hr : 0 ≤ r ∧ r < 4) (hj : 0 ≤ j) (hn : n ≤ 4) : R32 (ffZ n F r j) := by
  unfold ffZ
  split
  · exact hF _ (by omega) (by omega)
  · split <;> omega
theorem cpZ_r {n j : Int} {F : Int → Int} (hF : ∀ i, 0 ≤ i → i < 25 → R32 (F i)) (hj : 0 ≤ j) (hn : n ≤ 4) : R32 (cpZ n F j) := by
  unfold cpZ
  split
  · exact hF _ (by omega) (by omega)
  · omega
set_option maxRecDepth 100000 in
set_option maxHeartbeats 4000000 in
theorem l_start2 {E : gwE} {N9 F9 : Int → Int} (hT : shT sh t g1 a1 g2 a2) (hP : shP sh p g a) (hne : p ≠ t ∧ p ≠ a1 ∧ p ≠ a2 ∧ a ≠ t ∧ a ≠ a1 ∧ a ≠ a2 ∧ t ≠ a1 ∧ t ≠ a2 ∧ a1 ≠ a2) (hn : 0 ≤ c p 0 ∧ c p 0 ≤ 4) (hm : 0 ≤ c p 1 ∧ c p 1 ≤ 4) (hPr : ∀ i, 0 ≤ i → i < 25 → R32 (c a i)) (hr : 0 ≤ r ∧ r < c p 1) (kk : ∀ c', (∃ F', c' = upc (upc (upc c t (updZ (updZ (updZ (c t) 0 (c p 1)) 1 (c p 0 + c p 1)) 2 1)) a1 N9) a2 F' ∧ ∀ i q, 0 ≤ i → i < 5 → 0 ≤ q → q ≤ 8 → F' (i * 9 + q) = if i = r ∧ q < (c p 0 + c p 1) then ffZ (c p 0) (c a) r q else F9 (i * 9 + q)) → G Φ mX6_start E none 0 0 89 [(0, .ref (M + t)), (1, .ref (M + p)), (2, vI r), (3, vI (c p 0 + c p 1))] [] (hp Φ hb M sh c')) : ∀ (m : Nat) (j : Int) (c' : Nat → Int → Int), 0 ≤ j → j + m = c p 0 + c p 1 → (∃ F', c' = upc (upc (upc c t (updZ (updZ (updZ (c t) 0 (c p 1)) 1 (c p 0 + c p 1)) 2 1)) a1 N9) a2 F' ∧ ∀ i q, 0 ≤ i → i < 5 → 0 ≤ q → q ≤ 8 → F' (i * 9 + q) = if i = r ∧ q < j then ffZ (c p 0) (c a) r q else F9 (i * 9 + q)) → G Φ mX6_start E none 0 0 59 [(0, .ref (M + t)), (1, .ref (M + p)), (2, vI r), (3, vI j)] [] (hp Φ hb M sh c') := by
  intro m
  induction m with
  | zero =>
    intro j c' h0 hm hI
    obtain rfl : j = c p 0 + c p 1 := by omega
    obtain ⟨F', rfl, hF⟩ := hI
    refine gw_iload_n dX6_start_59 rfl rfl ?_
    refine gw_aload_n dX6_start_60 rfl rfl ?_
    refine gs_getI cl6 1 1 dX6_start_61 rfl kw_190 (by decide) (hT).1 rfl rfl ?_
    refine gw_icmp_geZ (tgt := 89) dX6_start_64 rfl (by decide) (by omega) (by first | omega | (simp only [upc_s, upc_n hne.1, upc_n hne.2.1, upc_n hne.2.2.1, upc_n hne.2.2.2.1, upc_n hne.2.2.2.2.1, upc_n hne.2.2.2.2.2.1, upc_n hne.2.2.2.2.2.2.1, upc_n hne.2.2.2.2.2.2.2.1, upc_n hne.2.2.2.2.2.2.2.2, upc_n hne.2.2.2.2.2.2.2.2.symm, updZ_s, updZ_n (show (0 : Int) ≠ 1 by decide), updZ_n (show (0 : Int) ≠ 2 by decide), updZ_n (show (1 : Int) ≠ 2 by decide)]; omega)) (fun c_64 => ?_) (fun c_64 => False.elim (by simp only [upc_s, upc_n hne.1, upc_n hne.2.1, upc_n hne.2.2.1, upc_n hne.2.2.2.1, upc_n hne.2.2.2.2.1, upc_n hne.2.2.2.2.2.1, upc_n hne.2.2.2.2.2.2.1, upc_n hne.2.2.2.2.2.2.2.1, upc_n hne.2.2.2.2.2.2.2.2, upc_n hne.2.2.2.2.2.2.2.2.symm, updZ_s, updZ_n (show (0 : Int) ≠ 1 by decide), updZ_n (show (0 : Int) ≠ 2 by decide), updZ_n (show (1 : Int) ≠ 2 by decide)] at c_64; omega))
    exact gw_L (kk _ ⟨_, rfl, hF⟩) ((lvA_c rfl (lvA_c rfl (lvA_c rfl (lvA_c rfl lvA_n)))))
  | succ m ih =>
    intro j c' h0 hm hI
    obtain ⟨F', rfl, hF⟩ := hI
    refine gw_iload_n dX6_start_59 rfl rfl ?_
    refine gw_aload_n dX6_start_60 rfl rfl ?_
    refine gs_getI cl6 1 1 dX6_start_61 rfl kw_190 (by decide) (hT).1 rfl rfl ?_
    refine gw_icmp_geZ (tgt := 89) dX6_start_64 rfl (by decide) (by omega) (by first | omega | (simp only [upc_s, upc_n hne.1, upc_n hne.2.1, upc_n hne.2.2.1, upc_n hne.2.2.2.1, upc_n hne.2.2.2.2.1, upc_n hne.2.2.2.2.2.1, upc_n hne.2.2.2.2.2.2.1, upc_n hne.2.2.2.2.2.2.2.1, upc_n hne.2.2.2.2.2.2.2.2, upc_n hne.2.2.2.2.2.2.2.2.symm, updZ_s, updZ_n (show (0 : Int) ≠ 1 by decide), updZ_n (show (0 : Int) ≠ 2 by decide), updZ_n (show (1 : Int) ≠ 2 by decide)]; omega)) (fun c_64 => False.elim (by simp only [upc_s, upc_n hne.1, upc_n hne.2.1, upc_n hne.2.2.1, upc_n hne.2.2.2.1, upc_n hne.2.2.2.2.1, upc_n hne.2.2.2.2.2.1, upc_n hne.2.2.2.2.2.2.1, upc_n hne.2.2.2.2.2.2.2.1, upc_n hne.2.2.2.2.2.2.2.2, upc_n hne.2.2.2.2.2.2.2.2.symm, updZ_s, updZ_n (show (0 : Int) ≠ 1 by decide), updZ_n (show (0 : Int) ≠ 2 by decide), updZ_n (show (1 : Int) ≠ 2 by decide)] at c_64; omega)) (fun c_64 => ?_)
    refine gw_aload_n dX6_start_67 rfl rfl ?_
    refine gs_getR cl6 4 dX6_start_68 rfl kw_195 (by decide) (hT).1 rfl ?_
    refine gw_iload_n dX6_start_71 rfl rfl ?_
    refine gw_iload_n dX6_start_72 rfl rfl ?_
    refine gw_aload_n dX6_start_73 rfl rfl ?_
    refine gw_iload_n dX6_start_74 rfl rfl ?_
    refine gw_iload_n dX6_start_75 rfl rfl ?_
    refine gw_V2 okX2_firstFactor dX6_start_76 kw_406 kw_407 kw_408 (hp_o (hP).1) rfl ⟨by decide, by decide⟩ ⟨by decide, by decide⟩ (Nat.le_of_ble_eq_true rfl) (k_firstFactor hP (by omega) (by first | omega | (simp only [upc_s, upc_n hne.1, upc_n hne.2.1, upc_n hne.2.2.1, upc_n hne.2.2.2.1, upc_n hne.2.2.2.2.1, upc_n hne.2.2.2.2.2.1, upc_n hne.2.2.2.2.2.2.1, upc_n hne.2.2.2.2.2.2.2.1, upc_n hne.2.2.2.2.2.2.2.2, upc_n hne.2.2.2.2.2.2.2.2.symm, updZ_s, updZ_n (show (0 : Int) ≠ 1 by decide), updZ_n (show (0 : Int) ≠ 2 by decide), updZ_n (show (1 : Int) ≠ 2 by decide)]; omega)) (by omega) ?_)
    refine gw_i2lZ dX6_start_79 rfl (by simp only [upc_s, upc_n hne.1, upc_n hne.2.1, upc_n hne.2.2.1, upc_n hne.2.2.2.1, upc_n hne.2.2.2.2.1, upc_n hne.2.2.2.2.2.1, upc_n hne.2.2.2.2.2.2.1, upc_n hne.2.2.2.2.2.2.2.1, upc_n hne.2.2.2.2.2.2.2.2, upc_n hne.2.2.2.2.2.2.2.2.symm, updZ_s, updZ_n (show (0 : Int) ≠ 1 by decide), updZ_n (show (0 : Int) ≠ 2 by decide), updZ_n (show (1 : Int) ≠ 2 by decide)]; exact ffZ_r hPr ⟨by omega, by omega⟩ (by omega) hn.2) ?_
    refine gw_V3 okX1_put dX6_start_80 kw_402 kw_403 kw_404 (hp_o (hT.2.2).1) rfl ⟨by decide, by decide⟩ ⟨by decide, by decide⟩ (Nat.le_of_ble_eq_true rfl) (k_put hT.2.2 (by omega) (by omega) (by omega) (by omega) (by omega) ?_)
    refine gw_iincZ dX6_start_83 rfl rfl (by decide) ?_
    refine gw_goto (tgt := 59) dX6_start_86 (by decide) ?_
    simp only [upc_s, upc_n hne.1, upc_n hne.2.1, upc_n hne.2.2.1, upc_n hne.2.2.2.1, upc_n hne.2.2.2.2.1, upc_n hne.2.2.2.2.2.1, upc_n hne.2.2.2.2.2.2.1, upc_n hne.2.2.2.2.2.2.2.1, upc_n hne.2.2.2.2.2.2.2.2, upc_n hne.2.2.2.2.2.2.2.2.symm, updZ_s, updZ_n (show (0 : Int) ≠ 1 by decide), updZ_n (show (0 : Int) ≠ 2 by decide), updZ_n (show (1 : Int) ≠ 2 by decide)]
    rw [upc_u]
    exact gw_L (ih (j + 1) _ (by omega) (by omega) ⟨_, rfl, fun i q hi0 hi hq0 hq => by
      by_cases e : i = r ∧ q = j
      · rw [e.1, e.2, updZ_s, if_pos (by omega)]
      · rw [updZ_n (by omega), hF i q hi0 hi hq0 hq]
        by_cases e2 : i = r ∧ q < j
        · rw [if_pos e2, if_pos (by omega)]
        · rw [if_neg e2, if_neg (by omega)]⟩) ((lvA_c rfl (lvA_c rfl (lvA_c rfl (lvA_c rfl lvA_n)))))
set_option maxRecDepth 100000 in
set_option maxHeartbeats 4000000 in
theorem l_start1 {E : gwE} (hT : shT sh t g1 a1 g2 a2) (hP : shP sh p g a) (hne : p ≠ t ∧ p ≠ a1 ∧ p ≠ a2 ∧ a ≠ t ∧ a ≠ a1 ∧ a ≠ a2 ∧ t ≠ a1 ∧ t ≠ a2 ∧ a1 ≠ a2) (hn : 0 ≤ c p 0 ∧ c p 0 ≤ 4) (hm : 0 ≤ c p 1 ∧ c p 1 ≤ 4) (hPr : ∀ i, 0 ≤ i → i < 25 → R32 (c a i)) (kk : ∀ c', (∃ N' F', c' = upc (upc (upc c t (updZ (updZ (updZ (c t) 0 (c p 1)) 1 (c p 0 + c p 1)) 2 1)) a1 N') a2 F' ∧ (∀ i, 0 ≤ i → i < (c p 1) → N' i = c p 0 + i) ∧ ∀ i q, 0 ≤ i → i < (c p 1) → 0 ≤ q → q ≤ c p 0 + c p 1 → F' (i * 9 + q) = if q < c p 0 + c p 1 then ffZ (c p 0) (c a) i q else c a (i * 5 + 4)) → G Φ mX6_start E none 0 0 113 [(0, .ref (M + t)), (1, .ref (M + p)), (2, vI (c p 1))] [] (hp Φ hb M sh c')) : ∀ (m : Nat) (r : Int) (c' : Nat → Int → Int), 0 ≤ r → r + m = c p 1 → (∃ N' F', c' = upc (upc (upc c t (updZ (updZ (updZ (c t) 0 (c p 1)) 1 (c p 0 + c p 1)) 2 1)) a1 N') a2 F' ∧ (∀ i, 0 ≤ i → i < r → N' i = c p 0 + i) ∧ ∀ i q, 0 ≤ i → i < r → 0 ≤ q → q ≤ c p 0 + c p 1 → F' (i * 9 + q) = if q < c p 0 + c p 1 then ffZ (c p 0) (c a) i q else c a (i * 5 + 4)) → G Φ mX6_start E none 0 0 33 [(0, .ref (M + t)), (1, .ref (M + p)), (2, vI r)] [] (hp Φ hb M sh c') := by
  intro m
  induction m with
  | zero =>
    intro r c' h0 hm hI
    obtain rfl : r = c p 1 := by omega
    obtain ⟨N', F', rfl, hN, hF⟩ := hI
    refine gw_iload_n dX6_start_33 rfl rfl ?_
    refine gw_aload_n dX6_start_34 rfl rfl ?_
    refine gs_getI cl6 0 0 dX6_start_35 rfl kw_188 (by decide) (hT).1 rfl rfl ?_
    refine gw_icmp_geZ (tgt := 113) dX6_start_38 rfl (by decide) (by omega) (by first | omega | (simp only [upc_s, upc_n hne.1, upc_n hne.2.1, upc_n hne.2.2.1, upc_n hne.2.2.2.1, upc_n hne.2.2.2.2.1, upc_n hne.2.2.2.2.2.1, upc_n hne.2.2.2.2.2.2.1, upc_n hne.2.2.2.2.2.2.2.1, upc_n hne.2.2.2.2.2.2.2.2, upc_n hne.2.2.2.2.2.2.2.2.symm, updZ_s, updZ_n (show (0 : Int) ≠ 1 by decide), updZ_n (show (0 : Int) ≠ 2 by decide), updZ_n (show (1 : Int) ≠ 2 by decide)]; omega)) (fun c_38 => ?_) (fun c_38 => False.elim (by simp only [upc_s, upc_n hne.1, upc_n hne.2.1, upc_n hne.2.2.1, upc_n hne.2.2.2.1, upc_n hne.2.2.2.2.1, upc_n hne.2.2.2.2.2.1, upc_n hne.2.2.2.2.2.2.1, upc_n hne.2.2.2.2.2.2.2.1, upc_n hne.2.2.2.2.2.2.2.2, upc_n hne.2.2.2.2.2.2.2.2.symm, updZ_s, updZ_n (show (0 : Int) ≠ 1 by decide), updZ_n (show (0 : Int) ≠ 2 by decide), updZ_n (show (1 : Int) ≠ 2 by decide)] at c_38; omega))
    exact gw_L (kk _ ⟨_, _, rfl, hN, hF⟩) ((lvA_c rfl (lvA_c rfl (lvA_c rfl lvA_n))))
  | succ m ih =>
    intro r c' h0 hm hI
    obtain ⟨N', F', rfl, hN, hF⟩ := hI
    refine gw_iload_n dX6_start_33 rfl rfl ?_
    refine gw_aload_n dX6_start_34 rfl rfl ?_
    refine gs_getI cl6 0 0 dX6_start_35 rfl kw_188 (by decide) (hT).1 rfl rfl ?_
    refine gw_icmp_geZ (tgt := 113) dX6_start_38 rfl (by decide) (by omega) (by first | omega | (simp only [upc_s, upc_n hne.1, upc_n hne.2.1, upc_n hne.2.2.1, upc_n hne.2.2.2.1, upc_n hne.2.2.2.2.1, upc_n hne.2.2.2.2.2.1, upc_n hne.2.2.2.2.2.2.1, upc_n hne.2.2.2.2.2.2.2.1, upc_n hne.2.2.2.2.2.2.2.2, upc_n hne.2.2.2.2.2.2.2.2.symm, updZ_s, updZ_n (show (0 : Int) ≠ 1 by decide), updZ_n (show (0 : Int) ≠ 2 by decide), updZ_n (show (1 : Int) ≠ 2 by decide)]; omega)) (fun c_38 => False.elim (by simp only [upc_s, upc_n hne.1, upc_n hne.2.1, upc_n hne.2.2.1, upc_n hne.2.2.2.1, upc_n hne.2.2.2.2.1, upc_n hne.2.2.2.2.2.1, upc_n hne.2.2.2.2.2.2.1, upc_n hne.2.2.2.2.2.2.2.1, upc_n hne.2.2.2.2.2.2.2.2, upc_n hne.2.2.2.2.2.2.2.2.symm, updZ_s, updZ_n (show (0 : Int) ≠ 1 by decide), updZ_n (show (0 : Int) ≠ 2 by decide), updZ_n (show (1 : Int) ≠ 2 by decide)] at c_38; omega)) (fun c_38 => ?_)
    refine gw_aload_n dX6_start_41 rfl rfl ?_
    refine gs_getR cl6 3 dX6_start_42 rfl kw_194 (by decide) (hT).1 rfl ?_
    refine gw_iconstZ dX6_start_45 rfl ?_
    refine gw_iload_n dX6_start_46 rfl rfl ?_
    refine gw_aload_n dX6_start_47 rfl rfl ?_
    refine gs_getIN cl2 0 0 dX6_start_48 rfl kw_157 (by decide) (hP).1 rfl rfl ?_
    refine gw_iload_n dX6_start_51 rfl rfl ?_
    refine gw_iaddZ dX6_start_52 rfl ?_
    refine gw_i2lZ dX6_start_53 rfl (by first | omega | (simp only [upc_s, upc_n hne.1, upc_n hne.2.1, upc_n hne.2.2.1, upc_n hne.2.2.2.1, upc_n hne.2.2.2.2.1, upc_n hne.2.2.2.2.2.1, upc_n hne.2.2.2.2.2.2.1, upc_n hne.2.2.2.2.2.2.2.1, upc_n hne.2.2.2.2.2.2.2.2, upc_n hne.2.2.2.2.2.2.2.2.symm, updZ_s, updZ_n (show (0 : Int) ≠ 1 by decide), updZ_n (show (0 : Int) ≠ 2 by decide), updZ_n (show (1 : Int) ≠ 2 by decide)]; omega)) ?_
    refine gw_V3 okX1_put dX6_start_54 kw_402 kw_403 kw_404 (hp_o (hT.2.1).1) rfl ⟨by decide, by decide⟩ ⟨by decide, by decide⟩ (Nat.le_of_ble_eq_true rfl) (k_put0 hT.2.1 (by omega) (by omega) (by omega) (by omega) ?_)
    refine gw_iconstZ dX6_start_57 rfl ?_
    refine gw_istore_n dX6_start_58 rfl (by decide) ?_
    simp only [upc_s, upc_n hne.1, upc_n hne.2.1, upc_n hne.2.2.1, upc_n hne.2.2.2.2.2.2.2.2, updZ_s, updZ_n (show (0 : Int) ≠ 1 by decide), updZ_n (show (0 : Int) ≠ 2 by decide)]
    rw [show upc (upc (upc (upc c t (updZ (updZ (updZ (c t) 0 (c p 1)) 1 (c p 0 + c p 1)) 2 1)) a1 N') a2 F') a1 (updZ N' r (c p 0 + r)) = upc (upc (upc c t (updZ (updZ (updZ (c t) 0 (c p 1)) 1 (c p 0 + c p 1)) 2 1)) a1 (updZ N' r (c p 0 + r))) a2 F' by
      funext y
      unfold upc
      by_cases y1 : y = a1
      · rw [if_pos y1, if_neg (fun y2 => hne.2.2.2.2.2.2.2.2 (y1.symm.trans y2)), if_pos y1]
      · rw [if_neg y1]
        by_cases y2 : y = a2
        · rw [if_pos y2, if_pos y2]
        · rw [if_neg y2, if_neg y2, if_neg y1, if_neg y1]]
    refine gw_L (l_start2 (c := c) (N9 := updZ N' r (c p 0 + r)) (F9 := F') hT hP hne hn hm hPr ⟨by omega, by omega⟩ (fun c' hI => ?_) (c p 0 + c p 1).toNat 0 _ (by omega) (by omega) ⟨F', rfl, fun i q hi0 hi hq0 hq => by rw [if_neg (by omega)]⟩) ((lvA_c rfl (lvA_c rfl (lvA_c rfl (lvA_c rfl lvA_n)))))
    obtain ⟨F2, rfl, hF2⟩ := hI
    fine gw_aload_n dX6_start_89 rfl rfl ?_
    fine gs_getR cl6 4 dX6_start_90 rfl kw_195 (by decide) (hT).1 rfl ?_
    fine gw_iload_n dX6_start_93 rfl rfl ?_
    fine gw_aload_n dX6_start_94 rfl rfl ?_
    fine gs_getI cl6 1 1 dX6_start_95 rfl kw_190 (by decide) (hT).1 rfl rfl ?_
    fine gw_aload_n dX6_start_98 rfl rfl ?_
    fine gw_iload_n dX6_start_99 rfl rfl ?_
    fine gw_V1 okX2_bound dX6_start_100 kw_418 kw_419 kw_420 (hp_o (hP).1) rfl ⟨by decide, by decide⟩ ⟨by decide, by decide⟩ (Nat.le_of_ble_eq_true rfl) (k_bound hP (by omega) ?_)
    fine gw_i2lZ dX6_start_103 rfl (by simp only [upc_s, upc_n hne.1, upc_n hne.2.1, upc_n hne.2.2.1, upc_n hne.2.2.2.1, upc_n hne.2.2.2.2.1, upc_n hne.2.2.2.2.2.1, upc_n hne.2.2.2.2.2.2.1, upc_n hne.2.2.2.2.2.2.2.1, upc_n hne.2.2.2.2.2.2.2.2, upc_n hne.2.2.2.2.2.2.2.2.symm, updZ_s, updZ_n (show (0 : Int) ≠ 1 by decide), updZ_n (show (0 : Int) ≠ 2 by decide), updZ_n (show (1 : Int) ≠ 2 by decide)]; exact hPr _ (by omega) (by omega)) ?_
    fine gw_V3 okX1_put dX6_start_104 kw_402 kw_403 kw_404 (hp_o (hT.2.2).1) rfl ⟨by decide, by decide⟩ ⟨by decide, by decide⟩ (Nat.le_of_ble_eq_true rfl) (k_put hT.2.2 (by omega) (by first | omega | (simp only [upc_s, upc_n hne.1, upc_n hne.2.1, upc_n hne.2.2.1, upc_n hne.2.2.2.1, upc_n hne.2.2.2.2.1, upc_n hne.2.2.2.2.2.1, upc_n hne.2.2.2.2.2.2.1, upc_n hne.2.2.2.2.2.2.2.1, upc_n hne.2.2.2.2.2.2.2.2, upc_n hne.2.2.2.2.2.2.2.2.symm, updZ_s, updZ_n (show (0 : Int) ≠ 1 by decide), updZ_n (show (0 : Int) ≠ 2 by decide), updZ_n (show (1 : Int) ≠ 2 by decide)]; omega)) (by first | omega | (simp only [upc_s, upc_n hne.1, upc_n hne.2.1, upc_n hne.2.2.1, upc_n hne.2.2.2.1, upc_n hne.2.2.2.2.1, upc_n hne.2.2.2.2.2.1, upc_n hne.2.2.2.2.2.2.1, upc_n hne.2.2.2.2.2.2.2.1, upc_n hne.2.2.2.2.2.2.2.2, upc_n hne.2.2.2.2.2.2.2.2.symm, updZ_s, updZ_n (show (0 : Int) ≠ 1 by decide), updZ_n (show (0 : Int) ≠ 2 by decide), updZ_n (show (1 : Int) ≠ 2 by decide)]; omega)) (by first | omega | (simp only [upc_s, upc_n hne.1, upc_n hne.2.1, upc_n hne.2.2.1, upc_n hne.2.2.2.1, upc_n hne.2.2.2.2.1, upc_n hne.2.2.2.2.2.1, upc_n hne.2.2.2.2.2.2.1, upc_n hne.2.2.2.2.2.2.2.1, upc_n hne.2.2.2.2.2.2.2.2, upc_n hne.2.2.2.2.2.2.2.2.symm, updZ_s, updZ_n (show (0 : Int) ≠ 1 by decide), updZ_n (show (0 : Int) ≠ 2 by decide), updZ_n (show (1 : Int) ≠ 2 by decide)]; omega)) (by omega) ?_)
    fine gw_iincZ dX6_start_107 rfl rfl (by decide) ?_
    fine gw_goto (tgt := 33) dX6_start_110 (by decide) ?_
    mp only [upc_s, upc_n hne.1, upc_n hne.2.1, upc_n hne.2.2.1, upc_n hne.2.2.2.1, upc_n hne.2.2.2.2.1, upc_n hne.2.2.2.2.2.1, upc_n hne.2.2.2.2.2.2.1, upc_n hne.2.2.2.2.2.2.2.1, upc_n hne.2.2.2.2.2.2.2.2, upc_n hne.2.2.2.2.2.2.2.2.symm, updZ_s, updZ_n (show (0 : Int) ≠ 1 by decide), updZ_n (show (0 : Int) ≠ 2 by decide), updZ_n (show (1 : Int) ≠ 2 by decide)]
     [upc_u]
    act gw_L (ih (r + 1) _ (by omega) (by omega) ⟨_, _, rfl, fun i hi0 hi => by
    by_cases e : i = r
    · rw [e, updZ_s]
    · rw [updZ_n e]; exact hN i hi0 (by omega), fun i q hi0 hi hq0 hq => by
    by_cases e : i = r
    · subst e
      by_cases e2 : q = c p 0 + c p 1
      · rw [e2, updZ_s, if_neg (by omega)]
      · rw [updZ_n (by omega), hF2 i q hi0 (by omega) hq0 (by omega), if_pos (by omega), if_pos (by omega)]
    · rw [updZ_n (by omega), hF2 i q hi0 (by omega) hq0 (by omega), if_neg (by omega)]
      exact hF i q hi0 (by omega) hq0 hq⟩) ((lvA_c rfl (lvA_c rfl (lvA_c rfl lvA_n))))
set_option maxRecDepth 100000 in
set_option maxHeartbeats 4000000 in
theorem l_start3 {E : gwE} {N9 F9 : Int → Int} (hT : shT sh t g1 a1 g2 a2) (hP : shP sh p g a) (hne : p ≠ t ∧ p ≠ a1 ∧ p ≠ a2 ∧ a ≠ t ∧ a ≠ a1 ∧ a ≠ a2 ∧ t ≠ a1 ∧ t ≠ a2 ∧ a1 ≠ a2) (hn : 0 ≤ c p 0 ∧ c p 0 ≤ 4) (hm : 0 ≤ c p 1 ∧ c p 1 ≤ 4) (hPr : ∀ i, 0 ≤ i → i < 25 → R32 (c a i)) (kk : ∀ c', (∃ F', c' = upc (upc (upc c t (updZ (updZ (updZ (c t) 0 (c p 1)) 1 (c p 0 + c p 1)) 2 1)) a1 N9) a2 F' ∧ (∀ q, 0 ≤ q → q < (c p 0 + c p 1) → F' (c p 1 * 9 + q) = cpZ (c p 0) (c a) q) ∧ ∀ i q, 0 ≤ i → i < c p 1 → 0 ≤ q → q ≤ 8 → F' (i * 9 + q) = F9 (i * 9 + q)) → G Φ mX6_start E none 0 0 147 [(0, .ref (M + t)), (1, .ref (M + p)), (2, vI (c p 0 + c p 1))] [] (hp Φ hb M sh c')) : ∀ (m : Nat) (j : Int) (c' : Nat → Int → Int), 0 ≤ j → j + m = c p 0 + c p 1 → (∃ F', c' = upc (upc (upc c t (updZ (updZ (updZ (c t) 0 (c p 1)) 1 (c p 0 + c p 1)) 2 1)) a1 N9) a2 F' ∧ (∀ q, 0 ≤ q → q < j → F' (c p 1 * 9 + q) = cpZ (c p 0) (c a) q) ∧ ∀ i q, 0 ≤ i → i < c p 1 → 0 ≤ q → q ≤ 8 → F' (i * 9 + q) = F9 (i * 9 + q)) → G Φ mX6_start E none 0 0 115 [(0, .ref (M + t)), (1, .ref (M + p)), (2, vI j)] [] (hp Φ hb M sh c') := by
  intro m
  induction m with
  | zero =>
    intro j c' h0 hm hI
    obtain rfl : j = c p 0 + c p 1 := by omega
    obtain ⟨F', rfl, hF, hF0⟩ := hI
    refine gw_iload_n dX6_start_115 rfl rfl ?_
    refine gw_aload_n dX6_start_116 rfl rfl ?_
    refine gs_getI cl6 1 1 dX6_start_117 rfl kw_190 (by decide) (hT).1 rfl rfl ?_
    refine gw_icmp_geZ (tgt := 147) dX6_start_120 rfl (by decide) (by omega) (by first | omega | (simp only [upc_s, upc_n hne.1, upc_n hne.2.1, upc_n hne.2.2.1, upc_n hne.2.2.2.1, upc_n hne.2.2.2.2.1, upc_n hne.2.2.2.2.2.1, upc_n hne.2.2.2.2.2.2.1, upc_n hne.2.2.2.2.2.2.2.1, upc_n hne.2.2.2.2.2.2.2.2, upc_n hne.2.2.2.2.2.2.2.2.symm, updZ_s, updZ_n (show (0 : Int) ≠ 1 by decide), updZ_n (show (0 : Int) ≠ 2 by decide), updZ_n (show (1 : Int) ≠ 2 by decide)]; omega)) (fun c_120 => ?_) (fun c_120 => False.elim (by simp only [upc_s, upc_n hne.1, upc_n hne.2.1, upc_n hne.2.2.1, upc_n hne.2.2.2.1, upc_n hne.2.2.2.2.1, upc_n hne.2.2.2.2.2.1, upc_n hne.2.2.2.2.2.2.1, upc_n hne.2.2.2.2.2.2.2.1, upc_n hne.2.2.2.2.2.2.2.2, upc_n hne.2.2.2.2.2.2.2.2.symm, updZ_s, updZ_n (show (0 : Int) ≠ 1 by decide), updZ_n (show (0 : Int) ≠ 2 by decide), updZ_n (show (1 : Int) ≠ 2 by decide)] at c_120; omega))
    exact gw_L (kk _ ⟨_, rfl, hF, hF0⟩) ((lvA_c rfl (lvA_c rfl (lvA_c rfl lvA_n))))
  | succ m ih =>
    intro j c' h0 hm hI
    obtain ⟨F', rfl, hF, hF0⟩ := hI
    refine gw_iload_n dX6_start_115 rfl rfl ?_
    refine gw_aload_n dX6_start_116 rfl rfl ?_
    refine gs_getI cl6 1 1 dX6_start_117 rfl kw_190 (by decide) (hT).1 rfl rfl ?_
    refine gw_icmp_geZ (tgt := 147) dX6_start_120 rfl (by decide) (by omega) (by first | omega | (simp only [upc_s, upc_n hne.1, upc_n hne.2.1, upc_n hne.2.2.1, upc_n hne.2.2.2.1, upc_n hne.2.2.2.2.1, upc_n hne.2.2.2.2.2.1, upc_n hne.2.2.2.2.2.2.1, upc_n hne.2.2.2.2.2.2.2.1, upc_n hne.2.2.2.2.2.2.2.2, upc_n hne.2.2.2.2.2.2.2.2.symm, updZ_s, updZ_n (show (0 : Int) ≠ 1 by decide), updZ_n (show (0 : Int) ≠ 2 by decide), updZ_n (show (1 : Int) ≠ 2 by decide)]; omega)) (fun c_120 => False.elim (by simp only [upc_s, upc_n hne.1, upc_n hne.2.1, upc_n hne.2.2.1, upc_n hne.2.2.2.1, upc_n hne.2.2.2.2.1, upc_n hne.2.2.2.2.2.1, upc_n hne.2.2.2.2.2.2.1, upc_n hne.2.2.2.2.2.2.2.1, upc_n hne.2.2.2.2.2.2.2.2, upc_n hne.2.2.2.2.2.2.2.2.symm, updZ_s, updZ_n (show (0 : Int) ≠ 1 by decide), updZ_n (show (0 : Int) ≠ 2 by decide), updZ_n (show (1 : Int) ≠ 2 by decide)] at c_120; omega)) (fun c_120 => ?_)
    refine gw_aload_n dX6_start_123 rfl rfl ?_
    refine gs_getR cl6 4 dX6_start_124 rfl kw_195 (by decide) (hT).1 rfl ?_
    refine gw_aload_n dX6_start_127 rfl rfl ?_
    refine gs_getI cl6 0 0 dX6_start_128 rfl kw_188 (by decide) (hT).1 rfl rfl ?_
    refine gw_iload_n dX6_start_131 rfl rfl ?_
    refine gw_aload_n dX6_start_132 rfl rfl ?_
    refine gw_iload_n dX6_start_133 rfl rfl ?_
    refine gw_V1 okX2_columnProfit dX6_start_134 kw_422 kw_423 kw_424 (hp_o (hP).1) rfl ⟨by decide, by decide⟩ ⟨by decide, by decide⟩ (Nat.le_of_ble_eq_true rfl) (k_columnProfit hP (by first | omega | (simp only [upc_s, upc_n hne.1, upc_n hne.2.1, upc_n hne.2.2.1, upc_n hne.2.2.2.1, upc_n hne.2.2.2.2.1, upc_n hne.2.2.2.2.2.1, upc_n hne.2.2.2.2.2.2.1, upc_n hne.2.2.2.2.2.2.2.1, upc_n hne.2.2.2.2.2.2.2.2, upc_n hne.2.2.2.2.2.2.2.2.symm, updZ_s, updZ_n (show (0 : Int) ≠ 1 by decide), updZ_n (show (0 : Int) ≠ 2 by decide), updZ_n (show (1 : Int) ≠ 2 by decide)]; omega)) (by omega) ?_)
    refine gw_i2lZ dX6_start_137 rfl (by simp only [upc_s, upc_n hne.1, upc_n hne.2.1, upc_n hne.2.2.1, upc_n hne.2.2.2.1, upc_n hne.2.2.2.2.1, upc_n hne.2.2.2.2.2.1, upc_n hne.2.2.2.2.2.2.1, upc_n hne.2.2.2.2.2.2.2.1, upc_n hne.2.2.2.2.2.2.2.2, upc_n hne.2.2.2.2.2.2.2.2.symm, updZ_s, updZ_n (show (0 : Int) ≠ 1 by decide), updZ_n (show (0 : Int) ≠ 2 by decide), updZ_n (show (1 : Int) ≠ 2 by decide)]; exact cpZ_r hPr (by omega) hn.2) ?_
    refine gw_V3 okX1_put dX6_start_138 kw_402 kw_403 kw_404 (hp_o (hT.2.2).1) rfl ⟨by decide, by decide⟩ ⟨by decide, by decide⟩ (Nat.le_of_ble_eq_true rfl) (k_put hT.2.2 (by omega) (by first | omega | (simp only [upc_s, upc_n hne.1, upc_n hne.2.1, upc_n hne.2.2.1, upc_n hne.2.2.2.1, upc_n hne.2.2.2.2.1, upc_n hne.2.2.2.2.2.1, upc_n hne.2.2.2.2.2.2.1, upc_n hne.2.2.2.2.2.2.2.1, upc_n hne.2.2.2.2.2.2.2.2, upc_n hne.2.2.2.2.2.2.2.2.symm, updZ_s, updZ_n (show (0 : Int) ≠ 1 by decide), updZ_n (show (0 : Int) ≠ 2 by decide), updZ_n (show (1 : Int) ≠ 2 by decide)]; omega)) (by first | omega | (simp only [upc_s, upc_n hne.1, upc_n hne.2.1, upc_n hne.2.2.1, upc_n hne.2.2.2.1, upc_n hne.2.2.2.2.1, upc_n hne.2.2.2.2.2.1, upc_n hne.2.2.2.2.2.2.1, upc_n hne.2.2.2.2.2.2.2.1, upc_n hne.2.2.2.2.2.2.2.2, upc_n hne.2.2.2.2.2.2.2.2.symm, updZ_s, updZ_n (show (0 : Int) ≠ 1 by decide), updZ_n (show (0 : Int) ≠ 2 by decide), updZ_n (show (1 : Int) ≠ 2 by decide)]; omega)) (by first | omega | (simp only [upc_s, upc_n hne.1, upc_n hne.2.1, upc_n hne.2.2.1, upc_n hne.2.2.2.1, upc_n hne.2.2.2.2.1, upc_n hne.2.2.2.2.2.1, upc_n hne.2.2.2.2.2.2.1, upc_n hne.2.2.2.2.2.2.2.1, upc_n hne.2.2.2.2.2.2.2.2, upc_n hne.2.2.2.2.2.2.2.2.symm, updZ_s, updZ_n (show (0 : Int) ≠ 1 by decide), updZ_n (show (0 : Int) ≠ 2 by decide), updZ_n (show (1 : Int) ≠ 2 by decide)]; omega)) (by omega) ?_)
    refine gw_iincZ dX6_start_141 rfl rfl (by decide) ?_
    refine gw_goto (tgt := 115) dX6_start_144 (by decide) ?_
    simp only [upc_s, upc_n hne.1, upc_n hne.2.1, upc_n hne.2.2.1, upc_n hne.2.2.2.1, upc_n hne.2.2.2.2.1, upc_n hne.2.2.2.2.2.1, upc_n hne.2.2.2.2.2.2.1, upc_n hne.2.2.2.2.2.2.2.1, upc_n hne.2.2.2.2.2.2.2.2, upc_n hne.2.2.2.2.2.2.2.2.symm, updZ_s, updZ_n (show (0 : Int) ≠ 1 by decide), updZ_n (show (0 : Int) ≠ 2 by decide), updZ_n (show (1 : Int) ≠ 2 by decide)]
    rw [upc_u]
    exact gw_L (ih (j + 1) _ (by omega) (by omega) ⟨_, rfl, fun q hq0 hq => by
      by_cases e : q = j
      · rw [e, updZ_s]
      · rw [updZ_n (by omega)]; exact hF q hq0 (by omega), fun i q hi0 hi hq0 hq => by
      rw [updZ_n (by omega)]
      exact hF0 i q hi0 hi hq0 hq⟩) ((lvA_c rfl (lvA_c rfl (lvA_c rfl lvA_n))))
/-- the tableau of the slacks -/
def tabS (n m : Int) (P N F : Int → Int) : Prop := (∀ i, 0 ≤ i → i < m → N i = n + i) ∧ (∀ i q, 0 ≤ i → i < m → 0 ≤ q → q < n + m → F (i * 9 + q) = ffZ n P i q) ∧ (∀ i, 0 ≤ i → i < m → F (i * 9 + (n + m)) = P (i * 5 + 4)) ∧ (∀ q, 0 ≤ q → q < n + m → F (m * 9 + q) = cpZ n P q) ∧ F (m * 9 + (n + m)) = 0
set_option maxRecDepth 100000 in
set_option maxHeartbeats 4000000 in
theorem k_start (hT : shT sh t g1 a1 g2 a2) (hP : shP sh p g a) (hne : p ≠ t ∧ p ≠ a1 ∧ p ≠ a2 ∧ a ≠ t ∧ a ≠ a1 ∧ a ≠ a2 ∧ t ≠ a1 ∧ t ≠ a2 ∧ a1 ≠ a2) (hn : 0 ≤ c p 0 ∧ c p 0 ≤ 4) (hm : 0 ≤ c p 1 ∧ c p 1 ≤ 4) (hPr : ∀ i, 0 ≤ i → i < 25 → R32 (c a i)) (hK : (∀ N' F', tabS (c p 0) (c p 1) (c a) N' F' → K none (hp Φ hb M sh (upc (upc (upc c t (updZ (updZ (updZ (c t) 0 (c p 1)) 1 (c p 0 + c p 1)) 2 1)) a1 N') a2 F')))) : gw_Con Φ mX6_start none [.ref (M + t), .ref (M + p)] (hp Φ hb M sh c) K := by
  refine gw_start okX6_start (Nat.le_of_ble_eq_true rfl) ?_
  refine gw_aload_n dX6_start_0 rfl rfl ?_
  refine gw_ifnonnull (tgt := 5) dX6_start_1 (by decide) ?_
  refine gw_aload_n dX6_start_5 rfl rfl ?_
  refine gw_aload_n dX6_start_6 rfl rfl ?_
  refine gs_getIN cl2 1 1 dX6_start_7 rfl kw_164 (by decide) (hP).1 rfl rfl ?_
  refine gs_putI cl6 0 0 dX6_start_10 rfl kw_188 (by decide) rfl rfl (hT).1 rfl rfl ?_
  refine gw_aload_n dX6_start_13 rfl rfl ?_
  refine gw_aload_n dX6_start_14 rfl rfl ?_
  refine gs_getIN cl2 0 0 dX6_start_15 rfl kw_157 (by decide) (hP).1 rfl rfl ?_
  refine gw_aload_n dX6_start_18 rfl rfl ?_
  refine gs_getIN cl2 1 1 dX6_start_19 rfl kw_164 (by decide) (hP).1 rfl rfl ?_
  refine gw_iaddZ dX6_start_22 rfl ?_
  refine gs_putI cl6 1 1 dX6_start_23 rfl kw_190 (by decide) rfl rfl (hT).1 rfl rfl ?_
  refine gw_aload_n dX6_start_26 rfl rfl ?_
  refine gw_lconst1Z dX6_start_27 rfl ?_
  refine gs_putL cl6 2 2 dX6_start_28 rfl kw_192 (by decide) rfl rfl (hT).1 rfl rfl ?_
  refine gw_iconstZ dX6_start_31 rfl ?_
  refine gw_istore_n dX6_start_32 rfl (by decide) ?_
  have e0 : upc (upc (upc c t (updZ (updZ (updZ (c t) 0 (c p 1)) 1 (c p 0 + c p 1)) 2 1)) a1 (c a1)) a2 (c a2) = upc c t (updZ (updZ (updZ (c t) 0 (c p 1)) 1 (c p 0 + c p 1)) 2 1) := by
    rw [show c a1 = upc c t (updZ (updZ (updZ (c t) 0 (c p 1)) 1 (c p 0 + c p 1)) 2 1) a1 from (upc_n hne.2.2.2.2.2.2.1.symm).symm, upc_i, show c a2 = upc c t (updZ (updZ (updZ (c t) 0 (c p 1)) 1 (c p 0 + c p 1)) 2 1) a2 from (upc_n hne.2.2.2.2.2.2.2.1.symm).symm, upc_i]
  simp only [upc_u, upc_s, upc_n hne.1]
  refine gw_L (l_start1 (c := c) hT hP hne hn hm hPr (fun c' hI => ?_) (c p 1).toNat 0 _ (by omega) (by omega) ⟨c a1, c a2, e0.symm, fun i h0 h => by omega, fun i q hi0 hi => by omega⟩) ((lvA_c rfl (lvA_c rfl (lvA_c rfl lvA_n))))
  obtain ⟨N1, F1, rfl, hN1, hF1⟩ := hI
  refine gw_iconstZ dX6_start_113 rfl ?_
  refine gw_istore_n dX6_start_114 rfl (by decide) ?_
  refine gw_L (l_start3 (c := c) (N9 := N1) (F9 := F1) hT hP hne hn hm hPr (fun c' hI => ?_) (c p 0 + c p 1).toNat 0 _ (by omega) (by omega) ⟨F1, rfl, fun q h0 h => by omega, fun i q hi0 hi hq0 hq => rfl⟩) ((lvA_c rfl (lvA_c rfl (lvA_c rfl lvA_n))))
  obtain ⟨F2, rfl, hF2, hF3⟩ := hI
  refine gw_aload_n dX6_start_147 rfl rfl ?_
  refine gs_getR cl6 4 dX6_start_148 rfl kw_195 (by decide) (hT).1 rfl ?_
  refine gw_aload_n dX6_start_151 rfl rfl ?_
  refine gs_getI cl6 0 0 dX6_start_152 rfl kw_188 (by decide) (hT).1 rfl rfl ?_
  refine gw_aload_n dX6_start_155 rfl rfl ?_
  refine gs_getI cl6 1 1 dX6_start_156 rfl kw_190 (by decide) (hT).1 rfl rfl ?_
  refine gw_lconst0Z dX6_start_159 rfl ?_
  refine gw_V3 okX1_put dX6_start_160 kw_402 kw_403 kw_404 (hp_o (hT.2.2).1) rfl ⟨by decide, by decide⟩ ⟨by decide, by decide⟩ (Nat.le_of_ble_eq_true rfl) (k_put hT.2.2 (by omega) (by first | omega | (simp only [upc_s, upc_n hne.1, upc_n hne.2.1, upc_n hne.2.2.1, upc_n hne.2.2.2.1, upc_n hne.2.2.2.2.1, upc_n hne.2.2.2.2.2.1, upc_n hne.2.2.2.2.2.2.1, upc_n hne.2.2.2.2.2.2.2.1, upc_n hne.2.2.2.2.2.2.2.2, upc_n hne.2.2.2.2.2.2.2.2.symm, updZ_s, updZ_n (show (0 : Int) ≠ 1 by decide), updZ_n (show (0 : Int) ≠ 2 by decide), updZ_n (show (1 : Int) ≠ 2 by decide)]; omega)) (by first | omega | (simp only [upc_s, upc_n hne.1, upc_n hne.2.1, upc_n hne.2.2.1, upc_n hne.2.2.2.1, upc_n hne.2.2.2.2.1, upc_n hne.2.2.2.2.2.1, upc_n hne.2.2.2.2.2.2.1, upc_n hne.2.2.2.2.2.2.2.1, upc_n hne.2.2.2.2.2.2.2.2, upc_n hne.2.2.2.2.2.2.2.2.symm, updZ_s, updZ_n (show (0 : Int) ≠ 1 by decide), updZ_n (show (0 : Int) ≠ 2 by decide), updZ_n (show (1 : Int) ≠ 2 by decide)]; omega)) (by first | omega | (simp only [upc_s, upc_n hne.1, upc_n hne.2.1, upc_n hne.2.2.1, upc_n hne.2.2.2.1, upc_n hne.2.2.2.2.1, upc_n hne.2.2.2.2.2.1, upc_n hne.2.2.2.2.2.2.1, upc_n hne.2.2.2.2.2.2.2.1, upc_n hne.2.2.2.2.2.2.2.2, upc_n hne.2.2.2.2.2.2.2.2.symm, updZ_s, updZ_n (show (0 : Int) ≠ 1 by decide), updZ_n (show (0 : Int) ≠ 2 by decide), updZ_n (show (1 : Int) ≠ 2 by decide)]; omega)) (by omega) ?_)
  exact gw_vret dX6_start_163 rfl (by decide) (by decide) (by
    have h9 := hK N1 (updZ F2 (c p 1 * 9 + (c p 0 + c p 1)) 0) ⟨hN1, fun i q hi0 hi hq0 hq => by rw [updZ_n (by omega), hF3 i q hi0 hi hq0 (by omega), hF1 i q hi0 hi hq0 (by omega), if_pos hq], fun i hi0 hi => by rw [updZ_n (by omega), hF3 i _ hi0 hi (by omega) (by omega), hF1 i _ hi0 hi (by omega) (by omega), if_neg (by omega)], fun q hq0 hq => by rw [updZ_n (by omega)]; exact hF2 q hq0 hq, updZ_s⟩
    simp only [upc_s, upc_n hne.1, upc_n hne.2.1, upc_n hne.2.2.1, upc_n hne.2.2.2.1, upc_n hne.2.2.2.2.1, upc_n hne.2.2.2.2.2.1, upc_n hne.2.2.2.2.2.2.1, upc_n hne.2.2.2.2.2.2.2.1, upc_n hne.2.2.2.2.2.2.2.2, upc_n hne.2.2.2.2.2.2.2.2.symm, updZ_s, updZ_n (show (0 : Int) ≠ 1 by decide), updZ_n (show (0 : Int) ≠ 2 by decide), updZ_n (show (1 : Int) ≠ 2 by decide)]
    rw [upc_u]
    exact h9)
end CT2
