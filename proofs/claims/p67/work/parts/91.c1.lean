section CZ
theorem dfX0 : ∀ j, j < 3 → defaultValue (tyX0 j) = vp_V [vI 0, vL 0, .null] j := fun j hj => match j, hj with
  | 0, _ => rfl
  | 1, _ => rfl
  | 2, _ => rfl
  | q + 3, hj => absurd hj (by omega)
theorem dfX1 : ∀ j, j < 2 → defaultValue (tyX1 j) = vp_V [vI 0, .null] j := fun j hj => match j, hj with
  | 0, _ => rfl
  | 1, _ => rfl
  | q + 2, hj => absurd hj (by omega)
theorem dfX2 : ∀ j, j < 3 → defaultValue (tyX2 j) = vp_V [vI 0, vI 0, .null] j := fun j hj => match j, hj with
  | 0, _ => rfl
  | 1, _ => rfl
  | 2, _ => rfl
  | q + 3, hj => absurd hj (by omega)
theorem dfX3 : ∀ j, j < 3 → defaultValue (tyX3 j) = vp_V [.null, .null, vI 0] j := fun j hj => match j, hj with
  | 0, _ => rfl
  | 1, _ => rfl
  | 2, _ => rfl
  | q + 3, hj => absurd hj (by omega)
theorem dfX4 : ∀ j, j < 6 → defaultValue (tyX4 j) = vp_V [.null, .null, vI 0, vI 0, vI 0, vI 0] j := fun j hj => match j, hj with
  | 0, _ => rfl
  | 1, _ => rfl
  | 2, _ => rfl
  | 3, _ => rfl
  | 4, _ => rfl
  | 5, _ => rfl
  | q + 6, hj => absurd hj (by omega)
theorem dfX5 : ∀ j, j < 6 → defaultValue (tyX5 j) = vp_V [.null, .null, vI 0, vI 0, vL 0, vL 0] j := fun j hj => match j, hj with
  | 0, _ => rfl
  | 1, _ => rfl
  | 2, _ => rfl
  | 3, _ => rfl
  | 4, _ => rfl
  | 5, _ => rfl
  | q + 6, hj => absurd hj (by omega)
theorem dfX6 : ∀ j, j < 5 → defaultValue (tyX6 j) = vp_V [vI 0, vI 0, vL 0, .null, .null] j := fun j hj => match j, hj with
  | 0, _ => rfl
  | 1, _ => rfl
  | 2, _ => rfl
  | 3, _ => rfl
  | 4, _ => rfl
  | q + 5, hj => absurd hj (by omega)
theorem dfX7 : ∀ j, j < 2 → defaultValue (tyX7 j) = vp_V [vI 0, .null] j := fun j hj => match j, hj with
  | 0, _ => rfl
  | 1, _ => rfl
  | q + 2, hj => absurd hj (by omega)
theorem dfX8 : ∀ j, j < 11 → defaultValue (tyX8 j) = vp_V [.null, .null, .null, .null, .null, .null, .null, .null, .null, vI 0, vI 0] j := fun j hj => match j, hj with
  | 0, _ => rfl
  | 1, _ => rfl
  | 2, _ => rfl
  | 3, _ => rfl
  | 4, _ => rfl
  | 5, _ => rfl
  | 6, _ => rfl
  | 7, _ => rfl
  | 8, _ => rfl
  | 9, _ => rfl
  | 10, _ => rfl
  | q + 11, hj => absurd hj (by omega)
theorem cz_iast {Φ : gwC} {Y : gwY} {E : gwE} {x : Option Nat} {cells slots pc pc' : Nat} {lv : List (Nat × Value)} {st : List Value} {h : gwHp} {a n k0 b : Nat} {L : List va_E} {i v : Int} {F : Int → Int} (d : decode Y.2.1 pc = .ok (.iastore, 1)) (e9 : pc + 1 = pc') (hb : a + k0 = b) (hh : L[k0]? = some (gwIz Φ n F)) (hi : 0 ≤ i ∧ i < (n : Int)) (hn : n ≤ 2000000000) (k : G Φ Y E x cells slots pc' lv st (hz h a (L.set k0 (gwIz Φ n (updZ F i v))))) : G Φ Y E x cells slots pc lv (vI v :: vI i :: .ref b :: st) (hz h a L) := by
  subst hb
  refine gw_iastZ d e9 (hz_at hh) hi hn ?_
  rw [hz_set (List.getElem?_eq_some_iff.mp hh).1]
  exact k
def SL1 (Φ : gwC) (N : Nat) (q : Int) (a : Nat) : List va_E := [.inr (1, [vI q, .ref (a + 1)]), gwLz Φ N (fun _ => 0)]
set_option maxRecDepth 100000 in
set_option maxHeartbeats 4000000 in
theorem zX1 {Φ : gwC} {p q : Int} {N : Nat} (hp : 1 ≤ p ∧ p ≤ 1000) (hq : 1 ≤ q ∧ q ≤ 1000) (hN : p * q = (N : Int)) (hN2 : N ≤ 140) : CzOk Φ mX1_init [vI p, vI q] (.inr (1, [vI 0, .null])) (SL1 Φ N q) := by
  refine czOk_i (fun _ => Nat.succ_pos _) (fun a h K hK => ?_)
  refine gw_start okX1_init (Nat.le_of_ble_eq_true rfl) ?_
  refine gw_aload_n dX1_init_0 rfl rfl ?_
  refine gw_obj dX1_init_1 rfl kw_60 kw_41 kw_42 (by decide) (Nat.le_of_ble_eq_true rfl) ?_
  refine gw_aload_n dX1_init_4 rfl rfl ?_
  refine gw_iconstZ dX1_init_5 rfl ?_
  refine gw_iload_n dX1_init_6 rfl rfl ?_
  refine gw_mmaxZ dX1_init_7 rfl kw_61 kw_62 kw_21 kw_63 (by decide) (Nat.le_of_ble_eq_true rfl) (Nat.zero_le _) (Nat.zero_le _) (by decide) ⟨by omega, by omega⟩ ?_
  rw [show (if (1 : Int) < q then q else 1) = q by split <;> omega]
  refine cz_putF cl1 0 dX1_init_10 rfl kw_64 (by decide) rfl rfl rfl rfl rfl (Nat.le_of_ble_eq_true rfl) ?_
  show G Φ mX1_init _ (some (a + 1)) 0 0 13 [(0, .ref a), (1, vI p), (2, vI q)] [] (hz h a (.inr (1, [vI q, .null]) :: []))
  refine gw_aload_n dX1_init_13 rfl rfl ?_
  refine gw_iconstZ dX1_init_14 rfl ?_
  refine gw_iload_n dX1_init_15 rfl rfl ?_
  refine gw_mmaxZ dX1_init_16 rfl kw_61 kw_62 kw_21 kw_63 (by decide) (Nat.le_of_ble_eq_true rfl) (Nat.zero_le _) (Nat.zero_le _) (by decide) ⟨by omega, by omega⟩ ?_
  rw [show (if (1 : Int) < p then p else 1) = p by split <;> omega]
  refine gw_aload_n dX1_init_19 rfl rfl ?_
  refine cz_get cl1 0 dX1_init_20 rfl kw_64 (by decide) rfl ?_
  refine gw_imulZ dX1_init_23 rfl ?_
  refine cz_newL (n := N) dX1_init_24 rfl kw_71 hN (by omega) rfl (by decide) (show 0 + N ≤ 140 by omega) ?_
  refine cz_putF cl1 1 dX1_init_26 rfl kw_65 (by decide) rfl rfl rfl rfl rfl (Nat.le_of_ble_eq_true rfl) ?_
  show G Φ mX1_init _ (some (a + 1)) 1 (0 + N) 29 [(0, .ref a), (1, vI p), (2, vI q)] [] (hz h a (.inr (1, [vI q, .ref (a + 1)]) :: [gwLz Φ N (fun _ => 0)]))
  exact gw_vret dX1_init_29 rfl (by decide) (show 0 + N ≤ 140 by omega) hK
def SL0 (Φ : gwC) (a : Nat) : List va_E := .inr (0, [vI 0, vL 1, .ref (a + 1)]) :: (SL1 Φ 20 5 (a + 1))
set_option maxRecDepth 100000 in
set_option maxHeartbeats 4000000 in
theorem zX0 {Φ : gwC} : CzOk Φ mX0_init [] (.inr (0, [vI 0, vL 0, .null])) (SL0 Φ) := by
  refine czOk_i (fun _ => Nat.succ_pos _) (fun a h K hK => ?_)
  refine gw_start okX0_init (Nat.le_of_ble_eq_true rfl) ?_
  refine gw_aload_n dX0_init_0 rfl rfl ?_
  refine gw_obj dX0_init_1 rfl kw_185 kw_41 kw_42 (by decide) (Nat.le_of_ble_eq_true rfl) ?_
  refine gw_aload_n dX0_init_4 rfl rfl ?_
  refine gw_lconst1Z dX0_init_5 rfl ?_
  refine cz_put cl0 1 dX0_init_6 rfl kw_190 (by decide) rfl rfl rfl (Nat.le_of_ble_eq_true rfl) ?_
  show G Φ mX0_init _ (some (a + 1)) 0 0 9 [(0, .ref a)] [] (hz h a (.inr (0, [vI 0, vL 1, .null]) :: []))
  refine gw_aload_n dX0_init_9 rfl rfl ?_
  refine cz_new cl1 dX0_init_10 rfl kw_186 kw_56 kw_20 dfX1 rfl (by decide) (Nat.le_of_ble_eq_true rfl) ?_
  refine gw_dup dX0_init_13 rfl rfl ?_
  refine gw_iconstZ dX0_init_14 rfl ?_
  refine gw_iconstZ dX0_init_15 rfl ?_
  refine cz_I2 (n := 0) (L' := SL1 Φ 20 5) okX1_init dX0_init_16 rfl kw_187 kw_58 rfl ⟨by decide, by decide⟩ ⟨by decide, by decide⟩ (Nat.le_of_ble_eq_true rfl) rfl (fun _ => Nat.succ_pos _) (zX1 (p := 4) (q := 5) (N := 20) (by decide) (by decide) rfl (by decide)) ?_
  show G Φ mX0_init _ (some (a + 1)) 2 142 19 [(0, .ref a)] [.ref (a + 1), .ref a] (hz h a (.inr (0, [vI 0, vL 1, .null]) :: (SL1 Φ 20 5 (a + 1))))
  refine cz_putF cl0 2 dX0_init_19 rfl kw_193 (by decide) rfl rfl rfl rfl rfl (Nat.le_of_ble_eq_true rfl) ?_
  show G Φ mX0_init _ (some (a + 1)) 2 142 22 [(0, .ref a)] [] (hz h a (.inr (0, [vI 0, vL 1, .ref (a + 1)]) :: (SL1 Φ 20 5 (a + 1))))
  exact gw_vret dX0_init_22 rfl (by decide) (Nat.le_of_ble_eq_true rfl) hK
def SL2 (Φ : gwC) (a : Nat) : List va_E := .inr (2, [vI 2, vI 0, .ref (a + 1)]) :: (SL1 Φ 25 5 (a + 1))
set_option maxRecDepth 100000 in
set_option maxHeartbeats 4000000 in
theorem zX2 {Φ : gwC} : CzOk Φ mX2_init [] (.inr (2, [vI 0, vI 0, .null])) (SL2 Φ) := by
  refine czOk_i (fun _ => Nat.succ_pos _) (fun a h K hK => ?_)
  refine gw_start okX2_init (Nat.le_of_ble_eq_true rfl) ?_
  refine gw_aload_n dX2_init_0 rfl rfl ?_
  refine gw_obj dX2_init_1 rfl kw_54 kw_41 kw_42 (by decide) (Nat.le_of_ble_eq_true rfl) ?_
  refine gw_aload_n dX2_init_4 rfl rfl ?_
  refine gw_iconstZ dX2_init_5 rfl ?_
  refine cz_put cl2 0 dX2_init_6 rfl kw_72 (by decide) rfl rfl rfl (Nat.le_of_ble_eq_true rfl) ?_
  show G Φ mX2_init _ (some (a + 1)) 0 0 9 [(0, .ref a)] [] (hz h a (.inr (2, [vI 2, vI 0, .null]) :: []))
  refine gw_aload_n dX2_init_9 rfl rfl ?_
  refine cz_new cl1 dX2_init_10 rfl kw_55 kw_56 kw_20 dfX1 rfl (by decide) (Nat.le_of_ble_eq_true rfl) ?_
  refine gw_dup dX2_init_13 rfl rfl ?_
  refine gw_iconstZ dX2_init_14 rfl ?_
  refine gw_iconstZ dX2_init_15 rfl ?_
  refine cz_I2 (n := 0) (L' := SL1 Φ 25 5) okX1_init dX2_init_16 rfl kw_57 kw_58 rfl ⟨by decide, by decide⟩ ⟨by decide, by decide⟩ (Nat.le_of_ble_eq_true rfl) rfl (fun _ => Nat.succ_pos _) (zX1 (p := 5) (q := 5) (N := 25) (by decide) (by decide) rfl (by decide)) ?_
  show G Φ mX2_init _ (some (a + 1)) 2 142 19 [(0, .ref a)] [.ref (a + 1), .ref a] (hz h a (.inr (2, [vI 2, vI 0, .null]) :: (SL1 Φ 25 5 (a + 1))))
  refine cz_putF cl2 2 dX2_init_19 rfl kw_84 (by decide) rfl rfl rfl rfl rfl (Nat.le_of_ble_eq_true rfl) ?_
  show G Φ mX2_init _ (some (a + 1)) 2 142 22 [(0, .ref a)] [] (hz h a (.inr (2, [vI 2, vI 0, .ref (a + 1)]) :: (SL1 Φ 25 5 (a + 1))))
  exact gw_vret dX2_init_22 rfl (by decide) (Nat.le_of_ble_eq_true rfl) hK
def SL6 (Φ : gwC) (a : Nat) : List va_E := .inr (6, [vI 0, vI 2, vL 1, .ref (a + 1), .ref (a + 3)]) :: (SL1 Φ 4 4 (a + 1) ++ SL1 Φ 45 9 (a + 3))
set_option maxRecDepth 100000 in
set_option maxHeartbeats 4000000 in
theorem zX6 {Φ : gwC} : CzOk Φ mX6_init [] (.inr (6, [vI 0, vI 0, vL 0, .null, .null])) (SL6 Φ) := by
  refine czOk_i (fun _ => Nat.succ_pos _) (fun a h K hK => ?_)
  refine gw_start okX6_init (Nat.le_of_ble_eq_true rfl) ?_
  refine gw_aload_n dX6_init_0 rfl rfl ?_
  refine gw_obj dX6_init_1 rfl kw_97 kw_41 kw_42 (by decide) (Nat.le_of_ble_eq_true rfl) ?_
  refine gw_aload_n dX6_init_4 rfl rfl ?_
  refine gw_iconstZ dX6_init_5 rfl ?_
  refine cz_put cl6 1 dX6_init_6 rfl kw_102 (by decide) rfl rfl rfl (Nat.le_of_ble_eq_true rfl) ?_
  show G Φ mX6_init _ (some (a + 1)) 0 0 9 [(0, .ref a)] [] (hz h a (.inr (6, [vI 0, vI 2, vL 0, .null, .null]) :: []))
  refine gw_aload_n dX6_init_9 rfl rfl ?_
  refine gw_lconst1Z dX6_init_10 rfl ?_
  refine cz_put cl6 2 dX6_init_11 rfl kw_104 (by decide) rfl rfl rfl (Nat.le_of_ble_eq_true rfl) ?_
  show G Φ mX6_init _ (some (a + 1)) 0 0 14 [(0, .ref a)] [] (hz h a (.inr (6, [vI 0, vI 2, vL 1, .null, .null]) :: []))
  refine gw_aload_n dX6_init_14 rfl rfl ?_
  refine cz_new cl1 dX6_init_15 rfl kw_98 kw_56 kw_20 dfX1 rfl (by decide) (Nat.le_of_ble_eq_true rfl) ?_
  refine gw_dup dX6_init_18 rfl rfl ?_
  refine gw_iconstZ dX6_init_19 rfl ?_
  refine gw_iconstZ dX6_init_20 rfl ?_
  refine cz_I2 (n := 0) (L' := SL1 Φ 4 4) okX1_init dX6_init_21 rfl kw_99 kw_58 rfl ⟨by decide, by decide⟩ ⟨by decide, by decide⟩ (Nat.le_of_ble_eq_true rfl) rfl (fun _ => Nat.succ_pos _) (zX1 (p := 1) (q := 4) (N := 4) (by decide) (by decide) rfl (by decide)) ?_
  show G Φ mX6_init _ (some (a + 1)) 2 142 24 [(0, .ref a)] [.ref (a + 1), .ref a] (hz h a (.inr (6, [vI 0, vI 2, vL 1, .null, .null]) :: (SL1 Φ 4 4 (a + 1))))
  refine cz_putF cl6 3 dX6_init_24 rfl kw_106 (by decide) rfl rfl rfl rfl rfl (Nat.le_of_ble_eq_true rfl) ?_
  show G Φ mX6_init _ (some (a + 1)) 2 142 27 [(0, .ref a)] [] (hz h a (.inr (6, [vI 0, vI 2, vL 1, .ref (a + 1), .null]) :: (SL1 Φ 4 4 (a + 1))))
  refine gw_aload_n dX6_init_27 rfl rfl ?_
  refine cz_new cl1 dX6_init_28 rfl kw_98 kw_56 kw_20 dfX1 rfl (by decide) (Nat.le_of_ble_eq_true rfl) ?_
  refine gw_dup dX6_init_31 rfl rfl ?_
  refine gw_iconstZ dX6_init_32 rfl ?_
  refine gw_bipushZ dX6_init_33 rfl (by decide) ?_
  refine cz_I2 (n := 2) (L' := SL1 Φ 45 9) okX1_init dX6_init_35 rfl kw_99 kw_58 rfl ⟨by decide, by decide⟩ ⟨by decide, by decide⟩ (Nat.le_of_ble_eq_true rfl) rfl (fun _ => Nat.succ_pos _) (zX1 (p := 5) (q := 9) (N := 45) (by decide) (by decide) rfl (by decide)) ?_
  show G Φ mX6_init _ (some (a + 1)) 4 284 38 [(0, .ref a)] [.ref (a + 3), .ref a] (hz h a (.inr (6, [vI 0, vI 2, vL 1, .ref (a + 1), .null]) :: (SL1 Φ 4 4 (a + 1) ++ SL1 Φ 45 9 (a + 3))))
  refine cz_putF cl6 4 dX6_init_38 rfl kw_107 (by decide) rfl rfl rfl rfl rfl (Nat.le_of_ble_eq_true rfl) ?_
  show G Φ mX6_init _ (some (a + 1)) 4 284 41 [(0, .ref a)] [] (hz h a (.inr (6, [vI 0, vI 2, vL 1, .ref (a + 1), .ref (a + 3)]) :: (SL1 Φ 4 4 (a + 1) ++ SL1 Φ 45 9 (a + 3))))
  exact gw_vret dX6_init_41 rfl (by decide) (Nat.le_of_ble_eq_true rfl) hK
def SL7 (Φ : gwC) (a : Nat) : List va_E := .inr (7, [vI 0, .ref (a + 1)]) :: (SL1 Φ 80 80 (a + 1))
set_option maxRecDepth 100000 in
set_option maxHeartbeats 4000000 in
theorem zX7 {Φ : gwC} : CzOk Φ mX7_init [] (.inr (7, [vI 0, .null])) (SL7 Φ) := by
  refine czOk_i (fun _ => Nat.succ_pos _) (fun a h K hK => ?_)
  refine gw_start okX7_init (Nat.le_of_ble_eq_true rfl) ?_
  refine gw_aload_n dX7_init_0 rfl rfl ?_
  refine gw_obj dX7_init_1 rfl kw_152 kw_41 kw_42 (by decide) (Nat.le_of_ble_eq_true rfl) ?_
  refine gw_aload_n dX7_init_4 rfl rfl ?_
  refine cz_new cl1 dX7_init_5 rfl kw_153 kw_56 kw_20 dfX1 rfl (by decide) (Nat.le_of_ble_eq_true rfl) ?_
  refine gw_dup dX7_init_8 rfl rfl ?_
  refine gw_iconstZ dX7_init_9 rfl ?_
  refine gw_bipushZ dX7_init_10 rfl (by decide) ?_
  refine cz_I2 (n := 0) (L' := SL1 Φ 80 80) okX1_init dX7_init_12 rfl kw_154 kw_58 rfl ⟨by decide, by decide⟩ ⟨by decide, by decide⟩ (Nat.le_of_ble_eq_true rfl) rfl (fun _ => Nat.succ_pos _) (zX1 (p := 1) (q := 80) (N := 80) (by decide) (by decide) rfl (by decide)) ?_
  show G Φ mX7_init _ (some (a + 1)) 2 142 15 [(0, .ref a)] [.ref (a + 1), .ref a] (hz h a (.inr (7, [vI 0, .null]) :: (SL1 Φ 80 80 (a + 1))))
  refine cz_putF cl7 1 dX7_init_15 rfl kw_155 (by decide) rfl rfl rfl rfl rfl (Nat.le_of_ble_eq_true rfl) ?_
  show G Φ mX7_init _ (some (a + 1)) 2 142 18 [(0, .ref a)] [] (hz h a (.inr (7, [vI 0, .ref (a + 1)]) :: (SL1 Φ 80 80 (a + 1))))
  exact gw_vret dX7_init_18 rfl (by decide) (Nat.le_of_ble_eq_true rfl) hK
def SL3 (Φ : gwC) (a : Nat) : List va_E := .inr (3, [.ref (a + 1), .ref (a + 4), vI 0]) :: (SL7 Φ (a + 1) ++ SL2 Φ (a + 4))
set_option maxRecDepth 100000 in
set_option maxHeartbeats 4000000 in
theorem zX3 {Φ : gwC} : CzOk Φ mX3_init [] (.inr (3, [.null, .null, vI 0])) (SL3 Φ) := by
  refine czOk_i (fun _ => Nat.succ_pos _) (fun a h K hK => ?_)
  refine gw_start okX3_init (Nat.le_of_ble_eq_true rfl) ?_
  refine gw_aload_n dX3_init_0 rfl rfl ?_
  refine gw_obj dX3_init_1 rfl kw_166 kw_41 kw_42 (by decide) (Nat.le_of_ble_eq_true rfl) ?_
  refine gw_aload_n dX3_init_4 rfl rfl ?_
  refine cz_new cl7 dX3_init_5 rfl kw_167 kw_148 kw_23 dfX7 rfl (by decide) (Nat.le_of_ble_eq_true rfl) ?_
  refine gw_dup dX3_init_8 rfl rfl ?_
  refine cz_IN0 (n := 0) (L' := SL7 Φ) okX7_init dX3_init_9 rfl kw_168 kw_150 rfl ⟨by decide, by decide⟩ ⟨by decide, by decide⟩ (Nat.le_of_ble_eq_true rfl) rfl (fun _ => Nat.succ_pos _) zX7 ?_
  show G Φ mX3_init _ (some (a + 1)) 3 144 12 [(0, .ref a)] [.ref (a + 1), .ref a] (hz h a (.inr (3, [.null, .null, vI 0]) :: (SL7 Φ (a + 1))))
  refine cz_putF cl3 0 dX3_init_12 rfl kw_171 (by decide) rfl rfl rfl rfl rfl (Nat.le_of_ble_eq_true rfl) ?_
  show G Φ mX3_init _ (some (a + 1)) 3 144 15 [(0, .ref a)] [] (hz h a (.inr (3, [.ref (a + 1), .null, vI 0]) :: (SL7 Φ (a + 1))))
  refine gw_aload_n dX3_init_15 rfl rfl ?_
  refine cz_new cl2 dX3_init_16 rfl kw_169 kw_50 kw_19 dfX2 rfl (by decide) (Nat.le_of_ble_eq_true rfl) ?_
  refine gw_dup dX3_init_19 rfl rfl ?_
  refine cz_IN0 (n := 3) (L' := SL2 Φ) okX2_init dX3_init_20 rfl kw_170 kw_52 rfl ⟨by decide, by decide⟩ ⟨by decide, by decide⟩ (Nat.le_of_ble_eq_true rfl) rfl (fun _ => Nat.succ_pos _) zX2 ?_
  show G Φ mX3_init _ (some (a + 1)) 6 289 23 [(0, .ref a)] [.ref (a + 4), .ref a] (hz h a (.inr (3, [.ref (a + 1), .null, vI 0]) :: (SL7 Φ (a + 1) ++ SL2 Φ (a + 4))))
  refine cz_putF cl3 1 dX3_init_23 rfl kw_172 (by decide) rfl rfl rfl rfl rfl (Nat.le_of_ble_eq_true rfl) ?_
  show G Φ mX3_init _ (some (a + 1)) 6 289 26 [(0, .ref a)] [] (hz h a (.inr (3, [.ref (a + 1), .ref (a + 4), vI 0]) :: (SL7 Φ (a + 1) ++ SL2 Φ (a + 4))))
  exact gw_vret dX3_init_26 rfl (by decide) (Nat.le_of_ble_eq_true rfl) hK
def SL4 (Φ : gwC) (a : Nat) : List va_E := .inr (4, [.ref (a + 1), .ref (a + 4), vI 0, vI 0, vI 0, vI 0]) :: (SL2 Φ (a + 1) ++ SL6 Φ (a + 4))
set_option maxRecDepth 100000 in
set_option maxHeartbeats 4000000 in
theorem zX4 {Φ : gwC} : CzOk Φ mX4_init [] (.inr (4, [.null, .null, vI 0, vI 0, vI 0, vI 0])) (SL4 Φ) := by
  refine czOk_i (fun _ => Nat.succ_pos _) (fun a h K hK => ?_)
  refine gw_start okX4_init (Nat.le_of_ble_eq_true rfl) ?_
  refine gw_aload_n dX4_init_0 rfl rfl ?_
  refine gw_obj dX4_init_1 rfl kw_48 kw_41 kw_42 (by decide) (Nat.le_of_ble_eq_true rfl) ?_
  refine gw_aload_n dX4_init_4 rfl rfl ?_
  refine cz_new cl2 dX4_init_5 rfl kw_49 kw_50 kw_19 dfX2 rfl (by decide) (Nat.le_of_ble_eq_true rfl) ?_
  refine gw_dup dX4_init_8 rfl rfl ?_
  refine cz_IN0 (n := 0) (L' := SL2 Φ) okX2_init dX4_init_9 rfl kw_51 kw_52 rfl ⟨by decide, by decide⟩ ⟨by decide, by decide⟩ (Nat.le_of_ble_eq_true rfl) rfl (fun _ => Nat.succ_pos _) zX2 ?_
  show G Φ mX4_init _ (some (a + 1)) 3 145 12 [(0, .ref a)] [.ref (a + 1), .ref a] (hz h a (.inr (4, [.null, .null, vI 0, vI 0, vI 0, vI 0]) :: (SL2 Φ (a + 1))))
  refine cz_putF cl4 0 dX4_init_12 rfl kw_119 (by decide) rfl rfl rfl rfl rfl (Nat.le_of_ble_eq_true rfl) ?_
  show G Φ mX4_init _ (some (a + 1)) 3 145 15 [(0, .ref a)] [] (hz h a (.inr (4, [.ref (a + 1), .null, vI 0, vI 0, vI 0, vI 0]) :: (SL2 Φ (a + 1))))
  refine gw_aload_n dX4_init_15 rfl rfl ?_
  refine cz_new cl6 dX4_init_16 rfl kw_92 kw_93 kw_22 dfX6 rfl (by decide) (Nat.le_of_ble_eq_true rfl) ?_
  refine gw_dup dX4_init_19 rfl rfl ?_
  refine cz_IN0 (n := 3) (L' := SL6 Φ) okX6_init dX4_init_20 rfl kw_94 kw_95 rfl ⟨by decide, by decide⟩ ⟨by decide, by decide⟩ (Nat.le_of_ble_eq_true rfl) rfl (fun _ => Nat.succ_pos _) zX6 ?_
  show G Φ mX4_init _ (some (a + 1)) 8 434 23 [(0, .ref a)] [.ref (a + 4), .ref a] (hz h a (.inr (4, [.ref (a + 1), .null, vI 0, vI 0, vI 0, vI 0]) :: (SL2 Φ (a + 1) ++ SL6 Φ (a + 4))))
  refine cz_putF cl4 1 dX4_init_23 rfl kw_122 (by decide) rfl rfl rfl rfl rfl (Nat.le_of_ble_eq_true rfl) ?_
  show G Φ mX4_init _ (some (a + 1)) 8 434 26 [(0, .ref a)] [] (hz h a (.inr (4, [.ref (a + 1), .ref (a + 4), vI 0, vI 0, vI 0, vI 0]) :: (SL2 Φ (a + 1) ++ SL6 Φ (a + 4))))
  exact gw_vret dX4_init_26 rfl (by decide) (Nat.le_of_ble_eq_true rfl) hK
def SL5 (Φ : gwC) (a : Nat) : List va_E := .inr (5, [.ref (a + 1), .ref (a + 4), vI 0, vI 0, vL 0, vL 1]) :: (SL0 Φ (a + 1) ++ SL1 Φ 140 70 (a + 4))
set_option maxRecDepth 100000 in
set_option maxHeartbeats 4000000 in
theorem zX5 {Φ : gwC} : CzOk Φ mX5_init [] (.inr (5, [.null, .null, vI 0, vI 0, vL 0, vL 0])) (SL5 Φ) := by
  refine czOk_i (fun _ => Nat.succ_pos _) (fun a h K hK => ?_)
  refine gw_start okX5_init (Nat.le_of_ble_eq_true rfl) ?_
  refine gw_aload_n dX5_init_0 rfl rfl ?_
  refine gw_obj dX5_init_1 rfl kw_206 kw_41 kw_42 (by decide) (Nat.le_of_ble_eq_true rfl) ?_
  refine gw_aload_n dX5_init_4 rfl rfl ?_
  refine cz_new cl0 dX5_init_5 rfl kw_207 kw_181 kw_25 dfX0 rfl (by decide) (Nat.le_of_ble_eq_true rfl) ?_
  refine gw_dup dX5_init_8 rfl rfl ?_
  refine cz_IN0 (n := 0) (L' := SL0 Φ) okX0_init dX5_init_9 rfl kw_208 kw_183 rfl ⟨by decide, by decide⟩ ⟨by decide, by decide⟩ (Nat.le_of_ble_eq_true rfl) rfl (fun _ => Nat.succ_pos _) zX0 ?_
  show G Φ mX5_init _ (some (a + 1)) 3 145 12 [(0, .ref a)] [.ref (a + 1), .ref a] (hz h a (.inr (5, [.null, .null, vI 0, vI 0, vL 0, vL 0]) :: (SL0 Φ (a + 1))))
  refine cz_putF cl5 0 dX5_init_12 rfl kw_211 (by decide) rfl rfl rfl rfl rfl (Nat.le_of_ble_eq_true rfl) ?_
  show G Φ mX5_init _ (some (a + 1)) 3 145 15 [(0, .ref a)] [] (hz h a (.inr (5, [.ref (a + 1), .null, vI 0, vI 0, vL 0, vL 0]) :: (SL0 Φ (a + 1))))
  refine gw_aload_n dX5_init_15 rfl rfl ?_
  refine cz_new cl1 dX5_init_16 rfl kw_209 kw_56 kw_20 dfX1 rfl (by decide) (Nat.le_of_ble_eq_true rfl) ?_
  refine gw_dup dX5_init_19 rfl rfl ?_
  refine gw_iconstZ dX5_init_20 rfl ?_
  refine gw_bipushZ dX5_init_21 rfl (by decide) ?_
  refine cz_I2 (n := 3) (L' := SL1 Φ 140 70) okX1_init dX5_init_23 rfl kw_210 kw_58 rfl ⟨by decide, by decide⟩ ⟨by decide, by decide⟩ (Nat.le_of_ble_eq_true rfl) rfl (fun _ => Nat.succ_pos _) (zX1 (p := 2) (q := 70) (N := 140) (by decide) (by decide) rfl (by decide)) ?_
  show G Φ mX5_init _ (some (a + 1)) 5 287 26 [(0, .ref a)] [.ref (a + 4), .ref a] (hz h a (.inr (5, [.ref (a + 1), .null, vI 0, vI 0, vL 0, vL 0]) :: (SL0 Φ (a + 1) ++ SL1 Φ 140 70 (a + 4))))
  refine cz_putF cl5 1 dX5_init_26 rfl kw_212 (by decide) rfl rfl rfl rfl rfl (Nat.le_of_ble_eq_true rfl) ?_
  show G Φ mX5_init _ (some (a + 1)) 5 287 29 [(0, .ref a)] [] (hz h a (.inr (5, [.ref (a + 1), .ref (a + 4), vI 0, vI 0, vL 0, vL 0]) :: (SL0 Φ (a + 1) ++ SL1 Φ 140 70 (a + 4))))
  refine gw_aload_n dX5_init_29 rfl rfl ?_
  refine gw_lconst1Z dX5_init_30 rfl ?_
  refine cz_put cl5 5 dX5_init_31 rfl kw_219 (by decide) rfl rfl rfl (Nat.le_of_ble_eq_true rfl) ?_
  show G Φ mX5_init _ (some (a + 1)) 5 287 34 [(0, .ref a)] [] (hz h a (.inr (5, [.ref (a + 1), .ref (a + 4), vI 0, vI 0, vL 0, vL 1]) :: (SL0 Φ (a + 1) ++ SL1 Φ 140 70 (a + 4))))
  exact gw_vret dX5_init_34 rfl (by decide) (Nat.le_of_ble_eq_true rfl) hK
abbrev mX8z : gwY := (yX8_init, cX8_init, 2, (Option.none : Option Jvm.ClassFile.FieldType), { frames := 5, cells := 104, slots := 4984, locals := 123 }, [])
theorem okX8z : gw_ok mX8z 0 := ⟨by decide +kernel, kw_39, kw_17, by decide +kernel, rfl⟩
def o8 (a : Nat) : va_E := .inr (8, [.ref (a + 1), .ref (a + 10), .ref (a + 19), .ref (a + 28), .ref (a + 29), .ref (a + 32), .ref (a + 35), .ref (a + 42), .ref (a + 45), vI 0, vI 0])
def B8 (Φ : gwC) (a : Nat) (f : Nat → Option Nat) : List va_E := ((((((((SL4 Φ (a + 1) ++ SL4 Φ (a + 10)) ++ SL4 Φ (a + 19)) ++ [gwR Φ 6 f]) ++ SL7 Φ (a + 29)) ++ SL7 Φ (a + 32)) ++ SL3 Φ (a + 35)) ++ SL0 Φ (a + 42)) ++ SL5 Φ (a + 45))
def SL8 (Φ : gwC) (a : Nat) : List va_E := o8 a :: (B8 Φ a (fun j => some (a + (51 + 9 * (j : Int)).toNat)) ++ (((((([] ++ SL4 Φ (a + 51)) ++ SL4 Φ (a + 60)) ++ SL4 Φ (a + 69)) ++ SL4 Φ (a + 78)) ++ SL4 Φ (a + 87)) ++ SL4 Φ (a + 96)))
section
variable {Φ : gwC} {a : Nat} {f g : Nat → Option Nat} {Y : List va_E}
set_option maxRecDepth 100000 in
theorem B8_len : (B8 Φ a f).length = 50 := rfl
set_option maxRecDepth 100000 in
theorem B8_at : (o8 a :: (B8 Φ a f ++ Y))[28]? = some (gwR Φ 6 f) := rfl
set_option maxRecDepth 100000 in
theorem B8_set : (o8 a :: (B8 Φ a f ++ Y)).set 28 (gwR Φ 6 g) = o8 a :: (B8 Φ a g ++ Y) := rfl
theorem B8_v {X : List va_E} {m b : Nat} (hX : X.length = m) : (o8 a :: (B8 Φ a f ++ (X ++ SL4 Φ b)))[51 + m]? = some (.inr (4, [.ref (b + 1), .ref (b + 4), vI 0, vI 0, vI 0, vI 0])) := by
  rw [show o8 a :: (B8 Φ a f ++ (X ++ SL4 Φ b)) = (o8 a :: (B8 Φ a f ++ X)) ++ SL4 Φ b by rw [List.cons_append, List.append_assoc]]
  have e : (o8 a :: (B8 Φ a f ++ X)).length = 51 + m := by rw [List.length_cons, List.length_append, B8_len, hX]; omega
  rw [List.getElem?_append_right (by omega), e, Nat.sub_self]
  rfl
set_option maxRecDepth 100000 in
set_option maxHeartbeats 4000000 in
theorem zX8_s {h : gwHp} {m slots : Nat} {i : Int} {E : gwE} {X : List va_E} (hX : X.length = m) (hm : (m : Int) = 9 * i) (hi : 0 ≤ i ∧ i < 6) (hs : slots + 440 ≤ 4984) (hg : ∀ j, j < 6 → va_up f i.toNat (some (a + (51 + m))) j = g j) (k : G Φ mX8z E (some (a + 1)) (50 + m + 1 + 8) (slots + 6 + 434) 103 [(1, vI (i + 1)), (0, .ref a)] [] (hz h a (o8 a :: (B8 Φ a g ++ (X ++ SL4 Φ (a + (51 + m))))))) : G Φ mX8z E (some (a + 1)) (50 + m) slots 103 [(1, vI i), (0, .ref a)] [] (hz h a (o8 a :: (B8 Φ a f ++ X))) := by
  have hm2 : m ≤ 45 := by omega
  refine gw_iload_n dX8_init_103 rfl rfl ?_
  refine gw_aload_n dX8_init_104 rfl rfl ?_
  refine cz_get cl8 3 dX8_init_105 rfl kw_237 (by decide) rfl ?_
  refine gw_alenR (n := 6) (f := f) dX8_init_108 rfl (hz_at (k := 28) B8_at) ?_
  refine gw_icmp_geZ (tgt := 131) dX8_init_109 rfl (by decide) ⟨by omega, by omega⟩ (by decide) (fun q => absurd q (by omega)) (fun _ => ?_)
  refine gw_aload_n dX8_init_112 rfl rfl ?_
  refine cz_get cl8 3 dX8_init_113 rfl kw_237 (by decide) rfl ?_
  refine gw_iload_n dX8_init_116 rfl rfl ?_
  have hL : (B8 Φ a f ++ X).length = 50 + m := by rw [List.length_append, B8_len, hX]
  refine cz_new cl4 dX8_init_117 rfl kw_43 kw_44 kw_18 dfX4 hL (show 50 + m + 1 ≤ 104 by omega) (show slots + 6 ≤ 4984 by omega) ?_
  refine gw_dup dX8_init_120 rfl rfl ?_
  refine cz_IN0 (n := 50 + m) (L' := SL4 Φ) okX4_init dX8_init_121 rfl kw_45 kw_46 rfl ⟨by decide, by decide⟩ ⟨show 50 + m + 1 + 8 ≤ 104 by omega, show slots + 6 + 434 ≤ 4984 by omega⟩ (Nat.le_of_ble_eq_true rfl) hL (fun _ => Nat.succ_pos _) zX4 ?_
  rw [List.append_assoc, show a + 1 + (50 + m) = a + (51 + m) by omega]
  refine cz_aast (k0 := 28) (kv := 51 + m) (n := 6) (f := f) (g := g) dX8_init_124 rfl rfl rfl B8_at (B8_v hX) ⟨hi.1, hi.2⟩ (by decide) hg ?_
  show G Φ mX8z E (some (a + 1)) (50 + m + 1 + 8) (slots + 6 + 434) 125 [(1, vI i), (0, .ref a)] [] (hz h a ((o8 a :: (B8 Φ a f ++ (X ++ SL4 Φ (a + (51 + m))))).set 28 (gwR Φ 6 g)))
  rw [B8_set]
  refine gw_iincZ dX8_init_125 rfl rfl (by decide) ?_
  refine gw_goto (tgt := 103) dX8_init_128 (by decide) ?_
  exact k
end
set_option maxRecDepth 100000 in
set_option maxHeartbeats 4000000 in
theorem zX8 {Φ : gwC} : CzOk Φ mX8z [] (.inr (8, [.null, .null, .null, .null, .null, .null, .null, .null, .null, vI 0, vI 0])) (SL8 Φ) := by
  refine czOk_i (fun _ => Nat.succ_pos _) (fun a h K hK => ?_)
  refine gw_start okX8z (Nat.le_of_ble_eq_true rfl) ?_
  refine gw_aload_n dX8_init_0 rfl rfl ?_
  refine gw_obj dX8_init_1 rfl kw_40 kw_41 kw_42 (by decide) (Nat.le_of_ble_eq_true rfl) ?_
  refine gw_aload_n dX8_init_4 rfl rfl ?_
  refine cz_new cl4 dX8_init_5 rfl kw_43 kw_44 kw_18 dfX4 rfl (by decide) (Nat.le_of_ble_eq_true rfl) ?_
  refine gw_dup dX8_init_8 rfl rfl ?_
  refine cz_IN0 (n := 0) (L' := SL4 Φ) okX4_init dX8_init_9 rfl kw_45 kw_46 rfl ⟨by decide, by decide⟩ ⟨by decide, by decide⟩ (Nat.le_of_ble_eq_true rfl) rfl (fun _ => Nat.succ_pos _) zX4 ?_
  show G Φ mX8z _ (some (a + 1)) 9 440 12 [(0, .ref a)] [.ref (a + 1), .ref a] (hz h a (.inr (8, [.null, .null, .null, .null, .null, .null, .null, .null, .null, vI 0, vI 0]) :: (SL4 Φ (a + 1))))
  refine cz_putF cl8 0 dX8_init_12 rfl kw_234 (by decide) rfl rfl rfl rfl rfl (Nat.le_of_ble_eq_true rfl) ?_
  show G Φ mX8z _ (some (a + 1)) 9 440 15 [(0, .ref a)] [] (hz h a (.inr (8, [.ref (a + 1), .null, .null, .null, .null, .null, .null, .null, .null, vI 0, vI 0]) :: (SL4 Φ (a + 1))))
  refine gw_aload_n dX8_init_15 rfl rfl ?_
  refine cz_new cl4 dX8_init_16 rfl kw_43 kw_44 kw_18 dfX4 rfl (by decide) (Nat.le_of_ble_eq_true rfl) ?_
  refine gw_dup dX8_init_19 rfl rfl ?_
  refine cz_IN0 (n := 9) (L' := SL4 Φ) okX4_init dX8_init_20 rfl kw_45 kw_46 rfl ⟨by decide, by decide⟩ ⟨by decide, by decide⟩ (Nat.le_of_ble_eq_true rfl) rfl (fun _ => Nat.succ_pos _) zX4 ?_
  show G Φ mX8z _ (some (a + 1)) 18 880 23 [(0, .ref a)] [.ref (a + 10), .ref a] (hz h a (.inr (8, [.ref (a + 1), .null, .null, .null, .null, .null, .null, .null, .null, vI 0, vI 0]) :: (SL4 Φ (a + 1) ++ SL4 Φ (a + 10))))
  refine cz_putF cl8 1 dX8_init_23 rfl kw_235 (by decide) rfl rfl rfl rfl rfl (Nat.le_of_ble_eq_true rfl) ?_
  show G Φ mX8z _ (some (a + 1)) 18 880 26 [(0, .ref a)] [] (hz h a (.inr (8, [.ref (a + 1), .ref (a + 10), .null, .null, .null, .null, .null, .null, .null, vI 0, vI 0]) :: (SL4 Φ (a + 1) ++ SL4 Φ (a + 10))))
  refine gw_aload_n dX8_init_26 rfl rfl ?_
  refine cz_new cl4 dX8_init_27 rfl kw_43 kw_44 kw_18 dfX4 rfl (by decide) (Nat.le_of_ble_eq_true rfl) ?_
  refine gw_dup dX8_init_30 rfl rfl ?_
  refine cz_IN0 (n := 18) (L' := SL4 Φ) okX4_init dX8_init_31 rfl kw_45 kw_46 rfl ⟨by decide, by decide⟩ ⟨by decide, by decide⟩ (Nat.le_of_ble_eq_true rfl) rfl (fun _ => Nat.succ_pos _) zX4 ?_
  show G Φ mX8z _ (some (a + 1)) 27 1320 34 [(0, .ref a)] [.ref (a + 19), .ref a] (hz h a (.inr (8, [.ref (a + 1), .ref (a + 10), .null, .null, .null, .null, .null, .null, .null, vI 0, vI 0]) :: ((SL4 Φ (a + 1) ++ SL4 Φ (a + 10)) ++ SL4 Φ (a + 19))))
  refine cz_putF cl8 2 dX8_init_34 rfl kw_236 (by decide) rfl rfl rfl rfl rfl (Nat.le_of_ble_eq_true rfl) ?_
  show G Φ mX8z _ (some (a + 1)) 27 1320 37 [(0, .ref a)] [] (hz h a (.inr (8, [.ref (a + 1), .ref (a + 10), .ref (a + 19), .null, .null, .null, .null, .null, .null, vI 0, vI 0]) :: ((SL4 Φ (a + 1) ++ SL4 Φ (a + 10)) ++ SL4 Φ (a + 19))))
  refine gw_aload_n dX8_init_37 rfl rfl ?_
  refine gw_bipushZ dX8_init_38 rfl (by decide) ?_
  refine cz_newR (n := 6) dX8_init_40 rfl kw_43 kw_146 rfl (by decide) rfl (by decide) (Nat.le_of_ble_eq_true rfl) ?_
  show G Φ mX8z _ (some (a + 1)) 28 1326 43 [(0, .ref a)] [.ref (a + 28), .ref a] (hz h a (.inr (8, [.ref (a + 1), .ref (a + 10), .ref (a + 19), .null, .null, .null, .null, .null, .null, vI 0, vI 0]) :: (((SL4 Φ (a + 1) ++ SL4 Φ (a + 10)) ++ SL4 Φ (a + 19)) ++ [gwR Φ 6 (fun _ => none)])))
  refine cz_putF cl8 3 dX8_init_43 rfl kw_237 (by decide) rfl rfl rfl rfl rfl (Nat.le_of_ble_eq_true rfl) ?_
  show G Φ mX8z _ (some (a + 1)) 28 1326 46 [(0, .ref a)] [] (hz h a (.inr (8, [.ref (a + 1), .ref (a + 10), .ref (a + 19), .ref (a + 28), .null, .null, .null, .null, .null, vI 0, vI 0]) :: (((SL4 Φ (a + 1) ++ SL4 Φ (a + 10)) ++ SL4 Φ (a + 19)) ++ [gwR Φ 6 (fun _ => none)])))
  refine gw_aload_n dX8_init_46 rfl rfl ?_
  refine cz_new cl7 dX8_init_47 rfl kw_147 kw_148 kw_23 dfX7 rfl (by decide) (Nat.le_of_ble_eq_true rfl) ?_
  refine gw_dup dX8_init_50 rfl rfl ?_
  refine cz_IN0 (n := 28) (L' := SL7 Φ) okX7_init dX8_init_51 rfl kw_149 kw_150 rfl ⟨by decide, by decide⟩ ⟨by decide, by decide⟩ (Nat.le_of_ble_eq_true rfl) rfl (fun _ => Nat.succ_pos _) zX7 ?_
  show G Φ mX8z _ (some (a + 1)) 31 1470 54 [(0, .ref a)] [.ref (a + 29), .ref a] (hz h a (.inr (8, [.ref (a + 1), .ref (a + 10), .ref (a + 19), .ref (a + 28), .null, .null, .null, .null, .null, vI 0, vI 0]) :: ((((SL4 Φ (a + 1) ++ SL4 Φ (a + 10)) ++ SL4 Φ (a + 19)) ++ [gwR Φ 6 (fun _ => none)]) ++ SL7 Φ (a + 29))))
  refine cz_putF cl8 4 dX8_init_54 rfl kw_238 (by decide) rfl rfl rfl rfl rfl (Nat.le_of_ble_eq_true rfl) ?_
  show G Φ mX8z _ (some (a + 1)) 31 1470 57 [(0, .ref a)] [] (hz h a (.inr (8, [.ref (a + 1), .ref (a + 10), .ref (a + 19), .ref (a + 28), .ref (a + 29), .null, .null, .null, .null, vI 0, vI 0]) :: ((((SL4 Φ (a + 1) ++ SL4 Φ (a + 10)) ++ SL4 Φ (a + 19)) ++ [gwR Φ 6 (fun _ => none)]) ++ SL7 Φ (a + 29))))
  refine gw_aload_n dX8_init_57 rfl rfl ?_
  refine cz_new cl7 dX8_init_58 rfl kw_147 kw_148 kw_23 dfX7 rfl (by decide) (Nat.le_of_ble_eq_true rfl) ?_
  refine gw_dup dX8_init_61 rfl rfl ?_
  refine cz_IN0 (n := 31) (L' := SL7 Φ) okX7_init dX8_init_62 rfl kw_149 kw_150 rfl ⟨by decide, by decide⟩ ⟨by decide, by decide⟩ (Nat.le_of_ble_eq_true rfl) rfl (fun _ => Nat.succ_pos _) zX7 ?_
  show G Φ mX8z _ (some (a + 1)) 34 1614 65 [(0, .ref a)] [.ref (a + 32), .ref a] (hz h a (.inr (8, [.ref (a + 1), .ref (a + 10), .ref (a + 19), .ref (a + 28), .ref (a + 29), .null, .null, .null, .null, vI 0, vI 0]) :: (((((SL4 Φ (a + 1) ++ SL4 Φ (a + 10)) ++ SL4 Φ (a + 19)) ++ [gwR Φ 6 (fun _ => none)]) ++ SL7 Φ (a + 29)) ++ SL7 Φ (a + 32))))
  refine cz_putF cl8 5 dX8_init_65 rfl kw_239 (by decide) rfl rfl rfl rfl rfl (Nat.le_of_ble_eq_true rfl) ?_
  show G Φ mX8z _ (some (a + 1)) 34 1614 68 [(0, .ref a)] [] (hz h a (.inr (8, [.ref (a + 1), .ref (a + 10), .ref (a + 19), .ref (a + 28), .ref (a + 29), .ref (a + 32), .null, .null, .null, vI 0, vI 0]) :: (((((SL4 Φ (a + 1) ++ SL4 Φ (a + 10)) ++ SL4 Φ (a + 19)) ++ [gwR Φ 6 (fun _ => none)]) ++ SL7 Φ (a + 29)) ++ SL7 Φ (a + 32))))
  refine gw_aload_n dX8_init_68 rfl rfl ?_
  refine cz_new cl3 dX8_init_69 rfl kw_161 kw_162 kw_24 dfX3 rfl (by decide) (Nat.le_of_ble_eq_true rfl) ?_
  refine gw_dup dX8_init_72 rfl rfl ?_
  refine cz_IN0 (n := 34) (L' := SL3 Φ) okX3_init dX8_init_73 rfl kw_163 kw_164 rfl ⟨by decide, by decide⟩ ⟨by decide, by decide⟩ (Nat.le_of_ble_eq_true rfl) rfl (fun _ => Nat.succ_pos _) zX3 ?_
  show G Φ mX8z _ (some (a + 1)) 41 1906 76 [(0, .ref a)] [.ref (a + 35), .ref a] (hz h a (.inr (8, [.ref (a + 1), .ref (a + 10), .ref (a + 19), .ref (a + 28), .ref (a + 29), .ref (a + 32), .null, .null, .null, vI 0, vI 0]) :: ((((((SL4 Φ (a + 1) ++ SL4 Φ (a + 10)) ++ SL4 Φ (a + 19)) ++ [gwR Φ 6 (fun _ => none)]) ++ SL7 Φ (a + 29)) ++ SL7 Φ (a + 32)) ++ SL3 Φ (a + 35))))
  refine cz_putF cl8 6 dX8_init_76 rfl kw_240 (by decide) rfl rfl rfl rfl rfl (Nat.le_of_ble_eq_true rfl) ?_
  show G Φ mX8z _ (some (a + 1)) 41 1906 79 [(0, .ref a)] [] (hz h a (.inr (8, [.ref (a + 1), .ref (a + 10), .ref (a + 19), .ref (a + 28), .ref (a + 29), .ref (a + 32), .ref (a + 35), .null, .null, vI 0, vI 0]) :: ((((((SL4 Φ (a + 1) ++ SL4 Φ (a + 10)) ++ SL4 Φ (a + 19)) ++ [gwR Φ 6 (fun _ => none)]) ++ SL7 Φ (a + 29)) ++ SL7 Φ (a + 32)) ++ SL3 Φ (a + 35))))
  refine gw_aload_n dX8_init_79 rfl rfl ?_
  refine cz_new cl0 dX8_init_80 rfl kw_180 kw_181 kw_25 dfX0 rfl (by decide) (Nat.le_of_ble_eq_true rfl) ?_
  refine gw_dup dX8_init_83 rfl rfl ?_
  refine cz_IN0 (n := 41) (L' := SL0 Φ) okX0_init dX8_init_84 rfl kw_182 kw_183 rfl ⟨by decide, by decide⟩ ⟨by decide, by decide⟩ (Nat.le_of_ble_eq_true rfl) rfl (fun _ => Nat.succ_pos _) zX0 ?_
  show G Φ mX8z _ (some (a + 1)) 44 2051 87 [(0, .ref a)] [.ref (a + 42), .ref a] (hz h a (.inr (8, [.ref (a + 1), .ref (a + 10), .ref (a + 19), .ref (a + 28), .ref (a + 29), .ref (a + 32), .ref (a + 35), .null, .null, vI 0, vI 0]) :: (((((((SL4 Φ (a + 1) ++ SL4 Φ (a + 10)) ++ SL4 Φ (a + 19)) ++ [gwR Φ 6 (fun _ => none)]) ++ SL7 Φ (a + 29)) ++ SL7 Φ (a + 32)) ++ SL3 Φ (a + 35)) ++ SL0 Φ (a + 42))))
  refine cz_putF cl8 7 dX8_init_87 rfl kw_241 (by decide) rfl rfl rfl rfl rfl (Nat.le_of_ble_eq_true rfl) ?_
  show G Φ mX8z _ (some (a + 1)) 44 2051 90 [(0, .ref a)] [] (hz h a (.inr (8, [.ref (a + 1), .ref (a + 10), .ref (a + 19), .ref (a + 28), .ref (a + 29), .ref (a + 32), .ref (a + 35), .ref (a + 42), .null, vI 0, vI 0]) :: (((((((SL4 Φ (a + 1) ++ SL4 Φ (a + 10)) ++ SL4 Φ (a + 19)) ++ [gwR Φ 6 (fun _ => none)]) ++ SL7 Φ (a + 29)) ++ SL7 Φ (a + 32)) ++ SL3 Φ (a + 35)) ++ SL0 Φ (a + 42))))
  refine gw_aload_n dX8_init_90 rfl rfl ?_
  refine cz_new cl5 dX8_init_91 rfl kw_201 kw_202 kw_26 dfX5 rfl (by decide) (Nat.le_of_ble_eq_true rfl) ?_
  refine gw_dup dX8_init_94 rfl rfl ?_
  refine cz_IN0 (n := 44) (L' := SL5 Φ) okX5_init dX8_init_95 rfl kw_203 kw_204 rfl ⟨by decide, by decide⟩ ⟨by decide, by decide⟩ (Nat.le_of_ble_eq_true rfl) rfl (fun _ => Nat.succ_pos _) zX5 ?_
  show G Φ mX8z _ (some (a + 1)) 50 2344 98 [(0, .ref a)] [.ref (a + 45), .ref a] (hz h a (.inr (8, [.ref (a + 1), .ref (a + 10), .ref (a + 19), .ref (a + 28), .ref (a + 29), .ref (a + 32), .ref (a + 35), .ref (a + 42), .null, vI 0, vI 0]) :: ((((((((SL4 Φ (a + 1) ++ SL4 Φ (a + 10)) ++ SL4 Φ (a + 19)) ++ [gwR Φ 6 (fun _ => none)]) ++ SL7 Φ (a + 29)) ++ SL7 Φ (a + 32)) ++ SL3 Φ (a + 35)) ++ SL0 Φ (a + 42)) ++ SL5 Φ (a + 45))))
  refine cz_putF cl8 8 dX8_init_98 rfl kw_242 (by decide) rfl rfl rfl rfl rfl (Nat.le_of_ble_eq_true rfl) ?_
  show G Φ mX8z _ (some (a + 1)) 50 2344 101 [(0, .ref a)] [] (hz h a (.inr (8, [.ref (a + 1), .ref (a + 10), .ref (a + 19), .ref (a + 28), .ref (a + 29), .ref (a + 32), .ref (a + 35), .ref (a + 42), .ref (a + 45), vI 0, vI 0]) :: ((((((((SL4 Φ (a + 1) ++ SL4 Φ (a + 10)) ++ SL4 Φ (a + 19)) ++ [gwR Φ 6 (fun _ => none)]) ++ SL7 Φ (a + 29)) ++ SL7 Φ (a + 32)) ++ SL3 Φ (a + 35)) ++ SL0 Φ (a + 42)) ++ SL5 Φ (a + 45))))
  refine gw_iconstZ dX8_init_101 rfl ?_
  refine gw_istore_n dX8_init_102 rfl (by decide) ?_
  show G Φ mX8z _ (some (a + 1)) 50 2344 103 [(1, vI 0), (0, .ref a)] [] (hz h a (o8 a :: B8 Φ a (fun _ => none)))
  rw [← List.append_nil (B8 Φ a (fun _ => none))]
  refine zX8_s (m := 0) (i := 0) (f := (fun _ => none)) (g := (va_up (fun _ => none) 0 (some (a + 51)))) rfl (by decide) (by decide) (by decide) (fun _ _ => rfl) ?_
  show G Φ mX8z _ (some (a + 1)) 59 2784 103 [(1, vI 1), (0, .ref a)] [] (hz h a (o8 a :: (B8 Φ a (va_up (fun _ => none) 0 (some (a + 51))) ++ ([] ++ SL4 Φ (a + 51)))))
  refine zX8_s (m := 9) (i := 1) (f := (va_up (fun _ => none) 0 (some (a + 51)))) (g := (va_up (va_up (fun _ => none) 0 (some (a + 51))) 1 (some (a + 60)))) rfl (by decide) (by decide) (by decide) (fun _ _ => rfl) ?_
  show G Φ mX8z _ (some (a + 1)) 68 3224 103 [(1, vI 2), (0, .ref a)] [] (hz h a (o8 a :: (B8 Φ a (va_up (va_up (fun _ => none) 0 (some (a + 51))) 1 (some (a + 60))) ++ (([] ++ SL4 Φ (a + 51)) ++ SL4 Φ (a + 60)))))
  refine zX8_s (m := 18) (i := 2) (f := (va_up (va_up (fun _ => none) 0 (some (a + 51))) 1 (some (a + 60)))) (g := (va_up (va_up (va_up (fun _ => none) 0 (some (a + 51))) 1 (some (a + 60))) 2 (some (a + 69)))) rfl (by decide) (by decide) (by decide) (fun _ _ => rfl) ?_
  show G Φ mX8z _ (some (a + 1)) 77 3664 103 [(1, vI 3), (0, .ref a)] [] (hz h a (o8 a :: (B8 Φ a (va_up (va_up (va_up (fun _ => none) 0 (some (a + 51))) 1 (some (a + 60))) 2 (some (a + 69))) ++ ((([] ++ SL4 Φ (a + 51)) ++ SL4 Φ (a + 60)) ++ SL4 Φ (a + 69)))))
  refine zX8_s (m := 27) (i := 3) (f := (va_up (va_up (va_up (fun _ => none) 0 (some (a + 51))) 1 (some (a + 60))) 2 (some (a + 69)))) (g := (va_up (va_up (va_up (va_up (fun _ => none) 0 (some (a + 51))) 1 (some (a + 60))) 2 (some (a + 69))) 3 (some (a + 78)))) rfl (by decide) (by decide) (by decide) (fun _ _ => rfl) ?_
  show G Φ mX8z _ (some (a + 1)) 86 4104 103 [(1, vI 4), (0, .ref a)] [] (hz h a (o8 a :: (B8 Φ a (va_up (va_up (va_up (va_up (fun _ => none) 0 (some (a + 51))) 1 (some (a + 60))) 2 (some (a + 69))) 3 (some (a + 78))) ++ (((([] ++ SL4 Φ (a + 51)) ++ SL4 Φ (a + 60)) ++ SL4 Φ (a + 69)) ++ SL4 Φ (a + 78)))))
  refine zX8_s (m := 36) (i := 4) (f := (va_up (va_up (va_up (va_up (fun _ => none) 0 (some (a + 51))) 1 (some (a + 60))) 2 (some (a + 69))) 3 (some (a + 78)))) (g := (va_up (va_up (va_up (va_up (va_up (fun _ => none) 0 (some (a + 51))) 1 (some (a + 60))) 2 (some (a + 69))) 3 (some (a + 78))) 4 (some (a + 87)))) rfl (by decide) (by decide) (by decide) (fun _ _ => rfl) ?_
  show G Φ mX8z _ (some (a + 1)) 95 4544 103 [(1, vI 5), (0, .ref a)] [] (hz h a (o8 a :: (B8 Φ a (va_up (va_up (va_up (va_up (va_up (fun _ => none) 0 (some (a + 51))) 1 (some (a + 60))) 2 (some (a + 69))) 3 (some (a + 78))) 4 (some (a + 87))) ++ ((((([] ++ SL4 Φ (a + 51)) ++ SL4 Φ (a + 60)) ++ SL4 Φ (a + 69)) ++ SL4 Φ (a + 78)) ++ SL4 Φ (a + 87)))))
  refine zX8_s (m := 45) (i := 5) (f := (va_up (va_up (va_up (va_up (va_up (fun _ => none) 0 (some (a + 51))) 1 (some (a + 60))) 2 (some (a + 69))) 3 (some (a + 78))) 4 (some (a + 87)))) (g := (fun j => some (a + (51 + 9 * (j : Int)).toNat))) rfl (by decide) (by decide) (by decide) (fun j hj => match j, hj with | 0, _ => rfl | 1, _ => rfl | 2, _ => rfl | 3, _ => rfl | 4, _ => rfl | 5, _ => rfl | q + 6, hj => absurd hj (by omega)) ?_
  show G Φ mX8z _ (some (a + 1)) 104 4984 103 [(1, vI 6), (0, .ref a)] [] (hz h a (o8 a :: (B8 Φ a (fun j => some (a + (51 + 9 * (j : Int)).toNat)) ++ (((((([] ++ SL4 Φ (a + 51)) ++ SL4 Φ (a + 60)) ++ SL4 Φ (a + 69)) ++ SL4 Φ (a + 78)) ++ SL4 Φ (a + 87)) ++ SL4 Φ (a + 96)))))
  refine gw_iload_n dX8_init_103 rfl rfl ?_
  refine gw_aload_n dX8_init_104 rfl rfl ?_
  refine cz_get cl8 3 dX8_init_105 rfl kw_237 (by decide) rfl ?_
  refine gw_alenR (n := 6) (f := (fun j => some (a + (51 + 9 * (j : Int)).toNat))) dX8_init_108 rfl (hz_at (k := 28) B8_at) ?_
  refine gw_icmp_geZ (tgt := 131) dX8_init_109 rfl (by decide) (by decide) (by decide) (fun _ => ?_) (fun q => absurd q (by decide))
  exact gw_vret dX8_init_131 rfl (by decide) (Nat.le_of_ble_eq_true rfl) hK
end CZ
