section CG
def tgF : Nat → Nat := fun q => [308, 364, 432, 488, 568, 636, 692, 705, 773, 817, 830, 886, 942, 955, 968, 1012, 1056, 1100, 1113, 1157, 1170, 1183, 1196, 1252, 1320, 1376, 1389, 1445, 1508, 1521, 1534, 1547, 1560, 1573, 1640, 1707, 1762, 1817, 1831, 1845, 1900, 1955, 1996, 2051, 2106, 2161, 2216, 2230, 2244, 2288, 2343, 2398, 2411, 2424, 2438, 2452, 2520, 2564, 2608, 2621, 2677, 2733, 2800, 2867].getD q 0
section
variable {Φ : gwC} {hb : gwHp} {M b L B : Nat} {xs : Nat → Int32} {Z : gwE} {x : Option Nat}
set_option maxRecDepth 100000 in
set_option maxHeartbeats 4000000 in
/-- the loop over the script -/
theorem law_loop (hB : Φ.2.1 = B) (h2048 : L ≤ 2048) (hZ : ∀ (cells slots : Nat) (lv : List (Nat × Value)) (c : W0), cells ≤ 20000 → slots ≤ 200000 → G Φ mL_law (E9 Z b L xs B) x cells slots 2887 lv [] (hp Φ hb M shA c)) : ∀ (n j cells slots : Nat) (z : St) (c : W0) (lv : List (Nat × Value)), (L : Int) < 4 * ((j : Int) + (n : Int)) → j ≤ 512 → LI (50 * (j : Int)) z → CI 0 z c → MI 105 z c → cells ≤ 200 + 20 * j → slots ≤ 20000 + 100 * j → lvA lv (lvL M b (4 * (j : Int))) → G Φ mL_law (E9 Z b L xs B) x cells slots 23 lv [] (hp Φ hb M shA c) := by
  intro n
  induction n with
  | zero =>
    intro j cells slots z c lv hn hj hL hC hM hc hs hlv
    refine gw_L ?_ hlv
    refine gw_iload dL_law_23 rfl rfl ?_
    refine gw_aload_n dL_law_25 rfl rfl ?_
    refine gl_slenZ hB dL_law_26 rfl ?_
    refine gw_iconstZ dL_law_27 rfl ?_
    refine gw_isubZ dL_law_28 rfl ?_
    refine gw_icmp_gtZ (tgt := 2887) dL_law_29 rfl (by decide) ⟨by omega, by omega⟩ ⟨by omega, by omega⟩ (fun q => ?_) (fun q => absurd q (by omega))
    exact hZ _ _ _ _ (by omega) (by omega)
  | succ n ih =>
    intro j cells slots z c lv hn hj hL hC hM hc hs hlv
    refine gw_L ?_ hlv
    refine gw_iload dL_law_23 rfl rfl ?_
    refine gw_aload_n dL_law_25 rfl rfl ?_
    refine gl_slenZ hB dL_law_26 rfl ?_
    refine gw_iconstZ dL_law_27 rfl ?_
    refine gw_isubZ dL_law_28 rfl ?_
    refine gw_icmp_gtZ (tgt := 2887) dL_law_29 rfl (by decide) ⟨by omega, by omega⟩ ⟨by omega, by omega⟩ (fun q => ?_) (fun q => ?_)
    · exact hZ _ _ _ _ (by omega) (by omega)
    · have hi : 0 ≤ 4 * (j : Int) ∧ 4 * (j : Int) + 4 ≤ (L : Int) := ⟨by omega, by omega⟩
      have hK : 50 * (j : Int) ≤ 1000000 := by omega
      have hc1 : cells + 20 ≤ 601024 := by omega
      have hs1 : slots + 100 ≤ 7293034 := by omega
      have k : LK Φ hb M b L xs Z B x (4 * (j : Int)) (50 * (j : Int)) cells slots := by
        intro z' c' cells' slots' lv' hL' hC' hM' hc' hs' hlv'
        refine gw_L ?_ hlv'
        refine gw_iincZ dL_law_2881 rfl rfl (by decide) ?_
        refine gw_goto (tgt := 23) dL_law_2884 (by decide) ?_
        refine ih (j + 1) cells' slots' z' c' _ (by omega) (by omega) (hL'.mo (by omega)) hC' hM' (by omega) (by omega) ?_
        rw [show 4 * ((j + 1 : Nat) : Int) = 4 * (j : Int) + 4 by omega]
        exact lvA_c rfl (lvA_c rfl (lvA_c rfl (lvA_c rfl (lvA_c rfl lvA_n))))
      refine gw_aload_n dL_law_32 rfl rfl ?_
      refine gw_iload dL_law_33 rfl rfl ?_
      refine gl_sldZ hB ⟨by omega, by omega⟩ h2048 dL_law_35 rfl ?_
      refine gw_bipush (v := 63) dL_law_36 rfl (by decide) ?_
      refine gw_iand dL_law_38 rfl ?_
      refine gl_table (tg := tgF) (and63 _) dL_law_39 (by decide +kernel) (fun q hq => ?_)
      match q, hq with
      | 0, _ => exact lc_0 hB hi h2048 hc1 hs1 hK hL hC hM k
      | 1, _ => exact lc_1 hB hi h2048 hc1 hs1 hK hL hC hM k
      | 2, _ => exact lc_2 hB hi h2048 hc1 hs1 hK hL hC hM k
      | 3, _ => exact lc_3 hB hi h2048 hc1 hs1 hK hL hC hM k
      | 4, _ => exact lc_4 hB hi h2048 hc1 hs1 hK hL hC hM k
      | 5, _ => exact lc_5 hB hi h2048 hc1 hs1 hK hL hC hM k
      | 6, _ => exact lc_6 hB hi h2048 hc1 hs1 hK hL hC hM k
      | 7, _ => exact lc_7 hB hi h2048 hc1 hs1 hK hL hC hM k
      | 8, _ => exact lc_8 hB hi h2048 hc1 hs1 hK hL hC hM k
      | 9, _ => exact lc_9 hB hi h2048 hc1 hs1 hK hL hC hM k
      | 10, _ => exact lc_10 hB hi h2048 hc1 hs1 hK hL hC hM k
      | 11, _ => exact lc_11 hB hi h2048 hc1 hs1 hK hL hC hM k
      | 12, _ => exact lc_12 hB hi h2048 hc1 hs1 hK hL hC hM k
      | 13, _ => exact lc_13 hB hi h2048 hc1 hs1 hK hL hC hM k
      | 14, _ => exact lc_14 hB hi h2048 hc1 hs1 hK hL hC hM k
      | 15, _ => exact lc_15 hB hi h2048 hc1 hs1 hK hL hC hM k
      | 16, _ => exact lc_16 hB hi h2048 hc1 hs1 hK hL hC hM k
      | 17, _ => exact lc_17 hB hi h2048 hc1 hs1 hK hL hC hM k
      | 18, _ => exact lc_18 hB hi h2048 hc1 hs1 hK hL hC hM k
      | 19, _ => exact lc_19 hB hi h2048 hc1 hs1 hK hL hC hM k
      | 20, _ => exact lc_20 hB hi h2048 hc1 hs1 hK hL hC hM k
      | 21, _ => exact lc_21 hB hi h2048 hc1 hs1 hK hL hC hM k
      | 22, _ => exact lc_22 hB hi h2048 hc1 hs1 hK hL hC hM k
      | 23, _ => exact lc_23 hB hi h2048 hc1 hs1 hK hL hC hM k
      | 24, _ => exact lc_24 hB hi h2048 hc1 hs1 hK hL hC hM k
      | 25, _ => exact lc_25 hB hi h2048 hc1 hs1 hK hL hC hM k
      | 26, _ => exact lc_26 hB hi h2048 hc1 hs1 hK hL hC hM k
      | 27, _ => exact lc_27 hB hi h2048 hc1 hs1 hK hL hC hM k
      | 28, _ => exact lc_28 hB hi h2048 hc1 hs1 hK hL hC hM k
      | 29, _ => exact lc_29 hB hi h2048 hc1 hs1 hK hL hC hM k
      | 30, _ => exact lc_30 hB hi h2048 hc1 hs1 hK hL hC hM k
      | 31, _ => exact lc_31 hB hi h2048 hc1 hs1 hK hL hC hM k
      | 32, _ => exact lc_32 hB hi h2048 hc1 hs1 hK hL hC hM k
      | 33, _ => exact lc_33 hB hi h2048 hc1 hs1 hK hL hC hM k
      | 34, _ => exact lc_34 hB hi h2048 hc1 hs1 hK hL hC hM k
      | 35, _ => exact lc_35 hB hi h2048 hc1 hs1 hK hL hC hM k
      | 36, _ => exact lc_36 hB hi h2048 hc1 hs1 hK hL hC hM k
      | 37, _ => exact lc_37 hB hi h2048 hc1 hs1 hK hL hC hM k
      | 38, _ => exact lc_38 hB hi h2048 hc1 hs1 hK hL hC hM k
      | 39, _ => exact lc_39 hB hi h2048 hc1 hs1 hK hL hC hM k
      | 40, _ => exact lc_40 hB hi h2048 hc1 hs1 hK hL hC hM k
      | 41, _ => exact lc_41 hB hi h2048 hc1 hs1 hK hL hC hM k
      | 42, _ => exact lc_42 hB hi h2048 hc1 hs1 hK hL hC hM k
      | 43, _ => exact lc_43 hB hi h2048 hc1 hs1 hK hL hC hM k
      | 44, _ => exact lc_44 hB hi h2048 hc1 hs1 hK hL hC hM k
      | 45, _ => exact lc_45 hB hi h2048 hc1 hs1 hK hL hC hM k
      | 46, _ => exact lc_46 hB hi h2048 hc1 hs1 hK hL hC hM k
      | 47, _ => exact lc_47 hB hi h2048 hc1 hs1 hK hL hC hM k
      | 48, _ => exact lc_48 hB hi h2048 hc1 hs1 hK hL hC hM k
      | 49, _ => exact lc_49 hB hi h2048 hc1 hs1 hK hL hC hM k
      | 50, _ => exact lc_50 hB hi h2048 hc1 hs1 hK hL hC hM k
      | 51, _ => exact lc_51 hB hi h2048 hc1 hs1 hK hL hC hM k
      | 52, _ => exact lc_52 hB hi h2048 hc1 hs1 hK hL hC hM k
      | 53, _ => exact lc_53 hB hi h2048 hc1 hs1 hK hL hC hM k
      | 54, _ => exact lc_54 hB hi h2048 hc1 hs1 hK hL hC hM k
      | 55, _ => exact lc_55 hB hi h2048 hc1 hs1 hK hL hC hM k
      | 56, _ => exact lc_56 hB hi h2048 hc1 hs1 hK hL hC hM k
      | 57, _ => exact lc_57 hB hi h2048 hc1 hs1 hK hL hC hM k
      | 58, _ => exact lc_58 hB hi h2048 hc1 hs1 hK hL hC hM k
      | 59, _ => exact lc_59 hB hi h2048 hc1 hs1 hK hL hC hM k
      | 60, _ => exact lc_60 hB hi h2048 hc1 hs1 hK hL hC hM k
      | 61, _ => exact lc_61 hB hi h2048 hc1 hs1 hK hL hC hM k
      | 62, _ => exact lc_62 hB hi h2048 hc1 hs1 hK hL hC hM k
      | 63, _ => exact lc_63 hB hi h2048 hc1 hs1 hK hL hC hM k
      | q + 64, hq => exact absurd hq (by omega)
end
section
variable {h : gwHp} {a n : Nat} {e o : va_E} {L L' : List va_E}
theorem hz_nil : hz h a [] = h := by
  funext q
  unfold hz
  by_cases h1 : a ≤ q
  · rw [if_pos h1]
    rfl
  · rw [if_neg h1]
theorem hz_up0 (hp : 0 < L'.length) : hz (gw_up h a e) a L' = hz h a L' := by
  have e1 := hz_two (h := h) (a := a) (L := []) (n := 0) (e := e) (L' := L') rfl hp
  rw [hz_nil] at e1
  exact e1
theorem hz_low0 (hL : L.length = n + 1) : gw_low (hz h a L) a (n + 1) := by
  refine Or.inr ⟨L[n]'(by omega), ?_⟩
  rw [show a + (n + 1 - 1) = a + n by omega]
  exact hz_at (List.getElem?_eq_getElem _)
end
set_option maxRecDepth 100000 in
theorem SL8_len {Φ : gwC} {a : Nat} : (SL8 Φ a).length = 105 := rfl
set_option maxRecDepth 100000 in
theorem SL9_len {Φ : gwC} {a : Nat} : (SL9 Φ a).length = 15 := rfl
set_option maxRecDepth 100000 in
set_option maxHeartbeats 4000000 in
/-- from the entry to the loop's head -/
theorem law_start {Φ : gwC} {M b L B : Nat} {xs : Nat → Int32} {Z : gwE} (hB : Φ.2.1 = B) (h2048 : L ≤ 2048) (hZ : ∀ (cells slots : Nat) (lv : List (Nat × Value)) (c : W0), cells ≤ 20000 → slots ≤ 200000 → G Φ mL_law (E9 Z b L xs B) (some M) cells slots 2887 lv [] (hp Φ (fun _ => none) M shA c)) : G Φ mL_law (E9 Z b L xs B) (some M) 0 0 0 [(0, .ref b)] [] (fun _ => none) := by
  refine gw_new (M := M) (cells := 0) cl8 dL_law_0 rfl kw_119 kw_120 kw_100 dfX8 (Or.inl rfl) (Nat.le_of_ble_eq_true rfl) (Nat.le_of_ble_eq_true rfl) ?_
  refine gw_dup dL_law_3 rfl rfl ?_
  refine gw_I0 (M := M) (x' := some (M + 1)) okX8z dL_law_4 (Or.inr ⟨rfl, rfl, Or.inr ⟨_, gw_us⟩⟩) rfl kw_121 kw_122 rfl ⟨Nat.le_of_ble_eq_true rfl, Nat.le_of_ble_eq_true rfl⟩ ⟨Nat.le_of_ble_eq_true rfl, Nat.le_of_ble_eq_true rfl⟩ (Nat.le_of_ble_eq_true rfl) (zX8 _ _ _ gw_us ?_)
  show G Φ mL_law _ (some M) 105 4995 7 [(0, .ref b)] [.ref (M + 0)] (hz (gw_up (fun _ => none) M (.inr (8, [.null, .null, .null, .null, .null, .null, .null, .null, .null, vI 0, vI 0]))) M (SL8 Φ M))
  rw [hz_up0 (by rw [SL8_len]; omega)]
  refine gw_astore_n dL_law_7 rfl (by decide) ?_
  show G Φ mL_law _ (some M) 105 4995 8 [(1, .ref (M + 0)), (0, .ref b)] [] (hz (fun _ => none) M (SL8 Φ M))
  refine gw_new (M := M) (cells := 105) cl9 dL_law_8 rfl kw_1313 kw_1314 kw_110 dfX9 (hz_low0 SL8_len) (Nat.le_of_ble_eq_true rfl) (Nat.le_of_ble_eq_true rfl) ?_
  refine gw_dup dL_law_11 rfl rfl ?_
  refine gw_I0 (M := M) (x' := some (M + 106)) okX9z dL_law_12 (Or.inr ⟨rfl, rfl, Or.inr ⟨_, gw_us⟩⟩) rfl kw_1315 kw_1316 rfl ⟨Nat.le_of_ble_eq_true rfl, Nat.le_of_ble_eq_true rfl⟩ ⟨Nat.le_of_ble_eq_true rfl, Nat.le_of_ble_eq_true rfl⟩ (Nat.le_of_ble_eq_true rfl) (zX9 _ _ _ gw_us ?_)
  rw [hz_two (n := 105) SL8_len (by rw [SL9_len]; omega)]
  refine gw_astore_n dL_law_15 rfl (by decide) ?_
  show G Φ mL_law _ (some M) 120 5787 16 [(2, .ref (M + 105)), (1, .ref (M + 0)), (0, .ref b)] [] (hz (fun _ => none) M (SL8 Φ M ++ SL9 Φ (M + 105)))
  have h120 : (SL8 Φ M ++ SL9 Φ (M + 105)).length = 120 := by rw [List.length_append, SL8_len, SL9_len]
  refine gw_iconstZ dL_law_16 rfl ?_
  refine gw_newL (M := M) (cells := 120) (N' := 1) dL_law_17 rfl kw_155 (by decide) (by decide) (by decide) (hz_low0 h120) (Nat.le_of_ble_eq_true rfl) (Nat.le_of_ble_eq_true rfl) ?_
  rw [hz_app h120]
  refine gw_astore_n dL_law_19 rfl (by decide) ?_
  refine gw_iconstZ dL_law_20 rfl ?_
  refine gw_istore dL_law_21 rfl (by decide) ?_
  show G Φ mL_law _ (some M) 121 5788 23 [(4, vI 0), (3, .ref (M + 120)), (2, .ref (M + 105)), (1, .ref (M + 0)), (0, .ref b)] [] (hz (fun _ => none) M ((SL8 Φ M ++ SL9 Φ (M + 105)) ++ [gwLz Φ 1 (fun _ => 0)]))
  rw [PA_e, hz_hp]
  exact law_loop hB h2048 hZ 513 0 121 5788 zA cA0 _ (by omega) (by omega) zA_L zA_C zA_M (by omega) (by omega) (lvA_c rfl (lvA_c rfl (lvA_c rfl (lvA_c rfl (lvA_c rfl lvA_n)))))
end CG
