section CF
set_option maxRecDepth 100000 in
set_option maxHeartbeats 4000000 in
theorem lc_16 {Φ : gwC} {hb : gwHp} {M b L B : Nat} {xs : Nat → Int32} {Z : gwE} {x : Option Nat} {i K : Int} {z : St} {c : W0} {cells slots : Nat} (hB : Φ.2.1 = B) (hi : 0 ≤ i ∧ i + 4 ≤ (L : Int)) (h2048 : L ≤ 2048) (hc : cells + 20 ≤ 601024) (hs : slots + 100 ≤ 7293034) (hK : K ≤ 1000000) (hL : LI K z) (hC : CI 0 z c) (hM : MI 105 z c) (k : LK Φ hb M b L xs Z B x i K cells slots) : G Φ mL_law (E9 Z b L xs B) x cells slots 1056 (lvL M b i) [] (hp Φ hb M shA c) := by
  obtain ⟨e, v, t, z', h1, h2, h3, h4⟩ := pr_undo hL
  obtain ⟨c1, e1, f1, g1⟩ := h1 c hC
  have hM1 := W_c f1 hM
  have hcs : (e = 0 ∧ t = 0) ∨ (e = 2 ∧ t = 1) := by simpa using h4
  have tail : ∀ c2, CI 0 z' c2 → MI 105 z c2 → (t = 0 → c2 120 0 = w32 v) → G Φ mL_law (E9 Z b L xs B) x (cells + 1) (slots + 6) 1061 (lvL M b i) [vI t] (hp Φ hb M shA c2) := by
    intro c2 hC2 hM2 ho
    obtain ⟨c3, e3, f3, g3, t3⟩ := h2 c2 hM2
    refine gw_istore dL_law_1061 rfl (by decide) ?_
    refine gw_aload_n dL_law_1063 rfl rfl ?_
    refine gw_V0 okX9_undo dL_law_1064 kw_1655 kw_1656 kw_1657 (hp_o shA_M.1) rfl ⟨Nat.le_of_ble_eq_true rfl, Nat.le_of_ble_eq_true rfl⟩ ⟨show cells + 1 + 0 ≤ 601024 by omega, show slots + 6 + 0 ≤ 7293034 by omega⟩ (Nat.le_of_ble_eq_true rfl) (w_X9_undo shA_M e3 ?_)
    refine gw_istore dL_law_1067 rfl (by decide) ?_
    refine gw_aload_n dL_law_1069 rfl rfl ?_
    refine gw_V0 okX9_thrown dL_law_1070 kw_1405 kw_1406 kw_1407 (hp_o shA_M.1) rfl ⟨Nat.le_of_ble_eq_true rfl, Nat.le_of_ble_eq_true rfl⟩ ⟨show cells + 1 + 0 + 0 ≤ 601024 by omega, show slots + 6 + 0 + 0 ≤ 7293034 by omega⟩ (Nat.le_of_ble_eq_true rfl) (w_X9_thrown shA_M (thr9 t3) ?_)
    refine gw_iload dL_law_1073 rfl rfl ?_
    refine gw_icmp_eq (tgt := 1080) dL_law_1075 rfl (by decide) (fun _ => ?_) (fun q => absurd rfl q)
    refine gw_iload dL_law_1080 rfl rfl ?_
    refine gw_if_neZ (tgt := 1097) dL_law_1082 rfl (by decide) ⟨by omega, by omega⟩ (fun q => ?_) (fun q => ?_)
    · refine gw_goto (tgt := 2881) dL_law_1097 (by decide) ?_
      exact k z' c3 _ _ _ h3 (W_m f3 hC2) g3 (show cells + 1 + 0 + 0 ≤ cells + 20 by omega) (show slots + 6 + 0 + 0 ≤ slots + 100 by omega) (lvA_c rfl (lvA_c rfl (lvA_c rfl (lvA_c rfl (lvA_c rfl lvA_n)))))
    · skip
      refine gw_aload_n dL_law_1085 rfl rfl ?_
      refine gw_iconstZ dL_law_1086 rfl ?_
      have hv : c3 120 0 = w32 v := by rw [f3 120 (Or.inr (by decide))]; exact ho q
      refine gs_laldE dL_law_1087 rfl shA_o (by decide) (by decide) hv ?_
      refine gw_iload dL_law_1088 rfl rfl ?_
      refine gw_i2lW dL_law_1090 rfl ?_
      refine gw_lc_eq (tgt := 1097) dL_law_1091 rfl dL_law_1092 rfl (by decide) (fun _ => ?_) (fun q => absurd rfl q)
      refine gw_goto (tgt := 2881) dL_law_1097 (by decide) ?_
      exact k z' c3 _ _ _ h3 (W_m f3 hC2) g3 (show cells + 1 + 0 + 0 ≤ cells + 20 by omega) (show slots + 6 + 0 + 0 ≤ slots + 100 by omega) (lvA_c rfl (lvA_c rfl (lvA_c rfl (lvA_c rfl (lvA_c rfl lvA_n)))))
  refine gw_aload_n dL_law_1056 rfl rfl ?_
  refine gw_aload_n dL_law_1057 rfl rfl ?_
  refine gw_SH2 okL_undo dL_law_1058 kw_1114 kw_1115 ⟨Nat.le_of_ble_eq_true rfl, Nat.le_of_ble_eq_true rfl⟩ ⟨show cells + 1 ≤ 601024 by omega, show slots + 6 ≤ 7293034 by omega⟩ (Nat.le_of_ble_eq_true rfl) (v_undo shA_D shA_o e1 hcs (fun e0 => ?_) (fun e0 => ?_))
  · have t0 : t = 0 := by omega
    have T := tail (upc c1 120 (updZ (c1 120) 0 (w32 v))) (W_o g1) (W_oM hM1) (fun _ => by rw [upc_s, updZ_s])
    rw [t0] at T
    exact T
  · exact tail c1 g1 hM1 (fun t0 => absurd t0 (by omega))
set_option maxRecDepth 100000 in
set_option maxHeartbeats 4000000 in
theorem lc_17 {Φ : gwC} {hb : gwHp} {M b L B : Nat} {xs : Nat → Int32} {Z : gwE} {x : Option Nat} {i K : Int} {z : St} {c : W0} {cells slots : Nat} (hB : Φ.2.1 = B) (hi : 0 ≤ i ∧ i + 4 ≤ (L : Int)) (h2048 : L ≤ 2048) (hc : cells + 20 ≤ 601024) (hs : slots + 100 ≤ 7293034) (hK : K ≤ 1000000) (hL : LI K z) (hC : CI 0 z c) (hM : MI 105 z c) (k : LK Φ hb M b L xs Z B x i K cells slots) : G Φ mL_law (E9 Z b L xs B) x cells slots 1100 (lvL M b i) [] (hp Φ hb M shA c) := by
  obtain ⟨v, z', h1, h2, h3⟩ := pr_keep hL
  obtain ⟨c1, e1, f1, g1⟩ := h1 c hC
  obtain ⟨c2, e2, f2, g2, -⟩ := h2 c1 (W_c f1 hM)
  refine gw_aload_n dL_law_1100 rfl rfl ?_
  refine gw_V0 okX8_keep dL_law_1101 kw_564 kw_565 kw_566 (hp_o shA_D.1) rfl ⟨Nat.le_of_ble_eq_true rfl, Nat.le_of_ble_eq_true rfl⟩ ⟨show cells + 0 ≤ 601024 by omega, show slots + 0 ≤ 7293034 by omega⟩ (Nat.le_of_ble_eq_true rfl) (w_X8_keep shA_D e1 ?_)
  refine gw_aload_n dL_law_1104 rfl rfl ?_
  refine gw_V0 okX9_keep dL_law_1105 kw_1659 kw_1660 kw_1661 (hp_o shA_M.1) rfl ⟨Nat.le_of_ble_eq_true rfl, Nat.le_of_ble_eq_true rfl⟩ ⟨show cells + 0 + 0 ≤ 601024 by omega, show slots + 0 + 0 ≤ 7293034 by omega⟩ (Nat.le_of_ble_eq_true rfl) (w_X9_keep shA_M e2 ?_)
  refine gw_icmp_eq (tgt := 2881) dL_law_1108 rfl (by decide) (fun _ => ?_) (fun q => absurd rfl q)
  exact k z' c2 _ _ _ h3 (W_m f2 g1) g2 (show cells + 0 + 0 ≤ cells + 20 by omega) (show slots + 0 + 0 ≤ slots + 100 by omega) (lvA_c rfl (lvA_c rfl (lvA_c rfl (lvA_c rfl (lvA_c rfl lvA_n)))))
set_option maxRecDepth 100000 in
set_option maxHeartbeats 4000000 in
theorem lc_18 {Φ : gwC} {hb : gwHp} {M b L B : Nat} {xs : Nat → Int32} {Z : gwE} {x : Option Nat} {i K : Int} {z : St} {c : W0} {cells slots : Nat} (hB : Φ.2.1 = B) (hi : 0 ≤ i ∧ i + 4 ≤ (L : Int)) (h2048 : L ≤ 2048) (hc : cells + 20 ≤ 601024) (hs : slots + 100 ≤ 7293034) (hK : K ≤ 1000000) (hL : LI K z) (hC : CI 0 z c) (hM : MI 105 z c) (k : LK Φ hb M b L xs Z B x i K cells slots) : G Φ mL_law (E9 Z b L xs B) x cells slots 1113 (lvL M b i) [] (hp Φ hb M shA c) := by
  obtain ⟨e, v, t, z', h1, h2, h3, h4⟩ := pr_restore hL
  obtain ⟨c1, e1, f1, g1⟩ := h1 c hC
  have hM1 := W_c f1 hM
  have hcs : (e = 0 ∧ t = 0) ∨ (e = 2 ∧ t = 1) := by simpa using h4
  have tail : ∀ c2, CI 0 z' c2 → MI 105 z c2 → (t = 0 → c2 120 0 = w32 v) → G Φ mL_law (E9 Z b L xs B) x (cells + 1) (slots + 6) 1118 (lvL M b i) [vI t] (hp Φ hb M shA c2) := by
    intro c2 hC2 hM2 ho
    obtain ⟨c3, e3, f3, g3, t3⟩ := h2 c2 hM2
    refine gw_istore dL_law_1118 rfl (by decide) ?_
    refine gw_aload_n dL_law_1120 rfl rfl ?_
    refine gw_V0 okX9_restore dL_law_1121 kw_1663 kw_1664 kw_1665 (hp_o shA_M.1) rfl ⟨Nat.le_of_ble_eq_true rfl, Nat.le_of_ble_eq_true rfl⟩ ⟨show cells + 1 + 0 ≤ 601024 by omega, show slots + 6 + 0 ≤ 7293034 by omega⟩ (Nat.le_of_ble_eq_true rfl) (w_X9_restore shA_M e3 ?_)
    refine gw_istore dL_law_1124 rfl (by decide) ?_
    refine gw_aload_n dL_law_1126 rfl rfl ?_
    refine gw_V0 okX9_thrown dL_law_1127 kw_1405 kw_1406 kw_1407 (hp_o shA_M.1) rfl ⟨Nat.le_of_ble_eq_true rfl, Nat.le_of_ble_eq_true rfl⟩ ⟨show cells + 1 + 0 + 0 ≤ 601024 by omega, show slots + 6 + 0 + 0 ≤ 7293034 by omega⟩ (Nat.le_of_ble_eq_true rfl) (w_X9_thrown shA_M (thr9 t3) ?_)
    refine gw_iload dL_law_1130 rfl rfl ?_
    refine gw_icmp_eq (tgt := 1137) dL_law_1132 rfl (by decide) (fun _ => ?_) (fun q => absurd rfl q)
    refine gw_iload dL_law_1137 rfl rfl ?_
    refine gw_if_neZ (tgt := 1154) dL_law_1139 rfl (by decide) ⟨by omega, by omega⟩ (fun q => ?_) (fun q => ?_)
    · refine gw_goto (tgt := 2881) dL_law_1154 (by decide) ?_
      exact k z' c3 _ _ _ h3 (W_m f3 hC2) g3 (show cells + 1 + 0 + 0 ≤ cells + 20 by omega) (show slots + 6 + 0 + 0 ≤ slots + 100 by omega) (lvA_c rfl (lvA_c rfl (lvA_c rfl (lvA_c rfl (lvA_c rfl lvA_n)))))
    · skip
      refine gw_aload_n dL_law_1142 rfl rfl ?_
      refine gw_iconstZ dL_law_1143 rfl ?_
      have hv : c3 120 0 = w32 v := by rw [f3 120 (Or.inr (by decide))]; exact ho q
      refine gs_laldE dL_law_1144 rfl shA_o (by decide) (by decide) hv ?_
      refine gw_iload dL_law_1145 rfl rfl ?_
      refine gw_i2lW dL_law_1147 rfl ?_
      refine gw_lc_eq (tgt := 1154) dL_law_1148 rfl dL_law_1149 rfl (by decide) (fun _ => ?_) (fun q => absurd rfl q)
      refine gw_goto (tgt := 2881) dL_law_1154 (by decide) ?_
      exact k z' c3 _ _ _ h3 (W_m f3 hC2) g3 (show cells + 1 + 0 + 0 ≤ cells + 20 by omega) (show slots + 6 + 0 + 0 ≤ slots + 100 by omega) (lvA_c rfl (lvA_c rfl (lvA_c rfl (lvA_c rfl (lvA_c rfl lvA_n)))))
  refine gw_aload_n dL_law_1113 rfl rfl ?_
  refine gw_aload_n dL_law_1114 rfl rfl ?_
  refine gw_SH2 okL_restore dL_law_1115 kw_1122 kw_1123 ⟨Nat.le_of_ble_eq_true rfl, Nat.le_of_ble_eq_true rfl⟩ ⟨show cells + 1 ≤ 601024 by omega, show slots + 6 ≤ 7293034 by omega⟩ (Nat.le_of_ble_eq_true rfl) (v_restore shA_D shA_o e1 hcs (fun e0 => ?_) (fun e0 => ?_))
  · have t0 : t = 0 := by omega
    have T := tail (upc c1 120 (updZ (c1 120) 0 (w32 v))) (W_o g1) (W_oM hM1) (fun _ => by rw [upc_s, updZ_s])
    rw [t0] at T
    exact T
  · exact tail c1 g1 hM1 (fun t0 => absurd t0 (by omega))
set_option maxRecDepth 100000 in
set_option maxHeartbeats 4000000 in
theorem lc_19 {Φ : gwC} {hb : gwHp} {M b L B : Nat} {xs : Nat → Int32} {Z : gwE} {x : Option Nat} {i K : Int} {z : St} {c : W0} {cells slots : Nat} (hB : Φ.2.1 = B) (hi : 0 ≤ i ∧ i + 4 ≤ (L : Int)) (h2048 : L ≤ 2048) (hc : cells + 20 ≤ 601024) (hs : slots + 100 ≤ 7293034) (hK : K ≤ 1000000) (hL : LI K z) (hC : CI 0 z c) (hM : MI 105 z c) (k : LK Φ hb M b L xs Z B x i K cells slots) : G Φ mL_law (E9 Z b L xs B) x cells slots 1157 (lvL M b i) [] (hp Φ hb M shA c) := by
  obtain ⟨v, h1, h2⟩ := pr_savedStates (z := z)
  have e1 := h1 c hC
  obtain ⟨c2, e2, f2, g2, -⟩ := h2 c hM
  refine gw_aload_n dL_law_1157 rfl rfl ?_
  refine gw_V0 okX8_savedStates dL_law_1158 kw_568 kw_569 kw_570 (hp_o shA_D.1) rfl ⟨Nat.le_of_ble_eq_true rfl, Nat.le_of_ble_eq_true rfl⟩ ⟨show cells + 0 ≤ 601024 by omega, show slots + 0 ≤ 7293034 by omega⟩ (Nat.le_of_ble_eq_true rfl) (w_X8_savedStates shA_D e1 ?_)
  refine gw_aload_n dL_law_1161 rfl rfl ?_
  refine gw_V0 okX9_savedStates dL_law_1162 kw_1667 kw_1668 kw_1669 (hp_o shA_M.1) rfl ⟨Nat.le_of_ble_eq_true rfl, Nat.le_of_ble_eq_true rfl⟩ ⟨show cells + 0 + 0 ≤ 601024 by omega, show slots + 0 + 0 ≤ 7293034 by omega⟩ (Nat.le_of_ble_eq_true rfl) (w_X9_savedStates shA_M e2 ?_)
  refine gw_icmp_eq (tgt := 2881) dL_law_1165 rfl (by decide) (fun _ => ?_) (fun q => absurd rfl q)
  exact k z c2 _ _ _ (li5 hL) (W_m f2 hC) g2 (show cells + 0 + 0 ≤ cells + 20 by omega) (show slots + 0 + 0 ≤ slots + 100 by omega) (lvA_c rfl (lvA_c rfl (lvA_c rfl (lvA_c rfl (lvA_c rfl lvA_n)))))
set_option maxRecDepth 100000 in
set_option maxHeartbeats 4000000 in
theorem lc_20 {Φ : gwC} {hb : gwHp} {M b L B : Nat} {xs : Nat → Int32} {Z : gwE} {x : Option Nat} {i K : Int} {z : St} {c : W0} {cells slots : Nat} (hB : Φ.2.1 = B) (hi : 0 ≤ i ∧ i + 4 ≤ (L : Int)) (h2048 : L ≤ 2048) (hc : cells + 20 ≤ 601024) (hs : slots + 100 ≤ 7293034) (hK : K ≤ 1000000) (hL : LI K z) (hC : CI 0 z c) (hM : MI 105 z c) (k : LK Φ hb M b L xs Z B x i K cells slots) : G Φ mL_law (E9 Z b L xs B) x cells slots 1170 (lvL M b i) [] (hp Φ hb M shA c) := by
  obtain ⟨v, h1, h2⟩ := pr_variables (z := z)
  have e1 := h1 c hC
  obtain ⟨c2, e2, f2, g2, -⟩ := h2 c hM
  refine gw_aload_n dL_law_1170 rfl rfl ?_
  refine gw_V0 okX8_variables dL_law_1171 kw_572 kw_573 kw_574 (hp_o shA_D.1) rfl ⟨Nat.le_of_ble_eq_true rfl, Nat.le_of_ble_eq_true rfl⟩ ⟨show cells + 0 ≤ 601024 by omega, show slots + 0 ≤ 7293034 by omega⟩ (Nat.le_of_ble_eq_true rfl) (w_X8_variables shA_D e1 ?_)
  refine gw_aload_n dL_law_1174 rfl rfl ?_
  refine gw_V0 okX9_variables dL_law_1175 kw_1671 kw_1672 kw_1673 (hp_o shA_M.1) rfl ⟨Nat.le_of_ble_eq_true rfl, Nat.le_of_ble_eq_true rfl⟩ ⟨show cells + 0 + 0 ≤ 601024 by omega, show slots + 0 + 0 ≤ 7293034 by omega⟩ (Nat.le_of_ble_eq_true rfl) (w_X9_variables shA_M e2 ?_)
  refine gw_icmp_eq (tgt := 2881) dL_law_1178 rfl (by decide) (fun _ => ?_) (fun q => absurd rfl q)
  exact k z c2 _ _ _ (li5 hL) (W_m f2 hC) g2 (show cells + 0 + 0 ≤ cells + 20 by omega) (show slots + 0 + 0 ≤ slots + 100 by omega) (lvA_c rfl (lvA_c rfl (lvA_c rfl (lvA_c rfl (lvA_c rfl lvA_n)))))
set_option maxRecDepth 100000 in
set_option maxHeartbeats 4000000 in
theorem lc_21 {Φ : gwC} {hb : gwHp} {M b L B : Nat} {xs : Nat → Int32} {Z : gwE} {x : Option Nat} {i K : Int} {z : St} {c : W0} {cells slots : Nat} (hB : Φ.2.1 = B) (hi : 0 ≤ i ∧ i + 4 ≤ (L : Int)) (h2048 : L ≤ 2048) (hc : cells + 20 ≤ 601024) (hs : slots + 100 ≤ 7293034) (hK : K ≤ 1000000) (hL : LI K z) (hC : CI 0 z c) (hM : MI 105 z c) (k : LK Φ hb M b L xs Z B x i K cells slots) : G Φ mL_law (E9 Z b L xs B) x cells slots 1183 (lvL M b i) [] (hp Φ hb M shA c) := by
  obtain ⟨v, h1, h2⟩ := pr_constraints (z := z)
  have e1 := h1 c hC
  obtain ⟨c2, e2, f2, g2, -⟩ := h2 c hM
  refine gw_aload_n dL_law_1183 rfl rfl ?_
  refine gw_V0 okX8_constraints dL_law_1184 kw_576 kw_577 kw_578 (hp_o shA_D.1) rfl ⟨Nat.le_of_ble_eq_true rfl, Nat.le_of_ble_eq_true rfl⟩ ⟨show cells + 0 ≤ 601024 by omega, show slots + 0 ≤ 7293034 by omega⟩ (Nat.le_of_ble_eq_true rfl) (w_X8_constraints shA_D e1 ?_)
  refine gw_aload_n dL_law_1187 rfl rfl ?_
  refine gw_V0 okX9_constraints dL_law_1188 kw_1675 kw_1676 kw_1677 (hp_o shA_M.1) rfl ⟨Nat.le_of_ble_eq_true rfl, Nat.le_of_ble_eq_true rfl⟩ ⟨show cells + 0 + 0 ≤ 601024 by omega, show slots + 0 + 0 ≤ 7293034 by omega⟩ (Nat.le_of_ble_eq_true rfl) (w_X9_constraints shA_M e2 ?_)
  refine gw_icmp_eq (tgt := 2881) dL_law_1191 rfl (by decide) (fun _ => ?_) (fun q => absurd rfl q)
  exact k z c2 _ _ _ (li5 hL) (W_m f2 hC) g2 (show cells + 0 + 0 ≤ cells + 20 by omega) (show slots + 0 + 0 ≤ slots + 100 by omega) (lvA_c rfl (lvA_c rfl (lvA_c rfl (lvA_c rfl (lvA_c rfl lvA_n)))))
set_option maxRecDepth 100000 in
set_option maxHeartbeats 4000000 in
theorem lc_22 {Φ : gwC} {hb : gwHp} {M b L B : Nat} {xs : Nat → Int32} {Z : gwE} {x : Option Nat} {i K : Int} {z : St} {c : W0} {cells slots : Nat} (hB : Φ.2.1 = B) (hi : 0 ≤ i ∧ i + 4 ≤ (L : Int)) (h2048 : L ≤ 2048) (hc : cells + 20 ≤ 601024) (hs : slots + 100 ≤ 7293034) (hK : K ≤ 1000000) (hL : LI K z) (hC : CI 0 z c) (hM : MI 105 z c) (k : LK Φ hb M b L xs Z B x i K cells slots) : G Φ mL_law (E9 Z b L xs B) x cells slots 1196 (lvL M b i) [] (hp Φ hb M shA c) := by
  obtain ⟨e, v, t, z', h1, h2, h3, h4⟩ := pr_profitOf hL (p := SA xs (i + 1)) (i32_r _)
  obtain ⟨c1, e1, f1, g1⟩ := h1 c hC
  have hM1 := W_c f1 hM
  have hcs : (e = 0 ∧ t = 0) ∨ (e = 3 ∧ t = 1) := by simpa using h4
  have tail : ∀ c2, CI 0 z' c2 → MI 105 z c2 → (t = 0 → c2 120 0 = w32 v) → G Φ mL_law (E9 Z b L xs B) x (cells + 1) (slots + 6) 1207 (lvL M b i) [vI t] (hp Φ hb M shA c2) := by
    intro c2 hC2 hM2 ho
    obtain ⟨c3, e3, f3, g3, t3⟩ := h2 c2 hM2
    refine gw_istore dL_law_1207 rfl (by decide) ?_
    refine gw_aload_n dL_law_1209 rfl rfl ?_
    refine gw_aload_n dL_law_1210 rfl rfl ?_
    refine gw_iload dL_law_1211 rfl rfl ?_
    refine gw_iconstZ dL_law_1213 rfl ?_
    refine gw_iaddZ dL_law_1214 rfl ?_
    refine gl_sldZ hB ⟨by omega, by omega⟩ h2048 dL_law_1215 rfl ?_
    refine gw_V1 okX9_profitOf dL_law_1216 kw_1679 kw_1680 kw_1681 (hp_o shA_M.1) rfl ⟨Nat.le_of_ble_eq_true rfl, Nat.le_of_ble_eq_true rfl⟩ ⟨show cells + 1 + 0 ≤ 601024 by omega, show slots + 6 + 0 ≤ 7293034 by omega⟩ (Nat.le_of_ble_eq_true rfl) (w_X9_profitOf shA_M e3 ?_)
    refine gw_istore dL_law_1219 rfl (by decide) ?_
    refine gw_aload_n dL_law_1221 rfl rfl ?_
    refine gw_V0 okX9_thrown dL_law_1222 kw_1405 kw_1406 kw_1407 (hp_o shA_M.1) rfl ⟨Nat.le_of_ble_eq_true rfl, Nat.le_of_ble_eq_true rfl⟩ ⟨show cells + 1 + 0 + 0 ≤ 601024 by omega, show slots + 6 + 0 + 0 ≤ 7293034 by omega⟩ (Nat.le_of_ble_eq_true rfl) (w_X9_thrown shA_M (thr9 t3) ?_)
    refine gw_iload dL_law_1225 rfl rfl ?_
    refine gw_icmp_eq (tgt := 1232) dL_law_1227 rfl (by decide) (fun _ => ?_) (fun q => absurd rfl q)
    refine gw_iload dL_law_1232 rfl rfl ?_
    refine gw_if_neZ (tgt := 1249) dL_law_1234 rfl (by decide) ⟨by omega, by omega⟩ (fun q => ?_) (fun q => ?_)
    · refine gw_goto (tgt := 2881) dL_law_1249 (by decide) ?_
      exact k z' c3 _ _ _ h3 (W_m f3 hC2) g3 (show cells + 1 + 0 + 0 ≤ cells + 20 by omega) (show slots + 6 + 0 + 0 ≤ slots + 100 by omega) (lvA_c rfl (lvA_c rfl (lvA_c rfl (lvA_c rfl (lvA_c rfl lvA_n)))))
    · skip
      refine gw_aload_n dL_law_1237 rfl rfl ?_
      refine gw_iconstZ dL_law_1238 rfl ?_
      have hv : c3 120 0 = w32 v := by rw [f3 120 (Or.inr (by decide))]; exact ho q
      refine gs_laldE dL_law_1239 rfl shA_o (by decide) (by decide) hv ?_
      refine gw_iload dL_law_1240 rfl rfl ?_
      refine gw_i2lW dL_law_1242 rfl ?_
      refine gw_lc_eq (tgt := 1249) dL_law_1243 rfl dL_law_1244 rfl (by decide) (fun _ => ?_) (fun q => absurd rfl q)
      refine gw_goto (tgt := 2881) dL_law_1249 (by decide) ?_
      exact k z' c3 _ _ _ h3 (W_m f3 hC2) g3 (show cells + 1 + 0 + 0 ≤ cells + 20 by omega) (show slots + 6 + 0 + 0 ≤ slots + 100 by omega) (lvA_c rfl (lvA_c rfl (lvA_c rfl (lvA_c rfl (lvA_c rfl lvA_n)))))
  refine gw_aload_n dL_law_1196 rfl rfl ?_
  refine gw_aload_n dL_law_1197 rfl rfl ?_
  refine gw_iload dL_law_1198 rfl rfl ?_
  refine gw_iconstZ dL_law_1200 rfl ?_
  refine gw_iaddZ dL_law_1201 rfl ?_
  refine gl_sldZ hB ⟨by omega, by omega⟩ h2048 dL_law_1202 rfl ?_
  refine gw_aload_n dL_law_1203 rfl rfl ?_
  refine gw_SH3 okL_profitOf dL_law_1204 kw_1130 kw_1131 ⟨Nat.le_of_ble_eq_true rfl, Nat.le_of_ble_eq_true rfl⟩ ⟨show cells + 1 ≤ 601024 by omega, show slots + 6 ≤ 7293034 by omega⟩ (Nat.le_of_ble_eq_true rfl) (v_profitOf shA_D shA_o e1 hcs (fun e0 => ?_) (fun e0 => ?_))
  · have t0 : t = 0 := by omega
    have T := tail (upc c1 120 (updZ (c1 120) 0 (w32 v))) (W_o g1) (W_oM hM1) (fun _ => by rw [upc_s, updZ_s])
    rw [t0] at T
    exact T
  · exact tail c1 g1 hM1 (fun t0 => absurd t0 (by omega))
set_option maxRecDepth 100000 in
set_option maxHeartbeats 4000000 in
theorem lc_23 {Φ : gwC} {hb : gwHp} {M b L B : Nat} {xs : Nat → Int32} {Z : gwE} {x : Option Nat} {i K : Int} {z : St} {c : W0} {cells slots : Nat} (hB : Φ.2.1 = B) (hi : 0 ≤ i ∧ i + 4 ≤ (L : Int)) (h2048 : L ≤ 2048) (hc : cells + 20 ≤ 601024) (hs : slots + 100 ≤ 7293034) (hK : K ≤ 1000000) (hL : LI K z) (hC : CI 0 z c) (hM : MI 105 z c) (k : LK Φ hb M b L xs Z B x i K cells slots) : G Φ mL_law (E9 Z b L xs B) x cells slots 1252 (lvL M b i) [] (hp Φ hb M shA c) := by
  obtain ⟨e, v, t, z', h1, h2, h3, h4⟩ := pr_coefficientOf hL (p := SA xs (i + 1)) (i32_r _) (q := SA xs (i + 2)) (i32_r _)
  obtain ⟨c1, e1, f1, g1⟩ := h1 c hC
  have hM1 := W_c f1 hM
  have hcs : (e = 0 ∧ t = 0) ∨ (e = 3 ∧ t = 1) := by simpa using h4
  have tail : ∀ c2, CI 0 z' c2 → MI 105 z c2 → (t = 0 → c2 120 0 = w32 v) → G Φ mL_law (E9 Z b L xs B) x (cells + 2) (slots + 12) 1269 (lvL M b i) [vI t] (hp Φ hb M shA c2) := by
    intro c2 hC2 hM2 ho
    obtain ⟨c3, e3, f3, g3, t3⟩ := h2 c2 hM2
    refine gw_istore dL_law_1269 rfl (by decide) ?_
    refine gw_aload_n dL_law_1271 rfl rfl ?_
    refine gw_aload_n dL_law_1272 rfl rfl ?_
    refine gw_iload dL_law_1273 rfl rfl ?_
    refine gw_iconstZ dL_law_1275 rfl ?_
    refine gw_iaddZ dL_law_1276 rfl ?_
    refine gl_sldZ hB ⟨by omega, by omega⟩ h2048 dL_law_1277 rfl ?_
    refine gw_aload_n dL_law_1278 rfl rfl ?_
    refine gw_iload dL_law_1279 rfl rfl ?_
    refine gw_iconstZ dL_law_1281 rfl ?_
    refine gw_iaddZ dL_law_1282 rfl ?_
    refine gl_sldZ hB ⟨by omega, by omega⟩ h2048 dL_law_1283 rfl ?_
    refine gw_V2 okX9_coefficientOf dL_law_1284 kw_1683 kw_1684 kw_1685 (hp_o shA_M.1) rfl ⟨Nat.le_of_ble_eq_true rfl, Nat.le_of_ble_eq_true rfl⟩ ⟨show cells + 2 + 0 ≤ 601024 by omega, show slots + 12 + 0 ≤ 7293034 by omega⟩ (Nat.le_of_ble_eq_true rfl) (w_X9_coefficientOf shA_M e3 ?_)
    refine gw_istore dL_law_1287 rfl (by decide) ?_
    refine gw_aload_n dL_law_1289 rfl rfl ?_
    refine gw_V0 okX9_thrown dL_law_1290 kw_1405 kw_1406 kw_1407 (hp_o shA_M.1) rfl ⟨Nat.le_of_ble_eq_true rfl, Nat.le_of_ble_eq_true rfl⟩ ⟨show cells + 2 + 0 + 0 ≤ 601024 by omega, show slots + 12 + 0 + 0 ≤ 7293034 by omega⟩ (Nat.le_of_ble_eq_true rfl) (w_X9_thrown shA_M (thr9 t3) ?_)
    refine gw_iload dL_law_1293 rfl rfl ?_
    refine gw_icmp_eq (tgt := 1300) dL_law_1295 rfl (by decide) (fun _ => ?_) (fun q => absurd rfl q)
    refine gw_iload dL_law_1300 rfl rfl ?_
    refine gw_if_neZ (tgt := 1317) dL_law_1302 rfl (by decide) ⟨by omega, by omega⟩ (fun q => ?_) (fun q => ?_)
    · refine gw_goto (tgt := 2881) dL_law_1317 (by decide) ?_
      exact k z' c3 _ _ _ h3 (W_m f3 hC2) g3 (show cells + 2 + 0 + 0 ≤ cells + 20 by omega) (show slots + 12 + 0 + 0 ≤ slots + 100 by omega) (lvA_c rfl (lvA_c rfl (lvA_c rfl (lvA_c rfl (lvA_c rfl lvA_n)))))
    · skip
      refine gw_aload_n dL_law_1305 rfl rfl ?_
      refine gw_iconstZ dL_law_1306 rfl ?_
      have hv : c3 120 0 = w32 v := by rw [f3 120 (Or.inr (by decide))]; exact ho q
      refine gs_laldE dL_law_1307 rfl shA_o (by decide) (by decide) hv ?_
      refine gw_iload dL_law_1308 rfl rfl ?_
      refine gw_i2lW dL_law_1310 rfl ?_
      refine gw_lc_eq (tgt := 1317) dL_law_1311 rfl dL_law_1312 rfl (by decide) (fun _ => ?_) (fun q => absurd rfl q)
      refine gw_goto (tgt := 2881) dL_law_1317 (by decide) ?_
      exact k z' c3 _ _ _ h3 (W_m f3 hC2) g3 (show cells + 2 + 0 + 0 ≤ cells + 20 by omega) (show slots + 12 + 0 + 0 ≤ slots + 100 by omega) (lvA_c rfl (lvA_c rfl (lvA_c rfl (lvA_c rfl (lvA_c rfl lvA_n)))))
  refine gw_aload_n dL_law_1252 rfl rfl ?_
  refine gw_aload_n dL_law_1253 rfl rfl ?_
  refine gw_iload dL_law_1254 rfl rfl ?_
  refine gw_iconstZ dL_law_1256 rfl ?_
  refine gw_iaddZ dL_law_1257 rfl ?_
  refine gl_sldZ hB ⟨by omega, by omega⟩ h2048 dL_law_1258 rfl ?_
  refine gw_aload_n dL_law_1259 rfl rfl ?_
  refine gw_iload dL_law_1260 rfl rfl ?_
  refine gw_iconstZ dL_law_1262 rfl ?_
  refine gw_iaddZ dL_law_1263 rfl ?_
  refine gl_sldZ hB ⟨by omega, by omega⟩ h2048 dL_law_1264 rfl ?_
  refine gw_aload_n dL_law_1265 rfl rfl ?_
  refine gw_SH4 okL_coefficientOf dL_law_1266 kw_1137 kw_1138 ⟨Nat.le_of_ble_eq_true rfl, Nat.le_of_ble_eq_true rfl⟩ ⟨show cells + 2 ≤ 601024 by omega, show slots + 12 ≤ 7293034 by omega⟩ (Nat.le_of_ble_eq_true rfl) (v_coefficientOf shA_D shA_o e1 hcs (fun e0 => ?_) (fun e0 => ?_))
  · have t0 : t = 0 := by omega
    have T := tail (upc c1 120 (updZ (c1 120) 0 (w32 v))) (W_o g1) (W_oM hM1) (fun _ => by rw [upc_s, updZ_s])
    rw [t0] at T
    exact T
  · exact tail c1 g1 hM1 (fun t0 => absurd t0 (by omega))
set_option maxRecDepth 100000 in
set_option maxHeartbeats 4000000 in
theorem lc_24 {Φ : gwC} {hb : gwHp} {M b L B : Nat} {xs : Nat → Int32} {Z : gwE} {x : Option Nat} {i K : Int} {z : St} {c : W0} {cells slots : Nat} (hB : Φ.2.1 = B) (hi : 0 ≤ i ∧ i + 4 ≤ (L : Int)) (h2048 : L ≤ 2048) (hc : cells + 20 ≤ 601024) (hs : slots + 100 ≤ 7293034) (hK : K ≤ 1000000) (hL : LI K z) (hC : CI 0 z c) (hM : MI 105 z c) (k : LK Φ hb M b L xs Z B x i K cells slots) : G Φ mL_law (E9 Z b L xs B) x cells slots 1320 (lvL M b i) [] (hp Φ hb M shA c) := by
  obtain ⟨e, v, t, z', h1, h2, h3, h4⟩ := pr_boundOf hL (p := SA xs (i + 1)) (i32_r _)
  obtain ⟨c1, e1, f1, g1⟩ := h1 c hC
  have hM1 := W_c f1 hM
  have hcs : (e = 0 ∧ t = 0) ∨ (e = 3 ∧ t = 1) := by simpa using h4
  have tail : ∀ c2, CI 0 z' c2 → MI 105 z c2 → (t = 0 → c2 120 0 = w32 v) → G Φ mL_law (E9 Z b L xs B) x (cells + 1) (slots + 6) 1331 (lvL M b i) [vI t] (hp Φ hb M shA c2) := by
    intro c2 hC2 hM2 ho
    obtain ⟨c3, e3, f3, g3, t3⟩ := h2 c2 hM2
    refine gw_istore dL_law_1331 rfl (by decide) ?_
    refine gw_aload_n dL_law_1333 rfl rfl ?_
    refine gw_aload_n dL_law_1334 rfl rfl ?_
    refine gw_iload dL_law_1335 rfl rfl ?_
    refine gw_iconstZ dL_law_1337 rfl ?_
    refine gw_iaddZ dL_law_1338 rfl ?_
    refine gl_sldZ hB ⟨by omega, by omega⟩ h2048 dL_law_1339 rfl ?_
    refine gw_V1 okX9_boundOf dL_law_1340 kw_1687 kw_1688 kw_1689 (hp_o shA_M.1) rfl ⟨Nat.le_of_ble_eq_true rfl, Nat.le_of_ble_eq_true rfl⟩ ⟨show cells + 1 + 0 ≤ 601024 by omega, show slots + 6 + 0 ≤ 7293034 by omega⟩ (Nat.le_of_ble_eq_true rfl) (w_X9_boundOf shA_M e3 ?_)
    refine gw_istore dL_law_1343 rfl (by decide) ?_
    refine gw_aload_n dL_law_1345 rfl rfl ?_
    refine gw_V0 okX9_thrown dL_law_1346 kw_1405 kw_1406 kw_1407 (hp_o shA_M.1) rfl ⟨Nat.le_of_ble_eq_true rfl, Nat.le_of_ble_eq_true rfl⟩ ⟨show cells + 1 + 0 + 0 ≤ 601024 by omega, show slots + 6 + 0 + 0 ≤ 7293034 by omega⟩ (Nat.le_of_ble_eq_true rfl) (w_X9_thrown shA_M (thr9 t3) ?_)
    refine gw_iload dL_law_1349 rfl rfl ?_
    refine gw_icmp_eq (tgt := 1356) dL_law_1351 rfl (by decide) (fun _ => ?_) (fun q => absurd rfl q)
    refine gw_iload dL_law_1356 rfl rfl ?_
    refine gw_if_neZ (tgt := 1373) dL_law_1358 rfl (by decide) ⟨by omega, by omega⟩ (fun q => ?_) (fun q => ?_)
    · refine gw_goto (tgt := 2881) dL_law_1373 (by decide) ?_
      exact k z' c3 _ _ _ h3 (W_m f3 hC2) g3 (show cells + 1 + 0 + 0 ≤ cells + 20 by omega) (show slots + 6 + 0 + 0 ≤ slots + 100 by omega) (lvA_c rfl (lvA_c rfl (lvA_c rfl (lvA_c rfl (lvA_c rfl lvA_n)))))
    · skip
      refine gw_aload_n dL_law_1361 rfl rfl ?_
      refine gw_iconstZ dL_law_1362 rfl ?_
      have hv : c3 120 0 = w32 v := by rw [f3 120 (Or.inr (by decide))]; exact ho q
      refine gs_laldE dL_law_1363 rfl shA_o (by decide) (by decide) hv ?_
      refine gw_iload dL_law_1364 rfl rfl ?_
      refine gw_i2lW dL_law_1366 rfl ?_
      refine gw_lc_eq (tgt := 1373) dL_law_1367 rfl dL_law_1368 rfl (by decide) (fun _ => ?_) (fun q => absurd rfl q)
      refine gw_goto (tgt := 2881) dL_law_1373 (by decide) ?_
      exact k z' c3 _ _ _ h3 (W_m f3 hC2) g3 (show cells + 1 + 0 + 0 ≤ cells + 20 by omega) (show slots + 6 + 0 + 0 ≤ slots + 100 by omega) (lvA_c rfl (lvA_c rfl (lvA_c rfl (lvA_c rfl (lvA_c rfl lvA_n)))))
  refine gw_aload_n dL_law_1320 rfl rfl ?_
  refine gw_aload_n dL_law_1321 rfl rfl ?_
  refine gw_iload dL_law_1322 rfl rfl ?_
  refine gw_iconstZ dL_law_1324 rfl ?_
  refine gw_iaddZ dL_law_1325 rfl ?_
  refine gl_sldZ hB ⟨by omega, by omega⟩ h2048 dL_law_1326 rfl ?_
  refine gw_aload_n dL_law_1327 rfl rfl ?_
  refine gw_SH3 okL_boundOf dL_law_1328 kw_1144 kw_1145 ⟨Nat.le_of_ble_eq_true rfl, Nat.le_of_ble_eq_true rfl⟩ ⟨show cells + 1 ≤ 601024 by omega, show slots + 6 ≤ 7293034 by omega⟩ (Nat.le_of_ble_eq_true rfl) (v_boundOf shA_D shA_o e1 hcs (fun e0 => ?_) (fun e0 => ?_))
  · have t0 : t = 0 := by omega
    have T := tail (upc c1 120 (updZ (c1 120) 0 (w32 v))) (W_o g1) (W_oM hM1) (fun _ => by rw [upc_s, updZ_s])
    rw [t0] at T
    exact T
  · exact tail c1 g1 hM1 (fun t0 => absurd t0 (by omega))
set_option maxRecDepth 100000 in
set_option maxHeartbeats 4000000 in
theorem lc_25 {Φ : gwC} {hb : gwHp} {M b L B : Nat} {xs : Nat → Int32} {Z : gwE} {x : Option Nat} {i K : Int} {z : St} {c : W0} {cells slots : Nat} (hB : Φ.2.1 = B) (hi : 0 ≤ i ∧ i + 4 ≤ (L : Int)) (h2048 : L ≤ 2048) (hc : cells + 20 ≤ 601024) (hs : slots + 100 ≤ 7293034) (hK : K ≤ 1000000) (hL : LI K z) (hC : CI 0 z c) (hM : MI 105 z c) (k : LK Φ hb M b L xs Z B x i K cells slots) : G Φ mL_law (E9 Z b L xs B) x cells slots 1376 (lvL M b i) [] (hp Φ hb M shA c) := by
  obtain ⟨v, h1, h2⟩ := pr_rule (z := z)
  have e1 := h1 c hC
  obtain ⟨c2, e2, f2, g2, -⟩ := h2 c hM
  refine gw_aload_n dL_law_1376 rfl rfl ?_
  refine gw_V0 okX8_rule dL_law_1377 kw_580 kw_581 kw_582 (hp_o shA_D.1) rfl ⟨Nat.le_of_ble_eq_true rfl, Nat.le_of_ble_eq_true rfl⟩ ⟨show cells + 0 ≤ 601024 by omega, show slots + 0 ≤ 7293034 by omega⟩ (Nat.le_of_ble_eq_true rfl) (w_X8_rule shA_D e1 ?_)
  refine gw_aload_n dL_law_1380 rfl rfl ?_
  refine gw_V0 okX9_rule dL_law_1381 kw_1691 kw_1692 kw_1693 (hp_o shA_M.1) rfl ⟨Nat.le_of_ble_eq_true rfl, Nat.le_of_ble_eq_true rfl⟩ ⟨show cells + 0 + 0 ≤ 601024 by omega, show slots + 0 + 0 ≤ 7293034 by omega⟩ (Nat.le_of_ble_eq_true rfl) (w_X9_rule shA_M e2 ?_)
  refine gw_icmp_eq (tgt := 2881) dL_law_1384 rfl (by decide) (fun _ => ?_) (fun q => absurd rfl q)
  exact k z c2 _ _ _ (li5 hL) (W_m f2 hC) g2 (show cells + 0 + 0 ≤ cells + 20 by omega) (show slots + 0 + 0 ≤ slots + 100 by omega) (lvA_c rfl (lvA_c rfl (lvA_c rfl (lvA_c rfl (lvA_c rfl lvA_n)))))
set_option maxRecDepth 100000 in
set_option maxHeartbeats 4000000 in
theorem lc_26 {Φ : gwC} {hb : gwHp} {M b L B : Nat} {xs : Nat → Int32} {Z : gwE} {x : Option Nat} {i K : Int} {z : St} {c : W0} {cells slots : Nat} (hB : Φ.2.1 = B) (hi : 0 ≤ i ∧ i + 4 ≤ (L : Int)) (h2048 : L ≤ 2048) (hc : cells + 20 ≤ 601024) (hs : slots + 100 ≤ 7293034) (hK : K ≤ 1000000) (hL : LI K z) (hC : CI 0 z c) (hM : MI 105 z c) (k : LK Φ hb M b L xs Z B x i K cells slots) : G Φ mL_law (E9 Z b L xs B) x cells slots 1389 (lvL M b i) [] (hp Φ hb M shA c) := by
  obtain ⟨e, v, t, z', h1, h2, h3, h4⟩ := pr_columnOf hL (p := SA xs (i + 1)) (i32_r _)
  obtain ⟨c1, e1, f1, g1⟩ := h1 c hC
  have hM1 := W_c f1 hM
  have hcs : (e = 0 ∧ t = 0) ∨ (e = 3 ∧ t = 1) := by simpa using h4
  have tail : ∀ c2, CI 0 z' c2 → MI 105 z c2 → (t = 0 → c2 120 0 = w32 v) → G Φ mL_law (E9 Z b L xs B) x (cells + 1) (slots + 6) 1400 (lvL M b i) [vI t] (hp Φ hb M shA c2) := by
    intro c2 hC2 hM2 ho
    obtain ⟨c3, e3, f3, g3, t3⟩ := h2 c2 hM2
    refine gw_istore dL_law_1400 rfl (by decide) ?_
    refine gw_aload_n dL_law_1402 rfl rfl ?_
    refine gw_aload_n dL_law_1403 rfl rfl ?_
    refine gw_iload dL_law_1404 rfl rfl ?_
    refine gw_iconstZ dL_law_1406 rfl ?_
    refine gw_iaddZ dL_law_1407 rfl ?_
    refine gl_sldZ hB ⟨by omega, by omega⟩ h2048 dL_law_1408 rfl ?_
    refine gw_V1 okX9_columnOf dL_law_1409 kw_1695 kw_1696 kw_1697 (hp_o shA_M.1) rfl ⟨Nat.le_of_ble_eq_true rfl, Nat.le_of_ble_eq_true rfl⟩ ⟨show cells + 1 + 0 ≤ 601024 by omega, show slots + 6 + 0 ≤ 7293034 by omega⟩ (Nat.le_of_ble_eq_true rfl) (w_X9_columnOf shA_M e3 ?_)
    refine gw_istore dL_law_1412 rfl (by decide) ?_
    refine gw_aload_n dL_law_1414 rfl rfl ?_
    refine gw_V0 okX9_thrown dL_law_1415 kw_1405 kw_1406 kw_1407 (hp_o shA_M.1) rfl ⟨Nat.le_of_ble_eq_true rfl, Nat.le_of_ble_eq_true rfl⟩ ⟨show cells + 1 + 0 + 0 ≤ 601024 by omega, show slots + 6 + 0 + 0 ≤ 7293034 by omega⟩ (Nat.le_of_ble_eq_true rfl) (w_X9_thrown shA_M (thr9 t3) ?_)
    refine gw_iload dL_law_1418 rfl rfl ?_
    refine gw_icmp_eq (tgt := 1425) dL_law_1420 rfl (by decide) (fun _ => ?_) (fun q => absurd rfl q)
    refine gw_iload dL_law_1425 rfl rfl ?_
    refine gw_if_neZ (tgt := 1442) dL_law_1427 rfl (by decide) ⟨by omega, by omega⟩ (fun q => ?_) (fun q => ?_)
    · refine gw_goto (tgt := 2881) dL_law_1442 (by decide) ?_
      exact k z' c3 _ _ _ h3 (W_m f3 hC2) g3 (show cells + 1 + 0 + 0 ≤ cells + 20 by omega) (show slots + 6 + 0 + 0 ≤ slots + 100 by omega) (lvA_c rfl (lvA_c rfl (lvA_c rfl (lvA_c rfl (lvA_c rfl lvA_n)))))
    · skip
      refine gw_aload_n dL_law_1430 rfl rfl ?_
      refine gw_iconstZ dL_law_1431 rfl ?_
      have hv : c3 120 0 = w32 v := by rw [f3 120 (Or.inr (by decide))]; exact ho q
      refine gs_laldE dL_law_1432 rfl shA_o (by decide) (by decide) hv ?_
      refine gw_iload dL_law_1433 rfl rfl ?_
      refine gw_i2lW dL_law_1435 rfl ?_
      refine gw_lc_eq (tgt := 1442) dL_law_1436 rfl dL_law_1437 rfl (by decide) (fun _ => ?_) (fun q => absurd rfl q)
      refine gw_goto (tgt := 2881) dL_law_1442 (by decide) ?_
      exact k z' c3 _ _ _ h3 (W_m f3 hC2) g3 (show cells + 1 + 0 + 0 ≤ cells + 20 by omega) (show slots + 6 + 0 + 0 ≤ slots + 100 by omega) (lvA_c rfl (lvA_c rfl (lvA_c rfl (lvA_c rfl (lvA_c rfl lvA_n)))))
  refine gw_aload_n dL_law_1389 rfl rfl ?_
  refine gw_aload_n dL_law_1390 rfl rfl ?_
  refine gw_iload dL_law_1391 rfl rfl ?_
  refine gw_iconstZ dL_law_1393 rfl ?_
  refine gw_iaddZ dL_law_1394 rfl ?_
  refine gl_sldZ hB ⟨by omega, by omega⟩ h2048 dL_law_1395 rfl ?_
  refine gw_aload_n dL_law_1396 rfl rfl ?_
  refine gw_SH3 okL_columnOf dL_law_1397 kw_1151 kw_1152 ⟨Nat.le_of_ble_eq_true rfl, Nat.le_of_ble_eq_true rfl⟩ ⟨show cells + 1 ≤ 601024 by omega, show slots + 6 ≤ 7293034 by omega⟩ (Nat.le_of_ble_eq_true rfl) (v_columnOf shA_D shA_o e1 hcs (fun e0 => ?_) (fun e0 => ?_))
  · have t0 : t = 0 := by omega
    have T := tail (upc c1 120 (updZ (c1 120) 0 (w32 v))) (W_o g1) (W_oM hM1) (fun _ => by rw [upc_s, updZ_s])
    rw [t0] at T
    exact T
  · exact tail c1 g1 hM1 (fun t0 => absurd t0 (by omega))
set_option maxRecDepth 100000 in
set_option maxHeartbeats 4000000 in
theorem lc_27 {Φ : gwC} {hb : gwHp} {M b L B : Nat} {xs : Nat → Int32} {Z : gwE} {x : Option Nat} {i K : Int} {z : St} {c : W0} {cells slots : Nat} (hB : Φ.2.1 = B) (hi : 0 ≤ i ∧ i + 4 ≤ (L : Int)) (h2048 : L ≤ 2048) (hc : cells + 20 ≤ 601024) (hs : slots + 100 ≤ 7293034) (hK : K ≤ 1000000) (hL : LI K z) (hC : CI 0 z c) (hM : MI 105 z c) (k : LK Φ hb M b L xs Z B x i K cells slots) : G Φ mL_law (E9 Z b L xs B) x cells slots 1445 (lvL M b i) [] (hp Φ hb M shA c) := by
  obtain ⟨e, v, t, z', h1, h2, h3, h4, h5⟩ := pr_isNamed hL (p := SA xs (i + 1)) (i32_r _)
  obtain ⟨c1, e1, f1, g1⟩ := h1 c hC
  have hM1 := W_c f1 hM
  have hcs : (e = 0 ∧ t = 0) ∨ (e = 3 ∧ t = 1) := by simpa using h4
  have tail : ∀ c2, CI 0 z' c2 → MI 105 z c2 → (t = 0 → c2 120 0 = v) → G Φ mL_law (E9 Z b L xs B) x (cells + 1) (slots + 6) 1456 (lvL M b i) [vI t] (hp Φ hb M shA c2) := by
    intro c2 hC2 hM2 ho
    obtain ⟨c3, e3, f3, g3, t3⟩ := h2 c2 hM2
    refine gw_istore dL_law_1456 rfl (by decide) ?_
    refine gw_aload_n dL_law_1458 rfl rfl ?_
    refine gw_aload_n dL_law_1459 rfl rfl ?_
    refine gw_iload dL_law_1460 rfl rfl ?_
    refine gw_iconstZ dL_law_1462 rfl ?_
    refine gw_iaddZ dL_law_1463 rfl ?_
    refine gl_sldZ hB ⟨by omega, by omega⟩ h2048 dL_law_1464 rfl ?_
    refine gw_V1 okX9_isNamed dL_law_1465 kw_1699 kw_1700 kw_1701 (hp_o shA_M.1) rfl ⟨Nat.le_of_ble_eq_true rfl, Nat.le_of_ble_eq_true rfl⟩ ⟨show cells + 1 + 0 ≤ 601024 by omega, show slots + 6 + 0 ≤ 7293034 by omega⟩ (Nat.le_of_ble_eq_true rfl) (w_X9_isNamed shA_M e3 ?_)
    refine gw_istore dL_law_1468 rfl (by decide) ?_
    refine gw_aload_n dL_law_1470 rfl rfl ?_
    refine gw_V0 okX9_thrown dL_law_1471 kw_1405 kw_1406 kw_1407 (hp_o shA_M.1) rfl ⟨Nat.le_of_ble_eq_true rfl, Nat.le_of_ble_eq_true rfl⟩ ⟨show cells + 1 + 0 + 0 ≤ 601024 by omega, show slots + 6 + 0 + 0 ≤ 7293034 by omega⟩ (Nat.le_of_ble_eq_true rfl) (w_X9_thrown shA_M (thr9 t3) ?_)
    refine gw_iload dL_law_1474 rfl rfl ?_
    refine gw_icmp_eq (tgt := 1481) dL_law_1476 rfl (by decide) (fun _ => ?_) (fun q => absurd rfl q)
    refine gw_iload dL_law_1481 rfl rfl ?_
    refine gw_if_neZ (tgt := 1505) dL_law_1483 rfl (by decide) ⟨by omega, by omega⟩ (fun q => ?_) (fun q => ?_)
    · refine gw_goto (tgt := 2881) dL_law_1505 (by decide) ?_
      exact k z' c3 _ _ _ h3 (W_m f3 hC2) g3 (show cells + 1 + 0 + 0 ≤ cells + 20 by omega) (show slots + 6 + 0 + 0 ≤ slots + 100 by omega) (lvA_c rfl (lvA_c rfl (lvA_c rfl (lvA_c rfl (lvA_c rfl lvA_n)))))
    · skip
      refine gw_aload_n dL_law_1486 rfl rfl ?_
      refine gw_iconstZ dL_law_1487 rfl ?_
      have hv : c3 120 0 = v := by rw [f3 120 (Or.inr (by decide))]; exact ho q
      refine gs_laldE dL_law_1488 rfl shA_o (by decide) (by decide) hv ?_
      refine gw_iload dL_law_1489 rfl rfl ?_
      rcases h5 with h6 | h6
      · rw [h6]
        refine gw_if_eqZ (x9 := 0) (tgt := 1498) dL_law_1491 rfl (by decide) (by decide) (fun _ => ?_) (fun q => absurd rfl q)
        refine gw_lconst0Z dL_law_1498 rfl ?_
        refine gw_lc_eq (tgt := 1505) dL_law_1499 rfl dL_law_1500 rfl (by decide) (fun _ => ?_) (fun q => absurd rfl q)
        refine gw_goto (tgt := 2881) dL_law_1505 (by decide) ?_
        exact k z' c3 _ _ _ h3 (W_m f3 hC2) g3 (show cells + 1 + 0 + 0 ≤ cells + 20 by omega) (show slots + 6 + 0 + 0 ≤ slots + 100 by omega) (lvA_c rfl (lvA_c rfl (lvA_c rfl (lvA_c rfl (lvA_c rfl lvA_n)))))
      · rw [h6]
        refine gw_if_eqZ (x9 := 1) (tgt := 1498) dL_law_1491 rfl (by decide) (by decide) (fun q => absurd q (by decide)) (fun _ => ?_)
        refine gw_lconst1Z dL_law_1494 rfl ?_
        refine gw_goto (tgt := 1499) dL_law_1495 (by decide) ?_
        refine gw_lc_eq (tgt := 1505) dL_law_1499 rfl dL_law_1500 rfl (by decide) (fun _ => ?_) (fun q => absurd rfl q)
        refine gw_goto (tgt := 2881) dL_law_1505 (by decide) ?_
        exact k z' c3 _ _ _ h3 (W_m f3 hC2) g3 (show cells + 1 + 0 + 0 ≤ cells + 20 by omega) (show slots + 6 + 0 + 0 ≤ slots + 100 by omega) (lvA_c rfl (lvA_c rfl (lvA_c rfl (lvA_c rfl (lvA_c rfl lvA_n)))))
  refine gw_aload_n dL_law_1445 rfl rfl ?_
  refine gw_aload_n dL_law_1446 rfl rfl ?_
  refine gw_iload dL_law_1447 rfl rfl ?_
  refine gw_iconstZ dL_law_1449 rfl ?_
  refine gw_iaddZ dL_law_1450 rfl ?_
  refine gl_sldZ hB ⟨by omega, by omega⟩ h2048 dL_law_1451 rfl ?_
  refine gw_aload_n dL_law_1452 rfl rfl ?_
  refine gw_SH3 okL_isNamed dL_law_1453 kw_1158 kw_1159 ⟨Nat.le_of_ble_eq_true rfl, Nat.le_of_ble_eq_true rfl⟩ ⟨show cells + 1 ≤ 601024 by omega, show slots + 6 ≤ 7293034 by omega⟩ (Nat.le_of_ble_eq_true rfl) (v_isNamed shA_D shA_o e1 hcs (fun _ => h5) (fun e0 => ?_) (fun e0 => ?_))
  · have t0 : t = 0 := by omega
    have T := tail (upc c1 120 (updZ (c1 120) 0 (v))) (W_o g1) (W_oM hM1) (fun _ => by rw [upc_s, updZ_s])
    rw [t0] at T
    exact T
  · exact tail c1 g1 hM1 (fun t0 => absurd t0 (by omega))
set_option maxRecDepth 100000 in
set_option maxHeartbeats 4000000 in
theorem lc_28 {Φ : gwC} {hb : gwHp} {M b L B : Nat} {xs : Nat → Int32} {Z : gwE} {x : Option Nat} {i K : Int} {z : St} {c : W0} {cells slots : Nat} (hB : Φ.2.1 = B) (hi : 0 ≤ i ∧ i + 4 ≤ (L : Int)) (h2048 : L ≤ 2048) (hc : cells + 20 ≤ 601024) (hs : slots + 100 ≤ 7293034) (hK : K ≤ 1000000) (hL : LI K z) (hC : CI 0 z c) (hM : MI 105 z c) (k : LK Φ hb M b L xs Z B x i K cells slots) : G Φ mL_law (E9 Z b L xs B) x cells slots 1508 (lvL M b i) [] (hp Φ hb M shA c) := by
  obtain ⟨v, h1, h2⟩ := pr_isOptimal (z := z) hL
  have e1 := h1 c hC
  obtain ⟨c2, e2, f2, g2, -⟩ := h2 c hM
  refine gw_aload_n dL_law_1508 rfl rfl ?_
  refine gw_V0 okX8_isOptimal dL_law_1509 kw_584 kw_585 kw_586 (hp_o shA_D.1) rfl ⟨Nat.le_of_ble_eq_true rfl, Nat.le_of_ble_eq_true rfl⟩ ⟨show cells + 0 ≤ 601024 by omega, show slots + 0 ≤ 7293034 by omega⟩ (Nat.le_of_ble_eq_true rfl) (w_X8_isOptimal shA_D e1 ?_)
  refine gw_aload_n dL_law_1512 rfl rfl ?_
  refine gw_V0 okX9_isOptimal dL_law_1513 kw_1703 kw_1704 kw_1705 (hp_o shA_M.1) rfl ⟨Nat.le_of_ble_eq_true rfl, Nat.le_of_ble_eq_true rfl⟩ ⟨show cells + 0 + 0 ≤ 601024 by omega, show slots + 0 + 0 ≤ 7293034 by omega⟩ (Nat.le_of_ble_eq_true rfl) (w_X9_isOptimal shA_M e2 ?_)
  refine gw_icmp_eq (tgt := 2881) dL_law_1516 rfl (by decide) (fun _ => ?_) (fun q => absurd rfl q)
  exact k z c2 _ _ _ (li5 hL) (W_m f2 hC) g2 (show cells + 0 + 0 ≤ cells + 20 by omega) (show slots + 0 + 0 ≤ slots + 100 by omega) (lvA_c rfl (lvA_c rfl (lvA_c rfl (lvA_c rfl (lvA_c rfl lvA_n)))))
set_option maxRecDepth 100000 in
set_option maxHeartbeats 4000000 in
theorem lc_29 {Φ : gwC} {hb : gwHp} {M b L B : Nat} {xs : Nat → Int32} {Z : gwE} {x : Option Nat} {i K : Int} {z : St} {c : W0} {cells slots : Nat} (hB : Φ.2.1 = B) (hi : 0 ≤ i ∧ i + 4 ≤ (L : Int)) (h2048 : L ≤ 2048) (hc : cells + 20 ≤ 601024) (hs : slots + 100 ≤ 7293034) (hK : K ≤ 1000000) (hL : LI K z) (hC : CI 0 z c) (hM : MI 105 z c) (k : LK Φ hb M b L xs Z B x i K cells slots) : G Φ mL_law (E9 Z b L xs B) x cells slots 1521 (lvL M b i) [] (hp Φ hb M shA c) := by
  obtain ⟨v, h1, h2⟩ := pr_hasRay (z := z) hL
  have e1 := h1 c hC
  obtain ⟨c2, e2, f2, g2, -⟩ := h2 c hM
  refine gw_aload_n dL_law_1521 rfl rfl ?_
  refine gw_V0 okX8_hasRay dL_law_1522 kw_589 kw_590 kw_591 (hp_o shA_D.1) rfl ⟨Nat.le_of_ble_eq_true rfl, Nat.le_of_ble_eq_true rfl⟩ ⟨show cells + 0 ≤ 601024 by omega, show slots + 0 ≤ 7293034 by omega⟩ (Nat.le_of_ble_eq_true rfl) (w_X8_hasRay shA_D e1 ?_)
  refine gw_aload_n dL_law_1525 rfl rfl ?_
  refine gw_V0 okX9_hasRay dL_law_1526 kw_1707 kw_1708 kw_1709 (hp_o shA_M.1) rfl ⟨Nat.le_of_ble_eq_true rfl, Nat.le_of_ble_eq_true rfl⟩ ⟨show cells + 0 + 0 ≤ 601024 by omega, show slots + 0 + 0 ≤ 7293034 by omega⟩ (Nat.le_of_ble_eq_true rfl) (w_X9_hasRay shA_M e2 ?_)
  refine gw_icmp_eq (tgt := 2881) dL_law_1529 rfl (by decide) (fun _ => ?_) (fun q => absurd rfl q)
  exact k z c2 _ _ _ (li5 hL) (W_m f2 hC) g2 (show cells + 0 + 0 ≤ cells + 20 by omega) (show slots + 0 + 0 ≤ slots + 100 by omega) (lvA_c rfl (lvA_c rfl (lvA_c rfl (lvA_c rfl (lvA_c rfl lvA_n)))))
set_option maxRecDepth 100000 in
set_option maxHeartbeats 4000000 in
theorem lc_30 {Φ : gwC} {hb : gwHp} {M b L B : Nat} {xs : Nat → Int32} {Z : gwE} {x : Option Nat} {i K : Int} {z : St} {c : W0} {cells slots : Nat} (hB : Φ.2.1 = B) (hi : 0 ≤ i ∧ i + 4 ≤ (L : Int)) (h2048 : L ≤ 2048) (hc : cells + 20 ≤ 601024) (hs : slots + 100 ≤ 7293034) (hK : K ≤ 1000000) (hL : LI K z) (hC : CI 0 z c) (hM : MI 105 z c) (k : LK Φ hb M b L xs Z B x i K cells slots) : G Φ mL_law (E9 Z b L xs B) x cells slots 1534 (lvL M b i) [] (hp Φ hb M shA c) := by
  obtain ⟨v, h1, h2⟩ := pr_pivots (z := z)
  have e1 := h1 c hC
  obtain ⟨c2, e2, f2, g2, -⟩ := h2 c hM
  refine gw_aload_n dL_law_1534 rfl rfl ?_
  refine gw_V0 okX8_pivots dL_law_1535 kw_594 kw_595 kw_596 (hp_o shA_D.1) rfl ⟨Nat.le_of_ble_eq_true rfl, Nat.le_of_ble_eq_true rfl⟩ ⟨show cells + 0 ≤ 601024 by omega, show slots + 0 ≤ 7293034 by omega⟩ (Nat.le_of_ble_eq_true rfl) (w_X8_pivots shA_D e1 ?_)
  refine gw_aload_n dL_law_1538 rfl rfl ?_
  refine gw_V0 okX9_pivots dL_law_1539 kw_1711 kw_1712 kw_1713 (hp_o shA_M.1) rfl ⟨Nat.le_of_ble_eq_true rfl, Nat.le_of_ble_eq_true rfl⟩ ⟨show cells + 0 + 0 ≤ 601024 by omega, show slots + 0 + 0 ≤ 7293034 by omega⟩ (Nat.le_of_ble_eq_true rfl) (w_X9_pivots shA_M e2 ?_)
  refine gw_icmp_eq (tgt := 2881) dL_law_1542 rfl (by decide) (fun _ => ?_) (fun q => absurd rfl q)
  exact k z c2 _ _ _ (li5 hL) (W_m f2 hC) g2 (show cells + 0 + 0 ≤ cells + 20 by omega) (show slots + 0 + 0 ≤ slots + 100 by omega) (lvA_c rfl (lvA_c rfl (lvA_c rfl (lvA_c rfl (lvA_c rfl lvA_n)))))
set_option maxRecDepth 100000 in
set_option maxHeartbeats 4000000 in
theorem lc_31 {Φ : gwC} {hb : gwHp} {M b L B : Nat} {xs : Nat → Int32} {Z : gwE} {x : Option Nat} {i K : Int} {z : St} {c : W0} {cells slots : Nat} (hB : Φ.2.1 = B) (hi : 0 ≤ i ∧ i + 4 ≤ (L : Int)) (h2048 : L ≤ 2048) (hc : cells + 20 ≤ 601024) (hs : slots + 100 ≤ 7293034) (hK : K ≤ 1000000) (hL : LI K z) (hC : CI 0 z c) (hM : MI 105 z c) (k : LK Φ hb M b L xs Z B x i K cells slots) : G Φ mL_law (E9 Z b L xs B) x cells slots 1547 (lvL M b i) [] (hp Φ hb M shA c) := by
  obtain ⟨v, h1, h2⟩ := pr_allPivots (z := z)
  have e1 := h1 c hC
  obtain ⟨c2, e2, f2, g2, -⟩ := h2 c hM
  refine gw_aload_n dL_law_1547 rfl rfl ?_
  refine gw_V0 okX8_allPivots dL_law_1548 kw_598 kw_599 kw_600 (hp_o shA_D.1) rfl ⟨Nat.le_of_ble_eq_true rfl, Nat.le_of_ble_eq_true rfl⟩ ⟨show cells + 0 ≤ 601024 by omega, show slots + 0 ≤ 7293034 by omega⟩ (Nat.le_of_ble_eq_true rfl) (w_X8_allPivots shA_D e1 ?_)
  refine gw_aload_n dL_law_1551 rfl rfl ?_
  refine gw_V0 okX9_allPivots dL_law_1552 kw_1715 kw_1716 kw_1717 (hp_o shA_M.1) rfl ⟨Nat.le_of_ble_eq_true rfl, Nat.le_of_ble_eq_true rfl⟩ ⟨show cells + 0 + 0 ≤ 601024 by omega, show slots + 0 + 0 ≤ 7293034 by omega⟩ (Nat.le_of_ble_eq_true rfl) (w_X9_allPivots shA_M e2 ?_)
  refine gw_icmp_eq (tgt := 2881) dL_law_1555 rfl (by decide) (fun _ => ?_) (fun q => absurd rfl q)
  exact k z c2 _ _ _ (li5 hL) (W_m f2 hC) g2 (show cells + 0 + 0 ≤ cells + 20 by omega) (show slots + 0 + 0 ≤ slots + 100 by omega) (lvA_c rfl (lvA_c rfl (lvA_c rfl (lvA_c rfl (lvA_c rfl lvA_n)))))
end CF
