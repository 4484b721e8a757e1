section CF
set_option maxRecDepth 100000 in
set_option maxHeartbeats 4000000 in
theorem lc_32 {Φ : gwC} {hb : gwHp} {M b L B : Nat} {xs : Nat → Int32} {Z : gwE} {x : Option Nat} {i K : Int} {z : St} {c : W0} {cells slots : Nat} (hB : Φ.2.1 = B) (hi : 0 ≤ i ∧ i + 4 ≤ (L : Int)) (h2048 : L ≤ 2048) (hc : cells + 20 ≤ 601024) (hs : slots + 100 ≤ 7293034) (hK : K ≤ 1000000) (hL : LI K z) (hC : CI 0 z c) (hM : MI 105 z c) (k : LK Φ hb M b L xs Z B x i K cells slots) : G Φ mL_law (E9 Z b L xs B) x cells slots 1560 (lvL M b i) [] (hp Φ hb M shA c) := by
  obtain ⟨v, h1, h2⟩ := pr_idlePivots (z := z)
  have e1 := h1 c hC
  obtain ⟨c2, e2, f2, g2, -⟩ := h2 c hM
  refine gw_aload_n dL_law_1560 rfl rfl ?_
  refine gw_V0 okX8_idlePivots dL_law_1561 kw_602 kw_603 kw_604 (hp_o shA_D.1) rfl ⟨Nat.le_of_ble_eq_true rfl, Nat.le_of_ble_eq_true rfl⟩ ⟨show cells + 0 ≤ 601024 by omega, show slots + 0 ≤ 7293034 by omega⟩ (Nat.le_of_ble_eq_true rfl) (w_X8_idlePivots shA_D e1 ?_)
  refine gw_aload_n dL_law_1564 rfl rfl ?_
  refine gw_V0 okX9_idlePivots dL_law_1565 kw_1719 kw_1720 kw_1721 (hp_o shA_M.1) rfl ⟨Nat.le_of_ble_eq_true rfl, Nat.le_of_ble_eq_true rfl⟩ ⟨show cells + 0 + 0 ≤ 601024 by omega, show slots + 0 + 0 ≤ 7293034 by omega⟩ (Nat.le_of_ble_eq_true rfl) (w_X9_idlePivots shA_M e2 ?_)
  refine gw_icmp_eq (tgt := 2881) dL_law_1568 rfl (by decide) (fun _ => ?_) (fun q => absurd rfl q)
  exact k z c2 _ _ _ (li5 hL) (W_m f2 hC) g2 (show cells + 0 + 0 ≤ cells + 20 by omega) (show slots + 0 + 0 ≤ slots + 100 by omega) (lvA_c rfl (lvA_c rfl (lvA_c rfl (lvA_c rfl (lvA_c rfl lvA_n)))))
set_option maxRecDepth 100000 in
set_option maxHeartbeats 4000000 in
theorem lc_33 {Φ : gwC} {hb : gwHp} {M b L B : Nat} {xs : Nat → Int32} {Z : gwE} {x : Option Nat} {i K : Int} {z : St} {c : W0} {cells slots : Nat} (hB : Φ.2.1 = B) (hi : 0 ≤ i ∧ i + 4 ≤ (L : Int)) (h2048 : L ≤ 2048) (hc : cells + 20 ≤ 601024) (hs : slots + 100 ≤ 7293034) (hK : K ≤ 1000000) (hL : LI K z) (hC : CI 0 z c) (hM : MI 105 z c) (k : LK Φ hb M b L xs Z B x i K cells slots) : G Φ mL_law (E9 Z b L xs B) x cells slots 1573 (lvL M b i) [] (hp Φ hb M shA c) := by
  obtain ⟨e, v, t, z', h1, h2, h3, h4⟩ := pr_entryNumerator hL (p := SA xs (i + 1)) (i32_r _) (q := SA xs (i + 2)) (i32_r _)
  obtain ⟨c1, e1, f1, g1⟩ := h1 c hC
  have hM1 := W_c f1 hM
  have hcs : (e = 0 ∧ t = 0) ∨ (e = 3 ∧ t = 1) := by simpa using h4
  have tail : ∀ c2, CI 0 z' c2 → MI 105 z c2 → (t = 0 → c2 120 0 = v) → G Φ mL_law (E9 Z b L xs B) x (cells + 2) (slots + 12) 1590 (lvL M b i) [vI t] (hp Φ hb M shA c2) := by
    intro c2 hC2 hM2 ho
    obtain ⟨c3, e3, f3, g3, t3⟩ := h2 c2 hM2
    refine gw_istore dL_law_1590 rfl (by decide) ?_
    refine gw_aload_n dL_law_1592 rfl rfl ?_
    refine gw_aload_n dL_law_1593 rfl rfl ?_
    refine gw_iload dL_law_1594 rfl rfl ?_
    refine gw_iconstZ dL_law_1596 rfl ?_
    refine gw_iaddZ dL_law_1597 rfl ?_
    refine gl_sldZ hB ⟨by omega, by omega⟩ h2048 dL_law_1598 rfl ?_
    refine gw_aload_n dL_law_1599 rfl rfl ?_
    refine gw_iload dL_law_1600 rfl rfl ?_
    refine gw_iconstZ dL_law_1602 rfl ?_
    refine gw_iaddZ dL_law_1603 rfl ?_
    refine gl_sldZ hB ⟨by omega, by omega⟩ h2048 dL_law_1604 rfl ?_
    refine gw_V2 okX9_entryNumerator dL_law_1605 kw_1723 kw_1724 kw_1725 (hp_o shA_M.1) rfl ⟨Nat.le_of_ble_eq_true rfl, Nat.le_of_ble_eq_true rfl⟩ ⟨show cells + 2 + 0 ≤ 601024 by omega, show slots + 12 + 0 ≤ 7293034 by omega⟩ (Nat.le_of_ble_eq_true rfl) (w_X9_entryNumerator shA_M e3 ?_)
    refine gw_lstore dL_law_1608 rfl (by decide) ?_
    refine gw_aload_n dL_law_1610 rfl rfl ?_
    refine gw_V0 okX9_thrown dL_law_1611 kw_1405 kw_1406 kw_1407 (hp_o shA_M.1) rfl ⟨Nat.le_of_ble_eq_true rfl, Nat.le_of_ble_eq_true rfl⟩ ⟨show cells + 2 + 0 + 0 ≤ 601024 by omega, show slots + 12 + 0 + 0 ≤ 7293034 by omega⟩ (Nat.le_of_ble_eq_true rfl) (w_X9_thrown shA_M (thr9 t3) ?_)
    refine gw_iload dL_law_1614 rfl rfl ?_
    refine gw_icmp_eq (tgt := 1621) dL_law_1616 rfl (by decide) (fun _ => ?_) (fun q => absurd rfl q)
    refine gw_iload dL_law_1621 rfl rfl ?_
    refine gw_if_neZ (tgt := 1637) dL_law_1623 rfl (by decide) ⟨by omega, by omega⟩ (fun q => ?_) (fun q => ?_)
    · refine gw_goto (tgt := 2881) dL_law_1637 (by decide) ?_
      exact k z' c3 _ _ _ h3 (W_m f3 hC2) g3 (show cells + 2 + 0 + 0 ≤ cells + 20 by omega) (show slots + 12 + 0 + 0 ≤ slots + 100 by omega) (lvA_c rfl (lvA_c rfl (lvA_c rfl (lvA_c rfl (lvA_c rfl lvA_n)))))
    · skip
      refine gw_aload_n dL_law_1626 rfl rfl ?_
      refine gw_iconstZ dL_law_1627 rfl ?_
      have hv : c3 120 0 = v := by rw [f3 120 (Or.inr (by decide))]; exact ho q
      refine gs_laldE dL_law_1628 rfl shA_o (by decide) (by decide) hv ?_
      refine gw_lload dL_law_1629 rfl rfl ?_
      refine gw_lc_eq (tgt := 1637) dL_law_1631 rfl dL_law_1632 rfl (by decide) (fun _ => ?_) (fun q => absurd rfl q)
      refine gw_goto (tgt := 2881) dL_law_1637 (by decide) ?_
      exact k z' c3 _ _ _ h3 (W_m f3 hC2) g3 (show cells + 2 + 0 + 0 ≤ cells + 20 by omega) (show slots + 12 + 0 + 0 ≤ slots + 100 by omega) (lvA_c rfl (lvA_c rfl (lvA_c rfl (lvA_c rfl (lvA_c rfl lvA_n)))))
  refine gw_aload_n dL_law_1573 rfl rfl ?_
  refine gw_aload_n dL_law_1574 rfl rfl ?_
  refine gw_iload dL_law_1575 rfl rfl ?_
  refine gw_iconstZ dL_law_1577 rfl ?_
  refine gw_iaddZ dL_law_1578 rfl ?_
  refine gl_sldZ hB ⟨by omega, by omega⟩ h2048 dL_law_1579 rfl ?_
  refine gw_aload_n dL_law_1580 rfl rfl ?_
  refine gw_iload dL_law_1581 rfl rfl ?_
  refine gw_iconstZ dL_law_1583 rfl ?_
  refine gw_iaddZ dL_law_1584 rfl ?_
  refine gl_sldZ hB ⟨by omega, by omega⟩ h2048 dL_law_1585 rfl ?_
  refine gw_aload_n dL_law_1586 rfl rfl ?_
  refine gw_SH4 okL_entryNumerator dL_law_1587 kw_1165 kw_1166 ⟨Nat.le_of_ble_eq_true rfl, Nat.le_of_ble_eq_true rfl⟩ ⟨show cells + 2 ≤ 601024 by omega, show slots + 12 ≤ 7293034 by omega⟩ (Nat.le_of_ble_eq_true rfl) (v_entryNumerator shA_D shA_o e1 hcs (fun e0 => ?_) (fun e0 => ?_))
  · have t0 : t = 0 := by omega
    have T := tail (upc c1 120 (updZ (c1 120) 0 (v))) (W_o g1) (W_oM hM1) (fun _ => by rw [upc_s, updZ_s])
    rw [t0] at T
    exact T
  · exact tail c1 g1 hM1 (fun t0 => absurd t0 (by omega))
set_option maxRecDepth 100000 in
set_option maxHeartbeats 4000000 in
theorem lc_34 {Φ : gwC} {hb : gwHp} {M b L B : Nat} {xs : Nat → Int32} {Z : gwE} {x : Option Nat} {i K : Int} {z : St} {c : W0} {cells slots : Nat} (hB : Φ.2.1 = B) (hi : 0 ≤ i ∧ i + 4 ≤ (L : Int)) (h2048 : L ≤ 2048) (hc : cells + 20 ≤ 601024) (hs : slots + 100 ≤ 7293034) (hK : K ≤ 1000000) (hL : LI K z) (hC : CI 0 z c) (hM : MI 105 z c) (k : LK Φ hb M b L xs Z B x i K cells slots) : G Φ mL_law (E9 Z b L xs B) x cells slots 1640 (lvL M b i) [] (hp Φ hb M shA c) := by
  obtain ⟨e, v, t, z', h1, h2, h3, h4⟩ := pr_entryDenominator hL (p := SA xs (i + 1)) (i32_r _) (q := SA xs (i + 2)) (i32_r _)
  obtain ⟨c1, e1, f1, g1⟩ := h1 c hC
  have hM1 := W_c f1 hM
  have hcs : (e = 0 ∧ t = 0) ∨ (e = 3 ∧ t = 1) := by simpa using h4
  have tail : ∀ c2, CI 0 z' c2 → MI 105 z c2 → (t = 0 → c2 120 0 = v) → G Φ mL_law (E9 Z b L xs B) x (cells + 2) (slots + 12) 1657 (lvL M b i) [vI t] (hp Φ hb M shA c2) := by
    intro c2 hC2 hM2 ho
    obtain ⟨c3, e3, f3, g3, t3⟩ := h2 c2 hM2
    refine gw_istore dL_law_1657 rfl (by decide) ?_
    refine gw_aload_n dL_law_1659 rfl rfl ?_
    refine gw_aload_n dL_law_1660 rfl rfl ?_
    refine gw_iload dL_law_1661 rfl rfl ?_
    refine gw_iconstZ dL_law_1663 rfl ?_
    refine gw_iaddZ dL_law_1664 rfl ?_
    refine gl_sldZ hB ⟨by omega, by omega⟩ h2048 dL_law_1665 rfl ?_
    refine gw_aload_n dL_law_1666 rfl rfl ?_
    refine gw_iload dL_law_1667 rfl rfl ?_
    refine gw_iconstZ dL_law_1669 rfl ?_
    refine gw_iaddZ dL_law_1670 rfl ?_
    refine gl_sldZ hB ⟨by omega, by omega⟩ h2048 dL_law_1671 rfl ?_
    refine gw_V2 okX9_entryDenominator dL_law_1672 kw_1731 kw_1732 kw_1733 (hp_o shA_M.1) rfl ⟨Nat.le_of_ble_eq_true rfl, Nat.le_of_ble_eq_true rfl⟩ ⟨show cells + 2 + 0 ≤ 601024 by omega, show slots + 12 + 0 ≤ 7293034 by omega⟩ (Nat.le_of_ble_eq_true rfl) (w_X9_entryDenominator shA_M e3 ?_)
    refine gw_lstore dL_law_1675 rfl (by decide) ?_
    refine gw_aload_n dL_law_1677 rfl rfl ?_
    refine gw_V0 okX9_thrown dL_law_1678 kw_1405 kw_1406 kw_1407 (hp_o shA_M.1) rfl ⟨Nat.le_of_ble_eq_true rfl, Nat.le_of_ble_eq_true rfl⟩ ⟨show cells + 2 + 0 + 0 ≤ 601024 by omega, show slots + 12 + 0 + 0 ≤ 7293034 by omega⟩ (Nat.le_of_ble_eq_true rfl) (w_X9_thrown shA_M (thr9 t3) ?_)
    refine gw_iload dL_law_1681 rfl rfl ?_
    refine gw_icmp_eq (tgt := 1688) dL_law_1683 rfl (by decide) (fun _ => ?_) (fun q => absurd rfl q)
    refine gw_iload dL_law_1688 rfl rfl ?_
    refine gw_if_neZ (tgt := 1704) dL_law_1690 rfl (by decide) ⟨by omega, by omega⟩ (fun q => ?_) (fun q => ?_)
    · refine gw_goto (tgt := 2881) dL_law_1704 (by decide) ?_
      exact k z' c3 _ _ _ h3 (W_m f3 hC2) g3 (show cells + 2 + 0 + 0 ≤ cells + 20 by omega) (show slots + 12 + 0 + 0 ≤ slots + 100 by omega) (lvA_c rfl (lvA_c rfl (lvA_c rfl (lvA_c rfl (lvA_c rfl lvA_n)))))
    · skip
      refine gw_aload_n dL_law_1693 rfl rfl ?_
      refine gw_iconstZ dL_law_1694 rfl ?_
      have hv : c3 120 0 = v := by rw [f3 120 (Or.inr (by decide))]; exact ho q
      refine gs_laldE dL_law_1695 rfl shA_o (by decide) (by decide) hv ?_
      refine gw_lload dL_law_1696 rfl rfl ?_
      refine gw_lc_eq (tgt := 1704) dL_law_1698 rfl dL_law_1699 rfl (by decide) (fun _ => ?_) (fun q => absurd rfl q)
      refine gw_goto (tgt := 2881) dL_law_1704 (by decide) ?_
      exact k z' c3 _ _ _ h3 (W_m f3 hC2) g3 (show cells + 2 + 0 + 0 ≤ cells + 20 by omega) (show slots + 12 + 0 + 0 ≤ slots + 100 by omega) (lvA_c rfl (lvA_c rfl (lvA_c rfl (lvA_c rfl (lvA_c rfl lvA_n)))))
  refine gw_aload_n dL_law_1640 rfl rfl ?_
  refine gw_aload_n dL_law_1641 rfl rfl ?_
  refine gw_iload dL_law_1642 rfl rfl ?_
  refine gw_iconstZ dL_law_1644 rfl ?_
  refine gw_iaddZ dL_law_1645 rfl ?_
  refine gl_sldZ hB ⟨by omega, by omega⟩ h2048 dL_law_1646 rfl ?_
  refine gw_aload_n dL_law_1647 rfl rfl ?_
  refine gw_iload dL_law_1648 rfl rfl ?_
  refine gw_iconstZ dL_law_1650 rfl ?_
  refine gw_iaddZ dL_law_1651 rfl ?_
  refine gl_sldZ hB ⟨by omega, by omega⟩ h2048 dL_law_1652 rfl ?_
  refine gw_aload_n dL_law_1653 rfl rfl ?_
  refine gw_SH4 okL_entryDenominator dL_law_1654 kw_1172 kw_1173 ⟨Nat.le_of_ble_eq_true rfl, Nat.le_of_ble_eq_true rfl⟩ ⟨show cells + 2 ≤ 601024 by omega, show slots + 12 ≤ 7293034 by omega⟩ (Nat.le_of_ble_eq_true rfl) (v_entryDenominator shA_D shA_o e1 hcs (fun e0 => ?_) (fun e0 => ?_))
  · have t0 : t = 0 := by omega
    have T := tail (upc c1 120 (updZ (c1 120) 0 (v))) (W_o g1) (W_oM hM1) (fun _ => by rw [upc_s, updZ_s])
    rw [t0] at T
    exact T
  · exact tail c1 g1 hM1 (fun t0 => absurd t0 (by omega))
set_option maxRecDepth 100000 in
set_option maxHeartbeats 4000000 in
theorem lc_35 {Φ : gwC} {hb : gwHp} {M b L B : Nat} {xs : Nat → Int32} {Z : gwE} {x : Option Nat} {i K : Int} {z : St} {c : W0} {cells slots : Nat} (hB : Φ.2.1 = B) (hi : 0 ≤ i ∧ i + 4 ≤ (L : Int)) (h2048 : L ≤ 2048) (hc : cells + 20 ≤ 601024) (hs : slots + 100 ≤ 7293034) (hK : K ≤ 1000000) (hL : LI K z) (hC : CI 0 z c) (hM : MI 105 z c) (k : LK Φ hb M b L xs Z B x i K cells slots) : G Φ mL_law (E9 Z b L xs B) x cells slots 1707 (lvL M b i) [] (hp Φ hb M shA c) := by
  obtain ⟨e, v, t, z', h1, h2, h3, h4⟩ := pr_reducedNumerator hL (q := SA xs (i + 1)) (i32_r _)
  obtain ⟨c1, e1, f1, g1⟩ := h1 c hC
  have hM1 := W_c f1 hM
  have hcs : (e = 0 ∧ t = 0) ∨ (e = 3 ∧ t = 1) := by simpa using h4
  have tail : ∀ c2, CI 0 z' c2 → MI 105 z c2 → (t = 0 → c2 120 0 = v) → G Φ mL_law (E9 Z b L xs B) x (cells + 1) (slots + 6) 1718 (lvL M b i) [vI t] (hp Φ hb M shA c2) := by
    intro c2 hC2 hM2 ho
    obtain ⟨c3, e3, f3, g3, t3⟩ := h2 c2 hM2
    refine gw_istore dL_law_1718 rfl (by decide) ?_
    refine gw_aload_n dL_law_1720 rfl rfl ?_
    refine gw_aload_n dL_law_1721 rfl rfl ?_
    refine gw_iload dL_law_1722 rfl rfl ?_
    refine gw_iconstZ dL_law_1724 rfl ?_
    refine gw_iaddZ dL_law_1725 rfl ?_
    refine gl_sldZ hB ⟨by omega, by omega⟩ h2048 dL_law_1726 rfl ?_
    refine gw_V1 okX9_reducedNumerator dL_law_1727 kw_1735 kw_1736 kw_1737 (hp_o shA_M.1) rfl ⟨Nat.le_of_ble_eq_true rfl, Nat.le_of_ble_eq_true rfl⟩ ⟨show cells + 1 + 0 ≤ 601024 by omega, show slots + 6 + 0 ≤ 7293034 by omega⟩ (Nat.le_of_ble_eq_true rfl) (w_X9_reducedNumerator shA_M e3 ?_)
    refine gw_lstore dL_law_1730 rfl (by decide) ?_
    refine gw_aload_n dL_law_1732 rfl rfl ?_
    refine gw_V0 okX9_thrown dL_law_1733 kw_1405 kw_1406 kw_1407 (hp_o shA_M.1) rfl ⟨Nat.le_of_ble_eq_true rfl, Nat.le_of_ble_eq_true rfl⟩ ⟨show cells + 1 + 0 + 0 ≤ 601024 by omega, show slots + 6 + 0 + 0 ≤ 7293034 by omega⟩ (Nat.le_of_ble_eq_true rfl) (w_X9_thrown shA_M (thr9 t3) ?_)
    refine gw_iload dL_law_1736 rfl rfl ?_
    refine gw_icmp_eq (tgt := 1743) dL_law_1738 rfl (by decide) (fun _ => ?_) (fun q => absurd rfl q)
    refine gw_iload dL_law_1743 rfl rfl ?_
    refine gw_if_neZ (tgt := 1759) dL_law_1745 rfl (by decide) ⟨by omega, by omega⟩ (fun q => ?_) (fun q => ?_)
    · refine gw_goto (tgt := 2881) dL_law_1759 (by decide) ?_
      exact k z' c3 _ _ _ h3 (W_m f3 hC2) g3 (show cells + 1 + 0 + 0 ≤ cells + 20 by omega) (show slots + 6 + 0 + 0 ≤ slots + 100 by omega) (lvA_c rfl (lvA_c rfl (lvA_c rfl (lvA_c rfl (lvA_c rfl lvA_n)))))
    · skip
      refine gw_aload_n dL_law_1748 rfl rfl ?_
      refine gw_iconstZ dL_law_1749 rfl ?_
      have hv : c3 120 0 = v := by rw [f3 120 (Or.inr (by decide))]; exact ho q
      refine gs_laldE dL_law_1750 rfl shA_o (by decide) (by decide) hv ?_
      refine gw_lload dL_law_1751 rfl rfl ?_
      refine gw_lc_eq (tgt := 1759) dL_law_1753 rfl dL_law_1754 rfl (by decide) (fun _ => ?_) (fun q => absurd rfl q)
      refine gw_goto (tgt := 2881) dL_law_1759 (by decide) ?_
      exact k z' c3 _ _ _ h3 (W_m f3 hC2) g3 (show cells + 1 + 0 + 0 ≤ cells + 20 by omega) (show slots + 6 + 0 + 0 ≤ slots + 100 by omega) (lvA_c rfl (lvA_c rfl (lvA_c rfl (lvA_c rfl (lvA_c rfl lvA_n)))))
  refine gw_aload_n dL_law_1707 rfl rfl ?_
  refine gw_aload_n dL_law_1708 rfl rfl ?_
  refine gw_iload dL_law_1709 rfl rfl ?_
  refine gw_iconstZ dL_law_1711 rfl ?_
  refine gw_iaddZ dL_law_1712 rfl ?_
  refine gl_sldZ hB ⟨by omega, by omega⟩ h2048 dL_law_1713 rfl ?_
  refine gw_aload_n dL_law_1714 rfl rfl ?_
  refine gw_SH3 okL_reducedNumerator dL_law_1715 kw_1179 kw_1180 ⟨Nat.le_of_ble_eq_true rfl, Nat.le_of_ble_eq_true rfl⟩ ⟨show cells + 1 ≤ 601024 by omega, show slots + 6 ≤ 7293034 by omega⟩ (Nat.le_of_ble_eq_true rfl) (v_reducedNumerator shA_D shA_o e1 hcs (fun e0 => ?_) (fun e0 => ?_))
  · have t0 : t = 0 := by omega
    have T := tail (upc c1 120 (updZ (c1 120) 0 (v))) (W_o g1) (W_oM hM1) (fun _ => by rw [upc_s, updZ_s])
    rw [t0] at T
    exact T
  · exact tail c1 g1 hM1 (fun t0 => absurd t0 (by omega))
set_option maxRecDepth 100000 in
set_option maxHeartbeats 4000000 in
theorem lc_36 {Φ : gwC} {hb : gwHp} {M b L B : Nat} {xs : Nat → Int32} {Z : gwE} {x : Option Nat} {i K : Int} {z : St} {c : W0} {cells slots : Nat} (hB : Φ.2.1 = B) (hi : 0 ≤ i ∧ i + 4 ≤ (L : Int)) (h2048 : L ≤ 2048) (hc : cells + 20 ≤ 601024) (hs : slots + 100 ≤ 7293034) (hK : K ≤ 1000000) (hL : LI K z) (hC : CI 0 z c) (hM : MI 105 z c) (k : LK Φ hb M b L xs Z B x i K cells slots) : G Φ mL_law (E9 Z b L xs B) x cells slots 1762 (lvL M b i) [] (hp Φ hb M shA c) := by
  obtain ⟨e, v, t, z', h1, h2, h3, h4⟩ := pr_reducedDenominator hL (q := SA xs (i + 1)) (i32_r _)
  obtain ⟨c1, e1, f1, g1⟩ := h1 c hC
  have hM1 := W_c f1 hM
  have hcs : (e = 0 ∧ t = 0) ∨ (e = 3 ∧ t = 1) := by simpa using h4
  have tail : ∀ c2, CI 0 z' c2 → MI 105 z c2 → (t = 0 → c2 120 0 = v) → G Φ mL_law (E9 Z b L xs B) x (cells + 1) (slots + 6) 1773 (lvL M b i) [vI t] (hp Φ hb M shA c2) := by
    intro c2 hC2 hM2 ho
    obtain ⟨c3, e3, f3, g3, t3⟩ := h2 c2 hM2
    refine gw_istore dL_law_1773 rfl (by decide) ?_
    refine gw_aload_n dL_law_1775 rfl rfl ?_
    refine gw_aload_n dL_law_1776 rfl rfl ?_
    refine gw_iload dL_law_1777 rfl rfl ?_
    refine gw_iconstZ dL_law_1779 rfl ?_
    refine gw_iaddZ dL_law_1780 rfl ?_
    refine gl_sldZ hB ⟨by omega, by omega⟩ h2048 dL_law_1781 rfl ?_
    refine gw_V1 okX9_reducedDenominator dL_law_1782 kw_1743 kw_1744 kw_1745 (hp_o shA_M.1) rfl ⟨Nat.le_of_ble_eq_true rfl, Nat.le_of_ble_eq_true rfl⟩ ⟨show cells + 1 + 0 ≤ 601024 by omega, show slots + 6 + 0 ≤ 7293034 by omega⟩ (Nat.le_of_ble_eq_true rfl) (w_X9_reducedDenominator shA_M e3 ?_)
    refine gw_lstore dL_law_1785 rfl (by decide) ?_
    refine gw_aload_n dL_law_1787 rfl rfl ?_
    refine gw_V0 okX9_thrown dL_law_1788 kw_1405 kw_1406 kw_1407 (hp_o shA_M.1) rfl ⟨Nat.le_of_ble_eq_true rfl, Nat.le_of_ble_eq_true rfl⟩ ⟨show cells + 1 + 0 + 0 ≤ 601024 by omega, show slots + 6 + 0 + 0 ≤ 7293034 by omega⟩ (Nat.le_of_ble_eq_true rfl) (w_X9_thrown shA_M (thr9 t3) ?_)
    refine gw_iload dL_law_1791 rfl rfl ?_
    refine gw_icmp_eq (tgt := 1798) dL_law_1793 rfl (by decide) (fun _ => ?_) (fun q => absurd rfl q)
    refine gw_iload dL_law_1798 rfl rfl ?_
    refine gw_if_neZ (tgt := 1814) dL_law_1800 rfl (by decide) ⟨by omega, by omega⟩ (fun q => ?_) (fun q => ?_)
    · refine gw_goto (tgt := 2881) dL_law_1814 (by decide) ?_
      exact k z' c3 _ _ _ h3 (W_m f3 hC2) g3 (show cells + 1 + 0 + 0 ≤ cells + 20 by omega) (show slots + 6 + 0 + 0 ≤ slots + 100 by omega) (lvA_c rfl (lvA_c rfl (lvA_c rfl (lvA_c rfl (lvA_c rfl lvA_n)))))
    · skip
      refine gw_aload_n dL_law_1803 rfl rfl ?_
      refine gw_iconstZ dL_law_1804 rfl ?_
      have hv : c3 120 0 = v := by rw [f3 120 (Or.inr (by decide))]; exact ho q
      refine gs_laldE dL_law_1805 rfl shA_o (by decide) (by decide) hv ?_
      refine gw_lload dL_law_1806 rfl rfl ?_
      refine gw_lc_eq (tgt := 1814) dL_law_1808 rfl dL_law_1809 rfl (by decide) (fun _ => ?_) (fun q => absurd rfl q)
      refine gw_goto (tgt := 2881) dL_law_1814 (by decide) ?_
      exact k z' c3 _ _ _ h3 (W_m f3 hC2) g3 (show cells + 1 + 0 + 0 ≤ cells + 20 by omega) (show slots + 6 + 0 + 0 ≤ slots + 100 by omega) (lvA_c rfl (lvA_c rfl (lvA_c rfl (lvA_c rfl (lvA_c rfl lvA_n)))))
  refine gw_aload_n dL_law_1762 rfl rfl ?_
  refine gw_aload_n dL_law_1763 rfl rfl ?_
  refine gw_iload dL_law_1764 rfl rfl ?_
  refine gw_iconstZ dL_law_1766 rfl ?_
  refine gw_iaddZ dL_law_1767 rfl ?_
  refine gl_sldZ hB ⟨by omega, by omega⟩ h2048 dL_law_1768 rfl ?_
  refine gw_aload_n dL_law_1769 rfl rfl ?_
  refine gw_SH3 okL_reducedDenominator dL_law_1770 kw_1186 kw_1187 ⟨Nat.le_of_ble_eq_true rfl, Nat.le_of_ble_eq_true rfl⟩ ⟨show cells + 1 ≤ 601024 by omega, show slots + 6 ≤ 7293034 by omega⟩ (Nat.le_of_ble_eq_true rfl) (v_reducedDenominator shA_D shA_o e1 hcs (fun e0 => ?_) (fun e0 => ?_))
  · have t0 : t = 0 := by omega
    have T := tail (upc c1 120 (updZ (c1 120) 0 (v))) (W_o g1) (W_oM hM1) (fun _ => by rw [upc_s, updZ_s])
    rw [t0] at T
    exact T
  · exact tail c1 g1 hM1 (fun t0 => absurd t0 (by omega))
set_option maxRecDepth 100000 in
set_option maxHeartbeats 4000000 in
theorem lc_37 {Φ : gwC} {hb : gwHp} {M b L B : Nat} {xs : Nat → Int32} {Z : gwE} {x : Option Nat} {i K : Int} {z : St} {c : W0} {cells slots : Nat} (hB : Φ.2.1 = B) (hi : 0 ≤ i ∧ i + 4 ≤ (L : Int)) (h2048 : L ≤ 2048) (hc : cells + 20 ≤ 601024) (hs : slots + 100 ≤ 7293034) (hK : K ≤ 1000000) (hL : LI K z) (hC : CI 0 z c) (hM : MI 105 z c) (k : LK Φ hb M b L xs Z B x i K cells slots) : G Φ mL_law (E9 Z b L xs B) x cells slots 1817 (lvL M b i) [] (hp Φ hb M shA c) := by
  obtain ⟨v, h1, h2⟩ := pr_valueNumerator (z := z) hL
  have e1 := h1 c hC
  obtain ⟨c2, e2, f2, g2, -⟩ := h2 c hM
  refine gw_aload_n dL_law_1817 rfl rfl ?_
  refine gw_V0 okX8_valueNumerator dL_law_1818 kw_606 kw_607 kw_608 (hp_o shA_D.1) rfl ⟨Nat.le_of_ble_eq_true rfl, Nat.le_of_ble_eq_true rfl⟩ ⟨show cells + 0 ≤ 601024 by omega, show slots + 0 ≤ 7293034 by omega⟩ (Nat.le_of_ble_eq_true rfl) (w_X8_valueNumerator shA_D e1 ?_)
  refine gw_aload_n dL_law_1821 rfl rfl ?_
  refine gw_V0 okX9_valueNumerator dL_law_1822 kw_1747 kw_1748 kw_1749 (hp_o shA_M.1) rfl ⟨Nat.le_of_ble_eq_true rfl, Nat.le_of_ble_eq_true rfl⟩ ⟨show cells + 0 + 0 ≤ 601024 by omega, show slots + 0 + 0 ≤ 7293034 by omega⟩ (Nat.le_of_ble_eq_true rfl) (w_X9_valueNumerator shA_M e2 ?_)
  refine gw_lc_eq (tgt := 2881) dL_law_1825 rfl dL_law_1826 rfl (by decide) (fun _ => ?_) (fun q => absurd rfl q)
  exact k z c2 _ _ _ (li5 hL) (W_m f2 hC) g2 (show cells + 0 + 0 ≤ cells + 20 by omega) (show slots + 0 + 0 ≤ slots + 100 by omega) (lvA_c rfl (lvA_c rfl (lvA_c rfl (lvA_c rfl (lvA_c rfl lvA_n)))))
set_option maxRecDepth 100000 in
set_option maxHeartbeats 4000000 in
theorem lc_38 {Φ : gwC} {hb : gwHp} {M b L B : Nat} {xs : Nat → Int32} {Z : gwE} {x : Option Nat} {i K : Int} {z : St} {c : W0} {cells slots : Nat} (hB : Φ.2.1 = B) (hi : 0 ≤ i ∧ i + 4 ≤ (L : Int)) (h2048 : L ≤ 2048) (hc : cells + 20 ≤ 601024) (hs : slots + 100 ≤ 7293034) (hK : K ≤ 1000000) (hL : LI K z) (hC : CI 0 z c) (hM : MI 105 z c) (k : LK Φ hb M b L xs Z B x i K cells slots) : G Φ mL_law (E9 Z b L xs B) x cells slots 1831 (lvL M b i) [] (hp Φ hb M shA c) := by
  obtain ⟨v, h1, h2⟩ := pr_valueDenominator (z := z) hL
  have e1 := h1 c hC
  obtain ⟨c2, e2, f2, g2, -⟩ := h2 c hM
  refine gw_aload_n dL_law_1831 rfl rfl ?_
  refine gw_V0 okX8_valueDenominator dL_law_1832 kw_623 kw_624 kw_625 (hp_o shA_D.1) rfl ⟨Nat.le_of_ble_eq_true rfl, Nat.le_of_ble_eq_true rfl⟩ ⟨show cells + 0 ≤ 601024 by omega, show slots + 0 ≤ 7293034 by omega⟩ (Nat.le_of_ble_eq_true rfl) (w_X8_valueDenominator shA_D e1 ?_)
  refine gw_aload_n dL_law_1835 rfl rfl ?_
  refine gw_V0 okX9_valueDenominator dL_law_1836 kw_1759 kw_1760 kw_1761 (hp_o shA_M.1) rfl ⟨Nat.le_of_ble_eq_true rfl, Nat.le_of_ble_eq_true rfl⟩ ⟨show cells + 0 + 0 ≤ 601024 by omega, show slots + 0 + 0 ≤ 7293034 by omega⟩ (Nat.le_of_ble_eq_true rfl) (w_X9_valueDenominator shA_M e2 ?_)
  refine gw_lc_eq (tgt := 2881) dL_law_1839 rfl dL_law_1840 rfl (by decide) (fun _ => ?_) (fun q => absurd rfl q)
  exact k z c2 _ _ _ (li5 hL) (W_m f2 hC) g2 (show cells + 0 + 0 ≤ cells + 20 by omega) (show slots + 0 + 0 ≤ slots + 100 by omega) (lvA_c rfl (lvA_c rfl (lvA_c rfl (lvA_c rfl (lvA_c rfl lvA_n)))))
set_option maxRecDepth 100000 in
set_option maxHeartbeats 4000000 in
theorem lc_39 {Φ : gwC} {hb : gwHp} {M b L B : Nat} {xs : Nat → Int32} {Z : gwE} {x : Option Nat} {i K : Int} {z : St} {c : W0} {cells slots : Nat} (hB : Φ.2.1 = B) (hi : 0 ≤ i ∧ i + 4 ≤ (L : Int)) (h2048 : L ≤ 2048) (hc : cells + 20 ≤ 601024) (hs : slots + 100 ≤ 7293034) (hK : K ≤ 1000000) (hL : LI K z) (hC : CI 0 z c) (hM : MI 105 z c) (k : LK Φ hb M b L xs Z B x i K cells slots) : G Φ mL_law (E9 Z b L xs B) x cells slots 1845 (lvL M b i) [] (hp Φ hb M shA c) := by
  obtain ⟨e, v, t, z', h1, h2, h3, h4⟩ := pr_givenNumerator hL (q := SA xs (i + 1)) (i32_r _)
  obtain ⟨c1, e1, f1, g1⟩ := h1 c hC
  have hM1 := W_c f1 hM
  have hcs : (e = 0 ∧ t = 0) ∨ (e = 3 ∧ t = 1) := by simpa using h4
  have tail : ∀ c2, CI 0 z' c2 → MI 105 z c2 → (t = 0 → c2 120 0 = v) → G Φ mL_law (E9 Z b L xs B) x (cells + 1) (slots + 6) 1856 (lvL M b i) [vI t] (hp Φ hb M shA c2) := by
    intro c2 hC2 hM2 ho
    obtain ⟨c3, e3, f3, g3, t3⟩ := h2 c2 hM2
    refine gw_istore dL_law_1856 rfl (by decide) ?_
    refine gw_aload_n dL_law_1858 rfl rfl ?_
    refine gw_aload_n dL_law_1859 rfl rfl ?_
    refine gw_iload dL_law_1860 rfl rfl ?_
    refine gw_iconstZ dL_law_1862 rfl ?_
    refine gw_iaddZ dL_law_1863 rfl ?_
    refine gl_sldZ hB ⟨by omega, by omega⟩ h2048 dL_law_1864 rfl ?_
    refine gw_V1 okX9_givenNumerator dL_law_1865 kw_1763 kw_1764 kw_1765 (hp_o shA_M.1) rfl ⟨Nat.le_of_ble_eq_true rfl, Nat.le_of_ble_eq_true rfl⟩ ⟨show cells + 1 + 0 ≤ 601024 by omega, show slots + 6 + 0 ≤ 7293034 by omega⟩ (Nat.le_of_ble_eq_true rfl) (w_X9_givenNumerator shA_M e3 ?_)
    refine gw_lstore dL_law_1868 rfl (by decide) ?_
    refine gw_aload_n dL_law_1870 rfl rfl ?_
    refine gw_V0 okX9_thrown dL_law_1871 kw_1405 kw_1406 kw_1407 (hp_o shA_M.1) rfl ⟨Nat.le_of_ble_eq_true rfl, Nat.le_of_ble_eq_true rfl⟩ ⟨show cells + 1 + 0 + 0 ≤ 601024 by omega, show slots + 6 + 0 + 0 ≤ 7293034 by omega⟩ (Nat.le_of_ble_eq_true rfl) (w_X9_thrown shA_M (thr9 t3) ?_)
    refine gw_iload dL_law_1874 rfl rfl ?_
    refine gw_icmp_eq (tgt := 1881) dL_law_1876 rfl (by decide) (fun _ => ?_) (fun q => absurd rfl q)
    refine gw_iload dL_law_1881 rfl rfl ?_
    refine gw_if_neZ (tgt := 1897) dL_law_1883 rfl (by decide) ⟨by omega, by omega⟩ (fun q => ?_) (fun q => ?_)
    · refine gw_goto (tgt := 2881) dL_law_1897 (by decide) ?_
      exact k z' c3 _ _ _ h3 (W_m f3 hC2) g3 (show cells + 1 + 0 + 0 ≤ cells + 20 by omega) (show slots + 6 + 0 + 0 ≤ slots + 100 by omega) (lvA_c rfl (lvA_c rfl (lvA_c rfl (lvA_c rfl (lvA_c rfl lvA_n)))))
    · skip
      refine gw_aload_n dL_law_1886 rfl rfl ?_
      refine gw_iconstZ dL_law_1887 rfl ?_
      have hv : c3 120 0 = v := by rw [f3 120 (Or.inr (by decide))]; exact ho q
      refine gs_laldE dL_law_1888 rfl shA_o (by decide) (by decide) hv ?_
      refine gw_lload dL_law_1889 rfl rfl ?_
      refine gw_lc_eq (tgt := 1897) dL_law_1891 rfl dL_law_1892 rfl (by decide) (fun _ => ?_) (fun q => absurd rfl q)
      refine gw_goto (tgt := 2881) dL_law_1897 (by decide) ?_
      exact k z' c3 _ _ _ h3 (W_m f3 hC2) g3 (show cells + 1 + 0 + 0 ≤ cells + 20 by omega) (show slots + 6 + 0 + 0 ≤ slots + 100 by omega) (lvA_c rfl (lvA_c rfl (lvA_c rfl (lvA_c rfl (lvA_c rfl lvA_n)))))
  refine gw_aload_n dL_law_1845 rfl rfl ?_
  refine gw_aload_n dL_law_1846 rfl rfl ?_
  refine gw_iload dL_law_1847 rfl rfl ?_
  refine gw_iconstZ dL_law_1849 rfl ?_
  refine gw_iaddZ dL_law_1850 rfl ?_
  refine gl_sldZ hB ⟨by omega, by omega⟩ h2048 dL_law_1851 rfl ?_
  refine gw_aload_n dL_law_1852 rfl rfl ?_
  refine gw_SH3 okL_givenNumerator dL_law_1853 kw_1193 kw_1194 ⟨Nat.le_of_ble_eq_true rfl, Nat.le_of_ble_eq_true rfl⟩ ⟨show cells + 1 ≤ 601024 by omega, show slots + 6 ≤ 7293034 by omega⟩ (Nat.le_of_ble_eq_true rfl) (v_givenNumerator shA_D shA_o e1 hcs (fun e0 => ?_) (fun e0 => ?_))
  · have t0 : t = 0 := by omega
    have T := tail (upc c1 120 (updZ (c1 120) 0 (v))) (W_o g1) (W_oM hM1) (fun _ => by rw [upc_s, updZ_s])
    rw [t0] at T
    exact T
  · exact tail c1 g1 hM1 (fun t0 => absurd t0 (by omega))
set_option maxRecDepth 100000 in
set_option maxHeartbeats 4000000 in
theorem lc_40 {Φ : gwC} {hb : gwHp} {M b L B : Nat} {xs : Nat → Int32} {Z : gwE} {x : Option Nat} {i K : Int} {z : St} {c : W0} {cells slots : Nat} (hB : Φ.2.1 = B) (hi : 0 ≤ i ∧ i + 4 ≤ (L : Int)) (h2048 : L ≤ 2048) (hc : cells + 20 ≤ 601024) (hs : slots + 100 ≤ 7293034) (hK : K ≤ 1000000) (hL : LI K z) (hC : CI 0 z c) (hM : MI 105 z c) (k : LK Φ hb M b L xs Z B x i K cells slots) : G Φ mL_law (E9 Z b L xs B) x cells slots 1900 (lvL M b i) [] (hp Φ hb M shA c) := by
  obtain ⟨e, v, t, z', h1, h2, h3, h4⟩ := pr_givenDenominator hL (q := SA xs (i + 1)) (i32_r _)
  obtain ⟨c1, e1, f1, g1⟩ := h1 c hC
  have hM1 := W_c f1 hM
  have hcs : (e = 0 ∧ t = 0) ∨ (e = 3 ∧ t = 1) := by simpa using h4
  have tail : ∀ c2, CI 0 z' c2 → MI 105 z c2 → (t = 0 → c2 120 0 = v) → G Φ mL_law (E9 Z b L xs B) x (cells + 1) (slots + 6) 1911 (lvL M b i) [vI t] (hp Φ hb M shA c2) := by
    intro c2 hC2 hM2 ho
    obtain ⟨c3, e3, f3, g3, t3⟩ := h2 c2 hM2
    refine gw_istore dL_law_1911 rfl (by decide) ?_
    refine gw_aload_n dL_law_1913 rfl rfl ?_
    refine gw_aload_n dL_law_1914 rfl rfl ?_
    refine gw_iload dL_law_1915 rfl rfl ?_
    refine gw_iconstZ dL_law_1917 rfl ?_
    refine gw_iaddZ dL_law_1918 rfl ?_
    refine gl_sldZ hB ⟨by omega, by omega⟩ h2048 dL_law_1919 rfl ?_
    refine gw_V1 okX9_givenDenominator dL_law_1920 kw_1771 kw_1772 kw_1773 (hp_o shA_M.1) rfl ⟨Nat.le_of_ble_eq_true rfl, Nat.le_of_ble_eq_true rfl⟩ ⟨show cells + 1 + 0 ≤ 601024 by omega, show slots + 6 + 0 ≤ 7293034 by omega⟩ (Nat.le_of_ble_eq_true rfl) (w_X9_givenDenominator shA_M e3 ?_)
    refine gw_lstore dL_law_1923 rfl (by decide) ?_
    refine gw_aload_n dL_law_1925 rfl rfl ?_
    refine gw_V0 okX9_thrown dL_law_1926 kw_1405 kw_1406 kw_1407 (hp_o shA_M.1) rfl ⟨Nat.le_of_ble_eq_true rfl, Nat.le_of_ble_eq_true rfl⟩ ⟨show cells + 1 + 0 + 0 ≤ 601024 by omega, show slots + 6 + 0 + 0 ≤ 7293034 by omega⟩ (Nat.le_of_ble_eq_true rfl) (w_X9_thrown shA_M (thr9 t3) ?_)
    refine gw_iload dL_law_1929 rfl rfl ?_
    refine gw_icmp_eq (tgt := 1936) dL_law_1931 rfl (by decide) (fun _ => ?_) (fun q => absurd rfl q)
    refine gw_iload dL_law_1936 rfl rfl ?_
    refine gw_if_neZ (tgt := 1952) dL_law_1938 rfl (by decide) ⟨by omega, by omega⟩ (fun q => ?_) (fun q => ?_)
    · refine gw_goto (tgt := 2881) dL_law_1952 (by decide) ?_
      exact k z' c3 _ _ _ h3 (W_m f3 hC2) g3 (show cells + 1 + 0 + 0 ≤ cells + 20 by omega) (show slots + 6 + 0 + 0 ≤ slots + 100 by omega) (lvA_c rfl (lvA_c rfl (lvA_c rfl (lvA_c rfl (lvA_c rfl lvA_n)))))
    · skip
      refine gw_aload_n dL_law_1941 rfl rfl ?_
      refine gw_iconstZ dL_law_1942 rfl ?_
      have hv : c3 120 0 = v := by rw [f3 120 (Or.inr (by decide))]; exact ho q
      refine gs_laldE dL_law_1943 rfl shA_o (by decide) (by decide) hv ?_
      refine gw_lload dL_law_1944 rfl rfl ?_
      refine gw_lc_eq (tgt := 1952) dL_law_1946 rfl dL_law_1947 rfl (by decide) (fun _ => ?_) (fun q => absurd rfl q)
      refine gw_goto (tgt := 2881) dL_law_1952 (by decide) ?_
      exact k z' c3 _ _ _ h3 (W_m f3 hC2) g3 (show cells + 1 + 0 + 0 ≤ cells + 20 by omega) (show slots + 6 + 0 + 0 ≤ slots + 100 by omega) (lvA_c rfl (lvA_c rfl (lvA_c rfl (lvA_c rfl (lvA_c rfl lvA_n)))))
  refine gw_aload_n dL_law_1900 rfl rfl ?_
  refine gw_aload_n dL_law_1901 rfl rfl ?_
  refine gw_iload dL_law_1902 rfl rfl ?_
  refine gw_iconstZ dL_law_1904 rfl ?_
  refine gw_iaddZ dL_law_1905 rfl ?_
  refine gl_sldZ hB ⟨by omega, by omega⟩ h2048 dL_law_1906 rfl ?_
  refine gw_aload_n dL_law_1907 rfl rfl ?_
  refine gw_SH3 okL_givenDenominator dL_law_1908 kw_1200 kw_1201 ⟨Nat.le_of_ble_eq_true rfl, Nat.le_of_ble_eq_true rfl⟩ ⟨show cells + 1 ≤ 601024 by omega, show slots + 6 ≤ 7293034 by omega⟩ (Nat.le_of_ble_eq_true rfl) (v_givenDenominator shA_D shA_o e1 hcs (fun e0 => ?_) (fun e0 => ?_))
  · have t0 : t = 0 := by omega
    have T := tail (upc c1 120 (updZ (c1 120) 0 (v))) (W_o g1) (W_oM hM1) (fun _ => by rw [upc_s, updZ_s])
    rw [t0] at T
    exact T
  · exact tail c1 g1 hM1 (fun t0 => absurd t0 (by omega))
set_option maxRecDepth 100000 in
set_option maxHeartbeats 4000000 in
theorem lc_41 {Φ : gwC} {hb : gwHp} {M b L B : Nat} {xs : Nat → Int32} {Z : gwE} {x : Option Nat} {i K : Int} {z : St} {c : W0} {cells slots : Nat} (hB : Φ.2.1 = B) (hi : 0 ≤ i ∧ i + 4 ≤ (L : Int)) (h2048 : L ≤ 2048) (hc : cells + 20 ≤ 601024) (hs : slots + 100 ≤ 7293034) (hK : K ≤ 1000000) (hL : LI K z) (hC : CI 0 z c) (hM : MI 105 z c) (k : LK Φ hb M b L xs Z B x i K cells slots) : G Φ mL_law (E9 Z b L xs B) x cells slots 1955 (lvL M b i) [] (hp Φ hb M shA c) := by
  have e1 := c8_dvalue hL hC
  obtain ⟨c2, e2, f2, g2⟩ := m9_dvalue hL hM
  refine gw_aload_n dL_law_1955 rfl rfl ?_
  refine gw_V0 okX8_value dL_law_1956 kw_630 kw_631 kw_632 (hp_o shA_D.1) rfl ⟨Nat.le_of_ble_eq_true rfl, Nat.le_of_ble_eq_true rfl⟩ ⟨show cells + 0 ≤ 601024 by omega, show slots + 0 ≤ 7293034 by omega⟩ (Nat.le_of_ble_eq_true rfl) (w_X8_value shA_D e1 ?_)
  refine gw_dstore dL_law_1959 rfl (by decide) ?_
  refine gw_aload_n dL_law_1961 rfl rfl ?_
  refine gw_V0 okX9_value dL_law_1962 kw_1775 kw_1776 kw_1777 (hp_o shA_M.1) rfl ⟨Nat.le_of_ble_eq_true rfl, Nat.le_of_ble_eq_true rfl⟩ ⟨show cells + 0 + 0 ≤ 601024 by omega, show slots + 0 + 0 ≤ 7293034 by omega⟩ (Nat.le_of_ble_eq_true rfl) (w_X9_value shA_M e2 ?_)
  refine gw_dstore dL_law_1965 rfl (by decide) ?_
  refine gw_dload dL_law_1967 rfl rfl ?_
  refine gw_dload dL_law_1969 rfl rfl ?_
  refine gw_dcmp dL_law_1971 rfl ?_
  rw [(bt_e hL).2.1]
  refine gw_if_eq (tgt := 1993) dL_law_1972 rfl (by decide) (fun _ => ?_) (fun q => absurd rfl q)
  refine gw_goto (tgt := 2881) dL_law_1993 (by decide) ?_
  exact k z c2 _ _ _ (li5 hL) (W_m f2 hC) g2 (show cells + 0 + 0 ≤ cells + 20 by omega) (show slots + 0 + 0 ≤ slots + 100 by omega) (lvA_c rfl (lvA_c rfl (lvA_c rfl (lvA_c rfl (lvA_c rfl lvA_n)))))
set_option maxRecDepth 100000 in
set_option maxHeartbeats 4000000 in
theorem lc_42 {Φ : gwC} {hb : gwHp} {M b L B : Nat} {xs : Nat → Int32} {Z : gwE} {x : Option Nat} {i K : Int} {z : St} {c : W0} {cells slots : Nat} (hB : Φ.2.1 = B) (hi : 0 ≤ i ∧ i + 4 ≤ (L : Int)) (h2048 : L ≤ 2048) (hc : cells + 20 ≤ 601024) (hs : slots + 100 ≤ 7293034) (hK : K ≤ 1000000) (hL : LI K z) (hC : CI 0 z c) (hM : MI 105 z c) (k : LK Φ hb M b L xs Z B x i K cells slots) : G Φ mL_law (E9 Z b L xs B) x cells slots 1996 (lvL M b i) [] (hp Φ hb M shA c) := by
  obtain ⟨e, v, t, z', h1, h2, h3, h4⟩ := pr_dualNumerator hL (q := SA xs (i + 1)) (i32_r _)
  obtain ⟨c1, e1, f1, g1⟩ := h1 c hC
  have hM1 := W_c f1 hM
  have hcs : (e = 0 ∧ t = 0) ∨ (e = 3 ∧ t = 1) := by simpa using h4
  have tail : ∀ c2, CI 0 z' c2 → MI 105 z c2 → (t = 0 → c2 120 0 = v) → G Φ mL_law (E9 Z b L xs B) x (cells + 1) (slots + 6) 2007 (lvL M b i) [vI t] (hp Φ hb M shA c2) := by
    intro c2 hC2 hM2 ho
    obtain ⟨c3, e3, f3, g3, t3⟩ := h2 c2 hM2
    refine gw_istore dL_law_2007 rfl (by decide) ?_
    refine gw_aload_n dL_law_2009 rfl rfl ?_
    refine gw_aload_n dL_law_2010 rfl rfl ?_
    refine gw_iload dL_law_2011 rfl rfl ?_
    refine gw_iconstZ dL_law_2013 rfl ?_
    refine gw_iaddZ dL_law_2014 rfl ?_
    refine gl_sldZ hB ⟨by omega, by omega⟩ h2048 dL_law_2015 rfl ?_
    refine gw_V1 okX9_dualNumerator dL_law_2016 kw_1779 kw_1780 kw_1781 (hp_o shA_M.1) rfl ⟨Nat.le_of_ble_eq_true rfl, Nat.le_of_ble_eq_true rfl⟩ ⟨show cells + 1 + 0 ≤ 601024 by omega, show slots + 6 + 0 ≤ 7293034 by omega⟩ (Nat.le_of_ble_eq_true rfl) (w_X9_dualNumerator shA_M e3 ?_)
    refine gw_lstore dL_law_2019 rfl (by decide) ?_
    refine gw_aload_n dL_law_2021 rfl rfl ?_
    refine gw_V0 okX9_thrown dL_law_2022 kw_1405 kw_1406 kw_1407 (hp_o shA_M.1) rfl ⟨Nat.le_of_ble_eq_true rfl, Nat.le_of_ble_eq_true rfl⟩ ⟨show cells + 1 + 0 + 0 ≤ 601024 by omega, show slots + 6 + 0 + 0 ≤ 7293034 by omega⟩ (Nat.le_of_ble_eq_true rfl) (w_X9_thrown shA_M (thr9 t3) ?_)
    refine gw_iload dL_law_2025 rfl rfl ?_
    refine gw_icmp_eq (tgt := 2032) dL_law_2027 rfl (by decide) (fun _ => ?_) (fun q => absurd rfl q)
    refine gw_iload dL_law_2032 rfl rfl ?_
    refine gw_if_neZ (tgt := 2048) dL_law_2034 rfl (by decide) ⟨by omega, by omega⟩ (fun q => ?_) (fun q => ?_)
    · refine gw_goto (tgt := 2881) dL_law_2048 (by decide) ?_
      exact k z' c3 _ _ _ h3 (W_m f3 hC2) g3 (show cells + 1 + 0 + 0 ≤ cells + 20 by omega) (show slots + 6 + 0 + 0 ≤ slots + 100 by omega) (lvA_c rfl (lvA_c rfl (lvA_c rfl (lvA_c rfl (lvA_c rfl lvA_n)))))
    · skip
      refine gw_aload_n dL_law_2037 rfl rfl ?_
      refine gw_iconstZ dL_law_2038 rfl ?_
      have hv : c3 120 0 = v := by rw [f3 120 (Or.inr (by decide))]; exact ho q
      refine gs_laldE dL_law_2039 rfl shA_o (by decide) (by decide) hv ?_
      refine gw_lload dL_law_2040 rfl rfl ?_
      refine gw_lc_eq (tgt := 2048) dL_law_2042 rfl dL_law_2043 rfl (by decide) (fun _ => ?_) (fun q => absurd rfl q)
      refine gw_goto (tgt := 2881) dL_law_2048 (by decide) ?_
      exact k z' c3 _ _ _ h3 (W_m f3 hC2) g3 (show cells + 1 + 0 + 0 ≤ cells + 20 by omega) (show slots + 6 + 0 + 0 ≤ slots + 100 by omega) (lvA_c rfl (lvA_c rfl (lvA_c rfl (lvA_c rfl (lvA_c rfl lvA_n)))))
  refine gw_aload_n dL_law_1996 rfl rfl ?_
  refine gw_aload_n dL_law_1997 rfl rfl ?_
  refine gw_iload dL_law_1998 rfl rfl ?_
  refine gw_iconstZ dL_law_2000 rfl ?_
  refine gw_iaddZ dL_law_2001 rfl ?_
  refine gl_sldZ hB ⟨by omega, by omega⟩ h2048 dL_law_2002 rfl ?_
  refine gw_aload_n dL_law_2003 rfl rfl ?_
  refine gw_SH3 okL_dualNumerator dL_law_2004 kw_1207 kw_1208 ⟨Nat.le_of_ble_eq_true rfl, Nat.le_of_ble_eq_true rfl⟩ ⟨show cells + 1 ≤ 601024 by omega, show slots + 6 ≤ 7293034 by omega⟩ (Nat.le_of_ble_eq_true rfl) (v_dualNumerator shA_D shA_o e1 hcs (fun e0 => ?_) (fun e0 => ?_))
  · have t0 : t = 0 := by omega
    have T := tail (upc c1 120 (updZ (c1 120) 0 (v))) (W_o g1) (W_oM hM1) (fun _ => by rw [upc_s, updZ_s])
    rw [t0] at T
    exact T
  · exact tail c1 g1 hM1 (fun t0 => absurd t0 (by omega))
set_option maxRecDepth 100000 in
set_option maxHeartbeats 4000000 in
theorem lc_43 {Φ : gwC} {hb : gwHp} {M b L B : Nat} {xs : Nat → Int32} {Z : gwE} {x : Option Nat} {i K : Int} {z : St} {c : W0} {cells slots : Nat} (hB : Φ.2.1 = B) (hi : 0 ≤ i ∧ i + 4 ≤ (L : Int)) (h2048 : L ≤ 2048) (hc : cells + 20 ≤ 601024) (hs : slots + 100 ≤ 7293034) (hK : K ≤ 1000000) (hL : LI K z) (hC : CI 0 z c) (hM : MI 105 z c) (k : LK Φ hb M b L xs Z B x i K cells slots) : G Φ mL_law (E9 Z b L xs B) x cells slots 2051 (lvL M b i) [] (hp Φ hb M shA c) := by
  obtain ⟨e, v, t, z', h1, h2, h3, h4⟩ := pr_dualDenominator hL (q := SA xs (i + 1)) (i32_r _)
  obtain ⟨c1, e1, f1, g1⟩ := h1 c hC
  have hM1 := W_c f1 hM
  have hcs : (e = 0 ∧ t = 0) ∨ (e = 3 ∧ t = 1) := by simpa using h4
  have tail : ∀ c2, CI 0 z' c2 → MI 105 z c2 → (t = 0 → c2 120 0 = v) → G Φ mL_law (E9 Z b L xs B) x (cells + 1) (slots + 6) 2062 (lvL M b i) [vI t] (hp Φ hb M shA c2) := by
    intro c2 hC2 hM2 ho
    obtain ⟨c3, e3, f3, g3, t3⟩ := h2 c2 hM2
    refine gw_istore dL_law_2062 rfl (by decide) ?_
    refine gw_aload_n dL_law_2064 rfl rfl ?_
    refine gw_aload_n dL_law_2065 rfl rfl ?_
    refine gw_iload dL_law_2066 rfl rfl ?_
    refine gw_iconstZ dL_law_2068 rfl ?_
    refine gw_iaddZ dL_law_2069 rfl ?_
    refine gl_sldZ hB ⟨by omega, by omega⟩ h2048 dL_law_2070 rfl ?_
    refine gw_V1 okX9_dualDenominator dL_law_2071 kw_1787 kw_1788 kw_1789 (hp_o shA_M.1) rfl ⟨Nat.le_of_ble_eq_true rfl, Nat.le_of_ble_eq_true rfl⟩ ⟨show cells + 1 + 0 ≤ 601024 by omega, show slots + 6 + 0 ≤ 7293034 by omega⟩ (Nat.le_of_ble_eq_true rfl) (w_X9_dualDenominator shA_M e3 ?_)
    refine gw_lstore dL_law_2074 rfl (by decide) ?_
    refine gw_aload_n dL_law_2076 rfl rfl ?_
    refine gw_V0 okX9_thrown dL_law_2077 kw_1405 kw_1406 kw_1407 (hp_o shA_M.1) rfl ⟨Nat.le_of_ble_eq_true rfl, Nat.le_of_ble_eq_true rfl⟩ ⟨show cells + 1 + 0 + 0 ≤ 601024 by omega, show slots + 6 + 0 + 0 ≤ 7293034 by omega⟩ (Nat.le_of_ble_eq_true rfl) (w_X9_thrown shA_M (thr9 t3) ?_)
    refine gw_iload dL_law_2080 rfl rfl ?_
    refine gw_icmp_eq (tgt := 2087) dL_law_2082 rfl (by decide) (fun _ => ?_) (fun q => absurd rfl q)
    refine gw_iload dL_law_2087 rfl rfl ?_
    refine gw_if_neZ (tgt := 2103) dL_law_2089 rfl (by decide) ⟨by omega, by omega⟩ (fun q => ?_) (fun q => ?_)
    · refine gw_goto (tgt := 2881) dL_law_2103 (by decide) ?_
      exact k z' c3 _ _ _ h3 (W_m f3 hC2) g3 (show cells + 1 + 0 + 0 ≤ cells + 20 by omega) (show slots + 6 + 0 + 0 ≤ slots + 100 by omega) (lvA_c rfl (lvA_c rfl (lvA_c rfl (lvA_c rfl (lvA_c rfl lvA_n)))))
    · skip
      refine gw_aload_n dL_law_2092 rfl rfl ?_
      refine gw_iconstZ dL_law_2093 rfl ?_
      have hv : c3 120 0 = v := by rw [f3 120 (Or.inr (by decide))]; exact ho q
      refine gs_laldE dL_law_2094 rfl shA_o (by decide) (by decide) hv ?_
      refine gw_lload dL_law_2095 rfl rfl ?_
      refine gw_lc_eq (tgt := 2103) dL_law_2097 rfl dL_law_2098 rfl (by decide) (fun _ => ?_) (fun q => absurd rfl q)
      refine gw_goto (tgt := 2881) dL_law_2103 (by decide) ?_
      exact k z' c3 _ _ _ h3 (W_m f3 hC2) g3 (show cells + 1 + 0 + 0 ≤ cells + 20 by omega) (show slots + 6 + 0 + 0 ≤ slots + 100 by omega) (lvA_c rfl (lvA_c rfl (lvA_c rfl (lvA_c rfl (lvA_c rfl lvA_n)))))
  refine gw_aload_n dL_law_2051 rfl rfl ?_
  refine gw_aload_n dL_law_2052 rfl rfl ?_
  refine gw_iload dL_law_2053 rfl rfl ?_
  refine gw_iconstZ dL_law_2055 rfl ?_
  refine gw_iaddZ dL_law_2056 rfl ?_
  refine gl_sldZ hB ⟨by omega, by omega⟩ h2048 dL_law_2057 rfl ?_
  refine gw_aload_n dL_law_2058 rfl rfl ?_
  refine gw_SH3 okL_dualDenominator dL_law_2059 kw_1214 kw_1215 ⟨Nat.le_of_ble_eq_true rfl, Nat.le_of_ble_eq_true rfl⟩ ⟨show cells + 1 ≤ 601024 by omega, show slots + 6 ≤ 7293034 by omega⟩ (Nat.le_of_ble_eq_true rfl) (v_dualDenominator shA_D shA_o e1 hcs (fun e0 => ?_) (fun e0 => ?_))
  · have t0 : t = 0 := by omega
    have T := tail (upc c1 120 (updZ (c1 120) 0 (v))) (W_o g1) (W_oM hM1) (fun _ => by rw [upc_s, updZ_s])
    rw [t0] at T
    exact T
  · exact tail c1 g1 hM1 (fun t0 => absurd t0 (by omega))
set_option maxRecDepth 100000 in
set_option maxHeartbeats 4000000 in
theorem lc_44 {Φ : gwC} {hb : gwHp} {M b L B : Nat} {xs : Nat → Int32} {Z : gwE} {x : Option Nat} {i K : Int} {z : St} {c : W0} {cells slots : Nat} (hB : Φ.2.1 = B) (hi : 0 ≤ i ∧ i + 4 ≤ (L : Int)) (h2048 : L ≤ 2048) (hc : cells + 20 ≤ 601024) (hs : slots + 100 ≤ 7293034) (hK : K ≤ 1000000) (hL : LI K z) (hC : CI 0 z c) (hM : MI 105 z c) (k : LK Φ hb M b L xs Z B x i K cells slots) : G Φ mL_law (E9 Z b L xs B) x cells slots 2106 (lvL M b i) [] (hp Φ hb M shA c) := by
  obtain ⟨e, v, t, z', h1, h2, h3, h4⟩ := pr_dualNumeratorByEquations hL (q := SA xs (i + 1)) (i32_r _)
  obtain ⟨c1, e1, f1, g1⟩ := h1 c hC
  have hM1 := W_c f1 hM
  have hcs : (e = 0 ∧ t = 0) ∨ (e = 3 ∧ t = 1) := by simpa using h4
  have tail : ∀ c2, CI 0 z' c2 → MI 105 z c2 → (t = 0 → c2 120 0 = v) → G Φ mL_law (E9 Z b L xs B) x (cells + 1) (slots + 6) 2117 (lvL M b i) [vI t] (hp Φ hb M shA c2) := by
    intro c2 hC2 hM2 ho
    obtain ⟨c3, e3, f3, g3, t3⟩ := h2 c2 hM2
    refine gw_istore dL_law_2117 rfl (by decide) ?_
    refine gw_aload_n dL_law_2119 rfl rfl ?_
    refine gw_aload_n dL_law_2120 rfl rfl ?_
    refine gw_iload dL_law_2121 rfl rfl ?_
    refine gw_iconstZ dL_law_2123 rfl ?_
    refine gw_iaddZ dL_law_2124 rfl ?_
    refine gl_sldZ hB ⟨by omega, by omega⟩ h2048 dL_law_2125 rfl ?_
    refine gw_V1 okX9_dualNumeratorByEquations dL_law_2126 kw_1791 kw_1792 kw_1793 (hp_o shA_M.1) rfl ⟨Nat.le_of_ble_eq_true rfl, Nat.le_of_ble_eq_true rfl⟩ ⟨show cells + 1 + 0 ≤ 601024 by omega, show slots + 6 + 0 ≤ 7293034 by omega⟩ (Nat.le_of_ble_eq_true rfl) (w_X9_dualNumeratorByEquations shA_M e3 ?_)
    refine gw_lstore dL_law_2129 rfl (by decide) ?_
    refine gw_aload_n dL_law_2131 rfl rfl ?_
    refine gw_V0 okX9_thrown dL_law_2132 kw_1405 kw_1406 kw_1407 (hp_o shA_M.1) rfl ⟨Nat.le_of_ble_eq_true rfl, Nat.le_of_ble_eq_true rfl⟩ ⟨show cells + 1 + 0 + 0 ≤ 601024 by omega, show slots + 6 + 0 + 0 ≤ 7293034 by omega⟩ (Nat.le_of_ble_eq_true rfl) (w_X9_thrown shA_M (thr9 t3) ?_)
    refine gw_iload dL_law_2135 rfl rfl ?_
    refine gw_icmp_eq (tgt := 2142) dL_law_2137 rfl (by decide) (fun _ => ?_) (fun q => absurd rfl q)
    refine gw_iload dL_law_2142 rfl rfl ?_
    refine gw_if_neZ (tgt := 2158) dL_law_2144 rfl (by decide) ⟨by omega, by omega⟩ (fun q => ?_) (fun q => ?_)
    · refine gw_goto (tgt := 2881) dL_law_2158 (by decide) ?_
      exact k z' c3 _ _ _ h3 (W_m f3 hC2) g3 (show cells + 1 + 0 + 0 ≤ cells + 20 by omega) (show slots + 6 + 0 + 0 ≤ slots + 100 by omega) (lvA_c rfl (lvA_c rfl (lvA_c rfl (lvA_c rfl (lvA_c rfl lvA_n)))))
    · skip
      refine gw_aload_n dL_law_2147 rfl rfl ?_
      refine gw_iconstZ dL_law_2148 rfl ?_
      have hv : c3 120 0 = v := by rw [f3 120 (Or.inr (by decide))]; exact ho q
      refine gs_laldE dL_law_2149 rfl shA_o (by decide) (by decide) hv ?_
      refine gw_lload dL_law_2150 rfl rfl ?_
      refine gw_lc_eq (tgt := 2158) dL_law_2152 rfl dL_law_2153 rfl (by decide) (fun _ => ?_) (fun q => absurd rfl q)
      refine gw_goto (tgt := 2881) dL_law_2158 (by decide) ?_
      exact k z' c3 _ _ _ h3 (W_m f3 hC2) g3 (show cells + 1 + 0 + 0 ≤ cells + 20 by omega) (show slots + 6 + 0 + 0 ≤ slots + 100 by omega) (lvA_c rfl (lvA_c rfl (lvA_c rfl (lvA_c rfl (lvA_c rfl lvA_n)))))
  refine gw_aload_n dL_law_2106 rfl rfl ?_
  refine gw_aload_n dL_law_2107 rfl rfl ?_
  refine gw_iload dL_law_2108 rfl rfl ?_
  refine gw_iconstZ dL_law_2110 rfl ?_
  refine gw_iaddZ dL_law_2111 rfl ?_
  refine gl_sldZ hB ⟨by omega, by omega⟩ h2048 dL_law_2112 rfl ?_
  refine gw_aload_n dL_law_2113 rfl rfl ?_
  refine gw_SH3 okL_dualNumeratorByEquations dL_law_2114 kw_1221 kw_1222 ⟨Nat.le_of_ble_eq_true rfl, Nat.le_of_ble_eq_true rfl⟩ ⟨show cells + 1 ≤ 601024 by omega, show slots + 6 ≤ 7293034 by omega⟩ (Nat.le_of_ble_eq_true rfl) (v_dualNumeratorByEquations shA_D shA_o e1 hcs (fun e0 => ?_) (fun e0 => ?_))
  · have t0 : t = 0 := by omega
    have T := tail (upc c1 120 (updZ (c1 120) 0 (v))) (W_o g1) (W_oM hM1) (fun _ => by rw [upc_s, updZ_s])
    rw [t0] at T
    exact T
  · exact tail c1 g1 hM1 (fun t0 => absurd t0 (by omega))
set_option maxRecDepth 100000 in
set_option maxHeartbeats 4000000 in
theorem lc_45 {Φ : gwC} {hb : gwHp} {M b L B : Nat} {xs : Nat → Int32} {Z : gwE} {x : Option Nat} {i K : Int} {z : St} {c : W0} {cells slots : Nat} (hB : Φ.2.1 = B) (hi : 0 ≤ i ∧ i + 4 ≤ (L : Int)) (h2048 : L ≤ 2048) (hc : cells + 20 ≤ 601024) (hs : slots + 100 ≤ 7293034) (hK : K ≤ 1000000) (hL : LI K z) (hC : CI 0 z c) (hM : MI 105 z c) (k : LK Φ hb M b L xs Z B x i K cells slots) : G Φ mL_law (E9 Z b L xs B) x cells slots 2161 (lvL M b i) [] (hp Φ hb M shA c) := by
  obtain ⟨e, v, t, z', h1, h2, h3, h4⟩ := pr_dualDenominatorByEquations hL (q := SA xs (i + 1)) (i32_r _)
  obtain ⟨c1, e1, f1, g1⟩ := h1 c hC
  have hM1 := W_c f1 hM
  have hcs : (e = 0 ∧ t = 0) ∨ (e = 3 ∧ t = 1) := by simpa using h4
  have tail : ∀ c2, CI 0 z' c2 → MI 105 z c2 → (t = 0 → c2 120 0 = v) → G Φ mL_law (E9 Z b L xs B) x (cells + 1) (slots + 6) 2172 (lvL M b i) [vI t] (hp Φ hb M shA c2) := by
    intro c2 hC2 hM2 ho
    obtain ⟨c3, e3, f3, g3, t3⟩ := h2 c2 hM2
    refine gw_istore dL_law_2172 rfl (by decide) ?_
    refine gw_aload_n dL_law_2174 rfl rfl ?_
    refine gw_aload_n dL_law_2175 rfl rfl ?_
    refine gw_iload dL_law_2176 rfl rfl ?_
    refine gw_iconstZ dL_law_2178 rfl ?_
    refine gw_iaddZ dL_law_2179 rfl ?_
    refine gl_sldZ hB ⟨by omega, by omega⟩ h2048 dL_law_2180 rfl ?_
    refine gw_V1 okX9_dualDenominatorByEquations dL_law_2181 kw_1796 kw_1797 kw_1798 (hp_o shA_M.1) rfl ⟨Nat.le_of_ble_eq_true rfl, Nat.le_of_ble_eq_true rfl⟩ ⟨show cells + 1 + 0 ≤ 601024 by omega, show slots + 6 + 0 ≤ 7293034 by omega⟩ (Nat.le_of_ble_eq_true rfl) (w_X9_dualDenominatorByEquations shA_M e3 ?_)
    refine gw_lstore dL_law_2184 rfl (by decide) ?_
    refine gw_aload_n dL_law_2186 rfl rfl ?_
    refine gw_V0 okX9_thrown dL_law_2187 kw_1405 kw_1406 kw_1407 (hp_o shA_M.1) rfl ⟨Nat.le_of_ble_eq_true rfl, Nat.le_of_ble_eq_true rfl⟩ ⟨show cells + 1 + 0 + 0 ≤ 601024 by omega, show slots + 6 + 0 + 0 ≤ 7293034 by omega⟩ (Nat.le_of_ble_eq_true rfl) (w_X9_thrown shA_M (thr9 t3) ?_)
    refine gw_iload dL_law_2190 rfl rfl ?_
    refine gw_icmp_eq (tgt := 2197) dL_law_2192 rfl (by decide) (fun _ => ?_) (fun q => absurd rfl q)
    refine gw_iload dL_law_2197 rfl rfl ?_
    refine gw_if_neZ (tgt := 2213) dL_law_2199 rfl (by decide) ⟨by omega, by omega⟩ (fun q => ?_) (fun q => ?_)
    · refine gw_goto (tgt := 2881) dL_law_2213 (by decide) ?_
      exact k z' c3 _ _ _ h3 (W_m f3 hC2) g3 (show cells + 1 + 0 + 0 ≤ cells + 20 by omega) (show slots + 6 + 0 + 0 ≤ slots + 100 by omega) (lvA_c rfl (lvA_c rfl (lvA_c rfl (lvA_c rfl (lvA_c rfl lvA_n)))))
    · skip
      refine gw_aload_n dL_law_2202 rfl rfl ?_
      refine gw_iconstZ dL_law_2203 rfl ?_
      have hv : c3 120 0 = v := by rw [f3 120 (Or.inr (by decide))]; exact ho q
      refine gs_laldE dL_law_2204 rfl shA_o (by decide) (by decide) hv ?_
      refine gw_lload dL_law_2205 rfl rfl ?_
      refine gw_lc_eq (tgt := 2213) dL_law_2207 rfl dL_law_2208 rfl (by decide) (fun _ => ?_) (fun q => absurd rfl q)
      refine gw_goto (tgt := 2881) dL_law_2213 (by decide) ?_
      exact k z' c3 _ _ _ h3 (W_m f3 hC2) g3 (show cells + 1 + 0 + 0 ≤ cells + 20 by omega) (show slots + 6 + 0 + 0 ≤ slots + 100 by omega) (lvA_c rfl (lvA_c rfl (lvA_c rfl (lvA_c rfl (lvA_c rfl lvA_n)))))
  refine gw_aload_n dL_law_2161 rfl rfl ?_
  refine gw_aload_n dL_law_2162 rfl rfl ?_
  refine gw_iload dL_law_2163 rfl rfl ?_
  refine gw_iconstZ dL_law_2165 rfl ?_
  refine gw_iaddZ dL_law_2166 rfl ?_
  refine gl_sldZ hB ⟨by omega, by omega⟩ h2048 dL_law_2167 rfl ?_
  refine gw_aload_n dL_law_2168 rfl rfl ?_
  refine gw_SH3 okL_dualDenominatorByEquations dL_law_2169 kw_1228 kw_1229 ⟨Nat.le_of_ble_eq_true rfl, Nat.le_of_ble_eq_true rfl⟩ ⟨show cells + 1 ≤ 601024 by omega, show slots + 6 ≤ 7293034 by omega⟩ (Nat.le_of_ble_eq_true rfl) (v_dualDenominatorByEquations shA_D shA_o e1 hcs (fun e0 => ?_) (fun e0 => ?_))
  · have t0 : t = 0 := by omega
    have T := tail (upc c1 120 (updZ (c1 120) 0 (v))) (W_o g1) (W_oM hM1) (fun _ => by rw [upc_s, updZ_s])
    rw [t0] at T
    exact T
  · exact tail c1 g1 hM1 (fun t0 => absurd t0 (by omega))
set_option maxRecDepth 100000 in
set_option maxHeartbeats 4000000 in
theorem lc_46 {Φ : gwC} {hb : gwHp} {M b L B : Nat} {xs : Nat → Int32} {Z : gwE} {x : Option Nat} {i K : Int} {z : St} {c : W0} {cells slots : Nat} (hB : Φ.2.1 = B) (hi : 0 ≤ i ∧ i + 4 ≤ (L : Int)) (h2048 : L ≤ 2048) (hc : cells + 20 ≤ 601024) (hs : slots + 100 ≤ 7293034) (hK : K ≤ 1000000) (hL : LI K z) (hC : CI 0 z c) (hM : MI 105 z c) (k : LK Φ hb M b L xs Z B x i K cells slots) : G Φ mL_law (E9 Z b L xs B) x cells slots 2216 (lvL M b i) [] (hp Φ hb M shA c) := by
  obtain ⟨v, h1, h2⟩ := pr_dualValueNumerator (z := z) hL
  have e1 := h1 c hC
  obtain ⟨c2, e2, f2, g2, -⟩ := h2 c hM
  refine gw_aload_n dL_law_2216 rfl rfl ?_
  refine gw_V0 okX8_dualValueNumerator dL_law_2217 kw_636 kw_637 kw_638 (hp_o shA_D.1) rfl ⟨Nat.le_of_ble_eq_true rfl, Nat.le_of_ble_eq_true rfl⟩ ⟨show cells + 0 ≤ 601024 by omega, show slots + 0 ≤ 7293034 by omega⟩ (Nat.le_of_ble_eq_true rfl) (w_X8_dualValueNumerator shA_D e1 ?_)
  refine gw_aload_n dL_law_2220 rfl rfl ?_
  refine gw_V0 okX9_dualValueNumerator dL_law_2221 kw_1801 kw_1802 kw_1803 (hp_o shA_M.1) rfl ⟨Nat.le_of_ble_eq_true rfl, Nat.le_of_ble_eq_true rfl⟩ ⟨show cells + 0 + 0 ≤ 601024 by omega, show slots + 0 + 0 ≤ 7293034 by omega⟩ (Nat.le_of_ble_eq_true rfl) (w_X9_dualValueNumerator shA_M e2 ?_)
  refine gw_lc_eq (tgt := 2881) dL_law_2224 rfl dL_law_2225 rfl (by decide) (fun _ => ?_) (fun q => absurd rfl q)
  exact k z c2 _ _ _ (li5 hL) (W_m f2 hC) g2 (show cells + 0 + 0 ≤ cells + 20 by omega) (show slots + 0 + 0 ≤ slots + 100 by omega) (lvA_c rfl (lvA_c rfl (lvA_c rfl (lvA_c rfl (lvA_c rfl lvA_n)))))
set_option maxRecDepth 100000 in
set_option maxHeartbeats 4000000 in
theorem lc_47 {Φ : gwC} {hb : gwHp} {M b L B : Nat} {xs : Nat → Int32} {Z : gwE} {x : Option Nat} {i K : Int} {z : St} {c : W0} {cells slots : Nat} (hB : Φ.2.1 = B) (hi : 0 ≤ i ∧ i + 4 ≤ (L : Int)) (h2048 : L ≤ 2048) (hc : cells + 20 ≤ 601024) (hs : slots + 100 ≤ 7293034) (hK : K ≤ 1000000) (hL : LI K z) (hC : CI 0 z c) (hM : MI 105 z c) (k : LK Φ hb M b L xs Z B x i K cells slots) : G Φ mL_law (E9 Z b L xs B) x cells slots 2230 (lvL M b i) [] (hp Φ hb M shA c) := by
  obtain ⟨v, h1, h2⟩ := pr_dualValueDenominator (z := z) hL
  have e1 := h1 c hC
  obtain ⟨c2, e2, f2, g2, -⟩ := h2 c hM
  refine gw_aload_n dL_law_2230 rfl rfl ?_
  refine gw_V0 okX8_dualValueDenominator dL_law_2231 kw_650 kw_651 kw_652 (hp_o shA_D.1) rfl ⟨Nat.le_of_ble_eq_true rfl, Nat.le_of_ble_eq_true rfl⟩ ⟨show cells + 0 ≤ 601024 by omega, show slots + 0 ≤ 7293034 by omega⟩ (Nat.le_of_ble_eq_true rfl) (w_X8_dualValueDenominator shA_D e1 ?_)
  refine gw_aload_n dL_law_2234 rfl rfl ?_
  refine gw_V0 okX9_dualValueDenominator dL_law_2235 kw_1809 kw_1810 kw_1811 (hp_o shA_M.1) rfl ⟨Nat.le_of_ble_eq_true rfl, Nat.le_of_ble_eq_true rfl⟩ ⟨show cells + 0 + 0 ≤ 601024 by omega, show slots + 0 + 0 ≤ 7293034 by omega⟩ (Nat.le_of_ble_eq_true rfl) (w_X9_dualValueDenominator shA_M e2 ?_)
  refine gw_lc_eq (tgt := 2881) dL_law_2238 rfl dL_law_2239 rfl (by decide) (fun _ => ?_) (fun q => absurd rfl q)
  exact k z c2 _ _ _ (li5 hL) (W_m f2 hC) g2 (show cells + 0 + 0 ≤ cells + 20 by omega) (show slots + 0 + 0 ≤ slots + 100 by omega) (lvA_c rfl (lvA_c rfl (lvA_c rfl (lvA_c rfl (lvA_c rfl lvA_n)))))
end CF
