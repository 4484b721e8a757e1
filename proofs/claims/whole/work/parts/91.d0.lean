section CW
def w32 (z : Int) : Int := (i32 z).toInt
theorem gw_i2lW {Φ : gwC} {Y : gwY} {E : gwE} {x : Option Nat} {cells slots pc pc' : Nat} {lv : List (Nat × Value)} {st : List Value} {h : gwHp} {a9 : Int} (d : decode Y.2.1 pc = .ok (.i2l, 1)) (e9 : pc + 1 = pc') (k : G Φ Y E x cells slots pc' lv (vL (w32 a9) :: st) h) : G Φ Y E x cells slots pc lv (vI a9 :: st) h := gw_i2l d e9 (by
  rw [i32_o (i32 a9), i32_w (i32_r _)]
  exact k)
set_option maxRecDepth 100000 in
theorem v_setVariables {Φ : gwC} {hb : gwHp} {M : Nat} {sh : Nat → Option gSh} {th o : Nat} {p1 e v t : Int} {c c1 : W0} {K : Option Value → gwHp → Prop} {KX : String → gwHp → Prop} (h0 : sD sh th) (ho : sh o = some (2, 1, [])) (H : f_X8_setVariables th p1 c = some (e, v, c1)) (hcs : (e = 0 ∧ t = 0) ∨ (e = 1 ∧ t = 1)) (hK0 : e = 0 → K (some (vI 0)) (hp Φ hb M sh (upc c1 o (updZ (c1 o) 0 (w32 v))))) (hK1 : ¬ e = 0 → K (some (vI t)) (hp Φ hb M sh c1)) : gw_ConH Φ mL_setVariables [.ref (M + th), vI p1, .ref (M + o)] (hp Φ hb M sh c) K KX := by
  refine gw_startH okL_setVariables (Nat.le_of_ble_eq_true rfl) ?_
  refine gw_aload_n dL_setVariables_0 rfl rfl ?_
  refine gw_iconstZ dL_setVariables_1 rfl ?_
  refine gw_aload_n dL_setVariables_2 rfl rfl ?_
  refine gw_iload_n dL_setVariables_3 rfl rfl ?_
  refine gw_VX1 okX8_setVariables dL_setVariables_4 kw_921 kw_922 kw_923 (hp_o h0.1) rfl ⟨by decide, by decide⟩ ⟨by decide, by decide⟩ (Nat.le_of_ble_eq_true rfl) (w_X8_setVariables h0 H (fun e0 => ?_) (fun e1 => ?_))
  · skip
    refine gw_i2lW dL_setVariables_7 rfl ?_
    refine gs_lastZ dL_setVariables_8 rfl ho (by decide) (by decide) ?_
    refine gw_goto (tgt := 15) dL_setVariables_9 (by decide) ?_
    refine gw_iconstZ dL_setVariables_15 rfl ?_
    exact gw_iretX dL_setVariables_16 rfl (by decide) (by decide) (hK0 e0)
  · rcases hcs with ⟨e2, e3⟩ | ⟨e2, e3⟩
    · exact absurd e2 e1
    · subst e2 e3
      rw [show xnm (1, v, c1).1 = "java/lang/IllegalArgumentException" from rfl]
      refine gw_catch (name := "java/lang/IllegalArgumentException") [] (0, 9, 12, 13) [] rfl (fun z hz => absurd hz List.not_mem_nil) (by decide) (by decide) kw_920 kw_927 (fun q => ?_)
      refine gw_astore_n dL_setVariables_12 rfl (by decide) ?_
      refine gw_iconstZ dL_setVariables_13 rfl ?_
      exact gw_iretX dL_setVariables_14 rfl (by decide) (by decide) (hK1 e1)
set_option maxRecDepth 100000 in
theorem v_setProfit {Φ : gwC} {hb : gwHp} {M : Nat} {sh : Nat → Option gSh} {th o : Nat} {p1 p2 e v t : Int} {c c1 : W0} {K : Option Value → gwHp → Prop} {KX : String → gwHp → Prop} (h0 : sD sh th) (ho : sh o = some (2, 1, [])) (H : f_X8_setProfit th p1 p2 c = some (e, v, c1)) (hcs : (e = 0 ∧ t = 0) ∨ (e = 3 ∧ t = 1) ∨ (e = 1 ∧ t = 2)) (hK0 : e = 0 → K (some (vI 0)) (hp Φ hb M sh (upc c1 o (updZ (c1 o) 0 (w32 v))))) (hK1 : ¬ e = 0 → K (some (vI t)) (hp Φ hb M sh c1)) : gw_ConH Φ mL_setProfit [.ref (M + th), vI p1, vI p2, .ref (M + o)] (hp Φ hb M sh c) K KX := by
  refine gw_startH okL_setProfit (Nat.le_of_ble_eq_true rfl) ?_
  refine gw_aload_n dL_setProfit_0 rfl rfl ?_
  refine gw_iconstZ dL_setProfit_1 rfl ?_
  refine gw_aload_n dL_setProfit_2 rfl rfl ?_
  refine gw_iload_n dL_setProfit_3 rfl rfl ?_
  refine gw_iload_n dL_setProfit_4 rfl rfl ?_
  refine gw_VX2 okX8_setProfit dL_setProfit_5 kw_946 kw_947 kw_948 (hp_o h0.1) rfl ⟨by decide, by decide⟩ ⟨by decide, by decide⟩ (Nat.le_of_ble_eq_true rfl) (w_X8_setProfit h0 H (fun e0 => ?_) (fun e1 => ?_))
  · skip
    refine gw_i2lW dL_setProfit_8 rfl ?_
    refine gs_lastZ dL_setProfit_9 rfl ho (by decide) (by decide) ?_
    refine gw_goto (tgt := 21) dL_setProfit_10 (by decide) ?_
    refine gw_iconstZ dL_setProfit_21 rfl ?_
    exact gw_iretX dL_setProfit_22 rfl (by decide) (by decide) (hK0 e0)
  · rcases hcs with ⟨e2, e3⟩ | ⟨e2, e3⟩ | ⟨e2, e3⟩
    · exact absurd e2 e1
    · subst e2 e3
      rw [show xnm (3, v, c1).1 = "java/lang/IndexOutOfBoundsException" from rfl]
      refine gw_catch (name := "java/lang/IndexOutOfBoundsException") [] (0, 10, 13, 19) [(0, 10, 17, 13)] rfl (fun z hz => absurd hz List.not_mem_nil) (by decide) (by decide) kw_945 kw_787 (fun q => ?_)
      refine gw_astore dL_setProfit_13 rfl (by decide) ?_
      refine gw_iconstZ dL_setProfit_15 rfl ?_
      exact gw_iretX dL_setProfit_16 rfl (by decide) (by decide) (hK1 e1)
    · subst e2 e3
      rw [show xnm (1, v, c1).1 = "java/lang/IllegalArgumentException" from rfl]
      refine gw_catch (name := "java/lang/IllegalArgumentException") [(0, 10, 13, 19)] (0, 10, 17, 13) [] rfl (fun z hz => by rw [List.mem_singleton.mp hz]; exact ⟨by decide, _, kw_945, by decide⟩) (by decide) (by decide) kw_920 kw_927 (fun q => ?_)
      refine gw_astore dL_setProfit_17 rfl (by decide) ?_
      refine gw_iconstZ dL_setProfit_19 rfl ?_
      exact gw_iretX dL_setProfit_20 rfl (by decide) (by decide) (hK1 e1)
set_option maxRecDepth 100000 in
theorem v_addConstraint {Φ : gwC} {hb : gwHp} {M : Nat} {sh : Nat → Option gSh} {th o : Nat} {p1 e v t : Int} {c c1 : W0} {K : Option Value → gwHp → Prop} {KX : String → gwHp → Prop} (h0 : sD sh th) (ho : sh o = some (2, 1, [])) (H : f_X8_addConstraint th p1 c = some (e, v, c1)) (hcs : (e = 0 ∧ t = 0) ∨ (e = 1 ∧ t = 1) ∨ (e = 2 ∧ t = 2)) (hK0 : e = 0 → K (some (vI 0)) (hp Φ hb M sh (upc c1 o (updZ (c1 o) 0 (w32 v))))) (hK1 : ¬ e = 0 → K (some (vI t)) (hp Φ hb M sh c1)) : gw_ConH Φ mL_addConstraint [.ref (M + th), vI p1, .ref (M + o)] (hp Φ hb M sh c) K KX := by
  refine gw_startH okL_addConstraint (Nat.le_of_ble_eq_true rfl) ?_
  refine gw_aload_n dL_addConstraint_0 rfl rfl ?_
  refine gw_iconstZ dL_addConstraint_1 rfl ?_
  refine gw_aload_n dL_addConstraint_2 rfl rfl ?_
  refine gw_iload_n dL_addConstraint_3 rfl rfl ?_
  refine gw_VX1 okX8_addConstraint dL_addConstraint_4 kw_967 kw_968 kw_969 (hp_o h0.1) rfl ⟨by decide, by decide⟩ ⟨by decide, by decide⟩ (Nat.le_of_ble_eq_true rfl) (w_X8_addConstraint h0 H (fun e0 => ?_) (fun e1 => ?_))
  · skip
    refine gw_i2lW dL_addConstraint_7 rfl ?_
    refine gs_lastZ dL_addConstraint_8 rfl ho (by decide) (by decide) ?_
    refine gw_goto (tgt := 18) dL_addConstraint_9 (by decide) ?_
    refine gw_iconstZ dL_addConstraint_18 rfl ?_
    exact gw_iretX dL_addConstraint_19 rfl (by decide) (by decide) (hK0 e0)
  · rcases hcs with ⟨e2, e3⟩ | ⟨e2, e3⟩ | ⟨e2, e3⟩
    · exact absurd e2 e1
    · subst e2 e3
      rw [show xnm (1, v, c1).1 = "java/lang/IllegalArgumentException" from rfl]
      refine gw_catch (name := "java/lang/IllegalArgumentException") [] (0, 9, 12, 13) [(0, 9, 15, 24)] rfl (fun z hz => absurd hz List.not_mem_nil) (by decide) (by decide) kw_920 kw_927 (fun q => ?_)
      refine gw_astore_n dL_addConstraint_12 rfl (by decide) ?_
      refine gw_iconstZ dL_addConstraint_13 rfl ?_
      exact gw_iretX dL_addConstraint_14 rfl (by decide) (by decide) (hK1 e1)
    · subst e2 e3
      rw [show xnm (2, v, c1).1 = "java/lang/IllegalStateException" from rfl]
      refine gw_catch (name := "java/lang/IllegalStateException") [(0, 9, 12, 13)] (0, 9, 15, 24) [] rfl (fun z hz => by rw [List.mem_singleton.mp hz]; exact ⟨by decide, _, kw_920, by decide⟩) (by decide) (by decide) kw_966 kw_977 (fun q => ?_)
      refine gw_astore_n dL_addConstraint_15 rfl (by decide) ?_
      refine gw_iconstZ dL_addConstraint_16 rfl ?_
      exact gw_iretX dL_addConstraint_17 rfl (by decide) (by decide) (hK1 e1)
set_option maxRecDepth 100000 in
theorem v_setCoefficient {Φ : gwC} {hb : gwHp} {M : Nat} {sh : Nat → Option gSh} {th o : Nat} {p1 p2 p3 e v t : Int} {c c1 : W0} {K : Option Value → gwHp → Prop} {KX : String → gwHp → Prop} (h0 : sD sh th) (ho : sh o = some (2, 1, [])) (H : f_X8_setCoefficient th p1 p2 p3 c = some (e, v, c1)) (hcs : (e = 0 ∧ t = 0) ∨ (e = 3 ∧ t = 1) ∨ (e = 1 ∧ t = 2)) (hK0 : e = 0 → K (some (vI 0)) (hp Φ hb M sh (upc c1 o (updZ (c1 o) 0 (w32 v))))) (hK1 : ¬ e = 0 → K (some (vI t)) (hp Φ hb M sh c1)) : gw_ConH Φ mL_setCoefficient [.ref (M + th), vI p1, vI p2, vI p3, .ref (M + o)] (hp Φ hb M sh c) K KX := by
  refine gw_startH okL_setCoefficient (Nat.le_of_ble_eq_true rfl) ?_
  refine gw_aload dL_setCoefficient_0 rfl rfl ?_
  refine gw_iconstZ dL_setCoefficient_2 rfl ?_
  refine gw_aload_n dL_setCoefficient_3 rfl rfl ?_
  refine gw_iload_n dL_setCoefficient_4 rfl rfl ?_
  refine gw_iload_n dL_setCoefficient_5 rfl rfl ?_
  refine gw_iload_n dL_setCoefficient_6 rfl rfl ?_
  refine gw_VX3 okX8_setCoefficient dL_setCoefficient_7 kw_995 kw_996 kw_997 (hp_o h0.1) rfl ⟨by decide, by decide⟩ ⟨by decide, by decide⟩ (Nat.le_of_ble_eq_true rfl) (w_X8_setCoefficient h0 H (fun e0 => ?_) (fun e1 => ?_))
  · skip
    refine gw_i2lW dL_setCoefficient_10 rfl ?_
    refine gs_lastZ dL_setCoefficient_11 rfl ho (by decide) (by decide) ?_
    refine gw_goto (tgt := 23) dL_setCoefficient_12 (by decide) ?_
    refine gw_iconstZ dL_setCoefficient_23 rfl ?_
    exact gw_iretX dL_setCoefficient_24 rfl (by decide) (by decide) (hK0 e0)
  · rcases hcs with ⟨e2, e3⟩ | ⟨e2, e3⟩ | ⟨e2, e3⟩
    · exact absurd e2 e1
    · subst e2 e3
      rw [show xnm (3, v, c1).1 = "java/lang/IndexOutOfBoundsException" from rfl]
      refine gw_catch (name := "java/lang/IndexOutOfBoundsException") [] (0, 12, 15, 19) [(0, 12, 19, 13)] rfl (fun z hz => absurd hz List.not_mem_nil) (by decide) (by decide) kw_945 kw_787 (fun q => ?_)
      refine gw_astore dL_setCoefficient_15 rfl (by decide) ?_
      refine gw_iconstZ dL_setCoefficient_17 rfl ?_
      exact gw_iretX dL_setCoefficient_18 rfl (by decide) (by decide) (hK1 e1)
    · subst e2 e3
      rw [show xnm (1, v, c1).1 = "java/lang/IllegalArgumentException" from rfl]
      refine gw_catch (name := "java/lang/IllegalArgumentException") [(0, 12, 15, 19)] (0, 12, 19, 13) [] rfl (fun z hz => by rw [List.mem_singleton.mp hz]; exact ⟨by decide, _, kw_945, by decide⟩) (by decide) (by decide) kw_920 kw_927 (fun q => ?_)
      refine gw_astore dL_setCoefficient_19 rfl (by decide) ?_
      refine gw_iconstZ dL_setCoefficient_21 rfl ?_
      exact gw_iretX dL_setCoefficient_22 rfl (by decide) (by decide) (hK1 e1)
set_option maxRecDepth 100000 in
theorem v_setBound {Φ : gwC} {hb : gwHp} {M : Nat} {sh : Nat → Option gSh} {th o : Nat} {p1 p2 e v t : Int} {c c1 : W0} {K : Option Value → gwHp → Prop} {KX : String → gwHp → Prop} (h0 : sD sh th) (ho : sh o = some (2, 1, [])) (H : f_X8_setBound th p1 p2 c = some (e, v, c1)) (hcs : (e = 0 ∧ t = 0) ∨ (e = 3 ∧ t = 1) ∨ (e = 1 ∧ t = 2)) (hK0 : e = 0 → K (some (vI 0)) (hp Φ hb M sh (upc c1 o (updZ (c1 o) 0 (w32 v))))) (hK1 : ¬ e = 0 → K (some (vI t)) (hp Φ hb M sh c1)) : gw_ConH Φ mL_setBound [.ref (M + th), vI p1, vI p2, .ref (M + o)] (hp Φ hb M sh c) K KX := by
  refine gw_startH okL_setBound (Nat.le_of_ble_eq_true rfl) ?_
  refine gw_aload_n dL_setBound_0 rfl rfl ?_
  refine gw_iconstZ dL_setBound_1 rfl ?_
  refine gw_aload_n dL_setBound_2 rfl rfl ?_
  refine gw_iload_n dL_setBound_3 rfl rfl ?_
  refine gw_iload_n dL_setBound_4 rfl rfl ?_
  refine gw_VX2 okX8_setBound dL_setBound_5 kw_1003 kw_1004 kw_1005 (hp_o h0.1) rfl ⟨by decide, by decide⟩ ⟨by decide, by decide⟩ (Nat.le_of_ble_eq_true rfl) (w_X8_setBound h0 H (fun e0 => ?_) (fun e1 => ?_))
  · skip
    refine gw_i2lW dL_setBound_8 rfl ?_
    refine gs_lastZ dL_setBound_9 rfl ho (by decide) (by decide) ?_
    refine gw_goto (tgt := 21) dL_setBound_10 (by decide) ?_
    refine gw_iconstZ dL_setBound_21 rfl ?_
    exact gw_iretX dL_setBound_22 rfl (by decide) (by decide) (hK0 e0)
  · rcases hcs with ⟨e2, e3⟩ | ⟨e2, e3⟩ | ⟨e2, e3⟩
    · exact absurd e2 e1
    · subst e2 e3
      rw [show xnm (3, v, c1).1 = "java/lang/IndexOutOfBoundsException" from rfl]
      refine gw_catch (name := "java/lang/IndexOutOfBoundsException") [] (0, 10, 13, 19) [(0, 10, 17, 13)] rfl (fun z hz => absurd hz List.not_mem_nil) (by decide) (by decide) kw_945 kw_787 (fun q => ?_)
      refine gw_astore dL_setBound_13 rfl (by decide) ?_
      refine gw_iconstZ dL_setBound_15 rfl ?_
      exact gw_iretX dL_setBound_16 rfl (by decide) (by decide) (hK1 e1)
    · subst e2 e3
      rw [show xnm (1, v, c1).1 = "java/lang/IllegalArgumentException" from rfl]
      refine gw_catch (name := "java/lang/IllegalArgumentException") [(0, 10, 13, 19)] (0, 10, 17, 13) [] rfl (fun z hz => by rw [List.mem_singleton.mp hz]; exact ⟨by decide, _, kw_945, by decide⟩) (by decide) (by decide) kw_920 kw_927 (fun q => ?_)
      refine gw_astore dL_setBound_17 rfl (by decide) ?_
      refine gw_iconstZ dL_setBound_19 rfl ?_
      exact gw_iretX dL_setBound_20 rfl (by decide) (by decide) (hK1 e1)
set_option maxRecDepth 100000 in
theorem v_dropConstraint {Φ : gwC} {hb : gwHp} {M : Nat} {sh : Nat → Option gSh} {th o : Nat} {p1 e v t : Int} {c c1 : W0} {K : Option Value → gwHp → Prop} {KX : String → gwHp → Prop} (h0 : sD sh th) (ho : sh o = some (2, 1, [])) (H : f_X8_dropConstraint th p1 c = some (e, v, c1)) (hcs : (e = 0 ∧ t = 0) ∨ (e = 3 ∧ t = 1)) (hK0 : e = 0 → K (some (vI 0)) (hp Φ hb M sh (upc c1 o (updZ (c1 o) 0 (w32 v))))) (hK1 : ¬ e = 0 → K (some (vI t)) (hp Φ hb M sh c1)) : gw_ConH Φ mL_dropConstraint [.ref (M + th), vI p1, .ref (M + o)] (hp Φ hb M sh c) K KX := by
  refine gw_startH okL_dropConstraint (Nat.le_of_ble_eq_true rfl) ?_
  refine gw_aload_n dL_dropConstraint_0 rfl rfl ?_
  refine gw_iconstZ dL_dropConstraint_1 rfl ?_
  refine gw_aload_n dL_dropConstraint_2 rfl rfl ?_
  refine gw_iload_n dL_dropConstraint_3 rfl rfl ?_
  refine gw_VX1 okX8_dropConstraint dL_dropConstraint_4 kw_1011 kw_1012 kw_1013 (hp_o h0.1) rfl ⟨by decide, by decide⟩ ⟨by decide, by decide⟩ (Nat.le_of_ble_eq_true rfl) (w_X8_dropConstraint h0 H (fun e0 => ?_) (fun e1 => ?_))
  · skip
    refine gw_i2lW dL_dropConstraint_7 rfl ?_
    refine gs_lastZ dL_dropConstraint_8 rfl ho (by decide) (by decide) ?_
    refine gw_goto (tgt := 15) dL_dropConstraint_9 (by decide) ?_
    refine gw_iconstZ dL_dropConstraint_15 rfl ?_
    exact gw_iretX dL_dropConstraint_16 rfl (by decide) (by decide) (hK0 e0)
  · rcases hcs with ⟨e2, e3⟩ | ⟨e2, e3⟩
    · exact absurd e2 e1
    · subst e2 e3
      rw [show xnm (3, v, c1).1 = "java/lang/IndexOutOfBoundsException" from rfl]
      refine gw_catch (name := "java/lang/IndexOutOfBoundsException") [] (0, 9, 12, 19) [] rfl (fun z hz => absurd hz List.not_mem_nil) (by decide) (by decide) kw_945 kw_787 (fun q => ?_)
      refine gw_astore_n dL_dropConstraint_12 rfl (by decide) ?_
      refine gw_iconstZ dL_dropConstraint_13 rfl ?_
      exact gw_iretX dL_dropConstraint_14 rfl (by decide) (by decide) (hK1 e1)
set_option maxRecDepth 100000 in
theorem v_pivot {Φ : gwC} {hb : gwHp} {M : Nat} {sh : Nat → Option gSh} {th o : Nat} {p1 p2 e v t : Int} {c c1 : W0} {K : Option Value → gwHp → Prop} {KX : String → gwHp → Prop} (h0 : sD sh th) (ho : sh o = some (2, 1, [])) (H : f_X8_pivot th p1 p2 c = some (e, v, c1)) (hcs : (e = 0 ∧ t = 0) ∨ (e = 3 ∧ t = 1) ∨ (e = 2 ∧ t = 2)) (hK0 : e = 0 → K (some (vI 0)) (hp Φ hb M sh (upc c1 o (updZ (c1 o) 0 (w32 v))))) (hK1 : ¬ e = 0 → K (some (vI t)) (hp Φ hb M sh c1)) : gw_ConH Φ mL_pivot [.ref (M + th), vI p1, vI p2, .ref (M + o)] (hp Φ hb M sh c) K KX := by
  refine gw_startH okL_pivot (Nat.le_of_ble_eq_true rfl) ?_
  refine gw_aload_n dL_pivot_0 rfl rfl ?_
  refine gw_iconstZ dL_pivot_1 rfl ?_
  refine gw_aload_n dL_pivot_2 rfl rfl ?_
  refine gw_iload_n dL_pivot_3 rfl rfl ?_
  refine gw_iload_n dL_pivot_4 rfl rfl ?_
  refine gw_VX2 okX8_pivot dL_pivot_5 kw_1022 kw_1023 kw_1024 (hp_o h0.1) rfl ⟨by decide, by decide⟩ ⟨by decide, by decide⟩ (Nat.le_of_ble_eq_true rfl) (w_X8_pivot h0 H (fun e0 => ?_) (fun e1 => ?_))
  · skip
    refine gw_i2lW dL_pivot_8 rfl ?_
    refine gs_lastZ dL_pivot_9 rfl ho (by decide) (by decide) ?_
    refine gw_goto (tgt := 21) dL_pivot_10 (by decide) ?_
    refine gw_iconstZ dL_pivot_21 rfl ?_
    exact gw_iretX dL_pivot_22 rfl (by decide) (by decide) (hK0 e0)
  · rcases hcs with ⟨e2, e3⟩ | ⟨e2, e3⟩ | ⟨e2, e3⟩
    · exact absurd e2 e1
    · subst e2 e3
      rw [show xnm (3, v, c1).1 = "java/lang/IndexOutOfBoundsException" from rfl]
      refine gw_catch (name := "java/lang/IndexOutOfBoundsException") [] (0, 10, 13, 19) [(0, 10, 17, 24)] rfl (fun z hz => absurd hz List.not_mem_nil) (by decide) (by decide) kw_945 kw_787 (fun q => ?_)
      refine gw_astore dL_pivot_13 rfl (by decide) ?_
      refine gw_iconstZ dL_pivot_15 rfl ?_
      exact gw_iretX dL_pivot_16 rfl (by decide) (by decide) (hK1 e1)
    · subst e2 e3
      rw [show xnm (2, v, c1).1 = "java/lang/IllegalStateException" from rfl]
      refine gw_catch (name := "java/lang/IllegalStateException") [(0, 10, 13, 19)] (0, 10, 17, 24) [] rfl (fun z hz => by rw [List.mem_singleton.mp hz]; exact ⟨by decide, _, kw_945, by decide⟩) (by decide) (by decide) kw_966 kw_977 (fun q => ?_)
      refine gw_astore dL_pivot_17 rfl (by decide) ?_
      refine gw_iconstZ dL_pivot_19 rfl ?_
      exact gw_iretX dL_pivot_20 rfl (by decide) (by decide) (hK1 e1)
set_option maxRecDepth 100000 in
theorem v_step {Φ : gwC} {hb : gwHp} {M : Nat} {sh : Nat → Option gSh} {th o : Nat} {e v t : Int} {c c1 : W0} {K : Option Value → gwHp → Prop} {KX : String → gwHp → Prop} (h0 : sD sh th) (ho : sh o = some (2, 1, [])) (H : f_X8_step th c = some (e, v, c1)) (hcs : (e = 0 ∧ t = 0) ∨ (e = 2 ∧ t = 1)) (hK0 : e = 0 → K (some (vI 0)) (hp Φ hb M sh (upc c1 o (updZ (c1 o) 0 (w32 v))))) (hK1 : ¬ e = 0 → K (some (vI t)) (hp Φ hb M sh c1)) : gw_ConH Φ mL_step [.ref (M + th), .ref (M + o)] (hp Φ hb M sh c) K KX := by
  refine gw_startH okL_step (Nat.le_of_ble_eq_true rfl) ?_
  refine gw_aload_n dL_step_0 rfl rfl ?_
  refine gw_iconstZ dL_step_1 rfl ?_
  refine gw_aload_n dL_step_2 rfl rfl ?_
  refine gw_VX0 okX8_step dL_step_3 kw_1045 kw_1046 kw_1047 (hp_o h0.1) rfl ⟨by decide, by decide⟩ ⟨by decide, by decide⟩ (Nat.le_of_ble_eq_true rfl) (w_X8_step h0 H (fun e0 => ?_) (fun e1 => ?_))
  · skip
    refine gw_i2lW dL_step_6 rfl ?_
    refine gs_lastZ dL_step_7 rfl ho (by decide) (by decide) ?_
    refine gw_goto (tgt := 14) dL_step_8 (by decide) ?_
    refine gw_iconstZ dL_step_14 rfl ?_
    exact gw_iretX dL_step_15 rfl (by decide) (by decide) (hK0 e0)
  · rcases hcs with ⟨e2, e3⟩ | ⟨e2, e3⟩
    · exact absurd e2 e1
    · subst e2 e3
      rw [show xnm (2, v, c1).1 = "java/lang/IllegalStateException" from rfl]
      refine gw_catch (name := "java/lang/IllegalStateException") [] (0, 8, 11, 24) [] rfl (fun z hz => absurd hz List.not_mem_nil) (by decide) (by decide) kw_966 kw_977 (fun q => ?_)
      refine gw_astore_n dL_step_11 rfl (by decide) ?_
      refine gw_iconstZ dL_step_12 rfl ?_
      exact gw_iretX dL_step_13 rfl (by decide) (by decide) (hK1 e1)
set_option maxRecDepth 100000 in
theorem v_setRule {Φ : gwC} {hb : gwHp} {M : Nat} {sh : Nat → Option gSh} {th o : Nat} {p1 e v t : Int} {c c1 : W0} {K : Option Value → gwHp → Prop} {KX : String → gwHp → Prop} (h0 : sD sh th) (ho : sh o = some (2, 1, [])) (H : f_X8_setRule th p1 c = some (e, v, c1)) (hcs : (e = 0 ∧ t = 0) ∨ (e = 1 ∧ t = 1)) (hK0 : e = 0 → K (some (vI 0)) (hp Φ hb M sh (upc c1 o (updZ (c1 o) 0 (w32 v))))) (hK1 : ¬ e = 0 → K (some (vI t)) (hp Φ hb M sh c1)) : gw_ConH Φ mL_setRule [.ref (M + th), vI p1, .ref (M + o)] (hp Φ hb M sh c) K KX := by
  refine gw_startH okL_setRule (Nat.le_of_ble_eq_true rfl) ?_
  refine gw_aload_n dL_setRule_0 rfl rfl ?_
  refine gw_iconstZ dL_setRule_1 rfl ?_
  refine gw_aload_n dL_setRule_2 rfl rfl ?_
  refine gw_iload_n dL_setRule_3 rfl rfl ?_
  refine gw_VX1 okX8_setRule dL_setRule_4 kw_1058 kw_1059 kw_1060 (hp_o h0.1) rfl ⟨by decide, by decide⟩ ⟨by decide, by decide⟩ (Nat.le_of_ble_eq_true rfl) (w_X8_setRule h0 H (fun e0 => ?_) (fun e1 => ?_))
  · skip
    refine gw_i2lW dL_setRule_7 rfl ?_
    refine gs_lastZ dL_setRule_8 rfl ho (by decide) (by decide) ?_
    refine gw_goto (tgt := 15) dL_setRule_9 (by decide) ?_
    refine gw_iconstZ dL_setRule_15 rfl ?_
    exact gw_iretX dL_setRule_16 rfl (by decide) (by decide) (hK0 e0)
  · rcases hcs with ⟨e2, e3⟩ | ⟨e2, e3⟩
    · exact absurd e2 e1
    · subst e2 e3
      rw [show xnm (1, v, c1).1 = "java/lang/IllegalArgumentException" from rfl]
      refine gw_catch (name := "java/lang/IllegalArgumentException") [] (0, 9, 12, 13) [] rfl (fun z hz => absurd hz List.not_mem_nil) (by decide) (by decide) kw_920 kw_927 (fun q => ?_)
      refine gw_astore_n dL_setRule_12 rfl (by decide) ?_
      refine gw_iconstZ dL_setRule_13 rfl ?_
      exact gw_iretX dL_setRule_14 rfl (by decide) (by decide) (hK1 e1)
set_option maxRecDepth 100000 in
theorem v_append {Φ : gwC} {hb : gwHp} {M : Nat} {sh : Nat → Option gSh} {th o : Nat} {p1 e v t : Int} {c c1 : W0} {K : Option Value → gwHp → Prop} {KX : String → gwHp → Prop} (h0 : sD sh th) (ho : sh o = some (2, 1, [])) (H : f_X8_append th p1 c = some (e, v, c1)) (hcs : (e = 0 ∧ t = 0) ∨ (e = 1 ∧ t = 1) ∨ (e = 2 ∧ t = 2)) (hK0 : e = 0 → K (some (vI 0)) (hp Φ hb M sh (upc c1 o (updZ (c1 o) 0 (w32 v))))) (hK1 : ¬ e = 0 → K (some (vI t)) (hp Φ hb M sh c1)) : gw_ConH Φ mL_append [.ref (M + th), vI p1, .ref (M + o)] (hp Φ hb M sh c) K KX := by
  refine gw_startH okL_append (Nat.le_of_ble_eq_true rfl) ?_
  refine gw_aload_n dL_append_0 rfl rfl ?_
  refine gw_iconstZ dL_append_1 rfl ?_
  refine gw_aload_n dL_append_2 rfl rfl ?_
  refine gw_iload_n dL_append_3 rfl rfl ?_
  refine gw_VX1 okX8_append dL_append_4 kw_1066 kw_1067 kw_1068 (hp_o h0.1) rfl ⟨by decide, by decide⟩ ⟨by decide, by decide⟩ (Nat.le_of_ble_eq_true rfl) (w_X8_append h0 H (fun e0 => ?_) (fun e1 => ?_))
  · skip
    refine gw_i2lW dL_append_7 rfl ?_
    refine gs_lastZ dL_append_8 rfl ho (by decide) (by decide) ?_
    refine gw_goto (tgt := 18) dL_append_9 (by decide) ?_
    refine gw_iconstZ dL_append_18 rfl ?_
    exact gw_iretX dL_append_19 rfl (by decide) (by decide) (hK0 e0)
  · rcases hcs with ⟨e2, e3⟩ | ⟨e2, e3⟩ | ⟨e2, e3⟩
    · exact absurd e2 e1
    · subst e2 e3
      rw [show xnm (1, v, c1).1 = "java/lang/IllegalArgumentException" from rfl]
      refine gw_catch (name := "java/lang/IllegalArgumentException") [] (0, 9, 12, 13) [(0, 9, 15, 24)] rfl (fun z hz => absurd hz List.not_mem_nil) (by decide) (by decide) kw_920 kw_927 (fun q => ?_)
      refine gw_astore_n dL_append_12 rfl (by decide) ?_
      refine gw_iconstZ dL_append_13 rfl ?_
      exact gw_iretX dL_append_14 rfl (by decide) (by decide) (hK1 e1)
    · subst e2 e3
      rw [show xnm (2, v, c1).1 = "java/lang/IllegalStateException" from rfl]
      refine gw_catch (name := "java/lang/IllegalStateException") [(0, 9, 12, 13)] (0, 9, 15, 24) [] rfl (fun z hz => by rw [List.mem_singleton.mp hz]; exact ⟨by decide, _, kw_920, by decide⟩) (by decide) (by decide) kw_966 kw_977 (fun q => ?_)
      refine gw_astore_n dL_append_15 rfl (by decide) ?_
      refine gw_iconstZ dL_append_16 rfl ?_
      exact gw_iretX dL_append_17 rfl (by decide) (by decide) (hK1 e1)
set_option maxRecDepth 100000 in
theorem v_load {Φ : gwC} {hb : gwHp} {M : Nat} {sh : Nat → Option gSh} {th o : Nat} {e v t : Int} {c c1 : W0} {K : Option Value → gwHp → Prop} {KX : String → gwHp → Prop} (h0 : sD sh th) (ho : sh o = some (2, 1, [])) (H : f_X8_load th c = some (e, v, c1)) (hcs : (e = 0 ∧ t = 0) ∨ (e = 1 ∧ t = 1)) (hK0 : e = 0 → K (some (vI 0)) (hp Φ hb M sh (upc c1 o (updZ (c1 o) 0 (w32 v))))) (hK1 : ¬ e = 0 → K (some (vI t)) (hp Φ hb M sh c1)) : gw_ConH Φ mL_load [.ref (M + th), .ref (M + o)] (hp Φ hb M sh c) K KX := by
  refine gw_startH okL_load (Nat.le_of_ble_eq_true rfl) ?_
  refine gw_aload_n dL_load_0 rfl rfl ?_
  refine gw_iconstZ dL_load_1 rfl ?_
  refine gw_aload_n dL_load_2 rfl rfl ?_
  refine gw_VX0 okX8_load dL_load_3 kw_1080 kw_1081 kw_1082 (hp_o h0.1) rfl ⟨by decide, by decide⟩ ⟨by decide, by decide⟩ (Nat.le_of_ble_eq_true rfl) (w_X8_load h0 H (fun e0 => ?_) (fun e1 => ?_))
  · skip
    refine gw_i2lW dL_load_6 rfl ?_
    refine gs_lastZ dL_load_7 rfl ho (by decide) (by decide) ?_
    refine gw_goto (tgt := 14) dL_load_8 (by decide) ?_
    refine gw_iconstZ dL_load_14 rfl ?_
    exact gw_iretX dL_load_15 rfl (by decide) (by decide) (hK0 e0)
  · rcases hcs with ⟨e2, e3⟩ | ⟨e2, e3⟩
    · exact absurd e2 e1
    · subst e2 e3
      rw [show xnm (1, v, c1).1 = "java/lang/IllegalArgumentException" from rfl]
      refine gw_catch (name := "java/lang/IllegalArgumentException") [] (0, 8, 11, 13) [] rfl (fun z hz => absurd hz List.not_mem_nil) (by decide) (by decide) kw_920 kw_927 (fun q => ?_)
      refine gw_astore_n dL_load_11 rfl (by decide) ?_
      refine gw_iconstZ dL_load_12 rfl ?_
      exact gw_iretX dL_load_13 rfl (by decide) (by decide) (hK1 e1)
set_option maxRecDepth 100000 in
theorem v_write {Φ : gwC} {hb : gwHp} {M : Nat} {sh : Nat → Option gSh} {th o : Nat} {e v t : Int} {c c1 : W0} {K : Option Value → gwHp → Prop} {KX : String → gwHp → Prop} (h0 : sD sh th) (ho : sh o = some (2, 1, [])) (H : f_X8_write th c = some (e, v, c1)) (hcs : (e = 0 ∧ t = 0) ∨ (e = 2 ∧ t = 1)) (hK0 : e = 0 → K (some (vI 0)) (hp Φ hb M sh (upc c1 o (updZ (c1 o) 0 (w32 v))))) (hK1 : ¬ e = 0 → K (some (vI t)) (hp Φ hb M sh c1)) : gw_ConH Φ mL_write [.ref (M + th), .ref (M + o)] (hp Φ hb M sh c) K KX := by
  refine gw_startH okL_write (Nat.le_of_ble_eq_true rfl) ?_
  refine gw_aload_n dL_write_0 rfl rfl ?_
  refine gw_iconstZ dL_write_1 rfl ?_
  refine gw_aload_n dL_write_2 rfl rfl ?_
  refine gw_VX0 okX8_write dL_write_3 kw_1089 kw_1090 kw_1091 (hp_o h0.1) rfl ⟨by decide, by decide⟩ ⟨by decide, by decide⟩ (Nat.le_of_ble_eq_true rfl) (w_X8_write h0 H (fun e0 => ?_) (fun e1 => ?_))
  · skip
    refine gw_i2lW dL_write_6 rfl ?_
    refine gs_lastZ dL_write_7 rfl ho (by decide) (by decide) ?_
    refine gw_goto (tgt := 14) dL_write_8 (by decide) ?_
    refine gw_iconstZ dL_write_14 rfl ?_
    exact gw_iretX dL_write_15 rfl (by decide) (by decide) (hK0 e0)
  · rcases hcs with ⟨e2, e3⟩ | ⟨e2, e3⟩
    · exact absurd e2 e1
    · subst e2 e3
      rw [show xnm (2, v, c1).1 = "java/lang/IllegalStateException" from rfl]
      refine gw_catch (name := "java/lang/IllegalStateException") [] (0, 8, 11, 24) [] rfl (fun z hz => absurd hz List.not_mem_nil) (by decide) (by decide) kw_966 kw_977 (fun q => ?_)
      refine gw_astore_n dL_write_11 rfl (by decide) ?_
      refine gw_iconstZ dL_write_12 rfl ?_
      exact gw_iretX dL_write_13 rfl (by decide) (by decide) (hK1 e1)
set_option maxRecDepth 100000 in
theorem v_undo {Φ : gwC} {hb : gwHp} {M : Nat} {sh : Nat → Option gSh} {th o : Nat} {e v t : Int} {c c1 : W0} {K : Option Value → gwHp → Prop} {KX : String → gwHp → Prop} (h0 : sD sh th) (ho : sh o = some (2, 1, [])) (H : f_X8_undo th c = some (e, v, c1)) (hcs : (e = 0 ∧ t = 0) ∨ (e = 2 ∧ t = 1)) (hK0 : e = 0 → K (some (vI 0)) (hp Φ hb M sh (upc c1 o (updZ (c1 o) 0 (w32 v))))) (hK1 : ¬ e = 0 → K (some (vI t)) (hp Φ hb M sh c1)) : gw_ConH Φ mL_undo [.ref (M + th), .ref (M + o)] (hp Φ hb M sh c) K KX := by
  refine gw_startH okL_undo (Nat.le_of_ble_eq_true rfl) ?_
  refine gw_aload_n dL_undo_0 rfl rfl ?_
  refine gw_iconstZ dL_undo_1 rfl ?_
  refine gw_aload_n dL_undo_2 rfl rfl ?_
  refine gw_VX0 okX8_undo dL_undo_3 kw_1117 kw_1118 kw_1119 (hp_o h0.1) rfl ⟨by decide, by decide⟩ ⟨by decide, by decide⟩ (Nat.le_of_ble_eq_true rfl) (w_X8_undo h0 H (fun e0 => ?_) (fun e1 => ?_))
  · skip
    refine gw_i2lW dL_undo_6 rfl ?_
    refine gs_lastZ dL_undo_7 rfl ho (by decide) (by decide) ?_
    refine gw_goto (tgt := 14) dL_undo_8 (by decide) ?_
    refine gw_iconstZ dL_undo_14 rfl ?_
    exact gw_iretX dL_undo_15 rfl (by decide) (by decide) (hK0 e0)
  · rcases hcs with ⟨e2, e3⟩ | ⟨e2, e3⟩
    · exact absurd e2 e1
    · subst e2 e3
      rw [show xnm (2, v, c1).1 = "java/lang/IllegalStateException" from rfl]
      refine gw_catch (name := "java/lang/IllegalStateException") [] (0, 8, 11, 24) [] rfl (fun z hz => absurd hz List.not_mem_nil) (by decide) (by decide) kw_966 kw_977 (fun q => ?_)
      refine gw_astore_n dL_undo_11 rfl (by decide) ?_
      refine gw_iconstZ dL_undo_12 rfl ?_
      exact gw_iretX dL_undo_13 rfl (by decide) (by decide) (hK1 e1)
set_option maxRecDepth 100000 in
theorem v_restore {Φ : gwC} {hb : gwHp} {M : Nat} {sh : Nat → Option gSh} {th o : Nat} {e v t : Int} {c c1 : W0} {K : Option Value → gwHp → Prop} {KX : String → gwHp → Prop} (h0 : sD sh th) (ho : sh o = some (2, 1, [])) (H : f_X8_restore th c = some (e, v, c1)) (hcs : (e = 0 ∧ t = 0) ∨ (e = 2 ∧ t = 1)) (hK0 : e = 0 → K (some (vI 0)) (hp Φ hb M sh (upc c1 o (updZ (c1 o) 0 (w32 v))))) (hK1 : ¬ e = 0 → K (some (vI t)) (hp Φ hb M sh c1)) : gw_ConH Φ mL_restore [.ref (M + th), .ref (M + o)] (hp Φ hb M sh c) K KX := by
  refine gw_startH okL_restore (Nat.le_of_ble_eq_true rfl) ?_
  refine gw_aload_n dL_restore_0 rfl rfl ?_
  refine gw_iconstZ dL_restore_1 rfl ?_
  refine gw_aload_n dL_restore_2 rfl rfl ?_
  refine gw_VX0 okX8_restore dL_restore_3 kw_1125 kw_1126 kw_1127 (hp_o h0.1) rfl ⟨by decide, by decide⟩ ⟨by decide, by decide⟩ (Nat.le_of_ble_eq_true rfl) (w_X8_restore h0 H (fun e0 => ?_) (fun e1 => ?_))
  · skip
    refine gw_i2lW dL_restore_6 rfl ?_
    refine gs_lastZ dL_restore_7 rfl ho (by decide) (by decide) ?_
    refine gw_goto (tgt := 14) dL_restore_8 (by decide) ?_
    refine gw_iconstZ dL_restore_14 rfl ?_
    exact gw_iretX dL_restore_15 rfl (by decide) (by decide) (hK0 e0)
  · rcases hcs with ⟨e2, e3⟩ | ⟨e2, e3⟩
    · exact absurd e2 e1
    · subst e2 e3
      rw [show xnm (2, v, c1).1 = "java/lang/IllegalStateException" from rfl]
      refine gw_catch (name := "java/lang/IllegalStateException") [] (0, 8, 11, 24) [] rfl (fun z hz => absurd hz List.not_mem_nil) (by decide) (by decide) kw_966 kw_977 (fun q => ?_)
      refine gw_astore_n dL_restore_11 rfl (by decide) ?_
      refine gw_iconstZ dL_restore_12 rfl ?_
      exact gw_iretX dL_restore_13 rfl (by decide) (by decide) (hK1 e1)
set_option maxRecDepth 100000 in
theorem v_profitOf {Φ : gwC} {hb : gwHp} {M : Nat} {sh : Nat → Option gSh} {th o : Nat} {p1 e v t : Int} {c c1 : W0} {K : Option Value → gwHp → Prop} {KX : String → gwHp → Prop} (h0 : sD sh th) (ho : sh o = some (2, 1, [])) (H : f_X8_profitOf th p1 c = some (e, v, c1)) (hcs : (e = 0 ∧ t = 0) ∨ (e = 3 ∧ t = 1)) (hK0 : e = 0 → K (some (vI 0)) (hp Φ hb M sh (upc c1 o (updZ (c1 o) 0 (w32 v))))) (hK1 : ¬ e = 0 → K (some (vI t)) (hp Φ hb M sh c1)) : gw_ConH Φ mL_profitOf [.ref (M + th), vI p1, .ref (M + o)] (hp Φ hb M sh c) K KX := by
  refine gw_startH okL_profitOf (Nat.le_of_ble_eq_true rfl) ?_
  refine gw_aload_n dL_profitOf_0 rfl rfl ?_
  refine gw_iconstZ dL_profitOf_1 rfl ?_
  refine gw_aload_n dL_profitOf_2 rfl rfl ?_
  refine gw_iload_n dL_profitOf_3 rfl rfl ?_
  refine gw_VX1 okX8_profitOf dL_profitOf_4 kw_1133 kw_1134 kw_1135 (hp_o h0.1) rfl ⟨by decide, by decide⟩ ⟨by decide, by decide⟩ (Nat.le_of_ble_eq_true rfl) (w_X8_profitOf h0 H (fun e0 => ?_) (fun e1 => ?_))
  · skip
    refine gw_i2lW dL_profitOf_7 rfl ?_
    refine gs_lastZ dL_profitOf_8 rfl ho (by decide) (by decide) ?_
    refine gw_goto (tgt := 15) dL_profitOf_9 (by decide) ?_
    refine gw_iconstZ dL_profitOf_15 rfl ?_
    exact gw_iretX dL_profitOf_16 rfl (by decide) (by decide) (hK0 e0)
  · rcases hcs with ⟨e2, e3⟩ | ⟨e2, e3⟩
    · exact absurd e2 e1
    · subst e2 e3
      rw [show xnm (3, v, c1).1 = "java/lang/IndexOutOfBoundsException" from rfl]
      refine gw_catch (name := "java/lang/IndexOutOfBoundsException") [] (0, 9, 12, 19) [] rfl (fun z hz => absurd hz List.not_mem_nil) (by decide) (by decide) kw_945 kw_787 (fun q => ?_)
      refine gw_astore_n dL_profitOf_12 rfl (by decide) ?_
      refine gw_iconstZ dL_profitOf_13 rfl ?_
      exact gw_iretX dL_profitOf_14 rfl (by decide) (by decide) (hK1 e1)
set_option maxRecDepth 100000 in
theorem v_coefficientOf {Φ : gwC} {hb : gwHp} {M : Nat} {sh : Nat → Option gSh} {th o : Nat} {p1 p2 e v t : Int} {c c1 : W0} {K : Option Value → gwHp → Prop} {KX : String → gwHp → Prop} (h0 : sD sh th) (ho : sh o = some (2, 1, [])) (H : f_X8_coefficientOf th p1 p2 c = some (e, v, c1)) (hcs : (e = 0 ∧ t = 0) ∨ (e = 3 ∧ t = 1)) (hK0 : e = 0 → K (some (vI 0)) (hp Φ hb M sh (upc c1 o (updZ (c1 o) 0 (w32 v))))) (hK1 : ¬ e = 0 → K (some (vI t)) (hp Φ hb M sh c1)) : gw_ConH Φ mL_coefficientOf [.ref (M + th), vI p1, vI p2, .ref (M + o)] (hp Φ hb M sh c) K KX := by
  refine gw_startH okL_coefficientOf (Nat.le_of_ble_eq_true rfl) ?_
  refine gw_aload_n dL_coefficientOf_0 rfl rfl ?_
  refine gw_iconstZ dL_coefficientOf_1 rfl ?_
  refine gw_aload_n dL_coefficientOf_2 rfl rfl ?_
  refine gw_iload_n dL_coefficientOf_3 rfl rfl ?_
  refine gw_iload_n dL_coefficientOf_4 rfl rfl ?_
  refine gw_VX2 okX8_coefficientOf dL_coefficientOf_5 kw_1140 kw_1141 kw_1142 (hp_o h0.1) rfl ⟨by decide, by decide⟩ ⟨by decide, by decide⟩ (Nat.le_of_ble_eq_true rfl) (w_X8_coefficientOf h0 H (fun e0 => ?_) (fun e1 => ?_))
  · skip
    refine gw_i2lW dL_coefficientOf_8 rfl ?_
    refine gs_lastZ dL_coefficientOf_9 rfl ho (by decide) (by decide) ?_
    refine gw_goto (tgt := 17) dL_coefficientOf_10 (by decide) ?_
    refine gw_iconstZ dL_coefficientOf_17 rfl ?_
    exact gw_iretX dL_coefficientOf_18 rfl (by decide) (by decide) (hK0 e0)
  · rcases hcs with ⟨e2, e3⟩ | ⟨e2, e3⟩
    · exact absurd e2 e1
    · subst e2 e3
      rw [show xnm (3, v, c1).1 = "java/lang/IndexOutOfBoundsException" from rfl]
      refine gw_catch (name := "java/lang/IndexOutOfBoundsException") [] (0, 10, 13, 19) [] rfl (fun z hz => absurd hz List.not_mem_nil) (by decide) (by decide) kw_945 kw_787 (fun q => ?_)
      refine gw_astore dL_coefficientOf_13 rfl (by decide) ?_
      refine gw_iconstZ dL_coefficientOf_15 rfl ?_
      exact gw_iretX dL_coefficientOf_16 rfl (by decide) (by decide) (hK1 e1)
set_option maxRecDepth 100000 in
theorem v_boundOf {Φ : gwC} {hb : gwHp} {M : Nat} {sh : Nat → Option gSh} {th o : Nat} {p1 e v t : Int} {c c1 : W0} {K : Option Value → gwHp → Prop} {KX : String → gwHp → Prop} (h0 : sD sh th) (ho : sh o = some (2, 1, [])) (H : f_X8_boundOf th p1 c = some (e, v, c1)) (hcs : (e = 0 ∧ t = 0) ∨ (e = 3 ∧ t = 1)) (hK0 : e = 0 → K (some (vI 0)) (hp Φ hb M sh (upc c1 o (updZ (c1 o) 0 (w32 v))))) (hK1 : ¬ e = 0 → K (some (vI t)) (hp Φ hb M sh c1)) : gw_ConH Φ mL_boundOf [.ref (M + th), vI p1, .ref (M + o)] (hp Φ hb M sh c) K KX := by
  refine gw_startH okL_boundOf (Nat.le_of_ble_eq_true rfl) ?_
  refine gw_aload_n dL_boundOf_0 rfl rfl ?_
  refine gw_iconstZ dL_boundOf_1 rfl ?_
  refine gw_aload_n dL_boundOf_2 rfl rfl ?_
  refine gw_iload_n dL_boundOf_3 rfl rfl ?_
  refine gw_VX1 okX8_boundOf dL_boundOf_4 kw_1147 kw_1148 kw_1149 (hp_o h0.1) rfl ⟨by decide, by decide⟩ ⟨by decide, by decide⟩ (Nat.le_of_ble_eq_true rfl) (w_X8_boundOf h0 H (fun e0 => ?_) (fun e1 => ?_))
  · skip
    refine gw_i2lW dL_boundOf_7 rfl ?_
    refine gs_lastZ dL_boundOf_8 rfl ho (by decide) (by decide) ?_
    refine gw_goto (tgt := 15) dL_boundOf_9 (by decide) ?_
    refine gw_iconstZ dL_boundOf_15 rfl ?_
    exact gw_iretX dL_boundOf_16 rfl (by decide) (by decide) (hK0 e0)
  · rcases hcs with ⟨e2, e3⟩ | ⟨e2, e3⟩
    · exact absurd e2 e1
    · subst e2 e3
      rw [show xnm (3, v, c1).1 = "java/lang/IndexOutOfBoundsException" from rfl]
      refine gw_catch (name := "java/lang/IndexOutOfBoundsException") [] (0, 9, 12, 19) [] rfl (fun z hz => absurd hz List.not_mem_nil) (by decide) (by decide) kw_945 kw_787 (fun q => ?_)
      refine gw_astore_n dL_boundOf_12 rfl (by decide) ?_
      refine gw_iconstZ dL_boundOf_13 rfl ?_
      exact gw_iretX dL_boundOf_14 rfl (by decide) (by decide) (hK1 e1)
set_option maxRecDepth 100000 in
theorem v_columnOf {Φ : gwC} {hb : gwHp} {M : Nat} {sh : Nat → Option gSh} {th o : Nat} {p1 e v t : Int} {c c1 : W0} {K : Option Value → gwHp → Prop} {KX : String → gwHp → Prop} (h0 : sD sh th) (ho : sh o = some (2, 1, [])) (H : f_X8_columnOf th p1 c = some (e, v, c1)) (hcs : (e = 0 ∧ t = 0) ∨ (e = 3 ∧ t = 1)) (hK0 : e = 0 → K (some (vI 0)) (hp Φ hb M sh (upc c1 o (updZ (c1 o) 0 (w32 v))))) (hK1 : ¬ e = 0 → K (some (vI t)) (hp Φ hb M sh c1)) : gw_ConH Φ mL_columnOf [.ref (M + th), vI p1, .ref (M + o)] (hp Φ hb M sh c) K KX := by
  refine gw_startH okL_columnOf (Nat.le_of_ble_eq_true rfl) ?_
  refine gw_aload_n dL_columnOf_0 rfl rfl ?_
  refine gw_iconstZ dL_columnOf_1 rfl ?_
  refine gw_aload_n dL_columnOf_2 rfl rfl ?_
  refine gw_iload_n dL_columnOf_3 rfl rfl ?_
  refine gw_VX1 okX8_columnOf dL_columnOf_4 kw_1154 kw_1155 kw_1156 (hp_o h0.1) rfl ⟨by decide, by decide⟩ ⟨by decide, by decide⟩ (Nat.le_of_ble_eq_true rfl) (w_X8_columnOf h0 H (fun e0 => ?_) (fun e1 => ?_))
  · skip
    refine gw_i2lW dL_columnOf_7 rfl ?_
    refine gs_lastZ dL_columnOf_8 rfl ho (by decide) (by decide) ?_
    refine gw_goto (tgt := 15) dL_columnOf_9 (by decide) ?_
    refine gw_iconstZ dL_columnOf_15 rfl ?_
    exact gw_iretX dL_columnOf_16 rfl (by decide) (by decide) (hK0 e0)
  · rcases hcs with ⟨e2, e3⟩ | ⟨e2, e3⟩
    · exact absurd e2 e1
    · subst e2 e3
      rw [show xnm (3, v, c1).1 = "java/lang/IndexOutOfBoundsException" from rfl]
      refine gw_catch (name := "java/lang/IndexOutOfBoundsException") [] (0, 9, 12, 19) [] rfl (fun z hz => absurd hz List.not_mem_nil) (by decide) (by decide) kw_945 kw_787 (fun q => ?_)
      refine gw_astore_n dL_columnOf_12 rfl (by decide) ?_
      refine gw_iconstZ dL_columnOf_13 rfl ?_
      exact gw_iretX dL_columnOf_14 rfl (by decide) (by decide) (hK1 e1)
set_option maxRecDepth 100000 in
theorem v_isNamed {Φ : gwC} {hb : gwHp} {M : Nat} {sh : Nat → Option gSh} {th o : Nat} {p1 e v t : Int} {c c1 : W0} {K : Option Value → gwHp → Prop} {KX : String → gwHp → Prop} (h0 : sD sh th) (ho : sh o = some (2, 1, [])) (H : f_X8_isNamed th p1 c = some (e, v, c1)) (hcs : (e = 0 ∧ t = 0) ∨ (e = 3 ∧ t = 1)) (hv : e = 0 → v = 0 ∨ v = 1) (hK0 : e = 0 → K (some (vI 0)) (hp Φ hb M sh (upc c1 o (updZ (c1 o) 0 (v))))) (hK1 : ¬ e = 0 → K (some (vI t)) (hp Φ hb M sh c1)) : gw_ConH Φ mL_isNamed [.ref (M + th), vI p1, .ref (M + o)] (hp Φ hb M sh c) K KX := by
  refine gw_startH okL_isNamed (Nat.le_of_ble_eq_true rfl) ?_
  refine gw_aload_n dL_isNamed_0 rfl rfl ?_
  refine gw_iconstZ dL_isNamed_1 rfl ?_
  refine gw_aload_n dL_isNamed_2 rfl rfl ?_
  refine gw_iload_n dL_isNamed_3 rfl rfl ?_
  refine gw_VX1 okX8_isNamed dL_isNamed_4 kw_1161 kw_1162 kw_1163 (hp_o h0.1) rfl ⟨by decide, by decide⟩ ⟨by decide, by decide⟩ (Nat.le_of_ble_eq_true rfl) (w_X8_isNamed h0 H (fun e0 => ?_) (fun e1 => ?_))
  · rcases hv e0 with e2 | e2
    · subst e2
      refine gw_if_eqZ (x9 := 0) (tgt := 14) dL_isNamed_7 rfl (by decide) (by decide) (fun _ => ?_) (fun q => absurd rfl q)
      refine gw_lconst0Z dL_isNamed_14 rfl ?_
      refine gs_lastZ dL_isNamed_15 rfl ho (by decide) (by decide) ?_
      refine gw_goto (tgt := 22) dL_isNamed_16 (by decide) ?_
      refine gw_iconstZ dL_isNamed_22 rfl ?_
      exact gw_iretX dL_isNamed_23 rfl (by decide) (by decide) (hK0 e0)
    · subst e2
      refine gw_if_eqZ (x9 := 1) (tgt := 14) dL_isNamed_7 rfl (by decide) (by decide) (fun q => absurd q (by decide)) (fun _ => ?_)
      refine gw_lconst1Z dL_isNamed_10 rfl ?_
      refine gw_goto (tgt := 15) dL_isNamed_11 (by decide) ?_
      refine gs_lastZ dL_isNamed_15 rfl ho (by decide) (by decide) ?_
      refine gw_goto (tgt := 22) dL_isNamed_16 (by decide) ?_
      refine gw_iconstZ dL_isNamed_22 rfl ?_
      exact gw_iretX dL_isNamed_23 rfl (by decide) (by decide) (hK0 e0)
  · rcases hcs with ⟨e2, e3⟩ | ⟨e2, e3⟩
    · exact absurd e2 e1
    · subst e2 e3
      rw [show xnm (3, v, c1).1 = "java/lang/IndexOutOfBoundsException" from rfl]
      refine gw_catch (name := "java/lang/IndexOutOfBoundsException") [] (0, 16, 19, 19) [] rfl (fun z hz => absurd hz List.not_mem_nil) (by decide) (by decide) kw_945 kw_787 (fun q => ?_)
      refine gw_astore_n dL_isNamed_19 rfl (by decide) ?_
      refine gw_iconstZ dL_isNamed_20 rfl ?_
      exact gw_iretX dL_isNamed_21 rfl (by decide) (by decide) (hK1 e1)
set_option maxRecDepth 100000 in
theorem v_entryNumerator {Φ : gwC} {hb : gwHp} {M : Nat} {sh : Nat → Option gSh} {th o : Nat} {p1 p2 e v t : Int} {c c1 : W0} {K : Option Value → gwHp → Prop} {KX : String → gwHp → Prop} (h0 : sD sh th) (ho : sh o = some (2, 1, [])) (H : f_X8_entryNumerator th p1 p2 c = some (e, v, c1)) (hcs : (e = 0 ∧ t = 0) ∨ (e = 3 ∧ t = 1)) (hK0 : e = 0 → K (some (vI 0)) (hp Φ hb M sh (upc c1 o (updZ (c1 o) 0 (v))))) (hK1 : ¬ e = 0 → K (some (vI t)) (hp Φ hb M sh c1)) : gw_ConH Φ mL_entryNumerator [.ref (M + th), vI p1, vI p2, .ref (M + o)] (hp Φ hb M sh c) K KX := by
  refine gw_startH okL_entryNumerator (Nat.le_of_ble_eq_true rfl) ?_
  refine gw_aload_n dL_entryNumerator_0 rfl rfl ?_
  refine gw_iconstZ dL_entryNumerator_1 rfl ?_
  refine gw_aload_n dL_entryNumerator_2 rfl rfl ?_
  refine gw_iload_n dL_entryNumerator_3 rfl rfl ?_
  refine gw_iload_n dL_entryNumerator_4 rfl rfl ?_
  refine gw_VX2 okX8_entryNumerator dL_entryNumerator_5 kw_1168 kw_1169 kw_1170 (hp_o h0.1) rfl ⟨by decide, by decide⟩ ⟨by decide, by decide⟩ (Nat.le_of_ble_eq_true rfl) (w_X8_entryNumerator h0 H (fun e0 => ?_) (fun e1 => ?_))
  · skip
    refine gs_lastZ dL_entryNumerator_8 rfl ho (by decide) (by decide) ?_
    refine gw_goto (tgt := 16) dL_entryNumerator_9 (by decide) ?_
    refine gw_iconstZ dL_entryNumerator_16 rfl ?_
    exact gw_iretX dL_entryNumerator_17 rfl (by decide) (by decide) (hK0 e0)
  · rcases hcs with ⟨e2, e3⟩ | ⟨e2, e3⟩
    · exact absurd e2 e1
    · subst e2 e3
      rw [show xnm (3, v, c1).1 = "java/lang/IndexOutOfBoundsException" from rfl]
      refine gw_catch (name := "java/lang/IndexOutOfBoundsException") [] (0, 9, 12, 19) [] rfl (fun z hz => absurd hz List.not_mem_nil) (by decide) (by decide) kw_945 kw_787 (fun q => ?_)
      refine gw_astore dL_entryNumerator_12 rfl (by decide) ?_
      refine gw_iconstZ dL_entryNumerator_14 rfl ?_
      exact gw_iretX dL_entryNumerator_15 rfl (by decide) (by decide) (hK1 e1)
set_option maxRecDepth 100000 in
theorem v_entryDenominator {Φ : gwC} {hb : gwHp} {M : Nat} {sh : Nat → Option gSh} {th o : Nat} {p1 p2 e v t : Int} {c c1 : W0} {K : Option Value → gwHp → Prop} {KX : String → gwHp → Prop} (h0 : sD sh th) (ho : sh o = some (2, 1, [])) (H : f_X8_entryDenominator th p1 p2 c = some (e, v, c1)) (hcs : (e = 0 ∧ t = 0) ∨ (e = 3 ∧ t = 1)) (hK0 : e = 0 → K (some (vI 0)) (hp Φ hb M sh (upc c1 o (updZ (c1 o) 0 (v))))) (hK1 : ¬ e = 0 → K (some (vI t)) (hp Φ hb M sh c1)) : gw_ConH Φ mL_entryDenominator [.ref (M + th), vI p1, vI p2, .ref (M + o)] (hp Φ hb M sh c) K KX := by
  refine gw_startH okL_entryDenominator (Nat.le_of_ble_eq_true rfl) ?_
  refine gw_aload_n dL_entryDenominator_0 rfl rfl ?_
  refine gw_iconstZ dL_entryDenominator_1 rfl ?_
  refine gw_aload_n dL_entryDenominator_2 rfl rfl ?_
  refine gw_iload_n dL_entryDenominator_3 rfl rfl ?_
  refine gw_iload_n dL_entryDenominator_4 rfl rfl ?_
  refine gw_VX2 okX8_entryDenominator dL_entryDenominator_5 kw_1175 kw_1176 kw_1177 (hp_o h0.1) rfl ⟨by decide, by decide⟩ ⟨by decide, by decide⟩ (Nat.le_of_ble_eq_true rfl) (w_X8_entryDenominator h0 H (fun e0 => ?_) (fun e1 => ?_))
  · skip
    refine gs_lastZ dL_entryDenominator_8 rfl ho (by decide) (by decide) ?_
    refine gw_goto (tgt := 16) dL_entryDenominator_9 (by decide) ?_
    refine gw_iconstZ dL_entryDenominator_16 rfl ?_
    exact gw_iretX dL_entryDenominator_17 rfl (by decide) (by decide) (hK0 e0)
  · rcases hcs with ⟨e2, e3⟩ | ⟨e2, e3⟩
    · exact absurd e2 e1
    · subst e2 e3
      rw [show xnm (3, v, c1).1 = "java/lang/IndexOutOfBoundsException" from rfl]
      refine gw_catch (name := "java/lang/IndexOutOfBoundsException") [] (0, 9, 12, 19) [] rfl (fun z hz => absurd hz List.not_mem_nil) (by decide) (by decide) kw_945 kw_787 (fun q => ?_)
      refine gw_astore dL_entryDenominator_12 rfl (by decide) ?_
      refine gw_iconstZ dL_entryDenominator_14 rfl ?_
      exact gw_iretX dL_entryDenominator_15 rfl (by decide) (by decide) (hK1 e1)
set_option maxRecDepth 100000 in
theorem v_reducedNumerator {Φ : gwC} {hb : gwHp} {M : Nat} {sh : Nat → Option gSh} {th o : Nat} {p1 e v t : Int} {c c1 : W0} {K : Option Value → gwHp → Prop} {KX : String → gwHp → Prop} (h0 : sD sh th) (ho : sh o = some (2, 1, [])) (H : f_X8_reducedNumerator th p1 c = some (e, v, c1)) (hcs : (e = 0 ∧ t = 0) ∨ (e = 3 ∧ t = 1)) (hK0 : e = 0 → K (some (vI 0)) (hp Φ hb M sh (upc c1 o (updZ (c1 o) 0 (v))))) (hK1 : ¬ e = 0 → K (some (vI t)) (hp Φ hb M sh c1)) : gw_ConH Φ mL_reducedNumerator [.ref (M + th), vI p1, .ref (M + o)] (hp Φ hb M sh c) K KX := by
  refine gw_startH okL_reducedNumerator (Nat.le_of_ble_eq_true rfl) ?_
  refine gw_aload_n dL_reducedNumerator_0 rfl rfl ?_
  refine gw_iconstZ dL_reducedNumerator_1 rfl ?_
  refine gw_aload_n dL_reducedNumerator_2 rfl rfl ?_
  refine gw_iload_n dL_reducedNumerator_3 rfl rfl ?_
  refine gw_VX1 okX8_reducedNumerator dL_reducedNumerator_4 kw_1182 kw_1183 kw_1184 (hp_o h0.1) rfl ⟨by decide, by decide⟩ ⟨by decide, by decide⟩ (Nat.le_of_ble_eq_true rfl) (w_X8_reducedNumerator h0 H (fun e0 => ?_) (fun e1 => ?_))
  · skip
    refine gs_lastZ dL_reducedNumerator_7 rfl ho (by decide) (by decide) ?_
    refine gw_goto (tgt := 14) dL_reducedNumerator_8 (by decide) ?_
    refine gw_iconstZ dL_reducedNumerator_14 rfl ?_
    exact gw_iretX dL_reducedNumerator_15 rfl (by decide) (by decide) (hK0 e0)
  · rcases hcs with ⟨e2, e3⟩ | ⟨e2, e3⟩
    · exact absurd e2 e1
    · subst e2 e3
      rw [show xnm (3, v, c1).1 = "java/lang/IndexOutOfBoundsException" from rfl]
      refine gw_catch (name := "java/lang/IndexOutOfBoundsException") [] (0, 8, 11, 19) [] rfl (fun z hz => absurd hz List.not_mem_nil) (by decide) (by decide) kw_945 kw_787 (fun q => ?_)
      refine gw_astore_n dL_reducedNumerator_11 rfl (by decide) ?_
      refine gw_iconstZ dL_reducedNumerator_12 rfl ?_
      exact gw_iretX dL_reducedNumerator_13 rfl (by decide) (by decide) (hK1 e1)
set_option maxRecDepth 100000 in
theorem v_reducedDenominator {Φ : gwC} {hb : gwHp} {M : Nat} {sh : Nat → Option gSh} {th o : Nat} {p1 e v t : Int} {c c1 : W0} {K : Option Value → gwHp → Prop} {KX : String → gwHp → Prop} (h0 : sD sh th) (ho : sh o = some (2, 1, [])) (H : f_X8_reducedDenominator th p1 c = some (e, v, c1)) (hcs : (e = 0 ∧ t = 0) ∨ (e = 3 ∧ t = 1)) (hK0 : e = 0 → K (some (vI 0)) (hp Φ hb M sh (upc c1 o (updZ (c1 o) 0 (v))))) (hK1 : ¬ e = 0 → K (some (vI t)) (hp Φ hb M sh c1)) : gw_ConH Φ mL_reducedDenominator [.ref (M + th), vI p1, .ref (M + o)] (hp Φ hb M sh c) K KX := by
  refine gw_startH okL_reducedDenominator (Nat.le_of_ble_eq_true rfl) ?_
  refine gw_aload_n dL_reducedDenominator_0 rfl rfl ?_
  refine gw_iconstZ dL_reducedDenominator_1 rfl ?_
  refine gw_aload_n dL_reducedDenominator_2 rfl rfl ?_
  refine gw_iload_n dL_reducedDenominator_3 rfl rfl ?_
  refine gw_VX1 okX8_reducedDenominator dL_reducedDenominator_4 kw_1189 kw_1190 kw_1191 (hp_o h0.1) rfl ⟨by decide, by decide⟩ ⟨by decide, by decide⟩ (Nat.le_of_ble_eq_true rfl) (w_X8_reducedDenominator h0 H (fun e0 => ?_) (fun e1 => ?_))
  · skip
    refine gs_lastZ dL_reducedDenominator_7 rfl ho (by decide) (by decide) ?_
    refine gw_goto (tgt := 14) dL_reducedDenominator_8 (by decide) ?_
    refine gw_iconstZ dL_reducedDenominator_14 rfl ?_
    exact gw_iretX dL_reducedDenominator_15 rfl (by decide) (by decide) (hK0 e0)
  · rcases hcs with ⟨e2, e3⟩ | ⟨e2, e3⟩
    · exact absurd e2 e1
    · subst e2 e3
      rw [show xnm (3, v, c1).1 = "java/lang/IndexOutOfBoundsException" from rfl]
      refine gw_catch (name := "java/lang/IndexOutOfBoundsException") [] (0, 8, 11, 19) [] rfl (fun z hz => absurd hz List.not_mem_nil) (by decide) (by decide) kw_945 kw_787 (fun q => ?_)
      refine gw_astore_n dL_reducedDenominator_11 rfl (by decide) ?_
      refine gw_iconstZ dL_reducedDenominator_12 rfl ?_
      exact gw_iretX dL_reducedDenominator_13 rfl (by decide) (by decide) (hK1 e1)
set_option maxRecDepth 100000 in
theorem v_givenNumerator {Φ : gwC} {hb : gwHp} {M : Nat} {sh : Nat → Option gSh} {th o : Nat} {p1 e v t : Int} {c c1 : W0} {K : Option Value → gwHp → Prop} {KX : String → gwHp → Prop} (h0 : sD sh th) (ho : sh o = some (2, 1, [])) (H : f_X8_givenNumerator th p1 c = some (e, v, c1)) (hcs : (e = 0 ∧ t = 0) ∨ (e = 3 ∧ t = 1)) (hK0 : e = 0 → K (some (vI 0)) (hp Φ hb M sh (upc c1 o (updZ (c1 o) 0 (v))))) (hK1 : ¬ e = 0 → K (some (vI t)) (hp Φ hb M sh c1)) : gw_ConH Φ mL_givenNumerator [.ref (M + th), vI p1, .ref (M + o)] (hp Φ hb M sh c) K KX := by
  refine gw_startH okL_givenNumerator (Nat.le_of_ble_eq_true rfl) ?_
  refine gw_aload_n dL_givenNumerator_0 rfl rfl ?_
  refine gw_iconstZ dL_givenNumerator_1 rfl ?_
  refine gw_aload_n dL_givenNumerator_2 rfl rfl ?_
  refine gw_iload_n dL_givenNumerator_3 rfl rfl ?_
  refine gw_VX1 okX8_givenNumerator dL_givenNumerator_4 kw_1196 kw_1197 kw_1198 (hp_o h0.1) rfl ⟨by decide, by decide⟩ ⟨by decide, by decide⟩ (Nat.le_of_ble_eq_true rfl) (w_X8_givenNumerator h0 H (fun e0 => ?_) (fun e1 => ?_))
  · skip
    refine gs_lastZ dL_givenNumerator_7 rfl ho (by decide) (by decide) ?_
    refine gw_goto (tgt := 14) dL_givenNumerator_8 (by decide) ?_
    refine gw_iconstZ dL_givenNumerator_14 rfl ?_
    exact gw_iretX dL_givenNumerator_15 rfl (by decide) (by decide) (hK0 e0)
  · rcases hcs with ⟨e2, e3⟩ | ⟨e2, e3⟩
    · exact absurd e2 e1
    · subst e2 e3
      rw [show xnm (3, v, c1).1 = "java/lang/IndexOutOfBoundsException" from rfl]
      refine gw_catch (name := "java/lang/IndexOutOfBoundsException") [] (0, 8, 11, 19) [] rfl (fun z hz => absurd hz List.not_mem_nil) (by decide) (by decide) kw_945 kw_787 (fun q => ?_)
      refine gw_astore_n dL_givenNumerator_11 rfl (by decide) ?_
      refine gw_iconstZ dL_givenNumerator_12 rfl ?_
      exact gw_iretX dL_givenNumerator_13 rfl (by decide) (by decide) (hK1 e1)
set_option maxRecDepth 100000 in
theorem v_givenDenominator {Φ : gwC} {hb : gwHp} {M : Nat} {sh : Nat → Option gSh} {th o : Nat} {p1 e v t : Int} {c c1 : W0} {K : Option Value → gwHp → Prop} {KX : String → gwHp → Prop} (h0 : sD sh th) (ho : sh o = some (2, 1, [])) (H : f_X8_givenDenominator th p1 c = some (e, v, c1)) (hcs : (e = 0 ∧ t = 0) ∨ (e = 3 ∧ t = 1)) (hK0 : e = 0 → K (some (vI 0)) (hp Φ hb M sh (upc c1 o (updZ (c1 o) 0 (v))))) (hK1 : ¬ e = 0 → K (some (vI t)) (hp Φ hb M sh c1)) : gw_ConH Φ mL_givenDenominator [.ref (M + th), vI p1, .ref (M + o)] (hp Φ hb M sh c) K KX := by
  refine gw_startH okL_givenDenominator (Nat.le_of_ble_eq_true rfl) ?_
  refine gw_aload_n dL_givenDenominator_0 rfl rfl ?_
  refine gw_iconstZ dL_givenDenominator_1 rfl ?_
  refine gw_aload_n dL_givenDenominator_2 rfl rfl ?_
  refine gw_iload_n dL_givenDenominator_3 rfl rfl ?_
  refine gw_VX1 okX8_givenDenominator dL_givenDenominator_4 kw_1203 kw_1204 kw_1205 (hp_o h0.1) rfl ⟨by decide, by decide⟩ ⟨by decide, by decide⟩ (Nat.le_of_ble_eq_true rfl) (w_X8_givenDenominator h0 H (fun e0 => ?_) (fun e1 => ?_))
  · skip
    refine gs_lastZ dL_givenDenominator_7 rfl ho (by decide) (by decide) ?_
    refine gw_goto (tgt := 14) dL_givenDenominator_8 (by decide) ?_
    refine gw_iconstZ dL_givenDenominator_14 rfl ?_
    exact gw_iretX dL_givenDenominator_15 rfl (by decide) (by decide) (hK0 e0)
  · rcases hcs with ⟨e2, e3⟩ | ⟨e2, e3⟩
    · exact absurd e2 e1
    · subst e2 e3
      rw [show xnm (3, v, c1).1 = "java/lang/IndexOutOfBoundsException" from rfl]
      refine gw_catch (name := "java/lang/IndexOutOfBoundsException") [] (0, 8, 11, 19) [] rfl (fun z hz => absurd hz List.not_mem_nil) (by decide) (by decide) kw_945 kw_787 (fun q => ?_)
      refine gw_astore_n dL_givenDenominator_11 rfl (by decide) ?_
      refine gw_iconstZ dL_givenDenominator_12 rfl ?_
      exact gw_iretX dL_givenDenominator_13 rfl (by decide) (by decide) (hK1 e1)
set_option maxRecDepth 100000 in
theorem v_dualNumerator {Φ : gwC} {hb : gwHp} {M : Nat} {sh : Nat → Option gSh} {th o : Nat} {p1 e v t : Int} {c c1 : W0} {K : Option Value → gwHp → Prop} {KX : String → gwHp → Prop} (h0 : sD sh th) (ho : sh o = some (2, 1, [])) (H : f_X8_dualNumerator th p1 c = some (e, v, c1)) (hcs : (e = 0 ∧ t = 0) ∨ (e = 3 ∧ t = 1)) (hK0 : e = 0 → K (some (vI 0)) (hp Φ hb M sh (upc c1 o (updZ (c1 o) 0 (v))))) (hK1 : ¬ e = 0 → K (some (vI t)) (hp Φ hb M sh c1)) : gw_ConH Φ mL_dualNumerator [.ref (M + th), vI p1, .ref (M + o)] (hp Φ hb M sh c) K KX := by
  refine gw_startH okL_dualNumerator (Nat.le_of_ble_eq_true rfl) ?_
  refine gw_aload_n dL_dualNumerator_0 rfl rfl ?_
  refine gw_iconstZ dL_dualNumerator_1 rfl ?_
  refine gw_aload_n dL_dualNumerator_2 rfl rfl ?_
  refine gw_iload_n dL_dualNumerator_3 rfl rfl ?_
  refine gw_VX1 okX8_dualNumerator dL_dualNumerator_4 kw_1210 kw_1211 kw_1212 (hp_o h0.1) rfl ⟨by decide, by decide⟩ ⟨by decide, by decide⟩ (Nat.le_of_ble_eq_true rfl) (w_X8_dualNumerator h0 H (fun e0 => ?_) (fun e1 => ?_))
  · skip
    refine gs_lastZ dL_dualNumerator_7 rfl ho (by decide) (by decide) ?_
    refine gw_goto (tgt := 14) dL_dualNumerator_8 (by decide) ?_
    refine gw_iconstZ dL_dualNumerator_14 rfl ?_
    exact gw_iretX dL_dualNumerator_15 rfl (by decide) (by decide) (hK0 e0)
  · rcases hcs with ⟨e2, e3⟩ | ⟨e2, e3⟩
    · exact absurd e2 e1
    · subst e2 e3
      rw [show xnm (3, v, c1).1 = "java/lang/IndexOutOfBoundsException" from rfl]
      refine gw_catch (name := "java/lang/IndexOutOfBoundsException") [] (0, 8, 11, 19) [] rfl (fun z hz => absurd hz List.not_mem_nil) (by decide) (by decide) kw_945 kw_787 (fun q => ?_)
      refine gw_astore_n dL_dualNumerator_11 rfl (by decide) ?_
      refine gw_iconstZ dL_dualNumerator_12 rfl ?_
      exact gw_iretX dL_dualNumerator_13 rfl (by decide) (by decide) (hK1 e1)
set_option maxRecDepth 100000 in
theorem v_dualDenominator {Φ : gwC} {hb : gwHp} {M : Nat} {sh : Nat → Option gSh} {th o : Nat} {p1 e v t : Int} {c c1 : W0} {K : Option Value → gwHp → Prop} {KX : String → gwHp → Prop} (h0 : sD sh th) (ho : sh o = some (2, 1, [])) (H : f_X8_dualDenominator th p1 c = some (e, v, c1)) (hcs : (e = 0 ∧ t = 0) ∨ (e = 3 ∧ t = 1)) (hK0 : e = 0 → K (some (vI 0)) (hp Φ hb M sh (upc c1 o (updZ (c1 o) 0 (v))))) (hK1 : ¬ e = 0 → K (some (vI t)) (hp Φ hb M sh c1)) : gw_ConH Φ mL_dualDenominator [.ref (M + th), vI p1, .ref (M + o)] (hp Φ hb M sh c) K KX := by
  refine gw_startH okL_dualDenominator (Nat.le_of_ble_eq_true rfl) ?_
  refine gw_aload_n dL_dualDenominator_0 rfl rfl ?_
  refine gw_iconstZ dL_dualDenominator_1 rfl ?_
  refine gw_aload_n dL_dualDenominator_2 rfl rfl ?_
  refine gw_iload_n dL_dualDenominator_3 rfl rfl ?_
  refine gw_VX1 okX8_dualDenominator dL_dualDenominator_4 kw_1217 kw_1218 kw_1219 (hp_o h0.1) rfl ⟨by decide, by decide⟩ ⟨by decide, by decide⟩ (Nat.le_of_ble_eq_true rfl) (w_X8_dualDenominator h0 H (fun e0 => ?_) (fun e1 => ?_))
  · skip
    refine gs_lastZ dL_dualDenominator_7 rfl ho (by decide) (by decide) ?_
    refine gw_goto (tgt := 14) dL_dualDenominator_8 (by decide) ?_
    refine gw_iconstZ dL_dualDenominator_14 rfl ?_
    exact gw_iretX dL_dualDenominator_15 rfl (by decide) (by decide) (hK0 e0)
  · rcases hcs with ⟨e2, e3⟩ | ⟨e2, e3⟩
    · exact absurd e2 e1
    · subst e2 e3
      rw [show xnm (3, v, c1).1 = "java/lang/IndexOutOfBoundsException" from rfl]
      refine gw_catch (name := "java/lang/IndexOutOfBoundsException") [] (0, 8, 11, 19) [] rfl (fun z hz => absurd hz List.not_mem_nil) (by decide) (by decide) kw_945 kw_787 (fun q => ?_)
      refine gw_astore_n dL_dualDenominator_11 rfl (by decide) ?_
      refine gw_iconstZ dL_dualDenominator_12 rfl ?_
      exact gw_iretX dL_dualDenominator_13 rfl (by decide) (by decide) (hK1 e1)
set_option maxRecDepth 100000 in
theorem v_dualNumeratorByEquations {Φ : gwC} {hb : gwHp} {M : Nat} {sh : Nat → Option gSh} {th o : Nat} {p1 e v t : Int} {c c1 : W0} {K : Option Value → gwHp → Prop} {KX : String → gwHp → Prop} (h0 : sD sh th) (ho : sh o = some (2, 1, [])) (H : f_X8_dualNumeratorByEquations th p1 c = some (e, v, c1)) (hcs : (e = 0 ∧ t = 0) ∨ (e = 3 ∧ t = 1)) (hK0 : e = 0 → K (some (vI 0)) (hp Φ hb M sh (upc c1 o (updZ (c1 o) 0 (v))))) (hK1 : ¬ e = 0 → K (some (vI t)) (hp Φ hb M sh c1)) : gw_ConH Φ mL_dualNumeratorByEquations [.ref (M + th), vI p1, .ref (M + o)] (hp Φ hb M sh c) K KX := by
  refine gw_startH okL_dualNumeratorByEquations (Nat.le_of_ble_eq_true rfl) ?_
  refine gw_aload_n dL_dualNumeratorByEquations_0 rfl rfl ?_
  refine gw_iconstZ dL_dualNumeratorByEquations_1 rfl ?_
  refine gw_aload_n dL_dualNumeratorByEquations_2 rfl rfl ?_
  refine gw_iload_n dL_dualNumeratorByEquations_3 rfl rfl ?_
  refine gw_VX1 okX8_dualNumeratorByEquations dL_dualNumeratorByEquations_4 kw_1224 kw_1225 kw_1226 (hp_o h0.1) rfl ⟨by decide, by decide⟩ ⟨by decide, by decide⟩ (Nat.le_of_ble_eq_true rfl) (w_X8_dualNumeratorByEquations h0 H (fun e0 => ?_) (fun e1 => ?_))
  · skip
    refine gs_lastZ dL_dualNumeratorByEquations_7 rfl ho (by decide) (by decide) ?_
    refine gw_goto (tgt := 14) dL_dualNumeratorByEquations_8 (by decide) ?_
    refine gw_iconstZ dL_dualNumeratorByEquations_14 rfl ?_
    exact gw_iretX dL_dualNumeratorByEquations_15 rfl (by decide) (by decide) (hK0 e0)
  · rcases hcs with ⟨e2, e3⟩ | ⟨e2, e3⟩
    · exact absurd e2 e1
    · subst e2 e3
      rw [show xnm (3, v, c1).1 = "java/lang/IndexOutOfBoundsException" from rfl]
      refine gw_catch (name := "java/lang/IndexOutOfBoundsException") [] (0, 8, 11, 19) [] rfl (fun z hz => absurd hz List.not_mem_nil) (by decide) (by decide) kw_945 kw_787 (fun q => ?_)
      refine gw_astore_n dL_dualNumeratorByEquations_11 rfl (by decide) ?_
      refine gw_iconstZ dL_dualNumeratorByEquations_12 rfl ?_
      exact gw_iretX dL_dualNumeratorByEquations_13 rfl (by decide) (by decide) (hK1 e1)
set_option maxRecDepth 100000 in
theorem v_dualDenominatorByEquations {Φ : gwC} {hb : gwHp} {M : Nat} {sh : Nat → Option gSh} {th o : Nat} {p1 e v t : Int} {c c1 : W0} {K : Option Value → gwHp → Prop} {KX : String → gwHp → Prop} (h0 : sD sh th) (ho : sh o = some (2, 1, [])) (H : f_X8_dualDenominatorByEquations th p1 c = some (e, v, c1)) (hcs : (e = 0 ∧ t = 0) ∨ (e = 3 ∧ t = 1)) (hK0 : e = 0 → K (some (vI 0)) (hp Φ hb M sh (upc c1 o (updZ (c1 o) 0 (v))))) (hK1 : ¬ e = 0 → K (some (vI t)) (hp Φ hb M sh c1)) : gw_ConH Φ mL_dualDenominatorByEquations [.ref (M + th), vI p1, .ref (M + o)] (hp Φ hb M sh c) K KX := by
  refine gw_startH okL_dualDenominatorByEquations (Nat.le_of_ble_eq_true rfl) ?_
  refine gw_aload_n dL_dualDenominatorByEquations_0 rfl rfl ?_
  refine gw_iconstZ dL_dualDenominatorByEquations_1 rfl ?_
  refine gw_aload_n dL_dualDenominatorByEquations_2 rfl rfl ?_
  refine gw_iload_n dL_dualDenominatorByEquations_3 rfl rfl ?_
  refine gw_VX1 okX8_dualDenominatorByEquations dL_dualDenominatorByEquations_4 kw_1231 kw_1232 kw_1233 (hp_o h0.1) rfl ⟨by decide, by decide⟩ ⟨by decide, by decide⟩ (Nat.le_of_ble_eq_true rfl) (w_X8_dualDenominatorByEquations h0 H (fun e0 => ?_) (fun e1 => ?_))
  · skip
    refine gs_lastZ dL_dualDenominatorByEquations_7 rfl ho (by decide) (by decide) ?_
    refine gw_goto (tgt := 14) dL_dualDenominatorByEquations_8 (by decide) ?_
    refine gw_iconstZ dL_dualDenominatorByEquations_14 rfl ?_
    exact gw_iretX dL_dualDenominatorByEquations_15 rfl (by decide) (by decide) (hK0 e0)
  · rcases hcs with ⟨e2, e3⟩ | ⟨e2, e3⟩
    · exact absurd e2 e1
    · subst e2 e3
      rw [show xnm (3, v, c1).1 = "java/lang/IndexOutOfBoundsException" from rfl]
      refine gw_catch (name := "java/lang/IndexOutOfBoundsException") [] (0, 8, 11, 19) [] rfl (fun z hz => absurd hz List.not_mem_nil) (by decide) (by decide) kw_945 kw_787 (fun q => ?_)
      refine gw_astore_n dL_dualDenominatorByEquations_11 rfl (by decide) ?_
      refine gw_iconstZ dL_dualDenominatorByEquations_12 rfl ?_
      exact gw_iretX dL_dualDenominatorByEquations_13 rfl (by decide) (by decide) (hK1 e1)
set_option maxRecDepth 100000 in
theorem v_rayColumn {Φ : gwC} {hb : gwHp} {M : Nat} {sh : Nat → Option gSh} {th o : Nat} {e v t : Int} {c c1 : W0} {K : Option Value → gwHp → Prop} {KX : String → gwHp → Prop} (h0 : sD sh th) (ho : sh o = some (2, 1, [])) (H : f_X8_rayColumn th c = some (e, v, c1)) (hcs : (e = 0 ∧ t = 0) ∨ (e = 2 ∧ t = 1)) (hK0 : e = 0 → K (some (vI 0)) (hp Φ hb M sh (upc c1 o (updZ (c1 o) 0 (w32 v))))) (hK1 : ¬ e = 0 → K (some (vI t)) (hp Φ hb M sh c1)) : gw_ConH Φ mL_rayColumn [.ref (M + th), .ref (M + o)] (hp Φ hb M sh c) K KX := by
  refine gw_startH okL_rayColumn (Nat.le_of_ble_eq_true rfl) ?_
  refine gw_aload_n dL_rayColumn_0 rfl rfl ?_
  refine gw_iconstZ dL_rayColumn_1 rfl ?_
  refine gw_aload_n dL_rayColumn_2 rfl rfl ?_
  refine gw_VX0 okX8_rayColumn dL_rayColumn_3 kw_1238 kw_1239 kw_1240 (hp_o h0.1) rfl ⟨by decide, by decide⟩ ⟨by decide, by decide⟩ (Nat.le_of_ble_eq_true rfl) (w_X8_rayColumn h0 H (fun e0 => ?_) (fun e1 => ?_))
  · skip
    refine gw_i2lW dL_rayColumn_6 rfl ?_
    refine gs_lastZ dL_rayColumn_7 rfl ho (by decide) (by decide) ?_
    refine gw_goto (tgt := 14) dL_rayColumn_8 (by decide) ?_
    refine gw_iconstZ dL_rayColumn_14 rfl ?_
    exact gw_iretX dL_rayColumn_15 rfl (by decide) (by decide) (hK0 e0)
  · rcases hcs with ⟨e2, e3⟩ | ⟨e2, e3⟩
    · exact absurd e2 e1
    · subst e2 e3
      rw [show xnm (2, v, c1).1 = "java/lang/IllegalStateException" from rfl]
      refine gw_catch (name := "java/lang/IllegalStateException") [] (0, 8, 11, 24) [] rfl (fun z hz => absurd hz List.not_mem_nil) (by decide) (by decide) kw_966 kw_977 (fun q => ?_)
      refine gw_astore_n dL_rayColumn_11 rfl (by decide) ?_
      refine gw_iconstZ dL_rayColumn_12 rfl ?_
      exact gw_iretX dL_rayColumn_13 rfl (by decide) (by decide) (hK1 e1)
set_option maxRecDepth 100000 in
theorem v_rayNumerator {Φ : gwC} {hb : gwHp} {M : Nat} {sh : Nat → Option gSh} {th o : Nat} {p1 e v t : Int} {c c1 : W0} {K : Option Value → gwHp → Prop} {KX : String → gwHp → Prop} (h0 : sD sh th) (ho : sh o = some (2, 1, [])) (H : f_X8_rayNumerator th p1 c = some (e, v, c1)) (hcs : (e = 0 ∧ t = 0) ∨ (e = 3 ∧ t = 1) ∨ (e = 2 ∧ t = 2)) (hK0 : e = 0 → K (some (vI 0)) (hp Φ hb M sh (upc c1 o (updZ (c1 o) 0 (v))))) (hK1 : ¬ e = 0 → K (some (vI t)) (hp Φ hb M sh c1)) : gw_ConH Φ mL_rayNumerator [.ref (M + th), vI p1, .ref (M + o)] (hp Φ hb M sh c) K KX := by
  refine gw_startH okL_rayNumerator (Nat.le_of_ble_eq_true rfl) ?_
  refine gw_aload_n dL_rayNumerator_0 rfl rfl ?_
  refine gw_iconstZ dL_rayNumerator_1 rfl ?_
  refine gw_aload_n dL_rayNumerator_2 rfl rfl ?_
  refine gw_iload_n dL_rayNumerator_3 rfl rfl ?_
  refine gw_VX1 okX8_rayNumerator dL_rayNumerator_4 kw_1250 kw_1251 kw_1252 (hp_o h0.1) rfl ⟨by decide, by decide⟩ ⟨by decide, by decide⟩ (Nat.le_of_ble_eq_true rfl) (w_X8_rayNumerator h0 H (fun e0 => ?_) (fun e1 => ?_))
  · skip
    refine gs_lastZ dL_rayNumerator_7 rfl ho (by decide) (by decide) ?_
    refine gw_goto (tgt := 17) dL_rayNumerator_8 (by decide) ?_
    refine gw_iconstZ dL_rayNumerator_17 rfl ?_
    exact gw_iretX dL_rayNumerator_18 rfl (by decide) (by decide) (hK0 e0)
  · rcases hcs with ⟨e2, e3⟩ | ⟨e2, e3⟩ | ⟨e2, e3⟩
    · exact absurd e2 e1
    · subst e2 e3
      rw [show xnm (3, v, c1).1 = "java/lang/IndexOutOfBoundsException" from rfl]
      refine gw_catch (name := "java/lang/IndexOutOfBoundsException") [] (0, 8, 11, 19) [(0, 8, 14, 24)] rfl (fun z hz => absurd hz List.not_mem_nil) (by decide) (by decide) kw_945 kw_787 (fun q => ?_)
      refine gw_astore_n dL_rayNumerator_11 rfl (by decide) ?_
      refine gw_iconstZ dL_rayNumerator_12 rfl ?_
      exact gw_iretX dL_rayNumerator_13 rfl (by decide) (by decide) (hK1 e1)
    · subst e2 e3
      rw [show xnm (2, v, c1).1 = "java/lang/IllegalStateException" from rfl]
      refine gw_catch (name := "java/lang/IllegalStateException") [(0, 8, 11, 19)] (0, 8, 14, 24) [] rfl (fun z hz => by rw [List.mem_singleton.mp hz]; exact ⟨by decide, _, kw_945, by decide⟩) (by decide) (by decide) kw_966 kw_977 (fun q => ?_)
      refine gw_astore_n dL_rayNumerator_14 rfl (by decide) ?_
      refine gw_iconstZ dL_rayNumerator_15 rfl ?_
      exact gw_iretX dL_rayNumerator_16 rfl (by decide) (by decide) (hK1 e1)
set_option maxRecDepth 100000 in
theorem v_rayDenominator {Φ : gwC} {hb : gwHp} {M : Nat} {sh : Nat → Option gSh} {th o : Nat} {p1 e v t : Int} {c c1 : W0} {K : Option Value → gwHp → Prop} {KX : String → gwHp → Prop} (h0 : sD sh th) (ho : sh o = some (2, 1, [])) (H : f_X8_rayDenominator th p1 c = some (e, v, c1)) (hcs : (e = 0 ∧ t = 0) ∨ (e = 3 ∧ t = 1) ∨ (e = 2 ∧ t = 2)) (hK0 : e = 0 → K (some (vI 0)) (hp Φ hb M sh (upc c1 o (updZ (c1 o) 0 (v))))) (hK1 : ¬ e = 0 → K (some (vI t)) (hp Φ hb M sh c1)) : gw_ConH Φ mL_rayDenominator [.ref (M + th), vI p1, .ref (M + o)] (hp Φ hb M sh c) K KX := by
  refine gw_startH okL_rayDenominator (Nat.le_of_ble_eq_true rfl) ?_
  refine gw_aload_n dL_rayDenominator_0 rfl rfl ?_
  refine gw_iconstZ dL_rayDenominator_1 rfl ?_
  refine gw_aload_n dL_rayDenominator_2 rfl rfl ?_
  refine gw_iload_n dL_rayDenominator_3 rfl rfl ?_
  refine gw_VX1 okX8_rayDenominator dL_rayDenominator_4 kw_1261 kw_1262 kw_1263 (hp_o h0.1) rfl ⟨by decide, by decide⟩ ⟨by decide, by decide⟩ (Nat.le_of_ble_eq_true rfl) (w_X8_rayDenominator h0 H (fun e0 => ?_) (fun e1 => ?_))
  · skip
    refine gs_lastZ dL_rayDenominator_7 rfl ho (by decide) (by decide) ?_
    refine gw_goto (tgt := 17) dL_rayDenominator_8 (by decide) ?_
    refine gw_iconstZ dL_rayDenominator_17 rfl ?_
    exact gw_iretX dL_rayDenominator_18 rfl (by decide) (by decide) (hK0 e0)
  · rcases hcs with ⟨e2, e3⟩ | ⟨e2, e3⟩ | ⟨e2, e3⟩
    · exact absurd e2 e1
    · subst e2 e3
      rw [show xnm (3, v, c1).1 = "java/lang/IndexOutOfBoundsException" from rfl]
      refine gw_catch (name := "java/lang/IndexOutOfBoundsException") [] (0, 8, 11, 19) [(0, 8, 14, 24)] rfl (fun z hz => absurd hz List.not_mem_nil) (by decide) (by decide) kw_945 kw_787 (fun q => ?_)
      refine gw_astore_n dL_rayDenominator_11 rfl (by decide) ?_
      refine gw_iconstZ dL_rayDenominator_12 rfl ?_
      exact gw_iretX dL_rayDenominator_13 rfl (by decide) (by decide) (hK1 e1)
    · subst e2 e3
      rw [show xnm (2, v, c1).1 = "java/lang/IllegalStateException" from rfl]
      refine gw_catch (name := "java/lang/IllegalStateException") [(0, 8, 11, 19)] (0, 8, 14, 24) [] rfl (fun z hz => by rw [List.mem_singleton.mp hz]; exact ⟨by decide, _, kw_945, by decide⟩) (by decide) (by decide) kw_966 kw_977 (fun q => ?_)
      refine gw_astore_n dL_rayDenominator_14 rfl (by decide) ?_
      refine gw_iconstZ dL_rayDenominator_15 rfl ?_
      exact gw_iretX dL_rayDenominator_16 rfl (by decide) (by decide) (hK1 e1)
set_option maxRecDepth 100000 in
theorem v_whyNoPivot {Φ : gwC} {hb : gwHp} {M : Nat} {sh : Nat → Option gSh} {th o : Nat} {p1 p2 e v t : Int} {c c1 : W0} {K : Option Value → gwHp → Prop} {KX : String → gwHp → Prop} (h0 : sD sh th) (ho : sh o = some (2, 1, [])) (H : f_X8_whyNoPivot th p1 p2 c = some (e, v, c1)) (hcs : (e = 0 ∧ t = 0) ∨ (e = 3 ∧ t = 1)) (hK0 : e = 0 → K (some (vI 0)) (hp Φ hb M sh (upc c1 o (updZ (c1 o) 0 (w32 v))))) (hK1 : ¬ e = 0 → K (some (vI t)) (hp Φ hb M sh c1)) : gw_ConH Φ mL_whyNoPivot [.ref (M + th), vI p1, vI p2, .ref (M + o)] (hp Φ hb M sh c) K KX := by
  refine gw_startH okL_whyNoPivot (Nat.le_of_ble_eq_true rfl) ?_
  refine gw_aload_n dL_whyNoPivot_0 rfl rfl ?_
  refine gw_iconstZ dL_whyNoPivot_1 rfl ?_
  refine gw_aload_n dL_whyNoPivot_2 rfl rfl ?_
  refine gw_iload_n dL_whyNoPivot_3 rfl rfl ?_
  refine gw_iload_n dL_whyNoPivot_4 rfl rfl ?_
  refine gw_VX2 okX8_whyNoPivot dL_whyNoPivot_5 kw_1268 kw_1269 kw_1270 (hp_o h0.1) rfl ⟨by decide, by decide⟩ ⟨by decide, by decide⟩ (Nat.le_of_ble_eq_true rfl) (w_X8_whyNoPivot h0 H (fun e0 => ?_) (fun e1 => ?_))
  · skip
    refine gw_i2lW dL_whyNoPivot_8 rfl ?_
    refine gs_lastZ dL_whyNoPivot_9 rfl ho (by decide) (by decide) ?_
    refine gw_goto (tgt := 17) dL_whyNoPivot_10 (by decide) ?_
    refine gw_iconstZ dL_whyNoPivot_17 rfl ?_
    exact gw_iretX dL_whyNoPivot_18 rfl (by decide) (by decide) (hK0 e0)
  · rcases hcs with ⟨e2, e3⟩ | ⟨e2, e3⟩
    · exact absurd e2 e1
    · subst e2 e3
      rw [show xnm (3, v, c1).1 = "java/lang/IndexOutOfBoundsException" from rfl]
      refine gw_catch (name := "java/lang/IndexOutOfBoundsException") [] (0, 10, 13, 19) [] rfl (fun z hz => absurd hz List.not_mem_nil) (by decide) (by decide) kw_945 kw_787 (fun q => ?_)
      refine gw_astore dL_whyNoPivot_13 rfl (by decide) ?_
      refine gw_iconstZ dL_whyNoPivot_15 rfl ?_
      exact gw_iretX dL_whyNoPivot_16 rfl (by decide) (by decide) (hK1 e1)
set_option maxRecDepth 100000 in
theorem v_nextColumn {Φ : gwC} {hb : gwHp} {M : Nat} {sh : Nat → Option gSh} {th o : Nat} {e v t : Int} {c c1 : W0} {K : Option Value → gwHp → Prop} {KX : String → gwHp → Prop} (h0 : sD sh th) (ho : sh o = some (2, 1, [])) (H : f_X8_nextColumn th c = some (e, v, c1)) (hcs : (e = 0 ∧ t = 0) ∨ (e = 2 ∧ t = 1)) (hK0 : e = 0 → K (some (vI 0)) (hp Φ hb M sh (upc c1 o (updZ (c1 o) 0 (w32 v))))) (hK1 : ¬ e = 0 → K (some (vI t)) (hp Φ hb M sh c1)) : gw_ConH Φ mL_nextColumn [.ref (M + th), .ref (M + o)] (hp Φ hb M sh c) K KX := by
  refine gw_startH okL_nextColumn (Nat.le_of_ble_eq_true rfl) ?_
  refine gw_aload_n dL_nextColumn_0 rfl rfl ?_
  refine gw_iconstZ dL_nextColumn_1 rfl ?_
  refine gw_aload_n dL_nextColumn_2 rfl rfl ?_
  refine gw_VX0 okX8_nextColumn dL_nextColumn_3 kw_1275 kw_1276 kw_1277 (hp_o h0.1) rfl ⟨by decide, by decide⟩ ⟨by decide, by decide⟩ (Nat.le_of_ble_eq_true rfl) (w_X8_nextColumn h0 H (fun e0 => ?_) (fun e1 => ?_))
  · skip
    refine gw_i2lW dL_nextColumn_6 rfl ?_
    refine gs_lastZ dL_nextColumn_7 rfl ho (by decide) (by decide) ?_
    refine gw_goto (tgt := 14) dL_nextColumn_8 (by decide) ?_
    refine gw_iconstZ dL_nextColumn_14 rfl ?_
    exact gw_iretX dL_nextColumn_15 rfl (by decide) (by decide) (hK0 e0)
  · rcases hcs with ⟨e2, e3⟩ | ⟨e2, e3⟩
    · exact absurd e2 e1
    · subst e2 e3
      rw [show xnm (2, v, c1).1 = "java/lang/IllegalStateException" from rfl]
      refine gw_catch (name := "java/lang/IllegalStateException") [] (0, 8, 11, 24) [] rfl (fun z hz => absurd hz List.not_mem_nil) (by decide) (by decide) kw_966 kw_977 (fun q => ?_)
      refine gw_astore_n dL_nextColumn_11 rfl (by decide) ?_
      refine gw_iconstZ dL_nextColumn_12 rfl ?_
      exact gw_iretX dL_nextColumn_13 rfl (by decide) (by decide) (hK1 e1)
set_option maxRecDepth 100000 in
theorem v_nextRow {Φ : gwC} {hb : gwHp} {M : Nat} {sh : Nat → Option gSh} {th o : Nat} {e v t : Int} {c c1 : W0} {K : Option Value → gwHp → Prop} {KX : String → gwHp → Prop} (h0 : sD sh th) (ho : sh o = some (2, 1, [])) (H : f_X8_nextRow th c = some (e, v, c1)) (hcs : (e = 0 ∧ t = 0) ∨ (e = 2 ∧ t = 1)) (hK0 : e = 0 → K (some (vI 0)) (hp Φ hb M sh (upc c1 o (updZ (c1 o) 0 (w32 v))))) (hK1 : ¬ e = 0 → K (some (vI t)) (hp Φ hb M sh c1)) : gw_ConH Φ mL_nextRow [.ref (M + th), .ref (M + o)] (hp Φ hb M sh c) K KX := by
  refine gw_startH okL_nextRow (Nat.le_of_ble_eq_true rfl) ?_
  refine gw_aload_n dL_nextRow_0 rfl rfl ?_
  refine gw_iconstZ dL_nextRow_1 rfl ?_
  refine gw_aload_n dL_nextRow_2 rfl rfl ?_
  refine gw_VX0 okX8_nextRow dL_nextRow_3 kw_1282 kw_1283 kw_1284 (hp_o h0.1) rfl ⟨by decide, by decide⟩ ⟨by decide, by decide⟩ (Nat.le_of_ble_eq_true rfl) (w_X8_nextRow h0 H (fun e0 => ?_) (fun e1 => ?_))
  · skip
    refine gw_i2lW dL_nextRow_6 rfl ?_
    refine gs_lastZ dL_nextRow_7 rfl ho (by decide) (by decide) ?_
    refine gw_goto (tgt := 14) dL_nextRow_8 (by decide) ?_
    refine gw_iconstZ dL_nextRow_14 rfl ?_
    exact gw_iretX dL_nextRow_15 rfl (by decide) (by decide) (hK0 e0)
  · rcases hcs with ⟨e2, e3⟩ | ⟨e2, e3⟩
    · exact absurd e2 e1
    · subst e2 e3
      rw [show xnm (2, v, c1).1 = "java/lang/IllegalStateException" from rfl]
      refine gw_catch (name := "java/lang/IllegalStateException") [] (0, 8, 11, 24) [] rfl (fun z hz => absurd hz List.not_mem_nil) (by decide) (by decide) kw_966 kw_977 (fun q => ?_)
      refine gw_astore_n dL_nextRow_11 rfl (by decide) ?_
      refine gw_iconstZ dL_nextRow_12 rfl ?_
      exact gw_iretX dL_nextRow_13 rfl (by decide) (by decide) (hK1 e1)
set_option maxRecDepth 100000 in
theorem v_leastBound {Φ : gwC} {hb : gwHp} {M : Nat} {sh : Nat → Option gSh} {th o : Nat} {p1 e v t : Int} {c c1 : W0} {K : Option Value → gwHp → Prop} {KX : String → gwHp → Prop} (h0 : sD sh th) (ho : sh o = some (2, 1, [])) (H : f_X8_leastBound th p1 c = some (e, v, c1)) (hcs : (e = 0 ∧ t = 0) ∨ (e = 3 ∧ t = 1)) (hK0 : e = 0 → K (some (vI 0)) (hp Φ hb M sh (upc c1 o (updZ (c1 o) 0 (w32 v))))) (hK1 : ¬ e = 0 → K (some (vI t)) (hp Φ hb M sh c1)) : gw_ConH Φ mL_leastBound [.ref (M + th), vI p1, .ref (M + o)] (hp Φ hb M sh c) K KX := by
  refine gw_startH okL_leastBound (Nat.le_of_ble_eq_true rfl) ?_
  refine gw_aload_n dL_leastBound_0 rfl rfl ?_
  refine gw_iconstZ dL_leastBound_1 rfl ?_
  refine gw_aload_n dL_leastBound_2 rfl rfl ?_
  refine gw_iload_n dL_leastBound_3 rfl rfl ?_
  refine gw_VX1 okX8_leastBound dL_leastBound_4 kw_1289 kw_778 kw_779 (hp_o h0.1) rfl ⟨by decide, by decide⟩ ⟨by decide, by decide⟩ (Nat.le_of_ble_eq_true rfl) (w_X8_leastBound h0 H (fun e0 => ?_) (fun e1 => ?_))
  · skip
    refine gw_i2lW dL_leastBound_7 rfl ?_
    refine gs_lastZ dL_leastBound_8 rfl ho (by decide) (by decide) ?_
    refine gw_goto (tgt := 15) dL_leastBound_9 (by decide) ?_
    refine gw_iconstZ dL_leastBound_15 rfl ?_
    exact gw_iretX dL_leastBound_16 rfl (by decide) (by decide) (hK0 e0)
  · rcases hcs with ⟨e2, e3⟩ | ⟨e2, e3⟩
    · exact absurd e2 e1
    · subst e2 e3
      rw [show xnm (3, v, c1).1 = "java/lang/IndexOutOfBoundsException" from rfl]
      refine gw_catch (name := "java/lang/IndexOutOfBoundsException") [] (0, 9, 12, 19) [] rfl (fun z hz => absurd hz List.not_mem_nil) (by decide) (by decide) kw_945 kw_787 (fun q => ?_)
      refine gw_astore_n dL_leastBound_12 rfl (by decide) ?_
      refine gw_iconstZ dL_leastBound_13 rfl ?_
      exact gw_iretX dL_leastBound_14 rfl (by decide) (by decide) (hK1 e1)
set_option maxRecDepth 100000 in
theorem v_greatestBound {Φ : gwC} {hb : gwHp} {M : Nat} {sh : Nat → Option gSh} {th o : Nat} {p1 e v t : Int} {c c1 : W0} {K : Option Value → gwHp → Prop} {KX : String → gwHp → Prop} (h0 : sD sh th) (ho : sh o = some (2, 1, [])) (H : f_X8_greatestBound th p1 c = some (e, v, c1)) (hcs : (e = 0 ∧ t = 0) ∨ (e = 3 ∧ t = 1)) (hK0 : e = 0 → K (some (vI 0)) (hp Φ hb M sh (upc c1 o (updZ (c1 o) 0 (w32 v))))) (hK1 : ¬ e = 0 → K (some (vI t)) (hp Φ hb M sh c1)) : gw_ConH Φ mL_greatestBound [.ref (M + th), vI p1, .ref (M + o)] (hp Φ hb M sh c) K KX := by
  refine gw_startH okL_greatestBound (Nat.le_of_ble_eq_true rfl) ?_
  refine gw_aload_n dL_greatestBound_0 rfl rfl ?_
  refine gw_iconstZ dL_greatestBound_1 rfl ?_
  refine gw_aload_n dL_greatestBound_2 rfl rfl ?_
  refine gw_iload_n dL_greatestBound_3 rfl rfl ?_
  refine gw_VX1 okX8_greatestBound dL_greatestBound_4 kw_1293 kw_867 kw_868 (hp_o h0.1) rfl ⟨by decide, by decide⟩ ⟨by decide, by decide⟩ (Nat.le_of_ble_eq_true rfl) (w_X8_greatestBound h0 H (fun e0 => ?_) (fun e1 => ?_))
  · skip
    refine gw_i2lW dL_greatestBound_7 rfl ?_
    refine gs_lastZ dL_greatestBound_8 rfl ho (by decide) (by decide) ?_
    refine gw_goto (tgt := 15) dL_greatestBound_9 (by decide) ?_
    refine gw_iconstZ dL_greatestBound_15 rfl ?_
    exact gw_iretX dL_greatestBound_16 rfl (by decide) (by decide) (hK0 e0)
  · rcases hcs with ⟨e2, e3⟩ | ⟨e2, e3⟩
    · exact absurd e2 e1
    · subst e2 e3
      rw [show xnm (3, v, c1).1 = "java/lang/IndexOutOfBoundsException" from rfl]
      refine gw_catch (name := "java/lang/IndexOutOfBoundsException") [] (0, 9, 12, 19) [] rfl (fun z hz => absurd hz List.not_mem_nil) (by decide) (by decide) kw_945 kw_787 (fun q => ?_)
      refine gw_astore_n dL_greatestBound_12 rfl (by decide) ?_
      refine gw_iconstZ dL_greatestBound_13 rfl ?_
      exact gw_iretX dL_greatestBound_14 rfl (by decide) (by decide) (hK1 e1)
set_option maxRecDepth 100000 in
theorem v_solvedNumerator {Φ : gwC} {hb : gwHp} {M : Nat} {sh : Nat → Option gSh} {th o : Nat} {p1 p2 e v t : Int} {c c1 : W0} {K : Option Value → gwHp → Prop} {KX : String → gwHp → Prop} (h0 : sD sh th) (ho : sh o = some (2, 1, [])) (H : f_X8_solvedNumerator th p1 p2 c = some (e, v, c1)) (hcs : (e = 0 ∧ t = 0) ∨ (e = 3 ∧ t = 1) ∨ (e = 1 ∧ t = 2) ∨ (e = 2 ∧ t = 3)) (hK0 : e = 0 → K (some (vI 0)) (hp Φ hb M sh (upc c1 o (updZ (c1 o) 0 (v))))) (hK1 : ¬ e = 0 → K (some (vI t)) (hp Φ hb M sh c1)) : gw_ConH Φ mL_solvedNumerator [.ref (M + th), vI p1, vI p2, .ref (M + o)] (hp Φ hb M sh c) K KX := by
  refine gw_startH okL_solvedNumerator (Nat.le_of_ble_eq_true rfl) ?_
  refine gw_aload_n dL_solvedNumerator_0 rfl rfl ?_
  refine gw_iconstZ dL_solvedNumerator_1 rfl ?_
  refine gw_aload_n dL_solvedNumerator_2 rfl rfl ?_
  refine gw_iload_n dL_solvedNumerator_3 rfl rfl ?_
  refine gw_iload_n dL_solvedNumerator_4 rfl rfl ?_
  refine gw_VX2 okX8_solvedNumerator dL_solvedNumerator_5 kw_1297 kw_1298 kw_1299 (hp_o h0.1) rfl ⟨by decide, by decide⟩ ⟨by decide, by decide⟩ (Nat.le_of_ble_eq_true rfl) (w_X8_solvedNumerator h0 H (fun e0 => ?_) (fun e1 => ?_))
  · skip
    refine gs_lastZ dL_solvedNumerator_8 rfl ho (by decide) (by decide) ?_
    refine gw_goto (tgt := 24) dL_solvedNumerator_9 (by decide) ?_
    refine gw_iconstZ dL_solvedNumerator_24 rfl ?_
    exact gw_iretX dL_solvedNumerator_25 rfl (by decide) (by decide) (hK0 e0)
  · rcases hcs with ⟨e2, e3⟩ | ⟨e2, e3⟩ | ⟨e2, e3⟩ | ⟨e2, e3⟩
    · exact absurd e2 e1
    · subst e2 e3
      rw [show xnm (3, v, c1).1 = "java/lang/IndexOutOfBoundsException" from rfl]
      refine gw_catch (name := "java/lang/IndexOutOfBoundsException") [] (0, 9, 12, 19) [(0, 9, 16, 13), (0, 9, 20, 24)] rfl (fun z hz => absurd hz List.not_mem_nil) (by decide) (by decide) kw_945 kw_787 (fun q => ?_)
      refine gw_astore dL_solvedNumerator_12 rfl (by decide) ?_
      refine gw_iconstZ dL_solvedNumerator_14 rfl ?_
      exact gw_iretX dL_solvedNumerator_15 rfl (by decide) (by decide) (hK1 e1)
    · subst e2 e3
      rw [show xnm (1, v, c1).1 = "java/lang/IllegalArgumentException" from rfl]
      refine gw_catch (name := "java/lang/IllegalArgumentException") [(0, 9, 12, 19)] (0, 9, 16, 13) [(0, 9, 20, 24)] rfl (fun z hz => by rw [List.mem_singleton.mp hz]; exact ⟨by decide, _, kw_945, by decide⟩) (by decide) (by decide) kw_920 kw_927 (fun q => ?_)
      refine gw_astore dL_solvedNumerator_16 rfl (by decide) ?_
      refine gw_iconstZ dL_solvedNumerator_18 rfl ?_
      exact gw_iretX dL_solvedNumerator_19 rfl (by decide) (by decide) (hK1 e1)
    · subst e2 e3
      rw [show xnm (2, v, c1).1 = "java/lang/IllegalStateException" from rfl]
      refine gw_catch (name := "java/lang/IllegalStateException") [(0, 9, 12, 19), (0, 9, 16, 13)] (0, 9, 20, 24) [] rfl (fun z hz => (List.mem_cons.mp hz).elim (fun e9 => by rw [e9]; exact ⟨by decide, _, kw_945, by decide⟩) (fun e9 => by rw [List.mem_singleton.mp e9]; exact ⟨by decide, _, kw_920, by decide⟩)) (by decide) (by decide) kw_966 kw_977 (fun q => ?_)
      refine gw_astore dL_solvedNumerator_20 rfl (by decide) ?_
      refine gw_iconstZ dL_solvedNumerator_22 rfl ?_
      exact gw_iretX dL_solvedNumerator_23 rfl (by decide) (by decide) (hK1 e1)
set_option maxRecDepth 100000 in
theorem v_solvedDenominator {Φ : gwC} {hb : gwHp} {M : Nat} {sh : Nat → Option gSh} {th o : Nat} {p1 p2 e v t : Int} {c c1 : W0} {K : Option Value → gwHp → Prop} {KX : String → gwHp → Prop} (h0 : sD sh th) (ho : sh o = some (2, 1, [])) (H : f_X8_solvedDenominator th p1 p2 c = some (e, v, c1)) (hcs : (e = 0 ∧ t = 0) ∨ (e = 3 ∧ t = 1) ∨ (e = 1 ∧ t = 2) ∨ (e = 2 ∧ t = 3)) (hK0 : e = 0 → K (some (vI 0)) (hp Φ hb M sh (upc c1 o (updZ (c1 o) 0 (v))))) (hK1 : ¬ e = 0 → K (some (vI t)) (hp Φ hb M sh c1)) : gw_ConH Φ mL_solvedDenominator [.ref (M + th), vI p1, vI p2, .ref (M + o)] (hp Φ hb M sh c) K KX := by
  refine gw_startH okL_solvedDenominator (Nat.le_of_ble_eq_true rfl) ?_
  refine gw_aload_n dL_solvedDenominator_0 rfl rfl ?_
  refine gw_iconstZ dL_solvedDenominator_1 rfl ?_
  refine gw_aload_n dL_solvedDenominator_2 rfl rfl ?_
  refine gw_iload_n dL_solvedDenominator_3 rfl rfl ?_
  refine gw_iload_n dL_solvedDenominator_4 rfl rfl ?_
  refine gw_VX2 okX8_solvedDenominator dL_solvedDenominator_5 kw_1309 kw_1310 kw_1311 (hp_o h0.1) rfl ⟨by decide, by decide⟩ ⟨by decide, by decide⟩ (Nat.le_of_ble_eq_true rfl) (w_X8_solvedDenominator h0 H (fun e0 => ?_) (fun e1 => ?_))
  · skip
    refine gs_lastZ dL_solvedDenominator_8 rfl ho (by decide) (by decide) ?_
    refine gw_goto (tgt := 24) dL_solvedDenominator_9 (by decide) ?_
    refine gw_iconstZ dL_solvedDenominator_24 rfl ?_
    exact gw_iretX dL_solvedDenominator_25 rfl (by decide) (by decide) (hK0 e0)
  · rcases hcs with ⟨e2, e3⟩ | ⟨e2, e3⟩ | ⟨e2, e3⟩ | ⟨e2, e3⟩
    · exact absurd e2 e1
    · subst e2 e3
      rw [show xnm (3, v, c1).1 = "java/lang/IndexOutOfBoundsException" from rfl]
      refine gw_catch (name := "java/lang/IndexOutOfBoundsException") [] (0, 9, 12, 19) [(0, 9, 16, 13), (0, 9, 20, 24)] rfl (fun z hz => absurd hz List.not_mem_nil) (by decide) (by decide) kw_945 kw_787 (fun q => ?_)
      refine gw_astore dL_solvedDenominator_12 rfl (by decide) ?_
      refine gw_iconstZ dL_solvedDenominator_14 rfl ?_
      exact gw_iretX dL_solvedDenominator_15 rfl (by decide) (by decide) (hK1 e1)
    · subst e2 e3
      rw [show xnm (1, v, c1).1 = "java/lang/IllegalArgumentException" from rfl]
      refine gw_catch (name := "java/lang/IllegalArgumentException") [(0, 9, 12, 19)] (0, 9, 16, 13) [(0, 9, 20, 24)] rfl (fun z hz => by rw [List.mem_singleton.mp hz]; exact ⟨by decide, _, kw_945, by decide⟩) (by decide) (by decide) kw_920 kw_927 (fun q => ?_)
      refine gw_astore dL_solvedDenominator_16 rfl (by decide) ?_
      refine gw_iconstZ dL_solvedDenominator_18 rfl ?_
      exact gw_iretX dL_solvedDenominator_19 rfl (by decide) (by decide) (hK1 e1)
    · subst e2 e3
      rw [show xnm (2, v, c1).1 = "java/lang/IllegalStateException" from rfl]
      refine gw_catch (name := "java/lang/IllegalStateException") [(0, 9, 12, 19), (0, 9, 16, 13)] (0, 9, 20, 24) [] rfl (fun z hz => (List.mem_cons.mp hz).elim (fun e9 => by rw [e9]; exact ⟨by decide, _, kw_945, by decide⟩) (fun e9 => by rw [List.mem_singleton.mp e9]; exact ⟨by decide, _, kw_920, by decide⟩)) (by decide) (by decide) kw_966 kw_977 (fun q => ?_)
      refine gw_astore dL_solvedDenominator_20 rfl (by decide) ?_
      refine gw_iconstZ dL_solvedDenominator_22 rfl ?_
      exact gw_iretX dL_solvedDenominator_23 rfl (by decide) (by decide) (hK1 e1)
end CW
