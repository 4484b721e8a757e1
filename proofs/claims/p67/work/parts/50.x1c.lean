section NC
noncomputable def chR (p1 : Nat) (p2 p3 p4 p5 : Int) (c : W0) : Option (Int × Int × W0) := bq (p2 = 0) (f_X8_setVariables p1 p3 c) (bq (p2 = 1) (f_X8_setProfit p1 p3 p4 c) (bq (p2 = 2) (f_X8_addConstraint p1 p3 c) (bq (p2 = 3) (f_X8_setCoefficient p1 p3 p4 p5 c) (bq (p2 = 4) (f_X8_setBound p1 p3 p4 c) (bq (p2 = 5) (f_X8_dropConstraint p1 p3 c) (bq (p2 = 6) (f_X8_pivot p1 p3 p4 c) (bq (p2 = 7) (f_X8_step p1 c) (bq (p2 = 8) ((match f_X8_solve p1 c with | none => none | some r => some (0, r.1, r.2))) (bq (p2 = 9) (f_X8_setRule p1 p3 c) ((match f_X8_begin p1 c with | none => none | some r => some (0, r.1, r.2))))))))))))
def cdX (e : Int) : Int := if e = 1 then 2 else if e = 2 then 3 else 1
noncomputable def chE (p6 : Nat) (o : Option (Int × Int × W0)) : Option (Int × W0) := match o with
  | none => none
  | some r => bq (r.1 = 0) (some (0, upc r.2.2 p6 (updZ (r.2.2 p6) 0 r.2.1))) (some (cdX r.1, r.2.2))
noncomputable def f_L_changes (p1 : Nat) (p2 p3 p4 p5 : Int) (p6 : Nat) (c : W0) : Option (Int × W0) := gd (R32 p2) <| chE p6 (chR p1 p2 p3 p4 p5 c)
theorem chE_i {p6 : Nat} {o : Option (Int × Int × W0)} {r : Int × W0} (H : chE p6 o = some r) : ∃ e v c, o = some (e, v, c) ∧ ((e = 0 ∧ r = (0, upc c p6 (updZ (c p6) 0 v))) ∨ (¬ e = 0 ∧ r = (cdX e, c))) := by
  unfold chE at H
  split at H
  · cases H
  · rename_i r9
    refine ⟨_, _, _, rfl, ?_⟩
    by_cases h : r9.1 = 0
    · rw [bq_p h] at H; exact Or.inl ⟨h, (Option.some.inj H).symm⟩
    · rw [bq_n h] at H; exact Or.inr ⟨h, (Option.some.inj H).symm⟩
theorem li_i {o : Option (Int × W0)} {e v : Int} {c : W0} (H : (match o with | none => none | some r => some ((0 : Int), r.1, r.2)) = some (e, v, c)) : e = 0 ∧ o = some (v, c) := by
  split at H
  · cases H
  · cases H; exact ⟨rfl, rfl⟩
set_option maxRecDepth 100000 in
set_option maxHeartbeats 4000000 in
theorem vc_setVariables {Φ : gwC} {hb : gwHp} {M : Nat} {sh : Nat → Option gSh} {p1 p6 : Nat} {p2 p3 p4 p5 : Int} {c : W0} {r : Int × W0} {K : Option Value → gwHp → Prop} {KX : String → gwHp → Prop} (h1 : sD sh p1) (h6 : sh p6 = some (1, 1, [])) (hR : R32 p2) (h9 : p2 = 0) (H : chE p6 (f_X8_setVariables p1 p3 c) = some r) (hK : K (some (vI r.1)) (hp Φ hb M sh r.2)) : gw_ConH Φ mL_changes [.ref (M + p1), vI p2, vI p3, vI p4, vI p5, .ref (M + p6)] (hp Φ hb M sh c) K KX := by
  obtain ⟨e, v, c1, E, H⟩ := chE_i H
  refine gw_startH okL_changes (Nat.le_of_ble_eq_true rfl) ?_
  refine gw_aload dL_changes_0 rfl rfl ?_
  refine gw_iconstZ dL_changes_2 rfl ?_
  refine gw_iload_n dL_changes_3 rfl rfl ?_
  refine gw_if_neZ (tgt := 15) dL_changes_4 rfl (by decide) hR (fun q => absurd h9 q) (fun q => ?_)
  refine gw_aload_n dL_changes_7 rfl rfl ?_
  refine gw_iload_n dL_changes_8 rfl rfl ?_
  refine gw_VX1 okX8_setVariables dL_changes_9 kw_387 kw_388 kw_389 (hp_o (h1.1)) rfl ⟨by decide, by decide⟩ ⟨by decide, by decide⟩ (Nat.le_of_ble_eq_true rfl) (w_X8_setVariables h1 E (fun z => ?_) (fun z => ?_))
  · rcases H with ⟨-, rfl⟩ | ⟨z2, -⟩
    rotate_left
    · exact absurd z z2
    refine gw_goto (tgt := 144) dL_changes_12 (by decide) ?_
    refine gs_iastZE dL_changes_144 rfl h6 (by decide) (by decide) rfl ?_
    refine gw_goto (tgt := 160) dL_changes_145 (by decide) ?_
    refine gw_iconstZ dL_changes_160 rfl ?_
    exact gw_iretX dL_changes_161 rfl (by decide) (by decide) hK
  · rcases H with ⟨z2, -⟩ | ⟨-, rfl⟩
    · exact absurd z2 z
    unfold cdX at hK
    show GX Φ mL_changes _ none _ _ 9 _ (xnm e) _
    unfold xnm
    by_cases e1 : e = 1
    · rw [if_pos e1] at hK ⊢
      refine gw_catch (name := "java/lang/IllegalArgumentException") [(0, 145, 148, 47)] (0, 145, 152, 49) [(0, 145, 156, 51)] rfl (fun z9 hz => by rw [List.mem_singleton.mp hz]; exact ⟨by decide, _, kw_384, by decide⟩) (by decide) (by decide) kw_385 kw_393 (fun q => ?_)
      refine gw_astore dL_changes_152 rfl (by decide) ?_
      refine gw_iconstZ dL_changes_154 rfl ?_
      exact gw_iretX dL_changes_155 rfl (by decide) (by decide) hK
    · rw [if_neg e1] at hK ⊢
      by_cases e2 : e = 2
      · rw [if_pos e2] at hK ⊢
        refine gw_catch (name := "java/lang/IllegalStateException") [(0, 145, 148, 47), (0, 145, 152, 49)] (0, 145, 156, 51) [] rfl (fun z9 hz => by rcases List.mem_cons.mp hz with rfl | hz; exact ⟨by decide, _, kw_384, by decide⟩; rw [List.mem_singleton.mp hz]; exact ⟨by decide, _, kw_385, by decide⟩) (by decide) (by decide) kw_386 kw_273 (fun q => ?_)
        refine gw_astore dL_changes_156 rfl (by decide) ?_
        refine gw_iconstZ dL_changes_158 rfl ?_
        exact gw_iretX dL_changes_159 rfl (by decide) (by decide) hK
      · rw [if_neg e2] at hK ⊢
        refine gw_catch (name := "java/lang/IndexOutOfBoundsException") [] (0, 145, 148, 47) [(0, 145, 152, 49), (0, 145, 156, 51)] rfl (fun z9 hz => absurd hz List.not_mem_nil) (by decide) (by decide) kw_384 kw_466 (fun q => ?_)
        refine gw_astore dL_changes_148 rfl (by decide) ?_
        refine gw_iconstZ dL_changes_150 rfl ?_
        exact gw_iretX dL_changes_151 rfl (by decide) (by decide) hK
set_option maxRecDepth 100000 in
set_option maxHeartbeats 4000000 in
theorem vc_setProfit {Φ : gwC} {hb : gwHp} {M : Nat} {sh : Nat → Option gSh} {p1 p6 : Nat} {p2 p3 p4 p5 : Int} {c : W0} {r : Int × W0} {K : Option Value → gwHp → Prop} {KX : String → gwHp → Prop} (h1 : sD sh p1) (h6 : sh p6 = some (1, 1, [])) (hR : R32 p2) (h9 : p2 = 1) (H : chE p6 (f_X8_setProfit p1 p3 p4 c) = some r) (hK : K (some (vI r.1)) (hp Φ hb M sh r.2)) : gw_ConH Φ mL_changes [.ref (M + p1), vI p2, vI p3, vI p4, vI p5, .ref (M + p6)] (hp Φ hb M sh c) K KX := by
  obtain ⟨e, v, c1, E, H⟩ := chE_i H
  refine gw_startH okL_changes (Nat.le_of_ble_eq_true rfl) ?_
  refine gw_aload dL_changes_0 rfl rfl ?_
  refine gw_iconstZ dL_changes_2 rfl ?_
  refine gw_iload_n dL_changes_3 rfl rfl ?_
  refine gw_if_neZ (tgt := 15) dL_changes_4 rfl (by decide) hR (fun q => ?_) (fun q => absurd q (by omega))
  refine gw_iload_n dL_changes_15 rfl rfl ?_
  refine gw_iconstZ dL_changes_16 rfl ?_
  refine gw_icmp_neZ (tgt := 29) dL_changes_17 rfl (by decide) hR (by decide) (fun q => absurd h9 q) (fun q => ?_)
  refine gw_aload_n dL_changes_20 rfl rfl ?_
  refine gw_iload_n dL_changes_21 rfl rfl ?_
  refine gw_iload_n dL_changes_22 rfl rfl ?_
  refine gw_VX2 okX8_setProfit dL_changes_23 kw_456 kw_457 kw_458 (hp_o (h1.1)) rfl ⟨by decide, by decide⟩ ⟨by decide, by decide⟩ (Nat.le_of_ble_eq_true rfl) (w_X8_setProfit h1 E (fun z => ?_) (fun z => ?_))
  · rcases H with ⟨-, rfl⟩ | ⟨z2, -⟩
    rotate_left
    · exact absurd z z2
    refine gw_goto (tgt := 144) dL_changes_26 (by decide) ?_
    refine gs_iastZE dL_changes_144 rfl h6 (by decide) (by decide) rfl ?_
    refine gw_goto (tgt := 160) dL_changes_145 (by decide) ?_
    refine gw_iconstZ dL_changes_160 rfl ?_
    exact gw_iretX dL_changes_161 rfl (by decide) (by decide) hK
  · rcases H with ⟨z2, -⟩ | ⟨-, rfl⟩
    · exact absurd z2 z
    unfold cdX at hK
    show GX Φ mL_changes _ none _ _ 23 _ (xnm e) _
    unfold xnm
    by_cases e1 : e = 1
    · rw [if_pos e1] at hK ⊢
      refine gw_catch (name := "java/lang/IllegalArgumentException") [(0, 145, 148, 47)] (0, 145, 152, 49) [(0, 145, 156, 51)] rfl (fun z9 hz => by rw [List.mem_singleton.mp hz]; exact ⟨by decide, _, kw_384, by decide⟩) (by decide) (by decide) kw_385 kw_393 (fun q => ?_)
      refine gw_astore dL_changes_152 rfl (by decide) ?_
      refine gw_iconstZ dL_changes_154 rfl ?_
      exact gw_iretX dL_changes_155 rfl (by decide) (by decide) hK
    · rw [if_neg e1] at hK ⊢
      by_cases e2 : e = 2
      · rw [if_pos e2] at hK ⊢
        refine gw_catch (name := "java/lang/IllegalStateException") [(0, 145, 148, 47), (0, 145, 152, 49)] (0, 145, 156, 51) [] rfl (fun z9 hz => by rcases List.mem_cons.mp hz with rfl | hz; exact ⟨by decide, _, kw_384, by decide⟩; rw [List.mem_singleton.mp hz]; exact ⟨by decide, _, kw_385, by decide⟩) (by decide) (by decide) kw_386 kw_273 (fun q => ?_)
        refine gw_astore dL_changes_156 rfl (by decide) ?_
        refine gw_iconstZ dL_changes_158 rfl ?_
        exact gw_iretX dL_changes_159 rfl (by decide) (by decide) hK
      · rw [if_neg e2] at hK ⊢
        refine gw_catch (name := "java/lang/IndexOutOfBoundsException") [] (0, 145, 148, 47) [(0, 145, 152, 49), (0, 145, 156, 51)] rfl (fun z9 hz => absurd hz List.not_mem_nil) (by decide) (by decide) kw_384 kw_466 (fun q => ?_)
        refine gw_astore dL_changes_148 rfl (by decide) ?_
        refine gw_iconstZ dL_changes_150 rfl ?_
        exact gw_iretX dL_changes_151 rfl (by decide) (by decide) hK
set_option maxRecDepth 100000 in
set_option maxHeartbeats 4000000 in
theorem vc_addConstraint {Φ : gwC} {hb : gwHp} {M : Nat} {sh : Nat → Option gSh} {p1 p6 : Nat} {p2 p3 p4 p5 : Int} {c : W0} {r : Int × W0} {K : Option Value → gwHp → Prop} {KX : String → gwHp → Prop} (h1 : sD sh p1) (h6 : sh p6 = some (1, 1, [])) (hR : R32 p2) (h9 : p2 = 2) (H : chE p6 (f_X8_addConstraint p1 p3 c) = some r) (hK : K (some (vI r.1)) (hp Φ hb M sh r.2)) : gw_ConH Φ mL_changes [.ref (M + p1), vI p2, vI p3, vI p4, vI p5, .ref (M + p6)] (hp Φ hb M sh c) K KX := by
  obtain ⟨e, v, c1, E, H⟩ := chE_i H
  refine gw_startH okL_changes (Nat.le_of_ble_eq_true rfl) ?_
  refine gw_aload dL_changes_0 rfl rfl ?_
  refine gw_iconstZ dL_changes_2 rfl ?_
  refine gw_iload_n dL_changes_3 rfl rfl ?_
  refine gw_if_neZ (tgt := 15) dL_changes_4 rfl (by decide) hR (fun q => ?_) (fun q => absurd q (by omega))
  refine gw_iload_n dL_changes_15 rfl rfl ?_
  refine gw_iconstZ dL_changes_16 rfl ?_
  refine gw_icmp_neZ (tgt := 29) dL_changes_17 rfl (by decide) hR (by decide) (fun q => ?_) (fun q => absurd q (by omega))
  refine gw_iload_n dL_changes_29 rfl rfl ?_
  refine gw_iconstZ dL_changes_30 rfl ?_
  refine gw_icmp_neZ (tgt := 42) dL_changes_31 rfl (by decide) hR (by decide) (fun q => absurd h9 q) (fun q => ?_)
  refine gw_aload_n dL_changes_34 rfl rfl ?_
  refine gw_iload_n dL_changes_35 rfl rfl ?_
  refine gw_VX1 okX8_addConstraint dL_changes_36 kw_489 kw_490 kw_491 (hp_o (h1.1)) rfl ⟨by decide, by decide⟩ ⟨by decide, by decide⟩ (Nat.le_of_ble_eq_true rfl) (w_X8_addConstraint h1 E (fun z => ?_) (fun z => ?_))
  · rcases H with ⟨-, rfl⟩ | ⟨z2, -⟩
    rotate_left
    · exact absurd z z2
    refine gw_goto (tgt := 144) dL_changes_39 (by decide) ?_
    refine gs_iastZE dL_changes_144 rfl h6 (by decide) (by decide) rfl ?_
    refine gw_goto (tgt := 160) dL_changes_145 (by decide) ?_
    refine gw_iconstZ dL_changes_160 rfl ?_
    exact gw_iretX dL_changes_161 rfl (by decide) (by decide) hK
  · rcases H with ⟨z2, -⟩ | ⟨-, rfl⟩
    · exact absurd z2 z
    unfold cdX at hK
    show GX Φ mL_changes _ none _ _ 36 _ (xnm e) _
    unfold xnm
    by_cases e1 : e = 1
    · rw [if_pos e1] at hK ⊢
      refine gw_catch (name := "java/lang/IllegalArgumentException") [(0, 145, 148, 47)] (0, 145, 152, 49) [(0, 145, 156, 51)] rfl (fun z9 hz => by rw [List.mem_singleton.mp hz]; exact ⟨by decide, _, kw_384, by decide⟩) (by decide) (by decide) kw_385 kw_393 (fun q => ?_)
      refine gw_astore dL_changes_152 rfl (by decide) ?_
      refine gw_iconstZ dL_changes_154 rfl ?_
      exact gw_iretX dL_changes_155 rfl (by decide) (by decide) hK
    · rw [if_neg e1] at hK ⊢
      by_cases e2 : e = 2
      · rw [if_pos e2] at hK ⊢
        refine gw_catch (name := "java/lang/IllegalStateException") [(0, 145, 148, 47), (0, 145, 152, 49)] (0, 145, 156, 51) [] rfl (fun z9 hz => by rcases List.mem_cons.mp hz with rfl | hz; exact ⟨by decide, _, kw_384, by decide⟩; rw [List.mem_singleton.mp hz]; exact ⟨by decide, _, kw_385, by decide⟩) (by decide) (by decide) kw_386 kw_273 (fun q => ?_)
        refine gw_astore dL_changes_156 rfl (by decide) ?_
        refine gw_iconstZ dL_changes_158 rfl ?_
        exact gw_iretX dL_changes_159 rfl (by decide) (by decide) hK
      · rw [if_neg e2] at hK ⊢
        refine gw_catch (name := "java/lang/IndexOutOfBoundsException") [] (0, 145, 148, 47) [(0, 145, 152, 49), (0, 145, 156, 51)] rfl (fun z9 hz => absurd hz List.not_mem_nil) (by decide) (by decide) kw_384 kw_466 (fun q => ?_)
        refine gw_astore dL_changes_148 rfl (by decide) ?_
        refine gw_iconstZ dL_changes_150 rfl ?_
        exact gw_iretX dL_changes_151 rfl (by decide) (by decide) hK
set_option maxRecDepth 100000 in
set_option maxHeartbeats 4000000 in
theorem vc_setCoefficient {Φ : gwC} {hb : gwHp} {M : Nat} {sh : Nat → Option gSh} {p1 p6 : Nat} {p2 p3 p4 p5 : Int} {c : W0} {r : Int × W0} {K : Option Value → gwHp → Prop} {KX : String → gwHp → Prop} (h1 : sD sh p1) (h6 : sh p6 = some (1, 1, [])) (hR : R32 p2) (h9 : p2 = 3) (H : chE p6 (f_X8_setCoefficient p1 p3 p4 p5 c) = some r) (hK : K (some (vI r.1)) (hp Φ hb M sh r.2)) : gw_ConH Φ mL_changes [.ref (M + p1), vI p2, vI p3, vI p4, vI p5, .ref (M + p6)] (hp Φ hb M sh c) K KX := by
  obtain ⟨e, v, c1, E, H⟩ := chE_i H
  refine gw_startH okL_changes (Nat.le_of_ble_eq_true rfl) ?_
  refine gw_aload dL_changes_0 rfl rfl ?_
  refine gw_iconstZ dL_changes_2 rfl ?_
  refine gw_iload_n dL_changes_3 rfl rfl ?_
  refine gw_if_neZ (tgt := 15) dL_changes_4 rfl (by decide) hR (fun q => ?_) (fun q => absurd q (by omega))
  refine gw_iload_n dL_changes_15 rfl rfl ?_
  refine gw_iconstZ dL_changes_16 rfl ?_
  refine gw_icmp_neZ (tgt := 29) dL_changes_17 rfl (by decide) hR (by decide) (fun q => ?_) (fun q => absurd q (by omega))
  refine gw_iload_n dL_changes_29 rfl rfl ?_
  refine gw_iconstZ dL_changes_30 rfl ?_
  refine gw_icmp_neZ (tgt := 42) dL_changes_31 rfl (by decide) hR (by decide) (fun q => ?_) (fun q => absurd q (by omega))
  refine gw_iload_n dL_changes_42 rfl rfl ?_
  refine gw_iconstZ dL_changes_43 rfl ?_
  refine gw_icmp_neZ (tgt := 58) dL_changes_44 rfl (by decide) hR (by decide) (fun q => absurd h9 q) (fun q => ?_)
  refine gw_aload_n dL_changes_47 rfl rfl ?_
  refine gw_iload_n dL_changes_48 rfl rfl ?_
  refine gw_iload_n dL_changes_49 rfl rfl ?_
  refine gw_iload dL_changes_50 rfl rfl ?_
  refine gw_VX3 okX8_setCoefficient dL_changes_52 kw_510 kw_511 kw_512 (hp_o (h1.1)) rfl ⟨by decide, by decide⟩ ⟨by decide, by decide⟩ (Nat.le_of_ble_eq_true rfl) (w_X8_setCoefficient h1 E (fun z => ?_) (fun z => ?_))
  · rcases H with ⟨-, rfl⟩ | ⟨z2, -⟩
    rotate_left
    · exact absurd z z2
    refine gw_goto (tgt := 144) dL_changes_55 (by decide) ?_
    refine gs_iastZE dL_changes_144 rfl h6 (by decide) (by decide) rfl ?_
    refine gw_goto (tgt := 160) dL_changes_145 (by decide) ?_
    refine gw_iconstZ dL_changes_160 rfl ?_
    exact gw_iretX dL_changes_161 rfl (by decide) (by decide) hK
  · rcases H with ⟨z2, -⟩ | ⟨-, rfl⟩
    · exact absurd z2 z
    unfold cdX at hK
    show GX Φ mL_changes _ none _ _ 52 _ (xnm e) _
    unfold xnm
    by_cases e1 : e = 1
    · rw [if_pos e1] at hK ⊢
      refine gw_catch (name := "java/lang/IllegalArgumentException") [(0, 145, 148, 47)] (0, 145, 152, 49) [(0, 145, 156, 51)] rfl (fun z9 hz => by rw [List.mem_singleton.mp hz]; exact ⟨by decide, _, kw_384, by decide⟩) (by decide) (by decide) kw_385 kw_393 (fun q => ?_)
      refine gw_astore dL_changes_152 rfl (by decide) ?_
      refine gw_iconstZ dL_changes_154 rfl ?_
      exact gw_iretX dL_changes_155 rfl (by decide) (by decide) hK
    · rw [if_neg e1] at hK ⊢
      by_cases e2 : e = 2
      · rw [if_pos e2] at hK ⊢
        refine gw_catch (name := "java/lang/IllegalStateException") [(0, 145, 148, 47), (0, 145, 152, 49)] (0, 145, 156, 51) [] rfl (fun z9 hz => by rcases List.mem_cons.mp hz with rfl | hz; exact ⟨by decide, _, kw_384, by decide⟩; rw [List.mem_singleton.mp hz]; exact ⟨by decide, _, kw_385, by decide⟩) (by decide) (by decide) kw_386 kw_273 (fun q => ?_)
        refine gw_astore dL_changes_156 rfl (by decide) ?_
        refine gw_iconstZ dL_changes_158 rfl ?_
        exact gw_iretX dL_changes_159 rfl (by decide) (by decide) hK
      · rw [if_neg e2] at hK ⊢
        refine gw_catch (name := "java/lang/IndexOutOfBoundsException") [] (0, 145, 148, 47) [(0, 145, 152, 49), (0, 145, 156, 51)] rfl (fun z9 hz => absurd hz List.not_mem_nil) (by decide) (by decide) kw_384 kw_466 (fun q => ?_)
        refine gw_astore dL_changes_148 rfl (by decide) ?_
        refine gw_iconstZ dL_changes_150 rfl ?_
        exact gw_iretX dL_changes_151 rfl (by decide) (by decide) hK
set_option maxRecDepth 100000 in
set_option maxHeartbeats 4000000 in
theorem vc_setBound {Φ : gwC} {hb : gwHp} {M : Nat} {sh : Nat → Option gSh} {p1 p6 : Nat} {p2 p3 p4 p5 : Int} {c : W0} {r : Int × W0} {K : Option Value → gwHp → Prop} {KX : String → gwHp → Prop} (h1 : sD sh p1) (h6 : sh p6 = some (1, 1, [])) (hR : R32 p2) (h9 : p2 = 4) (H : chE p6 (f_X8_setBound p1 p3 p4 c) = some r) (hK : K (some (vI r.1)) (hp Φ hb M sh r.2)) : gw_ConH Φ mL_changes [.ref (M + p1), vI p2, vI p3, vI p4, vI p5, .ref (M + p6)] (hp Φ hb M sh c) K KX := by
  obtain ⟨e, v, c1, E, H⟩ := chE_i H
  refine gw_startH okL_changes (Nat.le_of_ble_eq_true rfl) ?_
  refine gw_aload dL_changes_0 rfl rfl ?_
  refine gw_iconstZ dL_changes_2 rfl ?_
  refine gw_iload_n dL_changes_3 rfl rfl ?_
  refine gw_if_neZ (tgt := 15) dL_changes_4 rfl (by decide) hR (fun q => ?_) (fun q => absurd q (by omega))
  refine gw_iload_n dL_changes_15 rfl rfl ?_
  refine gw_iconstZ dL_changes_16 rfl ?_
  refine gw_icmp_neZ (tgt := 29) dL_changes_17 rfl (by decide) hR (by decide) (fun q => ?_) (fun q => absurd q (by omega))
  refine gw_iload_n dL_changes_29 rfl rfl ?_
  refine gw_iconstZ dL_changes_30 rfl ?_
  refine gw_icmp_neZ (tgt := 42) dL_changes_31 rfl (by decide) hR (by decide) (fun q => ?_) (fun q => absurd q (by omega))
  refine gw_iload_n dL_changes_42 rfl rfl ?_
  refine gw_iconstZ dL_changes_43 rfl ?_
  refine gw_icmp_neZ (tgt := 58) dL_changes_44 rfl (by decide) hR (by decide) (fun q => ?_) (fun q => absurd q (by omega))
  refine gw_iload_n dL_changes_58 rfl rfl ?_
  refine gw_iconstZ dL_changes_59 rfl ?_
  refine gw_icmp_neZ (tgt := 72) dL_changes_60 rfl (by decide) hR (by decide) (fun q => absurd h9 q) (fun q => ?_)
  refine gw_aload_n dL_changes_63 rfl rfl ?_
  refine gw_iload_n dL_changes_64 rfl rfl ?_
  refine gw_iload_n dL_changes_65 rfl rfl ?_
  refine gw_VX2 okX8_setBound dL_changes_66 kw_521 kw_522 kw_523 (hp_o (h1.1)) rfl ⟨by decide, by decide⟩ ⟨by decide, by decide⟩ (Nat.le_of_ble_eq_true rfl) (w_X8_setBound h1 E (fun z => ?_) (fun z => ?_))
  · rcases H with ⟨-, rfl⟩ | ⟨z2, -⟩
    rotate_left
    · exact absurd z z2
    refine gw_goto (tgt := 144) dL_changes_69 (by decide) ?_
    refine gs_iastZE dL_changes_144 rfl h6 (by decide) (by decide) rfl ?_
    refine gw_goto (tgt := 160) dL_changes_145 (by decide) ?_
    refine gw_iconstZ dL_changes_160 rfl ?_
    exact gw_iretX dL_changes_161 rfl (by decide) (by decide) hK
  · rcases H with ⟨z2, -⟩ | ⟨-, rfl⟩
    · exact absurd z2 z
    unfold cdX at hK
    show GX Φ mL_changes _ none _ _ 66 _ (xnm e) _
    unfold xnm
    by_cases e1 : e = 1
    · rw [if_pos e1] at hK ⊢
      refine gw_catch (name := "java/lang/IllegalArgumentException") [(0, 145, 148, 47)] (0, 145, 152, 49) [(0, 145, 156, 51)] rfl (fun z9 hz => by rw [List.mem_singleton.mp hz]; exact ⟨by decide, _, kw_384, by decide⟩) (by decide) (by decide) kw_385 kw_393 (fun q => ?_)
      refine gw_astore dL_changes_152 rfl (by decide) ?_
      refine gw_iconstZ dL_changes_154 rfl ?_
      exact gw_iretX dL_changes_155 rfl (by decide) (by decide) hK
    · rw [if_neg e1] at hK ⊢
      by_cases e2 : e = 2
      · rw [if_pos e2] at hK ⊢
        refine gw_catch (name := "java/lang/IllegalStateException") [(0, 145, 148, 47), (0, 145, 152, 49)] (0, 145, 156, 51) [] rfl (fun z9 hz => by rcases List.mem_cons.mp hz with rfl | hz; exact ⟨by decide, _, kw_384, by decide⟩; rw [List.mem_singleton.mp hz]; exact ⟨by decide, _, kw_385, by decide⟩) (by decide) (by decide) kw_386 kw_273 (fun q => ?_)
        refine gw_astore dL_changes_156 rfl (by decide) ?_
        refine gw_iconstZ dL_changes_158 rfl ?_
        exact gw_iretX dL_changes_159 rfl (by decide) (by decide) hK
      · rw [if_neg e2] at hK ⊢
        refine gw_catch (name := "java/lang/IndexOutOfBoundsException") [] (0, 145, 148, 47) [(0, 145, 152, 49), (0, 145, 156, 51)] rfl (fun z9 hz => absurd hz List.not_mem_nil) (by decide) (by decide) kw_384 kw_466 (fun q => ?_)
        refine gw_astore dL_changes_148 rfl (by decide) ?_
        refine gw_iconstZ dL_changes_150 rfl ?_
        exact gw_iretX dL_changes_151 rfl (by decide) (by decide) hK
set_option maxRecDepth 100000 in
set_option maxHeartbeats 4000000 in
theorem vc_dropConstraint {Φ : gwC} {hb : gwHp} {M : Nat} {sh : Nat → Option gSh} {p1 p6 : Nat} {p2 p3 p4 p5 : Int} {c : W0} {r : Int × W0} {K : Option Value → gwHp → Prop} {KX : String → gwHp → Prop} (h1 : sD sh p1) (h6 : sh p6 = some (1, 1, [])) (hR : R32 p2) (h9 : p2 = 5) (H : chE p6 (f_X8_dropConstraint p1 p3 c) = some r) (hK : K (some (vI r.1)) (hp Φ hb M sh r.2)) : gw_ConH Φ mL_changes [.ref (M + p1), vI p2, vI p3, vI p4, vI p5, .ref (M + p6)] (hp Φ hb M sh c) K KX := by
  obtain ⟨e, v, c1, E, H⟩ := chE_i H
  refine gw_startH okL_changes (Nat.le_of_ble_eq_true rfl) ?_
  refine gw_aload dL_changes_0 rfl rfl ?_
  refine gw_iconstZ dL_changes_2 rfl ?_
  refine gw_iload_n dL_changes_3 rfl rfl ?_
  refine gw_if_neZ (tgt := 15) dL_changes_4 rfl (by decide) hR (fun q => ?_) (fun q => absurd q (by omega))
  refine gw_iload_n dL_changes_15 rfl rfl ?_
  refine gw_iconstZ dL_changes_16 rfl ?_
  refine gw_icmp_neZ (tgt := 29) dL_changes_17 rfl (by decide) hR (by decide) (fun q => ?_) (fun q => absurd q (by omega))
  refine gw_iload_n dL_changes_29 rfl rfl ?_
  refine gw_iconstZ dL_changes_30 rfl ?_
  refine gw_icmp_neZ (tgt := 42) dL_changes_31 rfl (by decide) hR (by decide) (fun q => ?_) (fun q => absurd q (by omega))
  refine gw_iload_n dL_changes_42 rfl rfl ?_
  refine gw_iconstZ dL_changes_43 rfl ?_
  refine gw_icmp_neZ (tgt := 58) dL_changes_44 rfl (by decide) hR (by decide) (fun q => ?_) (fun q => absurd q (by omega))
  refine gw_iload_n dL_changes_58 rfl rfl ?_
  refine gw_iconstZ dL_changes_59 rfl ?_
  refine gw_icmp_neZ (tgt := 72) dL_changes_60 rfl (by decide) hR (by decide) (fun q => ?_) (fun q => absurd q (by omega))
  refine gw_iload_n dL_changes_72 rfl rfl ?_
  refine gw_iconstZ dL_changes_73 rfl ?_
  refine gw_icmp_neZ (tgt := 85) dL_changes_74 rfl (by decide) hR (by decide) (fun q => absurd h9 q) (fun q => ?_)
  refine gw_aload_n dL_changes_77 rfl rfl ?_
  refine gw_iload_n dL_changes_78 rfl rfl ?_
  refine gw_VX1 okX8_dropConstraint dL_changes_79 kw_527 kw_528 kw_529 (hp_o (h1.1)) rfl ⟨by decide, by decide⟩ ⟨by decide, by decide⟩ (Nat.le_of_ble_eq_true rfl) (w_X8_dropConstraint h1 E (fun z => ?_) (fun z => ?_))
  · rcases H with ⟨-, rfl⟩ | ⟨z2, -⟩
    rotate_left
    · exact absurd z z2
    refine gw_goto (tgt := 144) dL_changes_82 (by decide) ?_
    refine gs_iastZE dL_changes_144 rfl h6 (by decide) (by decide) rfl ?_
    refine gw_goto (tgt := 160) dL_changes_145 (by decide) ?_
    refine gw_iconstZ dL_changes_160 rfl ?_
    exact gw_iretX dL_changes_161 rfl (by decide) (by decide) hK
  · rcases H with ⟨z2, -⟩ | ⟨-, rfl⟩
    · exact absurd z2 z
    unfold cdX at hK
    show GX Φ mL_changes _ none _ _ 79 _ (xnm e) _
    unfold xnm
    by_cases e1 : e = 1
    · rw [if_pos e1] at hK ⊢
      refine gw_catch (name := "java/lang/IllegalArgumentException") [(0, 145, 148, 47)] (0, 145, 152, 49) [(0, 145, 156, 51)] rfl (fun z9 hz => by rw [List.mem_singleton.mp hz]; exact ⟨by decide, _, kw_384, by decide⟩) (by decide) (by decide) kw_385 kw_393 (fun q => ?_)
      refine gw_astore dL_changes_152 rfl (by decide) ?_
      refine gw_iconstZ dL_changes_154 rfl ?_
      exact gw_iretX dL_changes_155 rfl (by decide) (by decide) hK
    · rw [if_neg e1] at hK ⊢
      by_cases e2 : e = 2
      · rw [if_pos e2] at hK ⊢
        refine gw_catch (name := "java/lang/IllegalStateException") [(0, 145, 148, 47), (0, 145, 152, 49)] (0, 145, 156, 51) [] rfl (fun z9 hz => by rcases List.mem_cons.mp hz with rfl | hz; exact ⟨by decide, _, kw_384, by decide⟩; rw [List.mem_singleton.mp hz]; exact ⟨by decide, _, kw_385, by decide⟩) (by decide) (by decide) kw_386 kw_273 (fun q => ?_)
        refine gw_astore dL_changes_156 rfl (by decide) ?_
        refine gw_iconstZ dL_changes_158 rfl ?_
        exact gw_iretX dL_changes_159 rfl (by decide) (by decide) hK
      · rw [if_neg e2] at hK ⊢
        refine gw_catch (name := "java/lang/IndexOutOfBoundsException") [] (0, 145, 148, 47) [(0, 145, 152, 49), (0, 145, 156, 51)] rfl (fun z9 hz => absurd hz List.not_mem_nil) (by decide) (by decide) kw_384 kw_466 (fun q => ?_)
        refine gw_astore dL_changes_148 rfl (by decide) ?_
        refine gw_iconstZ dL_changes_150 rfl ?_
        exact gw_iretX dL_changes_151 rfl (by decide) (by decide) hK
set_option maxRecDepth 100000 in
set_option maxHeartbeats 4000000 in
theorem vc_pivot {Φ : gwC} {hb : gwHp} {M : Nat} {sh : Nat → Option gSh} {p1 p6 : Nat} {p2 p3 p4 p5 : Int} {c : W0} {r : Int × W0} {K : Option Value → gwHp → Prop} {KX : String → gwHp → Prop} (h1 : sD sh p1) (h6 : sh p6 = some (1, 1, [])) (hR : R32 p2) (h9 : p2 = 6) (H : chE p6 (f_X8_pivot p1 p3 p4 c) = some r) (hK : K (some (vI r.1)) (hp Φ hb M sh r.2)) : gw_ConH Φ mL_changes [.ref (M + p1), vI p2, vI p3, vI p4, vI p5, .ref (M + p6)] (hp Φ hb M sh c) K KX := by
  obtain ⟨e, v, c1, E, H⟩ := chE_i H
  refine gw_startH okL_changes (Nat.le_of_ble_eq_true rfl) ?_
  refine gw_aload dL_changes_0 rfl rfl ?_
  refine gw_iconstZ dL_changes_2 rfl ?_
  refine gw_iload_n dL_changes_3 rfl rfl ?_
  refine gw_if_neZ (tgt := 15) dL_changes_4 rfl (by decide) hR (fun q => ?_) (fun q => absurd q (by omega))
  refine gw_iload_n dL_changes_15 rfl rfl ?_
  refine gw_iconstZ dL_changes_16 rfl ?_
  refine gw_icmp_neZ (tgt := 29) dL_changes_17 rfl (by decide) hR (by decide) (fun q => ?_) (fun q => absurd q (by omega))
  refine gw_iload_n dL_changes_29 rfl rfl ?_
  refine gw_iconstZ dL_changes_30 rfl ?_
  refine gw_icmp_neZ (tgt := 42) dL_changes_31 rfl (by decide) hR (by decide) (fun q => ?_) (fun q => absurd q (by omega))
  refine gw_iload_n dL_changes_42 rfl rfl ?_
  refine gw_iconstZ dL_changes_43 rfl ?_
  refine gw_icmp_neZ (tgt := 58) dL_changes_44 rfl (by decide) hR (by decide) (fun q => ?_) (fun q => absurd q (by omega))
  refine gw_iload_n dL_changes_58 rfl rfl ?_
  refine gw_iconstZ dL_changes_59 rfl ?_
  refine gw_icmp_neZ (tgt := 72) dL_changes_60 rfl (by decide) hR (by decide) (fun q => ?_) (fun q => absurd q (by omega))
  refine gw_iload_n dL_changes_72 rfl rfl ?_
  refine gw_iconstZ dL_changes_73 rfl ?_
  refine gw_icmp_neZ (tgt := 85) dL_changes_74 rfl (by decide) hR (by decide) (fun q => ?_) (fun q => absurd q (by omega))
  refine gw_iload_n dL_changes_85 rfl rfl ?_
  refine gw_bipushZ dL_changes_86 rfl (by decide) ?_
  refine gw_icmp_neZ (tgt := 100) dL_changes_88 rfl (by decide) hR (by decide) (fun q => absurd h9 q) (fun q => ?_)
  refine gw_aload_n dL_changes_91 rfl rfl ?_
  refine gw_iload_n dL_changes_92 rfl rfl ?_
  refine gw_iload_n dL_changes_93 rfl rfl ?_
  refine gw_VX2 okX8_pivot dL_changes_94 kw_535 kw_536 kw_537 (hp_o (h1.1)) rfl ⟨by decide, by decide⟩ ⟨by decide, by decide⟩ (Nat.le_of_ble_eq_true rfl) (w_X8_pivot h1 E (fun z => ?_) (fun z => ?_))
  · rcases H with ⟨-, rfl⟩ | ⟨z2, -⟩
    rotate_left
    · exact absurd z z2
    refine gw_goto (tgt := 144) dL_changes_97 (by decide) ?_
    refine gs_iastZE dL_changes_144 rfl h6 (by decide) (by decide) rfl ?_
    refine gw_goto (tgt := 160) dL_changes_145 (by decide) ?_
    refine gw_iconstZ dL_changes_160 rfl ?_
    exact gw_iretX dL_changes_161 rfl (by decide) (by decide) hK
  · rcases H with ⟨z2, -⟩ | ⟨-, rfl⟩
    · exact absurd z2 z
    unfold cdX at hK
    show GX Φ mL_changes _ none _ _ 94 _ (xnm e) _
    unfold xnm
    by_cases e1 : e = 1
    · rw [if_pos e1] at hK ⊢
      refine gw_catch (name := "java/lang/IllegalArgumentException") [(0, 145, 148, 47)] (0, 145, 152, 49) [(0, 145, 156, 51)] rfl (fun z9 hz => by rw [List.mem_singleton.mp hz]; exact ⟨by decide, _, kw_384, by decide⟩) (by decide) (by decide) kw_385 kw_393 (fun q => ?_)
      refine gw_astore dL_changes_152 rfl (by decide) ?_
      refine gw_iconstZ dL_changes_154 rfl ?_
      exact gw_iretX dL_changes_155 rfl (by decide) (by decide) hK
    · rw [if_neg e1] at hK ⊢
      by_cases e2 : e = 2
      · rw [if_pos e2] at hK ⊢
        refine gw_catch (name := "java/lang/IllegalStateException") [(0, 145, 148, 47), (0, 145, 152, 49)] (0, 145, 156, 51) [] rfl (fun z9 hz => by rcases List.mem_cons.mp hz with rfl | hz; exact ⟨by decide, _, kw_384, by decide⟩; rw [List.mem_singleton.mp hz]; exact ⟨by decide, _, kw_385, by decide⟩) (by decide) (by decide) kw_386 kw_273 (fun q => ?_)
        refine gw_astore dL_changes_156 rfl (by decide) ?_
        refine gw_iconstZ dL_changes_158 rfl ?_
        exact gw_iretX dL_changes_159 rfl (by decide) (by decide) hK
      · rw [if_neg e2] at hK ⊢
        refine gw_catch (name := "java/lang/IndexOutOfBoundsException") [] (0, 145, 148, 47) [(0, 145, 152, 49), (0, 145, 156, 51)] rfl (fun z9 hz => absurd hz List.not_mem_nil) (by decide) (by decide) kw_384 kw_466 (fun q => ?_)
        refine gw_astore dL_changes_148 rfl (by decide) ?_
        refine gw_iconstZ dL_changes_150 rfl ?_
        exact gw_iretX dL_changes_151 rfl (by decide) (by decide) hK
set_option maxRecDepth 100000 in
set_option maxHeartbeats 4000000 in
theorem vc_step {Φ : gwC} {hb : gwHp} {M : Nat} {sh : Nat → Option gSh} {p1 p6 : Nat} {p2 p3 p4 p5 : Int} {c : W0} {r : Int × W0} {K : Option Value → gwHp → Prop} {KX : String → gwHp → Prop} (h1 : sD sh p1) (h6 : sh p6 = some (1, 1, [])) (hR : R32 p2) (h9 : p2 = 7) (H : chE p6 (f_X8_step p1 c) = some r) (hK : K (some (vI r.1)) (hp Φ hb M sh r.2)) : gw_ConH Φ mL_changes [.ref (M + p1), vI p2, vI p3, vI p4, vI p5, .ref (M + p6)] (hp Φ hb M sh c) K KX := by
  obtain ⟨e, v, c1, E, H⟩ := chE_i H
  refine gw_startH okL_changes (Nat.le_of_ble_eq_true rfl) ?_
  refine gw_aload dL_changes_0 rfl rfl ?_
  refine gw_iconstZ dL_changes_2 rfl ?_
  refine gw_iload_n dL_changes_3 rfl rfl ?_
  refine gw_if_neZ (tgt := 15) dL_changes_4 rfl (by decide) hR (fun q => ?_) (fun q => absurd q (by omega))
  refine gw_iload_n dL_changes_15 rfl rfl ?_
  refine gw_iconstZ dL_changes_16 rfl ?_
  refine gw_icmp_neZ (tgt := 29) dL_changes_17 rfl (by decide) hR (by decide) (fun q => ?_) (fun q => absurd q (by omega))
  refine gw_iload_n dL_changes_29 rfl rfl ?_
  refine gw_iconstZ dL_changes_30 rfl ?_
  refine gw_icmp_neZ (tgt := 42) dL_changes_31 rfl (by decide) hR (by decide) (fun q => ?_) (fun q => absurd q (by omega))
  refine gw_iload_n dL_changes_42 rfl rfl ?_
  refine gw_iconstZ dL_changes_43 rfl ?_
  refine gw_icmp_neZ (tgt := 58) dL_changes_44 rfl (by decide) hR (by decide) (fun q => ?_) (fun q => absurd q (by omega))
  refine gw_iload_n dL_changes_58 rfl rfl ?_
  refine gw_iconstZ dL_changes_59 rfl ?_
  refine gw_icmp_neZ (tgt := 72) dL_changes_60 rfl (by decide) hR (by decide) (fun q => ?_) (fun q => absurd q (by omega))
  refine gw_iload_n dL_changes_72 rfl rfl ?_
  refine gw_iconstZ dL_changes_73 rfl ?_
  refine gw_icmp_neZ (tgt := 85) dL_changes_74 rfl (by decide) hR (by decide) (fun q => ?_) (fun q => absurd q (by omega))
  refine gw_iload_n dL_changes_85 rfl rfl ?_
  refine gw_bipushZ dL_changes_86 rfl (by decide) ?_
  refine gw_icmp_neZ (tgt := 100) dL_changes_88 rfl (by decide) hR (by decide) (fun q => ?_) (fun q => absurd q (by omega))
  refine gw_iload_n dL_changes_100 rfl rfl ?_
  refine gw_bipushZ dL_changes_101 rfl (by decide) ?_
  refine gw_icmp_neZ (tgt := 113) dL_changes_103 rfl (by decide) hR (by decide) (fun q => absurd h9 q) (fun q => ?_)
  refine gw_aload_n dL_changes_106 rfl rfl ?_
  refine gw_VX0 okX8_step dL_changes_107 kw_595 kw_596 kw_597 (hp_o (h1.1)) rfl ⟨by decide, by decide⟩ ⟨by decide, by decide⟩ (Nat.le_of_ble_eq_true rfl) (w_X8_step h1 E (fun z => ?_) (fun z => ?_))
  · rcases H with ⟨-, rfl⟩ | ⟨z2, -⟩
    rotate_left
    · exact absurd z z2
    refine gw_goto (tgt := 144) dL_changes_110 (by decide) ?_
    refine gs_iastZE dL_changes_144 rfl h6 (by decide) (by decide) rfl ?_
    refine gw_goto (tgt := 160) dL_changes_145 (by decide) ?_
    refine gw_iconstZ dL_changes_160 rfl ?_
    exact gw_iretX dL_changes_161 rfl (by decide) (by decide) hK
  · rcases H with ⟨z2, -⟩ | ⟨-, rfl⟩
    · exact absurd z2 z
    unfold cdX at hK
    show GX Φ mL_changes _ none _ _ 107 _ (xnm e) _
    unfold xnm
    by_cases e1 : e = 1
    · rw [if_pos e1] at hK ⊢
      refine gw_catch (name := "java/lang/IllegalArgumentException") [(0, 145, 148, 47)] (0, 145, 152, 49) [(0, 145, 156, 51)] rfl (fun z9 hz => by rw [List.mem_singleton.mp hz]; exact ⟨by decide, _, kw_384, by decide⟩) (by decide) (by decide) kw_385 kw_393 (fun q => ?_)
      refine gw_astore dL_changes_152 rfl (by decide) ?_
      refine gw_iconstZ dL_changes_154 rfl ?_
      exact gw_iretX dL_changes_155 rfl (by decide) (by decide) hK
    · rw [if_neg e1] at hK ⊢
      by_cases e2 : e = 2
      · rw [if_pos e2] at hK ⊢
        refine gw_catch (name := "java/lang/IllegalStateException") [(0, 145, 148, 47), (0, 145, 152, 49)] (0, 145, 156, 51) [] rfl (fun z9 hz => by rcases List.mem_cons.mp hz with rfl | hz; exact ⟨by decide, _, kw_384, by decide⟩; rw [List.mem_singleton.mp hz]; exact ⟨by decide, _, kw_385, by decide⟩) (by decide) (by decide) kw_386 kw_273 (fun q => ?_)
        refine gw_astore dL_changes_156 rfl (by decide) ?_
        refine gw_iconstZ dL_changes_158 rfl ?_
        exact gw_iretX dL_changes_159 rfl (by decide) (by decide) hK
      · rw [if_neg e2] at hK ⊢
        refine gw_catch (name := "java/lang/IndexOutOfBoundsException") [] (0, 145, 148, 47) [(0, 145, 152, 49), (0, 145, 156, 51)] rfl (fun z9 hz => absurd hz List.not_mem_nil) (by decide) (by decide) kw_384 kw_466 (fun q => ?_)
        refine gw_astore dL_changes_148 rfl (by decide) ?_
        refine gw_iconstZ dL_changes_150 rfl ?_
        exact gw_iretX dL_changes_151 rfl (by decide) (by decide) hK
set_option maxRecDepth 100000 in
set_option maxHeartbeats 4000000 in
theorem vc_solve {Φ : gwC} {hb : gwHp} {M : Nat} {sh : Nat → Option gSh} {p1 p6 : Nat} {p2 p3 p4 p5 : Int} {c : W0} {r : Int × W0} {K : Option Value → gwHp → Prop} {KX : String → gwHp → Prop} (h1 : sD sh p1) (h6 : sh p6 = some (1, 1, [])) (hR : R32 p2) (h9 : p2 = 8) (H : chE p6 ((match f_X8_solve p1 c with | none => none | some r => some (0, r.1, r.2))) = some r) (hK : K (some (vI r.1)) (hp Φ hb M sh r.2)) : gw_ConH Φ mL_changes [.ref (M + p1), vI p2, vI p3, vI p4, vI p5, .ref (M + p6)] (hp Φ hb M sh c) K KX := by
  obtain ⟨e, v, c1, E, H⟩ := chE_i H
  obtain ⟨e0, E⟩ := li_i E
  refine gw_startH okL_changes (Nat.le_of_ble_eq_true rfl) ?_
  refine gw_aload dL_changes_0 rfl rfl ?_
  refine gw_iconstZ dL_changes_2 rfl ?_
  refine gw_iload_n dL_changes_3 rfl rfl ?_
  refine gw_if_neZ (tgt := 15) dL_changes_4 rfl (by decide) hR (fun q => ?_) (fun q => absurd q (by omega))
  refine gw_iload_n dL_changes_15 rfl rfl ?_
  refine gw_iconstZ dL_changes_16 rfl ?_
  refine gw_icmp_neZ (tgt := 29) dL_changes_17 rfl (by decide) hR (by decide) (fun q => ?_) (fun q => absurd q (by omega))
  refine gw_iload_n dL_changes_29 rfl rfl ?_
  refine gw_iconstZ dL_changes_30 rfl ?_
  refine gw_icmp_neZ (tgt := 42) dL_changes_31 rfl (by decide) hR (by decide) (fun q => ?_) (fun q => absurd q (by omega))
  refine gw_iload_n dL_changes_42 rfl rfl ?_
  refine gw_iconstZ dL_changes_43 rfl ?_
  refine gw_icmp_neZ (tgt := 58) dL_changes_44 rfl (by decide) hR (by decide) (fun q => ?_) (fun q => absurd q (by omega))
  refine gw_iload_n dL_changes_58 rfl rfl ?_
  refine gw_iconstZ dL_changes_59 rfl ?_
  refine gw_icmp_neZ (tgt := 72) dL_changes_60 rfl (by decide) hR (by decide) (fun q => ?_) (fun q => absurd q (by omega))
  refine gw_iload_n dL_changes_72 rfl rfl ?_
  refine gw_iconstZ dL_changes_73 rfl ?_
  refine gw_icmp_neZ (tgt := 85) dL_changes_74 rfl (by decide) hR (by decide) (fun q => ?_) (fun q => absurd q (by omega))
  refine gw_iload_n dL_changes_85 rfl rfl ?_
  refine gw_bipushZ dL_changes_86 rfl (by decide) ?_
  refine gw_icmp_neZ (tgt := 100) dL_changes_88 rfl (by decide) hR (by decide) (fun q => ?_) (fun q => absurd q (by omega))
  refine gw_iload_n dL_changes_100 rfl rfl ?_
  refine gw_bipushZ dL_changes_101 rfl (by decide) ?_
  refine gw_icmp_neZ (tgt := 113) dL_changes_103 rfl (by decide) hR (by decide) (fun q => ?_) (fun q => absurd q (by omega))
  refine gw_iload_n dL_changes_113 rfl rfl ?_
  refine gw_bipushZ dL_changes_114 rfl (by decide) ?_
  refine gw_icmp_neZ (tgt := 126) dL_changes_116 rfl (by decide) hR (by decide) (fun q => absurd h9 q) (fun q => ?_)
  refine gw_aload_n dL_changes_119 rfl rfl ?_
  refine gw_V0 okX8_solve dL_changes_120 kw_629 kw_630 kw_631 (hp_o (h1.1)) rfl ⟨by decide, by decide⟩ ⟨by decide, by decide⟩ (Nat.le_of_ble_eq_true rfl) (w_X8_solve h1 E ?_)
  rcases H with ⟨-, rfl⟩ | ⟨z2, -⟩
  rotate_left
  · exact absurd e0 z2
  refine gw_goto (tgt := 144) dL_changes_123 (by decide) ?_
  refine gs_iastZE dL_changes_144 rfl h6 (by decide) (by decide) rfl ?_
  refine gw_goto (tgt := 160) dL_changes_145 (by decide) ?_
  refine gw_iconstZ dL_changes_160 rfl ?_
  exact gw_iretX dL_changes_161 rfl (by decide) (by decide) hK
set_option maxRecDepth 100000 in
set_option maxHeartbeats 4000000 in
theorem vc_setRule {Φ : gwC} {hb : gwHp} {M : Nat} {sh : Nat → Option gSh} {p1 p6 : Nat} {p2 p3 p4 p5 : Int} {c : W0} {r : Int × W0} {K : Option Value → gwHp → Prop} {KX : String → gwHp → Prop} (h1 : sD sh p1) (h6 : sh p6 = some (1, 1, [])) (hR : R32 p2) (h9 : p2 = 9) (H : chE p6 (f_X8_setRule p1 p3 c) = some r) (hK : K (some (vI r.1)) (hp Φ hb M sh r.2)) : gw_ConH Φ mL_changes [.ref (M + p1), vI p2, vI p3, vI p4, vI p5, .ref (M + p6)] (hp Φ hb M sh c) K KX := by
  obtain ⟨e, v, c1, E, H⟩ := chE_i H
  refine gw_startH okL_changes (Nat.le_of_ble_eq_true rfl) ?_
  refine gw_aload dL_changes_0 rfl rfl ?_
  refine gw_iconstZ dL_changes_2 rfl ?_
  refine gw_iload_n dL_changes_3 rfl rfl ?_
  refine gw_if_neZ (tgt := 15) dL_changes_4 rfl (by decide) hR (fun q => ?_) (fun q => absurd q (by omega))
  refine gw_iload_n dL_changes_15 rfl rfl ?_
  refine gw_iconstZ dL_changes_16 rfl ?_
  refine gw_icmp_neZ (tgt := 29) dL_changes_17 rfl (by decide) hR (by decide) (fun q => ?_) (fun q => absurd q (by omega))
  refine gw_iload_n dL_changes_29 rfl rfl ?_
  refine gw_iconstZ dL_changes_30 rfl ?_
  refine gw_icmp_neZ (tgt := 42) dL_changes_31 rfl (by decide) hR (by decide) (fun q => ?_) (fun q => absurd q (by omega))
  refine gw_iload_n dL_changes_42 rfl rfl ?_
  refine gw_iconstZ dL_changes_43 rfl ?_
  refine gw_icmp_neZ (tgt := 58) dL_changes_44 rfl (by decide) hR (by decide) (fun q => ?_) (fun q => absurd q (by omega))
  refine gw_iload_n dL_changes_58 rfl rfl ?_
  refine gw_iconstZ dL_changes_59 rfl ?_
  refine gw_icmp_neZ (tgt := 72) dL_changes_60 rfl (by decide) hR (by decide) (fun q => ?_) (fun q => absurd q (by omega))
  refine gw_iload_n dL_changes_72 rfl rfl ?_
  refine gw_iconstZ dL_changes_73 rfl ?_
  refine gw_icmp_neZ (tgt := 85) dL_changes_74 rfl (by decide) hR (by decide) (fun q => ?_) (fun q => absurd q (by omega))
  refine gw_iload_n dL_changes_85 rfl rfl ?_
  refine gw_bipushZ dL_changes_86 rfl (by decide) ?_
  refine gw_icmp_neZ (tgt := 100) dL_changes_88 rfl (by decide) hR (by decide) (fun q => ?_) (fun q => absurd q (by omega))
  refine gw_iload_n dL_changes_100 rfl rfl ?_
  refine gw_bipushZ dL_changes_101 rfl (by decide) ?_
  refine gw_icmp_neZ (tgt := 113) dL_changes_103 rfl (by decide) hR (by decide) (fun q => ?_) (fun q => absurd q (by omega))
  refine gw_iload_n dL_changes_113 rfl rfl ?_
  refine gw_bipushZ dL_changes_114 rfl (by decide) ?_
  refine gw_icmp_neZ (tgt := 126) dL_changes_116 rfl (by decide) hR (by decide) (fun q => ?_) (fun q => absurd q (by omega))
  refine gw_iload_n dL_changes_126 rfl rfl ?_
  refine gw_bipushZ dL_changes_127 rfl (by decide) ?_
  refine gw_icmp_neZ (tgt := 140) dL_changes_129 rfl (by decide) hR (by decide) (fun q => absurd h9 q) (fun q => ?_)
  refine gw_aload_n dL_changes_132 rfl rfl ?_
  refine gw_iload_n dL_changes_133 rfl rfl ?_
  refine gw_VX1 okX8_setRule dL_changes_134 kw_640 kw_641 kw_642 (hp_o (h1.1)) rfl ⟨by decide, by decide⟩ ⟨by decide, by decide⟩ (Nat.le_of_ble_eq_true rfl) (w_X8_setRule h1 E (fun z => ?_) (fun z => ?_))
  · rcases H with ⟨-, rfl⟩ | ⟨z2, -⟩
    rotate_left
    · exact absurd z z2
    refine gw_goto (tgt := 144) dL_changes_137 (by decide) ?_
    refine gs_iastZE dL_changes_144 rfl h6 (by decide) (by decide) rfl ?_
    refine gw_goto (tgt := 160) dL_changes_145 (by decide) ?_
    refine gw_iconstZ dL_changes_160 rfl ?_
    exact gw_iretX dL_changes_161 rfl (by decide) (by decide) hK
  · rcases H with ⟨z2, -⟩ | ⟨-, rfl⟩
    · exact absurd z2 z
    unfold cdX at hK
    show GX Φ mL_changes _ none _ _ 134 _ (xnm e) _
    unfold xnm
    by_cases e1 : e = 1
    · rw [if_pos e1] at hK ⊢
      refine gw_catch (name := "java/lang/IllegalArgumentException") [(0, 145, 148, 47)] (0, 145, 152, 49) [(0, 145, 156, 51)] rfl (fun z9 hz => by rw [List.mem_singleton.mp hz]; exact ⟨by decide, _, kw_384, by decide⟩) (by decide) (by decide) kw_385 kw_393 (fun q => ?_)
      refine gw_astore dL_changes_152 rfl (by decide) ?_
      refine gw_iconstZ dL_changes_154 rfl ?_
      exact gw_iretX dL_changes_155 rfl (by decide) (by decide) hK
    · rw [if_neg e1] at hK ⊢
      by_cases e2 : e = 2
      · rw [if_pos e2] at hK ⊢
        refine gw_catch (name := "java/lang/IllegalStateException") [(0, 145, 148, 47), (0, 145, 152, 49)] (0, 145, 156, 51) [] rfl (fun z9 hz => by rcases List.mem_cons.mp hz with rfl | hz; exact ⟨by decide, _, kw_384, by decide⟩; rw [List.mem_singleton.mp hz]; exact ⟨by decide, _, kw_385, by decide⟩) (by decide) (by decide) kw_386 kw_273 (fun q => ?_)
        refine gw_astore dL_changes_156 rfl (by decide) ?_
        refine gw_iconstZ dL_changes_158 rfl ?_
        exact gw_iretX dL_changes_159 rfl (by decide) (by decide) hK
      · rw [if_neg e2] at hK ⊢
        refine gw_catch (name := "java/lang/IndexOutOfBoundsException") [] (0, 145, 148, 47) [(0, 145, 152, 49), (0, 145, 156, 51)] rfl (fun z9 hz => absurd hz List.not_mem_nil) (by decide) (by decide) kw_384 kw_466 (fun q => ?_)
        refine gw_astore dL_changes_148 rfl (by decide) ?_
        refine gw_iconstZ dL_changes_150 rfl ?_
        exact gw_iretX dL_changes_151 rfl (by decide) (by decide) hK
set_option maxRecDepth 100000 in
set_option maxHeartbeats 4000000 in
theorem vc_begin {Φ : gwC} {hb : gwHp} {M : Nat} {sh : Nat → Option gSh} {p1 p6 : Nat} {p2 p3 p4 p5 : Int} {c : W0} {r : Int × W0} {K : Option Value → gwHp → Prop} {KX : String → gwHp → Prop} (h1 : sD sh p1) (h6 : sh p6 = some (1, 1, [])) (hR : R32 p2) (h9 : ¬ p2 = 0 ∧ ¬ p2 = 1 ∧ ¬ p2 = 2 ∧ ¬ p2 = 3 ∧ ¬ p2 = 4 ∧ ¬ p2 = 5 ∧ ¬ p2 = 6 ∧ ¬ p2 = 7 ∧ ¬ p2 = 8 ∧ ¬ p2 = 9) (H : chE p6 ((match f_X8_begin p1 c with | none => none | some r => some (0, r.1, r.2))) = some r) (hK : K (some (vI r.1)) (hp Φ hb M sh r.2)) : gw_ConH Φ mL_changes [.ref (M + p1), vI p2, vI p3, vI p4, vI p5, .ref (M + p6)] (hp Φ hb M sh c) K KX := by
  obtain ⟨e, v, c1, E, H⟩ := chE_i H
  obtain ⟨e0, E⟩ := li_i E
  refine gw_startH okL_changes (Nat.le_of_ble_eq_true rfl) ?_
  refine gw_aload dL_changes_0 rfl rfl ?_
  refine gw_iconstZ dL_changes_2 rfl ?_
  refine gw_iload_n dL_changes_3 rfl rfl ?_
  refine gw_if_neZ (tgt := 15) dL_changes_4 rfl (by decide) hR (fun q => ?_) (fun q => absurd q (by omega))
  refine gw_iload_n dL_changes_15 rfl rfl ?_
  refine gw_iconstZ dL_changes_16 rfl ?_
  refine gw_icmp_neZ (tgt := 29) dL_changes_17 rfl (by decide) hR (by decide) (fun q => ?_) (fun q => absurd q (by omega))
  refine gw_iload_n dL_changes_29 rfl rfl ?_
  refine gw_iconstZ dL_changes_30 rfl ?_
  refine gw_icmp_neZ (tgt := 42) dL_changes_31 rfl (by decide) hR (by decide) (fun q => ?_) (fun q => absurd q (by omega))
  refine gw_iload_n dL_changes_42 rfl rfl ?_
  refine gw_iconstZ dL_changes_43 rfl ?_
  refine gw_icmp_neZ (tgt := 58) dL_changes_44 rfl (by decide) hR (by decide) (fun q => ?_) (fun q => absurd q (by omega))
  refine gw_iload_n dL_changes_58 rfl rfl ?_
  refine gw_iconstZ dL_changes_59 rfl ?_
  refine gw_icmp_neZ (tgt := 72) dL_changes_60 rfl (by decide) hR (by decide) (fun q => ?_) (fun q => absurd q (by omega))
  refine gw_iload_n dL_changes_72 rfl rfl ?_
  refine gw_iconstZ dL_changes_73 rfl ?_
  refine gw_icmp_neZ (tgt := 85) dL_changes_74 rfl (by decide) hR (by decide) (fun q => ?_) (fun q => absurd q (by omega))
  refine gw_iload_n dL_changes_85 rfl rfl ?_
  refine gw_bipushZ dL_changes_86 rfl (by decide) ?_
  refine gw_icmp_neZ (tgt := 100) dL_changes_88 rfl (by decide) hR (by decide) (fun q => ?_) (fun q => absurd q (by omega))
  refine gw_iload_n dL_changes_100 rfl rfl ?_
  refine gw_bipushZ dL_changes_101 rfl (by decide) ?_
  refine gw_icmp_neZ (tgt := 113) dL_changes_103 rfl (by decide) hR (by decide) (fun q => ?_) (fun q => absurd q (by omega))
  refine gw_iload_n dL_changes_113 rfl rfl ?_
  refine gw_bipushZ dL_changes_114 rfl (by decide) ?_
  refine gw_icmp_neZ (tgt := 126) dL_changes_116 rfl (by decide) hR (by decide) (fun q => ?_) (fun q => absurd q (by omega))
  refine gw_iload_n dL_changes_126 rfl rfl ?_
  refine gw_bipushZ dL_changes_127 rfl (by decide) ?_
  refine gw_icmp_neZ (tgt := 140) dL_changes_129 rfl (by decide) hR (by decide) (fun q => ?_) (fun q => absurd q (by omega))
  refine gw_aload_n dL_changes_140 rfl rfl ?_
  refine gw_V0 okX8_begin dL_changes_141 kw_645 kw_646 kw_647 (hp_o (h1.1)) rfl ⟨by decide, by decide⟩ ⟨by decide, by decide⟩ (Nat.le_of_ble_eq_true rfl) (w_X8_begin h1 E ?_)
  rcases H with ⟨-, rfl⟩ | ⟨z2, -⟩
  rotate_left
  · exact absurd e0 z2
  refine gs_iastZE dL_changes_144 rfl h6 (by decide) (by decide) rfl ?_
  refine gw_goto (tgt := 160) dL_changes_145 (by decide) ?_
  refine gw_iconstZ dL_changes_160 rfl ?_
  exact gw_iretX dL_changes_161 rfl (by decide) (by decide) hK
theorem w_L_changes {Φ : gwC} {hb : gwHp} {M : Nat} {sh : Nat → Option gSh} {p1 p6 : Nat} {p2 p3 p4 p5 : Int} {c : W0} {r : Int × W0} {K : Option Value → gwHp → Prop} {KX : String → gwHp → Prop} (h1 : sD sh p1) (h6 : sh p6 = some (1, 1, [])) (H : f_L_changes p1 p2 p3 p4 p5 p6 c = some r) (hK : K (some (vI r.1)) (hp Φ hb M sh r.2)) : gw_ConH Φ mL_changes [.ref (M + p1), vI p2, vI p3, vI p4, vI p5, .ref (M + p6)] (hp Φ hb M sh c) K KX := by
  unfold f_L_changes chR at H
  obtain ⟨hR, H⟩ := gd_i H
  by_cases q0 : p2 = 0
  · rw [bq_p q0] at H; exact vc_setVariables h1 h6 hR q0 H hK
  rw [bq_n q0] at H
  by_cases q1 : p2 = 1
  · rw [bq_p q1] at H; exact vc_setProfit h1 h6 hR q1 H hK
  rw [bq_n q1] at H
  by_cases q2 : p2 = 2
  · rw [bq_p q2] at H; exact vc_addConstraint h1 h6 hR q2 H hK
  rw [bq_n q2] at H
  by_cases q3 : p2 = 3
  · rw [bq_p q3] at H; exact vc_setCoefficient h1 h6 hR q3 H hK
  rw [bq_n q3] at H
  by_cases q4 : p2 = 4
  · rw [bq_p q4] at H; exact vc_setBound h1 h6 hR q4 H hK
  rw [bq_n q4] at H
  by_cases q5 : p2 = 5
  · rw [bq_p q5] at H; exact vc_dropConstraint h1 h6 hR q5 H hK
  rw [bq_n q5] at H
  by_cases q6 : p2 = 6
  · rw [bq_p q6] at H; exact vc_pivot h1 h6 hR q6 H hK
  rw [bq_n q6] at H
  by_cases q7 : p2 = 7
  · rw [bq_p q7] at H; exact vc_step h1 h6 hR q7 H hK
  rw [bq_n q7] at H
  by_cases q8 : p2 = 8
  · rw [bq_p q8] at H; exact vc_solve h1 h6 hR q8 H hK
  rw [bq_n q8] at H
  by_cases q9 : p2 = 9
  · rw [bq_p q9] at H; exact vc_setRule h1 h6 hR q9 H hK
  rw [bq_n q9] at H
  exact vc_begin h1 h6 hR ⟨q0, q1, q2, q3, q4, q5, q6, q7, q8, q9⟩ H hK
end NC
