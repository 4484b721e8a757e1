section NA
abbrev nX8_requireVariable : gwY := (yX8_requireVariable, cX8_requireVariable, 2, (Option.none : Option Jvm.ClassFile.FieldType), { frames := 1, cells := 0, slots := 0, locals := 40 }, [])
theorem oknX8_requireVariable : gw_ok nX8_requireVariable 1 := ⟨by decide +kernel, kw_463, kw_17, by decide +kernel, rfl⟩
abbrev nX8_profitOf : gwY := (yX8_profitOf, cX8_profitOf, 2, (Option.some Jvm.ClassFile.FieldType.int), { frames := 3, cells := 0, slots := 0, locals := 84 }, [])
theorem oknX8_profitOf : gw_ok nX8_profitOf 1 := ⟨by decide +kernel, kw_671, kw_17, by decide +kernel, rfl⟩
abbrev nX8_requireConstraint : gwY := (yX8_requireConstraint, cX8_requireConstraint, 2, (Option.none : Option Jvm.ClassFile.FieldType), { frames := 1, cells := 0, slots := 0, locals := 40 }, [])
theorem oknX8_requireConstraint : gw_ok nX8_requireConstraint 1 := ⟨by decide +kernel, kw_517, kw_17, by decide +kernel, rfl⟩
abbrev nX8_boundOf : gwY := (yX8_boundOf, cX8_boundOf, 2, (Option.some Jvm.ClassFile.FieldType.int), { frames := 3, cells := 0, slots := 0, locals := 84 }, [])
theorem oknX8_boundOf : gw_ok nX8_boundOf 1 := ⟨by decide +kernel, kw_675, kw_17, by decide +kernel, rfl⟩
abbrev nX8_requireRow : gwY := (yX8_requireRow, cX8_requireRow, 2, (Option.none : Option Jvm.ClassFile.FieldType), { frames := 1, cells := 0, slots := 0, locals := 40 }, [])
theorem oknX8_requireRow : gw_ok nX8_requireRow 1 := ⟨by decide +kernel, kw_542, kw_17, by decide +kernel, rfl⟩
abbrev nX8_columnOf : gwY := (yX8_columnOf, cX8_columnOf, 2, (Option.some Jvm.ClassFile.FieldType.int), { frames := 3, cells := 0, slots := 0, locals := 84 }, [])
theorem oknX8_columnOf : gw_ok nX8_columnOf 1 := ⟨by decide +kernel, kw_679, kw_17, by decide +kernel, rfl⟩
abbrev nX8_coefficientOf : gwY := (yX8_coefficientOf, cX8_coefficientOf, 3, (Option.some Jvm.ClassFile.FieldType.int), { frames := 3, cells := 0, slots := 0, locals := 85 }, [])
theorem oknX8_coefficientOf : gw_ok nX8_coefficientOf 2 := ⟨by decide +kernel, kw_683, kw_17, by decide +kernel, rfl⟩
abbrev nX8_requireColumn : gwY := (yX8_requireColumn, cX8_requireColumn, 2, (Option.none : Option Jvm.ClassFile.FieldType), { frames := 1, cells := 0, slots := 0, locals := 40 }, [])
theorem oknX8_requireColumn : gw_ok nX8_requireColumn 1 := ⟨by decide +kernel, kw_547, kw_17, by decide +kernel, rfl⟩
abbrev nX8_givenDenominator : gwY := (yX8_givenDenominator, cX8_givenDenominator, 2, (Option.some Jvm.ClassFile.FieldType.long), { frames := 5, cells := 0, slots := 0, locals := 128 }, [])
theorem oknX8_givenDenominator : gw_ok nX8_givenDenominator 1 := ⟨by decide +kernel, kw_690, kw_17, by decide +kernel, rfl⟩
abbrev nX8_givenNumerator : gwY := (yX8_givenNumerator, cX8_givenNumerator, 2, (Option.some Jvm.ClassFile.FieldType.long), { frames := 5, cells := 0, slots := 0, locals := 128 }, [])
theorem oknX8_givenNumerator : gw_ok nX8_givenNumerator 1 := ⟨by decide +kernel, kw_707, kw_17, by decide +kernel, rfl⟩
abbrev nX8_reducedNumerator : gwY := (yX8_reducedNumerator, cX8_reducedNumerator, 2, (Option.some Jvm.ClassFile.FieldType.long), { frames := 4, cells := 0, slots := 0, locals := 116 }, [])
theorem oknX8_reducedNumerator : gw_ok nX8_reducedNumerator 1 := ⟨by decide +kernel, kw_738, kw_17, by decide +kernel, rfl⟩
abbrev nX8_entryNumerator : gwY := (yX8_entryNumerator, cX8_entryNumerator, 3, (Option.some Jvm.ClassFile.FieldType.long), { frames := 4, cells := 0, slots := 0, locals := 116 }, [])
theorem oknX8_entryNumerator : gw_ok nX8_entryNumerator 2 := ⟨by decide +kernel, kw_743, kw_17, by decide +kernel, rfl⟩
abbrev nX8_whyNoPivot : gwY := (yX8_whyNoPivot, cX8_whyNoPivot, 3, (Option.some Jvm.ClassFile.FieldType.int), { frames := 5, cells := 0, slots := 0, locals := 129 }, [])
theorem oknX8_whyNoPivot : gw_ok nX8_whyNoPivot 2 := ⟨by decide +kernel, kw_748, kw_17, by decide +kernel, rfl⟩
abbrev nX8_entryDenominator : gwY := (yX8_entryDenominator, cX8_entryDenominator, 3, (Option.some Jvm.ClassFile.FieldType.long), { frames := 4, cells := 0, slots := 0, locals := 116 }, [])
theorem oknX8_entryDenominator : gw_ok nX8_entryDenominator 2 := ⟨by decide +kernel, kw_752, kw_17, by decide +kernel, rfl⟩
abbrev nX8_isNamed : gwY := (yX8_isNamed, cX8_isNamed, 2, (Option.some Jvm.ClassFile.FieldType.boolean), { frames := 4, cells := 0, slots := 0, locals := 106 }, [])
theorem oknX8_isNamed : gw_ok nX8_isNamed 1 := ⟨by decide +kernel, kw_756, kw_17, by decide +kernel, rfl⟩
abbrev nX8_dualNumerator : gwY := (yX8_dualNumerator, cX8_dualNumerator, 2, (Option.some Jvm.ClassFile.FieldType.long), { frames := 4, cells := 0, slots := 0, locals := 116 }, [])
theorem oknX8_dualNumerator : gw_ok nX8_dualNumerator 1 := ⟨by decide +kernel, kw_761, kw_17, by decide +kernel, rfl⟩
abbrev nX8_dualDenominator : gwY := (yX8_dualDenominator, cX8_dualDenominator, 2, (Option.some Jvm.ClassFile.FieldType.long), { frames := 4, cells := 0, slots := 0, locals := 116 }, [])
theorem oknX8_dualDenominator : gw_ok nX8_dualDenominator 1 := ⟨by decide +kernel, kw_770, kw_17, by decide +kernel, rfl⟩
abbrev nX8_reducedDenominator : gwY := (yX8_reducedDenominator, cX8_reducedDenominator, 2, (Option.some Jvm.ClassFile.FieldType.long), { frames := 4, cells := 0, slots := 0, locals := 116 }, [])
theorem oknX8_reducedDenominator : gw_ok nX8_reducedDenominator 1 := ⟨by decide +kernel, kw_774, kw_17, by decide +kernel, rfl⟩
abbrev nX8_dualNumeratorByEquations : gwY := (yX8_dualNumeratorByEquations, cX8_dualNumeratorByEquations, 2, (Option.some Jvm.ClassFile.FieldType.long), { frames := 5, cells := 0, slots := 0, locals := 145 }, [])
theorem oknX8_dualNumeratorByEquations : gw_ok nX8_dualNumeratorByEquations 1 := ⟨by decide +kernel, kw_778, kw_17, by decide +kernel, rfl⟩
abbrev nX8_dualDenominatorByEquations : gwY := (yX8_dualDenominatorByEquations, cX8_dualDenominatorByEquations, 2, (Option.some Jvm.ClassFile.FieldType.long), { frames := 5, cells := 0, slots := 0, locals := 145 }, [])
theorem oknX8_dualDenominatorByEquations : gw_ok nX8_dualDenominatorByEquations 1 := ⟨by decide +kernel, kw_808, kw_17, by decide +kernel, rfl⟩
abbrev nX8_leastBound : gwY := (yX8_leastBound, cX8_leastBound, 3, (Option.some Jvm.ClassFile.FieldType.int), { frames := 5, cells := 0, slots := 0, locals := 133 }, [])
theorem oknX8_leastBound : gw_ok nX8_leastBound 1 := ⟨by decide +kernel, kw_895, kw_17, by decide +kernel, rfl⟩
abbrev nX8_greatestBound : gwY := (yX8_greatestBound, cX8_greatestBound, 3, (Option.some Jvm.ClassFile.FieldType.int), { frames := 5, cells := 0, slots := 0, locals := 133 }, [])
theorem oknX8_greatestBound : gw_ok nX8_greatestBound 1 := ⟨by decide +kernel, kw_912, kw_17, by decide +kernel, rfl⟩
abbrev nX8_requireOpen : gwY := (yX8_requireOpen, cX8_requireOpen, 1, (Option.none : Option Jvm.ClassFile.FieldType), { frames := 5, cells := 0, slots := 0, locals := 137 }, [])
theorem oknX8_requireOpen : gw_ok nX8_requireOpen 0 := ⟨by decide +kernel, kw_602, kw_17, by decide +kernel, rfl⟩
abbrev nX8_nextColumn : gwY := (yX8_nextColumn, cX8_nextColumn, 1, (Option.some Jvm.ClassFile.FieldType.int), { frames := 6, cells := 0, slots := 0, locals := 167 }, [])
theorem oknX8_nextColumn : gw_ok nX8_nextColumn 0 := ⟨by decide +kernel, kw_928, kw_17, by decide +kernel, rfl⟩
abbrev nX8_nextRow : gwY := (yX8_nextRow, cX8_nextRow, 1, (Option.some Jvm.ClassFile.FieldType.int), { frames := 6, cells := 0, slots := 0, locals := 167 }, [])
theorem oknX8_nextRow : gw_ok nX8_nextRow 0 := ⟨by decide +kernel, kw_932, kw_17, by decide +kernel, rfl⟩
abbrev nX8_pivot : gwY := (yX8_pivot, cX8_pivot, 4, (Option.some Jvm.ClassFile.FieldType.int), { frames := 5, cells := 0, slots := 0, locals := 145 }, [])
theorem oknX8_pivot : gw_ok nX8_pivot 2 := ⟨by decide +kernel, kw_538, kw_17, by decide +kernel, rfl⟩
abbrev nX8_undo : gwY := (yX8_undo, cX8_undo, 1, (Option.some Jvm.ClassFile.FieldType.int), { frames := 4, cells := 0, slots := 0, locals := 103 }, [])
theorem oknX8_undo : gw_ok nX8_undo 0 := ⟨by decide +kernel, kw_270, kw_17, by decide +kernel, rfl⟩
abbrev nX8_step : gwY := (yX8_step, cX8_step, 2, (Option.some Jvm.ClassFile.FieldType.int), { frames := 6, cells := 0, slots := 0, locals := 167 }, [])
theorem oknX8_step : gw_ok nX8_step 0 := ⟨by decide +kernel, kw_598, kw_17, by decide +kernel, rfl⟩
section
variable {Φ : gwC} {Y Y' : gwY} {E : gwE} {x : Option Nat} {cells slots pc pc' : Nat} {lv : List (Nat × Value)} {st : List Value} {h : gwHp} {index : Nat} {rest : List Value} {a1 a2 a3 a4 a5 a6 : Value}
theorem gw_ldcZ {v : Int32} {z : Int} (d : decode Y.2.1 pc = .ok (.ldc index, 2)) (e9 : pc + 2 = pc') (hw : Cond.constant Y.1.cls index v ∈ gw_W) (hz : v = i32 z) (k : G Φ Y E x cells slots pc' lv (vI z :: st) h) : G Φ Y E x cells slots pc lv st h := by
  subst e9
  subst hz
  exact fun p e s m args below meth c H locs ls F hH hS hl => lv_ldc F.1 F.2.1 F.2.2.2.2.2.1 (F.2.2.2.2.2.2.2.2.1 _ hw) d (k p e s m args below meth c H locs ls F hH hS hl)
theorem gw_SH6 (ok : gw_okX Y' 6) (d : decode Y.2.1 pc = .ok (.invokestatic index, 3)) (hl0 : Cond.methodLink Y.1.cls index Y'.1 ∈ gw_W) (hstt : Cond.static Y'.1 ∈ gw_W) (hR : gw_fit Y Y') (hf : cells + (gwRm Y').cells ≤ (gwRm Y).cells ∧ slots + (gwRm Y').slots ≤ (gwRm Y).slots) (hW : (rest.map fun v => v.category).sum ≤ 8)
    (hM : gw_ConH Φ Y' [a1, a2, a3, a4, a5, a6] h (fun v h' => G Φ Y E x (cells + (gwRm Y').cells) (slots + (gwRm Y').slots) (pc + 3) lv (gw_psh v rest) h') (fun X h' => GX Φ Y E x (cells + (gwRm Y').cells) (slots + (gwRm Y').slots) pc lv X h')) : G Φ Y E x cells slots pc lv (a6 :: a5 :: a4 :: a3 :: a2 :: a1 :: rest) h := gw_callSH ok d hl0 hstt [a1, a2, a3, a4, a5, a6] rest rfl hR hf hW hM
end
theorem cx_n {o : Option (Int × Int × W0)} {k : Int → W0 → Option (Int × Int × W0)} {r : Int × Int × W0} (hr : r.1 = 0) (H : cx o k = some r) : ∃ v c, o = some (0, v, c) ∧ k v c = some r := by
  obtain ⟨e, v, c, h1, h2⟩ := cx_i H
  rcases h2 with ⟨rfl, h2⟩ | ⟨h2, h3⟩
  · exact ⟨v, c, h1, h2⟩
  · rw [← h3] at hr
    exact absurd hr h2
set_option maxRecDepth 100000 in
set_option maxHeartbeats 4000000 in
theorem n_X8_requireVariable {Φ : gwC} {hb : gwHp} {M : Nat} {sh : Nat → Option gSh} {th : Nat} {p1 : Int} {c : W0} {r : Int × Int × W0} {K : Option Value → gwHp → Prop} (h0 : sD sh th) (H : f_X8_requireVariable th p1 c = some r) (hr : r.1 = 0) (hK : K none (hp Φ hb M sh r.2.2)) : gw_Con Φ nX8_requireVariable none [.ref (M + th), vI p1] (hp Φ hb M sh c) K := by
  unfold f_X8_requireVariable at H
  refine gw_start oknX8_requireVariable (Nat.le_of_ble_eq_true rfl) ?_
  refine gw_iload_n dX8_requireVariable_0 rfl rfl ?_
  obtain ⟨g, H⟩ := gd_i H
  obtain ⟨k1, e_k1, H⟩ := jn_i H
  have hJ_k1 : ∀ (u2 : Unit), k1 u2 = some r → G Φ nX8_requireVariable (gw_M Φ nX8_requireVariable K) none 0 0 18 [] [] (hp Φ hb M sh c) := by
    intro u2 H
    subst e_k1
    exact absurd (show (3 : Int) = 0 from (congrArg (fun z => z.1) (Option.some.inj H)).trans hr) (by decide)
  refine gw_if_ltZ (tgt := 18) dX8_requireVariable_1 rfl (by decide) g (fun q => ?_) (fun q => ?_)
  · have H := bq_t q H
    exact gw_L (hJ_k1 _ H) (lvA_n)
  · have H := bq_f q H
    refine gw_iload_n dX8_requireVariable_4 rfl rfl ?_
    refine gw_aload_n dX8_requireVariable_5 rfl rfl ?_
    refine gs_getR cl8 0 dX8_requireVariable_6 rfl kw_234 (by decide) (h0.1) rfl ?_
    refine gs_getRN cl4 0 dX8_requireVariable_9 rfl kw_120 (by decide) (h0.2.1.1) rfl ?_
    refine gs_getIN cl2 0 0 dX8_requireVariable_12 rfl kw_75 (by decide) (h0.2.1.2.1.1) rfl rfl ?_
    obtain ⟨g, H⟩ := gd_i H
    refine gw_icmp_ltZ (tgt := 29) dX8_requireVariable_15 rfl (by decide) g.1 g.2 (fun q => ?_) (fun q => ?_)
    · have H := bq_t q H
      cases H
      exact gw_vret dX8_requireVariable_29 rfl (by decide) (by decide) hK
    · have H := bq_f q H
      exact gw_L (hJ_k1 _ H) (lvA_n)
set_option maxRecDepth 100000 in
set_option maxHeartbeats 4000000 in
theorem n_X8_profitOf {Φ : gwC} {hb : gwHp} {M : Nat} {sh : Nat → Option gSh} {th : Nat} {p1 : Int} {c : W0} {r : Int × Int × W0} {K : Option Value → gwHp → Prop} (h0 : sD sh th) (H : f_X8_profitOf th p1 c = some r) (hr : r.1 = 0) (hK : K (some (vI r.2.1)) (hp Φ hb M sh r.2.2)) : gw_Con Φ nX8_profitOf none [.ref (M + th), vI p1] (hp Φ hb M sh c) K := by
  unfold f_X8_profitOf at H
  refine gw_start oknX8_profitOf (Nat.le_of_ble_eq_true rfl) ?_
  refine gw_aload_n dX8_profitOf_0 rfl rfl ?_
  refine gw_iload_n dX8_profitOf_1 rfl rfl ?_
  obtain ⟨v2, c1, e_c1, H⟩ := cx_n hr H
  refine gw_V1 oknX8_requireVariable dX8_profitOf_2 kw_460 kw_462 kw_3 (hp_o (h0.1)) rfl ⟨by decide, by decide⟩ ⟨by decide, by decide⟩ (Nat.le_of_ble_eq_true rfl) (n_X8_requireVariable (h0) e_c1 rfl ?_)
  refine gw_aload_n dX8_profitOf_5 rfl rfl ?_
  refine gs_getR cl8 0 dX8_profitOf_6 rfl kw_234 (by decide) (h0.1) rfl ?_
  refine gs_getRN cl4 0 dX8_profitOf_9 rfl kw_120 (by decide) (h0.2.1.1) rfl ?_
  refine gw_iload_n dX8_profitOf_12 rfl rfl ?_
  obtain ⟨v3, e_v3, H⟩ := cv_i H
  refine gw_V1 okX2_profit dX8_profitOf_13 kw_484 kw_453 kw_454 (hp_o (h0.2.1.2.1.1)) rfl ⟨by decide, by decide⟩ ⟨by decide, by decide⟩ (Nat.le_of_ble_eq_true rfl) (w_X2_profit (h0.2.1.2.1) e_v3 ?_)
  cases H
  exact gw_iret dX8_profitOf_16 rfl (by decide) (by decide) hK
set_option maxRecDepth 100000 in
set_option maxHeartbeats 4000000 in
theorem n_X8_requireConstraint {Φ : gwC} {hb : gwHp} {M : Nat} {sh : Nat → Option gSh} {th : Nat} {p1 : Int} {c : W0} {r : Int × Int × W0} {K : Option Value → gwHp → Prop} (h0 : sD sh th) (H : f_X8_requireConstraint th p1 c = some r) (hr : r.1 = 0) (hK : K none (hp Φ hb M sh r.2.2)) : gw_Con Φ nX8_requireConstraint none [.ref (M + th), vI p1] (hp Φ hb M sh c) K := by
  unfold f_X8_requireConstraint at H
  refine gw_start oknX8_requireConstraint (Nat.le_of_ble_eq_true rfl) ?_
  refine gw_iload_n dX8_requireConstraint_0 rfl rfl ?_
  obtain ⟨g, H⟩ := gd_i H
  obtain ⟨k1, e_k1, H⟩ := jn_i H
  have hJ_k1 : ∀ (u2 : Unit), k1 u2 = some r → G Φ nX8_requireConstraint (gw_M Φ nX8_requireConstraint K) none 0 0 18 [] [] (hp Φ hb M sh c) := by
    intro u2 H
    subst e_k1
    exact absurd (show (3 : Int) = 0 from (congrArg (fun z => z.1) (Option.some.inj H)).trans hr) (by decide)
  refine gw_if_ltZ (tgt := 18) dX8_requireConstraint_1 rfl (by decide) g (fun q => ?_) (fun q => ?_)
  · have H := bq_t q H
    exact gw_L (hJ_k1 _ H) (lvA_n)
  · have H := bq_f q H
    refine gw_iload_n dX8_requireConstraint_4 rfl rfl ?_
    refine gw_aload_n dX8_requireConstraint_5 rfl rfl ?_
    refine gs_getR cl8 0 dX8_requireConstraint_6 rfl kw_234 (by decide) (h0.1) rfl ?_
    refine gs_getRN cl4 0 dX8_requireConstraint_9 rfl kw_120 (by decide) (h0.2.1.1) rfl ?_
    refine gs_getIN cl2 1 1 dX8_requireConstraint_12 rfl kw_81 (by decide) (h0.2.1.2.1.1) rfl rfl ?_
    obtain ⟨g, H⟩ := gd_i H
    refine gw_icmp_ltZ (tgt := 29) dX8_requireConstraint_15 rfl (by decide) g.1 g.2 (fun q => ?_) (fun q => ?_)
    · have H := bq_t q H
      cases H
      exact gw_vret dX8_requireConstraint_29 rfl (by decide) (by decide) hK
    · have H := bq_f q H
      exact gw_L (hJ_k1 _ H) (lvA_n)
set_option maxRecDepth 100000 in
set_option maxHeartbeats 4000000 in
theorem n_X8_boundOf {Φ : gwC} {hb : gwHp} {M : Nat} {sh : Nat → Option gSh} {th : Nat} {p1 : Int} {c : W0} {r : Int × Int × W0} {K : Option Value → gwHp → Prop} (h0 : sD sh th) (H : f_X8_boundOf th p1 c = some r) (hr : r.1 = 0) (hK : K (some (vI r.2.1)) (hp Φ hb M sh r.2.2)) : gw_Con Φ nX8_boundOf none [.ref (M + th), vI p1] (hp Φ hb M sh c) K := by
  unfold f_X8_boundOf at H
  refine gw_start oknX8_boundOf (Nat.le_of_ble_eq_true rfl) ?_
  refine gw_aload_n dX8_boundOf_0 rfl rfl ?_
  refine gw_iload_n dX8_boundOf_1 rfl rfl ?_
  obtain ⟨v2, c1, e_c1, H⟩ := cx_n hr H
  refine gw_V1 oknX8_requireConstraint dX8_boundOf_2 kw_514 kw_516 kw_4 (hp_o (h0.1)) rfl ⟨by decide, by decide⟩ ⟨by decide, by decide⟩ (Nat.le_of_ble_eq_true rfl) (n_X8_requireConstraint (h0) e_c1 rfl ?_)
  refine gw_aload_n dX8_boundOf_5 rfl rfl ?_
  refine gs_getR cl8 0 dX8_boundOf_6 rfl kw_234 (by decide) (h0.1) rfl ?_
  refine gs_getRN cl4 0 dX8_boundOf_9 rfl kw_120 (by decide) (h0.2.1.1) rfl ?_
  refine gw_iload_n dX8_boundOf_12 rfl rfl ?_
  obtain ⟨v3, e_v3, H⟩ := cv_i H
  refine gw_V1 okX2_bound dX8_boundOf_13 kw_525 kw_445 kw_446 (hp_o (h0.2.1.2.1.1)) rfl ⟨by decide, by decide⟩ ⟨by decide, by decide⟩ (Nat.le_of_ble_eq_true rfl) (w_X2_bound (h0.2.1.2.1) e_v3 ?_)
  cases H
  exact gw_iret dX8_boundOf_16 rfl (by decide) (by decide) hK
set_option maxRecDepth 100000 in
set_option maxHeartbeats 4000000 in
theorem n_X8_requireRow {Φ : gwC} {hb : gwHp} {M : Nat} {sh : Nat → Option gSh} {th : Nat} {p1 : Int} {c : W0} {r : Int × Int × W0} {K : Option Value → gwHp → Prop} (h0 : sD sh th) (H : f_X8_requireRow th p1 c = some r) (hr : r.1 = 0) (hK : K none (hp Φ hb M sh r.2.2)) : gw_Con Φ nX8_requireRow none [.ref (M + th), vI p1] (hp Φ hb M sh c) K := by
  unfold f_X8_requireRow at H
  refine gw_start oknX8_requireRow (Nat.le_of_ble_eq_true rfl) ?_
  refine gw_iload_n dX8_requireRow_0 rfl rfl ?_
  obtain ⟨g, H⟩ := gd_i H
  obtain ⟨k1, e_k1, H⟩ := jn_i H
  have hJ_k1 : ∀ (u2 : Unit), k1 u2 = some r → G Φ nX8_requireRow (gw_M Φ nX8_requireRow K) none 0 0 18 [] [] (hp Φ hb M sh c) := by
    intro u2 H
    subst e_k1
    exact absurd (show (3 : Int) = 0 from (congrArg (fun z => z.1) (Option.some.inj H)).trans hr) (by decide)
  refine gw_if_ltZ (tgt := 18) dX8_requireRow_1 rfl (by decide) g (fun q => ?_) (fun q => ?_)
  · have H := bq_t q H
    exact gw_L (hJ_k1 _ H) (lvA_n)
  · have H := bq_f q H
    refine gw_iload_n dX8_requireRow_4 rfl rfl ?_
    refine gw_aload_n dX8_requireRow_5 rfl rfl ?_
    refine gs_getR cl8 0 dX8_requireRow_6 rfl kw_234 (by decide) (h0.1) rfl ?_
    refine gs_getRN cl4 1 dX8_requireRow_9 rfl kw_124 (by decide) (h0.2.1.1) rfl ?_
    refine gs_getIN cl6 0 0 dX8_requireRow_12 rfl kw_101 (by decide) (h0.2.1.2.2.1) rfl rfl ?_
    obtain ⟨g, H⟩ := gd_i H
    refine gw_icmp_ltZ (tgt := 29) dX8_requireRow_15 rfl (by decide) g.1 g.2 (fun q => ?_) (fun q => ?_)
    · have H := bq_t q H
      cases H
      exact gw_vret dX8_requireRow_29 rfl (by decide) (by decide) hK
    · have H := bq_f q H
      exact gw_L (hJ_k1 _ H) (lvA_n)
set_option maxRecDepth 100000 in
set_option maxHeartbeats 4000000 in
theorem n_X8_columnOf {Φ : gwC} {hb : gwHp} {M : Nat} {sh : Nat → Option gSh} {th : Nat} {p1 : Int} {c : W0} {r : Int × Int × W0} {K : Option Value → gwHp → Prop} (h0 : sD sh th) (H : f_X8_columnOf th p1 c = some r) (hr : r.1 = 0) (hK : K (some (vI r.2.1)) (hp Φ hb M sh r.2.2)) : gw_Con Φ nX8_columnOf none [.ref (M + th), vI p1] (hp Φ hb M sh c) K := by
  unfold f_X8_columnOf at H
  refine gw_start oknX8_columnOf (Nat.le_of_ble_eq_true rfl) ?_
  refine gw_aload_n dX8_columnOf_0 rfl rfl ?_
  refine gw_iload_n dX8_columnOf_1 rfl rfl ?_
  obtain ⟨v2, c1, e_c1, H⟩ := cx_n hr H
  refine gw_V1 oknX8_requireRow dX8_columnOf_2 kw_539 kw_541 kw_5 (hp_o (h0.1)) rfl ⟨by decide, by decide⟩ ⟨by decide, by decide⟩ (Nat.le_of_ble_eq_true rfl) (n_X8_requireRow (h0) e_c1 rfl ?_)
  refine gw_aload_n dX8_columnOf_5 rfl rfl ?_
  refine gs_getR cl8 0 dX8_columnOf_6 rfl kw_234 (by decide) (h0.1) rfl ?_
  refine gs_getRN cl4 1 dX8_columnOf_9 rfl kw_124 (by decide) (h0.2.1.1) rfl ?_
  refine gw_iload_n dX8_columnOf_12 rfl rfl ?_
  obtain ⟨v3, e_v3, H⟩ := cv_i H
  refine gw_V1 okX6_namedBy dX8_columnOf_13 kw_579 kw_558 kw_559 (hp_o (h0.2.1.2.2.1)) rfl ⟨by decide, by decide⟩ ⟨by decide, by decide⟩ (Nat.le_of_ble_eq_true rfl) (w_X6_namedBy (h0.2.1.2.2) e_v3 ?_)
  cases H
  exact gw_iret dX8_columnOf_16 rfl (by decide) (by decide) hK
set_option maxRecDepth 100000 in
set_option maxHeartbeats 4000000 in
theorem n_X8_coefficientOf {Φ : gwC} {hb : gwHp} {M : Nat} {sh : Nat → Option gSh} {th : Nat} {p1 : Int} {p2 : Int} {c : W0} {r : Int × Int × W0} {K : Option Value → gwHp → Prop} (h0 : sD sh th) (H : f_X8_coefficientOf th p1 p2 c = some r) (hr : r.1 = 0) (hK : K (some (vI r.2.1)) (hp Φ hb M sh r.2.2)) : gw_Con Φ nX8_coefficientOf none [.ref (M + th), vI p1, vI p2] (hp Φ hb M sh c) K := by
  unfold f_X8_coefficientOf at H
  refine gw_start oknX8_coefficientOf (Nat.le_of_ble_eq_true rfl) ?_
  refine gw_aload_n dX8_coefficientOf_0 rfl rfl ?_
  refine gw_iload_n dX8_coefficientOf_1 rfl rfl ?_
  obtain ⟨v2, c1, e_c1, H⟩ := cx_n hr H
  refine gw_V1 oknX8_requireConstraint dX8_coefficientOf_2 kw_514 kw_516 kw_4 (hp_o (h0.1)) rfl ⟨by decide, by decide⟩ ⟨by decide, by decide⟩ (Nat.le_of_ble_eq_true rfl) (n_X8_requireConstraint (h0) e_c1 rfl ?_)
  refine gw_aload_n dX8_coefficientOf_5 rfl rfl ?_
  refine gw_iload_n dX8_coefficientOf_6 rfl rfl ?_
  obtain ⟨v4, c3, e_c3, H⟩ := cx_n hr H
  refine gw_V1 oknX8_requireVariable dX8_coefficientOf_7 kw_460 kw_462 kw_3 (hp_o (h0.1)) rfl ⟨by decide, by decide⟩ ⟨by decide, by decide⟩ (Nat.le_of_ble_eq_true rfl) (n_X8_requireVariable (h0) e_c3 rfl ?_)
  refine gw_aload_n dX8_coefficientOf_10 rfl rfl ?_
  refine gs_getR cl8 0 dX8_coefficientOf_11 rfl kw_234 (by decide) (h0.1) rfl ?_
  refine gs_getRN cl4 0 dX8_coefficientOf_14 rfl kw_120 (by decide) (h0.2.1.1) rfl ?_
  refine gw_iload_n dX8_coefficientOf_17 rfl rfl ?_
  refine gw_iload_n dX8_coefficientOf_18 rfl rfl ?_
  obtain ⟨v5, e_v5, H⟩ := cv_i H
  refine gw_V2 okX2_coefficient dX8_coefficientOf_19 kw_519 kw_437 kw_438 (hp_o (h0.2.1.2.1.1)) rfl ⟨by decide, by decide⟩ ⟨by decide, by decide⟩ (Nat.le_of_ble_eq_true rfl) (w_X2_coefficient (h0.2.1.2.1) e_v5 ?_)
  cases H
  exact gw_iret dX8_coefficientOf_22 rfl (by decide) (by decide) hK
set_option maxRecDepth 100000 in
set_option maxHeartbeats 4000000 in
theorem n_X8_requireColumn {Φ : gwC} {hb : gwHp} {M : Nat} {sh : Nat → Option gSh} {th : Nat} {p1 : Int} {c : W0} {r : Int × Int × W0} {K : Option Value → gwHp → Prop} (h0 : sD sh th) (H : f_X8_requireColumn th p1 c = some r) (hr : r.1 = 0) (hK : K none (hp Φ hb M sh r.2.2)) : gw_Con Φ nX8_requireColumn none [.ref (M + th), vI p1] (hp Φ hb M sh c) K := by
  unfold f_X8_requireColumn at H
  refine gw_start oknX8_requireColumn (Nat.le_of_ble_eq_true rfl) ?_
  refine gw_iload_n dX8_requireColumn_0 rfl rfl ?_
  obtain ⟨g, H⟩ := gd_i H
  obtain ⟨k1, e_k1, H⟩ := jn_i H
  have hJ_k1 : ∀ (u2 : Unit), k1 u2 = some r → G Φ nX8_requireColumn (gw_M Φ nX8_requireColumn K) none 0 0 18 [] [] (hp Φ hb M sh c) := by
    intro u2 H
    subst e_k1
    exact absurd (show (3 : Int) = 0 from (congrArg (fun z => z.1) (Option.some.inj H)).trans hr) (by decide)
  refine gw_if_ltZ (tgt := 18) dX8_requireColumn_1 rfl (by decide) g (fun q => ?_) (fun q => ?_)
  · have H := bq_t q H
    exact gw_L (hJ_k1 _ H) (lvA_n)
  · have H := bq_f q H
    refine gw_iload_n dX8_requireColumn_4 rfl rfl ?_
    refine gw_aload_n dX8_requireColumn_5 rfl rfl ?_
    refine gs_getR cl8 0 dX8_requireColumn_6 rfl kw_234 (by decide) (h0.1) rfl ?_
    refine gs_getRN cl4 1 dX8_requireColumn_9 rfl kw_124 (by decide) (h0.2.1.1) rfl ?_
    refine gs_getIN cl6 1 1 dX8_requireColumn_12 rfl kw_103 (by decide) (h0.2.1.2.2.1) rfl rfl ?_
    obtain ⟨g, H⟩ := gd_i H
    refine gw_icmp_ltZ (tgt := 29) dX8_requireColumn_15 rfl (by decide) g.1 g.2 (fun q => ?_) (fun q => ?_)
    · have H := bq_t q H
      cases H
      exact gw_vret dX8_requireColumn_29 rfl (by decide) (by decide) hK
    · have H := bq_f q H
      exact gw_L (hJ_k1 _ H) (lvA_n)
set_option maxRecDepth 100000 in
set_option maxHeartbeats 4000000 in
theorem n_X8_givenDenominator {Φ : gwC} {hb : gwHp} {M : Nat} {sh : Nat → Option gSh} {th : Nat} {p1 : Int} {c : W0} {r : Int × Int × W0} {K : Option Value → gwHp → Prop} (h0 : sD sh th) (H : f_X8_givenDenominator th p1 c = some r) (hr : r.1 = 0) (hK : K (some (vL r.2.1)) (hp Φ hb M sh r.2.2)) : gw_Con Φ nX8_givenDenominator none [.ref (M + th), vI p1] (hp Φ hb M sh c) K := by
  unfold f_X8_givenDenominator at H
  refine gw_start oknX8_givenDenominator (Nat.le_of_ble_eq_true rfl) ?_
  refine gw_aload_n dX8_givenDenominator_0 rfl rfl ?_
  refine gw_iload_n dX8_givenDenominator_1 rfl rfl ?_
  obtain ⟨v2, c1, e_c1, H⟩ := cx_n hr H
  refine gw_V1 oknX8_requireColumn dX8_givenDenominator_2 kw_544 kw_546 kw_6 (hp_o (h0.1)) rfl ⟨by decide, by decide⟩ ⟨by decide, by decide⟩ (Nat.le_of_ble_eq_true rfl) (n_X8_requireColumn (h0) e_c1 rfl ?_)
  refine gw_aload_n dX8_givenDenominator_5 rfl rfl ?_
  refine gs_getR cl8 0 dX8_givenDenominator_6 rfl kw_234 (by decide) (h0.1) rfl ?_
  refine gs_getRN cl4 1 dX8_givenDenominator_9 rfl kw_124 (by decide) (h0.2.1.1) rfl ?_
  refine gw_iload_n dX8_givenDenominator_12 rfl rfl ?_
  obtain ⟨v3, e_v3, H⟩ := cv_i H
  refine gw_V1 okX6_given dX8_givenDenominator_13 kw_691 kw_692 kw_693 (hp_o (h0.2.1.2.2.1)) rfl ⟨by decide, by decide⟩ ⟨by decide, by decide⟩ (Nat.le_of_ble_eq_true rfl) (w_X6_given (h0.2.1.2.2) e_v3 ?_)
  refine gw_aload_n dX8_givenDenominator_16 rfl rfl ?_
  refine gs_getR cl8 0 dX8_givenDenominator_17 rfl kw_234 (by decide) (h0.1) rfl ?_
  refine gs_getRN cl4 1 dX8_givenDenominator_20 rfl kw_124 (by decide) (h0.2.1.1) rfl ?_
  refine gs_getLN cl6 2 2 dX8_givenDenominator_23 rfl kw_105 (by decide) (h0.2.1.2.2.1) rfl rfl ?_
  obtain ⟨v4, e_v4, H⟩ := cv_i H
  refine gw_S2 okX8_lowDenominator dX8_givenDenominator_26 kw_695 kw_696 ⟨by decide, by decide⟩ ⟨by decide, by decide⟩ (Nat.le_of_ble_eq_true rfl) (w_X8_lowDenominator  e_v4 ?_)
  cases H
  exact gw_lret dX8_givenDenominator_29 rfl (by decide) (by decide) hK
set_option maxRecDepth 100000 in
set_option maxHeartbeats 4000000 in
theorem n_X8_givenNumerator {Φ : gwC} {hb : gwHp} {M : Nat} {sh : Nat → Option gSh} {th : Nat} {p1 : Int} {c : W0} {r : Int × Int × W0} {K : Option Value → gwHp → Prop} (h0 : sD sh th) (H : f_X8_givenNumerator th p1 c = some r) (hr : r.1 = 0) (hK : K (some (vL r.2.1)) (hp Φ hb M sh r.2.2)) : gw_Con Φ nX8_givenNumerator none [.ref (M + th), vI p1] (hp Φ hb M sh c) K := by
  unfold f_X8_givenNumerator at H
  refine gw_start oknX8_givenNumerator (Nat.le_of_ble_eq_true rfl) ?_
  refine gw_aload_n dX8_givenNumerator_0 rfl rfl ?_
  refine gw_iload_n dX8_givenNumerator_1 rfl rfl ?_
  obtain ⟨v2, c1, e_c1, H⟩ := cx_n hr H
  refine gw_V1 oknX8_requireColumn dX8_givenNumerator_2 kw_544 kw_546 kw_6 (hp_o (h0.1)) rfl ⟨by decide, by decide⟩ ⟨by decide, by decide⟩ (Nat.le_of_ble_eq_true rfl) (n_X8_requireColumn (h0) e_c1 rfl ?_)
  refine gw_aload_n dX8_givenNumerator_5 rfl rfl ?_
  refine gs_getR cl8 0 dX8_givenNumerator_6 rfl kw_234 (by decide) (h0.1) rfl ?_
  refine gs_getRN cl4 1 dX8_givenNumerator_9 rfl kw_124 (by decide) (h0.2.1.1) rfl ?_
  refine gw_iload_n dX8_givenNumerator_12 rfl rfl ?_
  obtain ⟨v3, e_v3, H⟩ := cv_i H
  refine gw_V1 okX6_given dX8_givenNumerator_13 kw_691 kw_692 kw_693 (hp_o (h0.2.1.2.2.1)) rfl ⟨by decide, by decide⟩ ⟨by decide, by decide⟩ (Nat.le_of_ble_eq_true rfl) (w_X6_given (h0.2.1.2.2) e_v3 ?_)
  refine gw_aload_n dX8_givenNumerator_16 rfl rfl ?_
  refine gs_getR cl8 0 dX8_givenNumerator_17 rfl kw_234 (by decide) (h0.1) rfl ?_
  refine gs_getRN cl4 1 dX8_givenNumerator_20 rfl kw_124 (by decide) (h0.2.1.1) rfl ?_
  refine gs_getLN cl6 2 2 dX8_givenNumerator_23 rfl kw_105 (by decide) (h0.2.1.2.2.1) rfl rfl ?_
  obtain ⟨v4, e_v4, H⟩ := cv_i H
  refine gw_S2 okX8_lowNumerator dX8_givenNumerator_26 kw_708 kw_709 ⟨by decide, by decide⟩ ⟨by decide, by decide⟩ (Nat.le_of_ble_eq_true rfl) (w_X8_lowNumerator  e_v4 ?_)
  cases H
  exact gw_lret dX8_givenNumerator_29 rfl (by decide) (by decide) hK
set_option maxRecDepth 100000 in
set_option maxHeartbeats 4000000 in
theorem n_X8_reducedNumerator {Φ : gwC} {hb : gwHp} {M : Nat} {sh : Nat → Option gSh} {th : Nat} {p1 : Int} {c : W0} {r : Int × Int × W0} {K : Option Value → gwHp → Prop} (h0 : sD sh th) (H : f_X8_reducedNumerator th p1 c = some r) (hr : r.1 = 0) (hK : K (some (vL r.2.1)) (hp Φ hb M sh r.2.2)) : gw_Con Φ nX8_reducedNumerator none [.ref (M + th), vI p1] (hp Φ hb M sh c) K := by
  unfold f_X8_reducedNumerator at H
  refine gw_start oknX8_reducedNumerator (Nat.le_of_ble_eq_true rfl) ?_
  refine gw_aload_n dX8_reducedNumerator_0 rfl rfl ?_
  refine gw_iload_n dX8_reducedNumerator_1 rfl rfl ?_
  obtain ⟨v2, c1, e_c1, H⟩ := cx_n hr H
  refine gw_V1 oknX8_requireColumn dX8_reducedNumerator_2 kw_544 kw_546 kw_6 (hp_o (h0.1)) rfl ⟨by decide, by decide⟩ ⟨by decide, by decide⟩ (Nat.le_of_ble_eq_true rfl) (n_X8_requireColumn (h0) e_c1 rfl ?_)
  refine gw_aload_n dX8_reducedNumerator_5 rfl rfl ?_
  refine gs_getR cl8 0 dX8_reducedNumerator_6 rfl kw_234 (by decide) (h0.1) rfl ?_
  refine gs_getRN cl4 1 dX8_reducedNumerator_9 rfl kw_124 (by decide) (h0.2.1.1) rfl ?_
  refine gw_iload_n dX8_reducedNumerator_12 rfl rfl ?_
  obtain ⟨v3, e_v3, H⟩ := cv_i H
  refine gw_V1 okX6_reduced dX8_reducedNumerator_13 kw_739 kw_563 kw_564 (hp_o (h0.2.1.2.2.1)) rfl ⟨by decide, by decide⟩ ⟨by decide, by decide⟩ (Nat.le_of_ble_eq_true rfl) (w_X6_reduced (h0.2.1.2.2) e_v3 ?_)
  refine gw_aload_n dX8_reducedNumerator_16 rfl rfl ?_
  refine gs_getR cl8 0 dX8_reducedNumerator_17 rfl kw_234 (by decide) (h0.1) rfl ?_
  refine gs_getRN cl4 1 dX8_reducedNumerator_20 rfl kw_124 (by decide) (h0.2.1.1) rfl ?_
  refine gs_getLN cl6 2 2 dX8_reducedNumerator_23 rfl kw_105 (by decide) (h0.2.1.2.2.1) rfl rfl ?_
  obtain ⟨v4, e_v4, H⟩ := cv_i H
  refine gw_S2 okX8_lowNumerator dX8_reducedNumerator_26 kw_708 kw_709 ⟨by decide, by decide⟩ ⟨by decide, by decide⟩ (Nat.le_of_ble_eq_true rfl) (w_X8_lowNumerator  e_v4 ?_)
  cases H
  exact gw_lret dX8_reducedNumerator_29 rfl (by decide) (by decide) hK
set_option maxRecDepth 100000 in
set_option maxHeartbeats 4000000 in
theorem n_X8_entryNumerator {Φ : gwC} {hb : gwHp} {M : Nat} {sh : Nat → Option gSh} {th : Nat} {p1 : Int} {p2 : Int} {c : W0} {r : Int × Int × W0} {K : Option Value → gwHp → Prop} (h0 : sD sh th) (H : f_X8_entryNumerator th p1 p2 c = some r) (hr : r.1 = 0) (hK : K (some (vL r.2.1)) (hp Φ hb M sh r.2.2)) : gw_Con Φ nX8_entryNumerator none [.ref (M + th), vI p1, vI p2] (hp Φ hb M sh c) K := by
  unfold f_X8_entryNumerator at H
  refine gw_start oknX8_entryNumerator (Nat.le_of_ble_eq_true rfl) ?_
  refine gw_aload_n dX8_entryNumerator_0 rfl rfl ?_
  refine gw_iload_n dX8_entryNumerator_1 rfl rfl ?_
  obtain ⟨v2, c1, e_c1, H⟩ := cx_n hr H
  refine gw_V1 oknX8_requireRow dX8_entryNumerator_2 kw_539 kw_541 kw_5 (hp_o (h0.1)) rfl ⟨by decide, by decide⟩ ⟨by decide, by decide⟩ (Nat.le_of_ble_eq_true rfl) (n_X8_requireRow (h0) e_c1 rfl ?_)
  refine gw_aload_n dX8_entryNumerator_5 rfl rfl ?_
  refine gw_iload_n dX8_entryNumerator_6 rfl rfl ?_
  obtain ⟨v4, c3, e_c3, H⟩ := cx_n hr H
  refine gw_V1 oknX8_requireColumn dX8_entryNumerator_7 kw_544 kw_546 kw_6 (hp_o (h0.1)) rfl ⟨by decide, by decide⟩ ⟨by decide, by decide⟩ (Nat.le_of_ble_eq_true rfl) (n_X8_requireColumn (h0) e_c3 rfl ?_)
  refine gw_aload_n dX8_entryNumerator_10 rfl rfl ?_
  refine gs_getR cl8 0 dX8_entryNumerator_11 rfl kw_234 (by decide) (h0.1) rfl ?_
  refine gs_getRN cl4 1 dX8_entryNumerator_14 rfl kw_124 (by decide) (h0.2.1.1) rfl ?_
  refine gw_iload_n dX8_entryNumerator_17 rfl rfl ?_
  refine gw_iload_n dX8_entryNumerator_18 rfl rfl ?_
  obtain ⟨v5, e_v5, H⟩ := cv_i H
  refine gw_V2 okX6_entry dX8_entryNumerator_19 kw_744 kw_567 kw_568 (hp_o (h0.2.1.2.2.1)) rfl ⟨by decide, by decide⟩ ⟨by decide, by decide⟩ (Nat.le_of_ble_eq_true rfl) (w_X6_entry (h0.2.1.2.2) e_v5 ?_)
  refine gw_aload_n dX8_entryNumerator_22 rfl rfl ?_
  refine gs_getR cl8 0 dX8_entryNumerator_23 rfl kw_234 (by decide) (h0.1) rfl ?_
  refine gs_getRN cl4 1 dX8_entryNumerator_26 rfl kw_124 (by decide) (h0.2.1.1) rfl ?_
  refine gs_getLN cl6 2 2 dX8_entryNumerator_29 rfl kw_105 (by decide) (h0.2.1.2.2.1) rfl rfl ?_
  obtain ⟨v6, e_v6, H⟩ := cv_i H
  refine gw_S2 okX8_lowNumerator dX8_entryNumerator_32 kw_708 kw_709 ⟨by decide, by decide⟩ ⟨by decide, by decide⟩ (Nat.le_of_ble_eq_true rfl) (w_X8_lowNumerator  e_v6 ?_)
  cases H
  exact gw_lret dX8_entryNumerator_35 rfl (by decide) (by decide) hK
set_option maxRecDepth 100000 in
set_option maxHeartbeats 4000000 in
theorem n_X8_whyNoPivot {Φ : gwC} {hb : gwHp} {M : Nat} {sh : Nat → Option gSh} {th : Nat} {p1 : Int} {p2 : Int} {c : W0} {r : Int × Int × W0} {K : Option Value → gwHp → Prop} (h0 : sD sh th) (H : f_X8_whyNoPivot th p1 p2 c = some r) (hr : r.1 = 0) (hK : K (some (vI r.2.1)) (hp Φ hb M sh r.2.2)) : gw_Con Φ nX8_whyNoPivot none [.ref (M + th), vI p1, vI p2] (hp Φ hb M sh c) K := by
  unfold f_X8_whyNoPivot at H
  refine gw_start oknX8_whyNoPivot (Nat.le_of_ble_eq_true rfl) ?_
  refine gw_aload_n dX8_whyNoPivot_0 rfl rfl ?_
  refine gw_iload_n dX8_whyNoPivot_1 rfl rfl ?_
  obtain ⟨v2, c1, e_c1, H⟩ := cx_n hr H
  refine gw_V1 oknX8_requireRow dX8_whyNoPivot_2 kw_539 kw_541 kw_5 (hp_o (h0.1)) rfl ⟨by decide, by decide⟩ ⟨by decide, by decide⟩ (Nat.le_of_ble_eq_true rfl) (n_X8_requireRow (h0) e_c1 rfl ?_)
  refine gw_aload_n dX8_whyNoPivot_5 rfl rfl ?_
  refine gw_iload_n dX8_whyNoPivot_6 rfl rfl ?_
  obtain ⟨v4, c3, e_c3, H⟩ := cx_n hr H
  refine gw_V1 oknX8_requireColumn dX8_whyNoPivot_7 kw_544 kw_546 kw_6 (hp_o (h0.1)) rfl ⟨by decide, by decide⟩ ⟨by decide, by decide⟩ (Nat.le_of_ble_eq_true rfl) (n_X8_requireColumn (h0) e_c3 rfl ?_)
  refine gw_aload_n dX8_whyNoPivot_10 rfl rfl ?_
  refine gs_getR cl8 0 dX8_whyNoPivot_11 rfl kw_234 (by decide) (h0.1) rfl ?_
  refine gs_getRN cl4 1 dX8_whyNoPivot_14 rfl kw_124 (by decide) (h0.2.1.1) rfl ?_
  refine gw_iload_n dX8_whyNoPivot_17 rfl rfl ?_
  refine gw_iload_n dX8_whyNoPivot_18 rfl rfl ?_
  obtain ⟨v5, e_v5, H⟩ := cv_i H
  refine gw_V2 okX6_obstacle dX8_whyNoPivot_19 kw_549 kw_550 kw_551 (hp_o (h0.2.1.2.2.1)) rfl ⟨by decide, by decide⟩ ⟨by decide, by decide⟩ (Nat.le_of_ble_eq_true rfl) (w_X6_obstacle (h0.2.1.2.2) e_v5 ?_)
  cases H
  exact gw_iret dX8_whyNoPivot_22 rfl (by decide) (by decide) hK
set_option maxRecDepth 100000 in
set_option maxHeartbeats 4000000 in
theorem n_X8_entryDenominator {Φ : gwC} {hb : gwHp} {M : Nat} {sh : Nat → Option gSh} {th : Nat} {p1 : Int} {p2 : Int} {c : W0} {r : Int × Int × W0} {K : Option Value → gwHp → Prop} (h0 : sD sh th) (H : f_X8_entryDenominator th p1 p2 c = some r) (hr : r.1 = 0) (hK : K (some (vL r.2.1)) (hp Φ hb M sh r.2.2)) : gw_Con Φ nX8_entryDenominator none [.ref (M + th), vI p1, vI p2] (hp Φ hb M sh c) K := by
  unfold f_X8_entryDenominator at H
  refine gw_start oknX8_entryDenominator (Nat.le_of_ble_eq_true rfl) ?_
  refine gw_aload_n dX8_entryDenominator_0 rfl rfl ?_
  refine gw_iload_n dX8_entryDenominator_1 rfl rfl ?_
  obtain ⟨v2, c1, e_c1, H⟩ := cx_n hr H
  refine gw_V1 oknX8_requireRow dX8_entryDenominator_2 kw_539 kw_541 kw_5 (hp_o (h0.1)) rfl ⟨by decide, by decide⟩ ⟨by decide, by decide⟩ (Nat.le_of_ble_eq_true rfl) (n_X8_requireRow (h0) e_c1 rfl ?_)
  refine gw_aload_n dX8_entryDenominator_5 rfl rfl ?_
  refine gw_iload_n dX8_entryDenominator_6 rfl rfl ?_
  obtain ⟨v4, c3, e_c3, H⟩ := cx_n hr H
  refine gw_V1 oknX8_requireColumn dX8_entryDenominator_7 kw_544 kw_546 kw_6 (hp_o (h0.1)) rfl ⟨by decide, by decide⟩ ⟨by decide, by decide⟩ (Nat.le_of_ble_eq_true rfl) (n_X8_requireColumn (h0) e_c3 rfl ?_)
  refine gw_aload_n dX8_entryDenominator_10 rfl rfl ?_
  refine gs_getR cl8 0 dX8_entryDenominator_11 rfl kw_234 (by decide) (h0.1) rfl ?_
  refine gs_getRN cl4 1 dX8_entryDenominator_14 rfl kw_124 (by decide) (h0.2.1.1) rfl ?_
  refine gw_iload_n dX8_entryDenominator_17 rfl rfl ?_
  refine gw_iload_n dX8_entryDenominator_18 rfl rfl ?_
  obtain ⟨v5, e_v5, H⟩ := cv_i H
  refine gw_V2 okX6_entry dX8_entryDenominator_19 kw_744 kw_567 kw_568 (hp_o (h0.2.1.2.2.1)) rfl ⟨by decide, by decide⟩ ⟨by decide, by decide⟩ (Nat.le_of_ble_eq_true rfl) (w_X6_entry (h0.2.1.2.2) e_v5 ?_)
  refine gw_aload_n dX8_entryDenominator_22 rfl rfl ?_
  refine gs_getR cl8 0 dX8_entryDenominator_23 rfl kw_234 (by decide) (h0.1) rfl ?_
  refine gs_getRN cl4 1 dX8_entryDenominator_26 rfl kw_124 (by decide) (h0.2.1.1) rfl ?_
  refine gs_getLN cl6 2 2 dX8_entryDenominator_29 rfl kw_105 (by decide) (h0.2.1.2.2.1) rfl rfl ?_
  obtain ⟨v6, e_v6, H⟩ := cv_i H
  refine gw_S2 okX8_lowDenominator dX8_entryDenominator_32 kw_695 kw_696 ⟨by decide, by decide⟩ ⟨by decide, by decide⟩ (Nat.le_of_ble_eq_true rfl) (w_X8_lowDenominator  e_v6 ?_)
  cases H
  exact gw_lret dX8_entryDenominator_35 rfl (by decide) (by decide) hK
set_option maxRecDepth 100000 in
set_option maxHeartbeats 4000000 in
theorem n_X8_isNamed {Φ : gwC} {hb : gwHp} {M : Nat} {sh : Nat → Option gSh} {th : Nat} {p1 : Int} {c : W0} {r : Int × Int × W0} {K : Option Value → gwHp → Prop} (h0 : sD sh th) (H : f_X8_isNamed th p1 c = some r) (hr : r.1 = 0) (hK : K (some (vI r.2.1)) (hp Φ hb M sh r.2.2)) : gw_Con Φ nX8_isNamed none [.ref (M + th), vI p1] (hp Φ hb M sh c) K := by
  unfold f_X8_isNamed at H
  refine gw_start oknX8_isNamed (Nat.le_of_ble_eq_true rfl) ?_
  refine gw_aload_n dX8_isNamed_0 rfl rfl ?_
  refine gw_iload_n dX8_isNamed_1 rfl rfl ?_
  obtain ⟨v2, c1, e_c1, H⟩ := cx_n hr H
  refine gw_V1 oknX8_requireColumn dX8_isNamed_2 kw_544 kw_546 kw_6 (hp_o (h0.1)) rfl ⟨by decide, by decide⟩ ⟨by decide, by decide⟩ (Nat.le_of_ble_eq_true rfl) (n_X8_requireColumn (h0) e_c1 rfl ?_)
  refine gw_aload_n dX8_isNamed_5 rfl rfl ?_
  refine gs_getR cl8 0 dX8_isNamed_6 rfl kw_234 (by decide) (h0.1) rfl ?_
  refine gs_getRN cl4 1 dX8_isNamed_9 rfl kw_124 (by decide) (h0.2.1.1) rfl ?_
  refine gw_iload_n dX8_isNamed_12 rfl rfl ?_
  obtain ⟨v3, e_v3, H⟩ := cv_i H
  refine gw_V1 okX6_rowNaming dX8_isNamed_13 kw_757 kw_554 kw_555 (hp_o (h0.2.1.2.2.1)) rfl ⟨by decide, by decide⟩ ⟨by decide, by decide⟩ (Nat.le_of_ble_eq_true rfl) (w_X6_rowNaming (h0.2.1.2.2) e_v3 ?_)
  obtain ⟨g, H⟩ := gd_i H
  refine gw_if_ltZ (tgt := 23) dX8_isNamed_16 rfl (by decide) g (fun q => ?_) (fun q => ?_)
  · have H := bq_t q H
    refine gw_iconstZ dX8_isNamed_23 rfl ?_
    cases H
    exact gw_zret rfl dX8_isNamed_24 rfl (by decide) (by decide) hK
  · have H := bq_f q H
    refine gw_iconstZ dX8_isNamed_19 rfl ?_
    refine gw_goto (tgt := 24) dX8_isNamed_20 (by decide) ?_
    cases H
    exact gw_zret rfl dX8_isNamed_24 rfl (by decide) (by decide) hK
set_option maxRecDepth 100000 in
set_option maxHeartbeats 4000000 in
theorem n_X8_dualNumerator {Φ : gwC} {hb : gwHp} {M : Nat} {sh : Nat → Option gSh} {th : Nat} {p1 : Int} {c : W0} {r : Int × Int × W0} {K : Option Value → gwHp → Prop} (h0 : sD sh th) (H : f_X8_dualNumerator th p1 c = some r) (hr : r.1 = 0) (hK : K (some (vL r.2.1)) (hp Φ hb M sh r.2.2)) : gw_Con Φ nX8_dualNumerator none [.ref (M + th), vI p1] (hp Φ hb M sh c) K := by
  unfold f_X8_dualNumerator at H
  refine gw_start oknX8_dualNumerator (Nat.le_of_ble_eq_true rfl) ?_
  refine gw_aload_n dX8_dualNumerator_0 rfl rfl ?_
  refine gw_iload_n dX8_dualNumerator_1 rfl rfl ?_
  obtain ⟨v2, c1, e_c1, H⟩ := cx_n hr H
  refine gw_V1 oknX8_requireConstraint dX8_dualNumerator_2 kw_514 kw_516 kw_4 (hp_o (h0.1)) rfl ⟨by decide, by decide⟩ ⟨by decide, by decide⟩ (Nat.le_of_ble_eq_true rfl) (n_X8_requireConstraint (h0) e_c1 rfl ?_)
  refine gw_aload_n dX8_dualNumerator_5 rfl rfl ?_
  refine gs_getR cl8 0 dX8_dualNumerator_6 rfl kw_234 (by decide) (h0.1) rfl ?_
  refine gw_iload_n dX8_dualNumerator_9 rfl rfl ?_
  obtain ⟨v3, e_v3, H⟩ := cv_i H
  refine gw_V1 okX4_dual dX8_dualNumerator_10 kw_762 kw_763 kw_764 (hp_o (h0.2.1.1)) rfl ⟨by decide, by decide⟩ ⟨by decide, by decide⟩ (Nat.le_of_ble_eq_true rfl) (w_X4_dual (h0.2.1) e_v3 ?_)
  refine gw_aload_n dX8_dualNumerator_13 rfl rfl ?_
  refine gs_getR cl8 0 dX8_dualNumerator_14 rfl kw_234 (by decide) (h0.1) rfl ?_
  refine gs_getRN cl4 1 dX8_dualNumerator_17 rfl kw_124 (by decide) (h0.2.1.1) rfl ?_
  refine gs_getLN cl6 2 2 dX8_dualNumerator_20 rfl kw_105 (by decide) (h0.2.1.2.2.1) rfl rfl ?_
  obtain ⟨v4, e_v4, H⟩ := cv_i H
  refine gw_S2 okX8_lowNumerator dX8_dualNumerator_23 kw_708 kw_709 ⟨by decide, by decide⟩ ⟨by decide, by decide⟩ (Nat.le_of_ble_eq_true rfl) (w_X8_lowNumerator  e_v4 ?_)
  cases H
  exact gw_lret dX8_dualNumerator_26 rfl (by decide) (by decide) hK
set_option maxRecDepth 100000 in
set_option maxHeartbeats 4000000 in
theorem n_X8_dualDenominator {Φ : gwC} {hb : gwHp} {M : Nat} {sh : Nat → Option gSh} {th : Nat} {p1 : Int} {c : W0} {r : Int × Int × W0} {K : Option Value → gwHp → Prop} (h0 : sD sh th) (H : f_X8_dualDenominator th p1 c = some r) (hr : r.1 = 0) (hK : K (some (vL r.2.1)) (hp Φ hb M sh r.2.2)) : gw_Con Φ nX8_dualDenominator none [.ref (M + th), vI p1] (hp Φ hb M sh c) K := by
  unfold f_X8_dualDenominator at H
  refine gw_start oknX8_dualDenominator (Nat.le_of_ble_eq_true rfl) ?_
  refine gw_aload_n dX8_dualDenominator_0 rfl rfl ?_
  refine gw_iload_n dX8_dualDenominator_1 rfl rfl ?_
  obtain ⟨v2, c1, e_c1, H⟩ := cx_n hr H
  refine gw_V1 oknX8_requireConstraint dX8_dualDenominator_2 kw_514 kw_516 kw_4 (hp_o (h0.1)) rfl ⟨by decide, by decide⟩ ⟨by decide, by decide⟩ (Nat.le_of_ble_eq_true rfl) (n_X8_requireConstraint (h0) e_c1 rfl ?_)
  refine gw_aload_n dX8_dualDenominator_5 rfl rfl ?_
  refine gs_getR cl8 0 dX8_dualDenominator_6 rfl kw_234 (by decide) (h0.1) rfl ?_
  refine gw_iload_n dX8_dualDenominator_9 rfl rfl ?_
  obtain ⟨v3, e_v3, H⟩ := cv_i H
  refine gw_V1 okX4_dual dX8_dualDenominator_10 kw_762 kw_763 kw_764 (hp_o (h0.2.1.1)) rfl ⟨by decide, by decide⟩ ⟨by decide, by decide⟩ (Nat.le_of_ble_eq_true rfl) (w_X4_dual (h0.2.1) e_v3 ?_)
  refine gw_aload_n dX8_dualDenominator_13 rfl rfl ?_
  refine gs_getR cl8 0 dX8_dualDenominator_14 rfl kw_234 (by decide) (h0.1) rfl ?_
  refine gs_getRN cl4 1 dX8_dualDenominator_17 rfl kw_124 (by decide) (h0.2.1.1) rfl ?_
  refine gs_getLN cl6 2 2 dX8_dualDenominator_20 rfl kw_105 (by decide) (h0.2.1.2.2.1) rfl rfl ?_
  obtain ⟨v4, e_v4, H⟩ := cv_i H
  refine gw_S2 okX8_lowDenominator dX8_dualDenominator_23 kw_695 kw_696 ⟨by decide, by decide⟩ ⟨by decide, by decide⟩ (Nat.le_of_ble_eq_true rfl) (w_X8_lowDenominator  e_v4 ?_)
  cases H
  exact gw_lret dX8_dualDenominator_26 rfl (by decide) (by decide) hK
set_option maxRecDepth 100000 in
set_option maxHeartbeats 4000000 in
theorem n_X8_reducedDenominator {Φ : gwC} {hb : gwHp} {M : Nat} {sh : Nat → Option gSh} {th : Nat} {p1 : Int} {c : W0} {r : Int × Int × W0} {K : Option Value → gwHp → Prop} (h0 : sD sh th) (H : f_X8_reducedDenominator th p1 c = some r) (hr : r.1 = 0) (hK : K (some (vL r.2.1)) (hp Φ hb M sh r.2.2)) : gw_Con Φ nX8_reducedDenominator none [.ref (M + th), vI p1] (hp Φ hb M sh c) K := by
  unfold f_X8_reducedDenominator at H
  refine gw_start oknX8_reducedDenominator (Nat.le_of_ble_eq_true rfl) ?_
  refine gw_aload_n dX8_reducedDenominator_0 rfl rfl ?_
  refine gw_iload_n dX8_reducedDenominator_1 rfl rfl ?_
  obtain ⟨v2, c1, e_c1, H⟩ := cx_n hr H
  refine gw_V1 oknX8_requireColumn dX8_reducedDenominator_2 kw_544 kw_546 kw_6 (hp_o (h0.1)) rfl ⟨by decide, by decide⟩ ⟨by decide, by decide⟩ (Nat.le_of_ble_eq_true rfl) (n_X8_requireColumn (h0) e_c1 rfl ?_)
  refine gw_aload_n dX8_reducedDenominator_5 rfl rfl ?_
  refine gs_getR cl8 0 dX8_reducedDenominator_6 rfl kw_234 (by decide) (h0.1) rfl ?_
  refine gs_getRN cl4 1 dX8_reducedDenominator_9 rfl kw_124 (by decide) (h0.2.1.1) rfl ?_
  refine gw_iload_n dX8_reducedDenominator_12 rfl rfl ?_
  obtain ⟨v3, e_v3, H⟩ := cv_i H
  refine gw_V1 okX6_reduced dX8_reducedDenominator_13 kw_739 kw_563 kw_564 (hp_o (h0.2.1.2.2.1)) rfl ⟨by decide, by decide⟩ ⟨by decide, by decide⟩ (Nat.le_of_ble_eq_true rfl) (w_X6_reduced (h0.2.1.2.2) e_v3 ?_)
  refine gw_aload_n dX8_reducedDenominator_16 rfl rfl ?_
  refine gs_getR cl8 0 dX8_reducedDenominator_17 rfl kw_234 (by decide) (h0.1) rfl ?_
  refine gs_getRN cl4 1 dX8_reducedDenominator_20 rfl kw_124 (by decide) (h0.2.1.1) rfl ?_
  refine gs_getLN cl6 2 2 dX8_reducedDenominator_23 rfl kw_105 (by decide) (h0.2.1.2.2.1) rfl rfl ?_
  obtain ⟨v4, e_v4, H⟩ := cv_i H
  refine gw_S2 okX8_lowDenominator dX8_reducedDenominator_26 kw_695 kw_696 ⟨by decide, by decide⟩ ⟨by decide, by decide⟩ (Nat.le_of_ble_eq_true rfl) (w_X8_lowDenominator  e_v4 ?_)
  cases H
  exact gw_lret dX8_reducedDenominator_29 rfl (by decide) (by decide) hK
set_option maxRecDepth 100000 in
set_option maxHeartbeats 4000000 in
theorem n_X8_dualNumeratorByEquations {Φ : gwC} {hb : gwHp} {M : Nat} {sh : Nat → Option gSh} {th : Nat} {p1 : Int} {c : W0} {r : Int × Int × W0} {K : Option Value → gwHp → Prop} (h0 : sD sh th) (H : f_X8_dualNumeratorByEquations th p1 c = some r) (hr : r.1 = 0) (hK : K (some (vL r.2.1)) (hp Φ hb M sh r.2.2)) : gw_Con Φ nX8_dualNumeratorByEquations none [.ref (M + th), vI p1] (hp Φ hb M sh c) K := by
  unfold f_X8_dualNumeratorByEquations at H
  refine gw_start oknX8_dualNumeratorByEquations (Nat.le_of_ble_eq_true rfl) ?_
  refine gw_aload_n dX8_dualNumeratorByEquations_0 rfl rfl ?_
  refine gw_iload_n dX8_dualNumeratorByEquations_1 rfl rfl ?_
  obtain ⟨v2, c1, e_c1, H⟩ := cx_n hr H
  refine gw_V1 oknX8_requireConstraint dX8_dualNumeratorByEquations_2 kw_514 kw_516 kw_4 (hp_o (h0.1)) rfl ⟨by decide, by decide⟩ ⟨by decide, by decide⟩ (Nat.le_of_ble_eq_true rfl) (n_X8_requireConstraint (h0) e_c1 rfl ?_)
  refine gw_aload_n dX8_dualNumeratorByEquations_5 rfl rfl ?_
  refine gs_getR cl8 7 dX8_dualNumeratorByEquations_6 rfl kw_241 (by decide) (h0.1) rfl ?_
  refine gw_aload_n dX8_dualNumeratorByEquations_9 rfl rfl ?_
  refine gs_getR cl8 0 dX8_dualNumeratorByEquations_10 rfl kw_234 (by decide) (h0.1) rfl ?_
  obtain ⟨v3, c4, e_c4, H⟩ := cl_i H
  refine gw_V1 okX0_solveDuals dX8_dualNumeratorByEquations_13 kw_779 kw_780 kw_781 (hp_o (h0.2.2.2.2.2.2.2.2.1.1)) rfl ⟨by decide, by decide⟩ ⟨by decide, by decide⟩ (Nat.le_of_ble_eq_true rfl) (w_X0_solveDuals (h0.2.2.2.2.2.2.2.2.1) (h0.2.1) e_c4 ?_)
  refine gw_pop dX8_dualNumeratorByEquations_16 rfl rfl ?_
  refine gw_aload_n dX8_dualNumeratorByEquations_17 rfl rfl ?_
  refine gs_getR cl8 7 dX8_dualNumeratorByEquations_18 rfl kw_241 (by decide) (h0.1) rfl ?_
  refine gw_iload_n dX8_dualNumeratorByEquations_21 rfl rfl ?_
  obtain ⟨v5, e_v5, H⟩ := cv_i H
  refine gw_V1 okX0_unknown dX8_dualNumeratorByEquations_22 kw_801 kw_802 kw_803 (hp_o (h0.2.2.2.2.2.2.2.2.1.1)) rfl ⟨by decide, by decide⟩ ⟨by decide, by decide⟩ (Nat.le_of_ble_eq_true rfl) (w_X0_unknown (h0.2.2.2.2.2.2.2.2.1) e_v5 ?_)
  refine gw_aload_n dX8_dualNumeratorByEquations_25 rfl rfl ?_
  refine gs_getR cl8 7 dX8_dualNumeratorByEquations_26 rfl kw_241 (by decide) (h0.1) rfl ?_
  refine gs_getLN cl0 1 1 dX8_dualNumeratorByEquations_29 rfl kw_192 (by decide) (h0.2.2.2.2.2.2.2.2.1.1) rfl rfl ?_
  obtain ⟨v6, e_v6, H⟩ := cv_i H
  refine gw_S2 okX8_lowNumerator dX8_dualNumeratorByEquations_32 kw_708 kw_709 ⟨by decide, by decide⟩ ⟨by decide, by decide⟩ (Nat.le_of_ble_eq_true rfl) (w_X8_lowNumerator  e_v6 ?_)
  cases H
  exact gw_lret dX8_dualNumeratorByEquations_35 rfl (by decide) (by decide) hK
set_option maxRecDepth 100000 in
set_option maxHeartbeats 4000000 in
theorem n_X8_dualDenominatorByEquations {Φ : gwC} {hb : gwHp} {M : Nat} {sh : Nat → Option gSh} {th : Nat} {p1 : Int} {c : W0} {r : Int × Int × W0} {K : Option Value → gwHp → Prop} (h0 : sD sh th) (H : f_X8_dualDenominatorByEquations th p1 c = some r) (hr : r.1 = 0) (hK : K (some (vL r.2.1)) (hp Φ hb M sh r.2.2)) : gw_Con Φ nX8_dualDenominatorByEquations none [.ref (M + th), vI p1] (hp Φ hb M sh c) K := by
  unfold f_X8_dualDenominatorByEquations at H
  refine gw_start oknX8_dualDenominatorByEquations (Nat.le_of_ble_eq_true rfl) ?_
  refine gw_aload_n dX8_dualDenominatorByEquations_0 rfl rfl ?_
  refine gw_iload_n dX8_dualDenominatorByEquations_1 rfl rfl ?_
  obtain ⟨v2, c1, e_c1, H⟩ := cx_n hr H
  refine gw_V1 oknX8_requireConstraint dX8_dualDenominatorByEquations_2 kw_514 kw_516 kw_4 (hp_o (h0.1)) rfl ⟨by decide, by decide⟩ ⟨by decide, by decide⟩ (Nat.le_of_ble_eq_true rfl) (n_X8_requireConstraint (h0) e_c1 rfl ?_)
  refine gw_aload_n dX8_dualDenominatorByEquations_5 rfl rfl ?_
  refine gs_getR cl8 7 dX8_dualDenominatorByEquations_6 rfl kw_241 (by decide) (h0.1) rfl ?_
  refine gw_aload_n dX8_dualDenominatorByEquations_9 rfl rfl ?_
  refine gs_getR cl8 0 dX8_dualDenominatorByEquations_10 rfl kw_234 (by decide) (h0.1) rfl ?_
  obtain ⟨v3, c4, e_c4, H⟩ := cl_i H
  refine gw_V1 okX0_solveDuals dX8_dualDenominatorByEquations_13 kw_779 kw_780 kw_781 (hp_o (h0.2.2.2.2.2.2.2.2.1.1)) rfl ⟨by decide, by decide⟩ ⟨by decide, by decide⟩ (Nat.le_of_ble_eq_true rfl) (w_X0_solveDuals (h0.2.2.2.2.2.2.2.2.1) (h0.2.1) e_c4 ?_)
  refine gw_pop dX8_dualDenominatorByEquations_16 rfl rfl ?_
  refine gw_aload_n dX8_dualDenominatorByEquations_17 rfl rfl ?_
  refine gs_getR cl8 7 dX8_dualDenominatorByEquations_18 rfl kw_241 (by decide) (h0.1) rfl ?_
  refine gw_iload_n dX8_dualDenominatorByEquations_21 rfl rfl ?_
  obtain ⟨v5, e_v5, H⟩ := cv_i H
  refine gw_V1 okX0_unknown dX8_dualDenominatorByEquations_22 kw_801 kw_802 kw_803 (hp_o (h0.2.2.2.2.2.2.2.2.1.1)) rfl ⟨by decide, by decide⟩ ⟨by decide, by decide⟩ (Nat.le_of_ble_eq_true rfl) (w_X0_unknown (h0.2.2.2.2.2.2.2.2.1) e_v5 ?_)
  refine gw_aload_n dX8_dualDenominatorByEquations_25 rfl rfl ?_
  refine gs_getR cl8 7 dX8_dualDenominatorByEquations_26 rfl kw_241 (by decide) (h0.1) rfl ?_
  refine gs_getLN cl0 1 1 dX8_dualDenominatorByEquations_29 rfl kw_192 (by decide) (h0.2.2.2.2.2.2.2.2.1.1) rfl rfl ?_
  obtain ⟨v6, e_v6, H⟩ := cv_i H
  refine gw_S2 okX8_lowDenominator dX8_dualDenominatorByEquations_32 kw_695 kw_696 ⟨by decide, by decide⟩ ⟨by decide, by decide⟩ (Nat.le_of_ble_eq_true rfl) (w_X8_lowDenominator  e_v6 ?_)
  cases H
  exact gw_lret dX8_dualDenominatorByEquations_35 rfl (by decide) (by decide) hK
set_option maxRecDepth 100000 in
set_option maxHeartbeats 4000000 in
theorem n_X8_leastBound {Φ : gwC} {hb : gwHp} {M : Nat} {sh : Nat → Option gSh} {th : Nat} {p1 : Int} {c : W0} {r : Int × Int × W0} {K : Option Value → gwHp → Prop} (h0 : sD sh th) (H : f_X8_leastBound th p1 c = some r) (hr : r.1 = 0) (hK : K (some (vI r.2.1)) (hp Φ hb M sh r.2.2)) : gw_Con Φ nX8_leastBound none [.ref (M + th), vI p1] (hp Φ hb M sh c) K := by
  unfold f_X8_leastBound at H
  refine gw_start oknX8_leastBound (Nat.le_of_ble_eq_true rfl) ?_
  refine gw_aload_n dX8_leastBound_0 rfl rfl ?_
  refine gw_iload_n dX8_leastBound_1 rfl rfl ?_
  obtain ⟨v2, c1, e_c1, H⟩ := cx_n hr H
  refine gw_V1 oknX8_requireConstraint dX8_leastBound_2 kw_514 kw_516 kw_4 (hp_o (h0.1)) rfl ⟨by decide, by decide⟩ ⟨by decide, by decide⟩ (Nat.le_of_ble_eq_true rfl) (n_X8_requireConstraint (h0) e_c1 rfl ?_)
  refine gw_aload_n dX8_leastBound_5 rfl rfl ?_
  refine gs_getR cl8 0 dX8_leastBound_6 rfl kw_234 (by decide) (h0.1) rfl ?_
  refine gs_getRN cl4 0 dX8_leastBound_9 rfl kw_120 (by decide) (h0.2.1.1) rfl ?_
  refine gw_iload_n dX8_leastBound_12 rfl rfl ?_
  obtain ⟨v3, e_v3, H⟩ := cv_i H
  refine gw_V1 okX2_bound dX8_leastBound_13 kw_525 kw_445 kw_446 (hp_o (h0.2.1.2.1.1)) rfl ⟨by decide, by decide⟩ ⟨by decide, by decide⟩ (Nat.le_of_ble_eq_true rfl) (w_X2_bound (h0.2.1.2.1) e_v3 ?_)
  refine gw_istore_n dX8_leastBound_16 rfl (by decide) ?_
  refine gw_iconstZ dX8_leastBound_17 rfl ?_
  refine gw_iload_n dX8_leastBound_18 rfl rfl ?_
  refine gw_aload_n dX8_leastBound_19 rfl rfl ?_
  refine gs_getR cl8 0 dX8_leastBound_20 rfl kw_234 (by decide) (h0.1) rfl ?_
  refine gw_iload_n dX8_leastBound_23 rfl rfl ?_
  obtain ⟨v4, e_v4, H⟩ := cv_i H
  refine gw_V1 okX4_roomToFall dX8_leastBound_24 kw_896 kw_897 kw_898 (hp_o (h0.2.1.1)) rfl ⟨by decide, by decide⟩ ⟨by decide, by decide⟩ (Nat.le_of_ble_eq_true rfl) (w_X4_roomToFall (h0.2.1) e_v4 ?_)
  refine gw_isubZ dX8_leastBound_27 rfl ?_
  obtain ⟨g, H⟩ := gd_i H
  refine gw_mmaxZ dX8_leastBound_28 rfl kw_908 kw_62 kw_21 kw_63 (by decide) (Nat.le_of_ble_eq_true rfl) (by decide) (by decide) (by decide) g ?_
  cases H
  exact gw_iret dX8_leastBound_31 rfl (by decide) (by decide) hK
set_option maxRecDepth 100000 in
set_option maxHeartbeats 4000000 in
theorem n_X8_greatestBound {Φ : gwC} {hb : gwHp} {M : Nat} {sh : Nat → Option gSh} {th : Nat} {p1 : Int} {c : W0} {r : Int × Int × W0} {K : Option Value → gwHp → Prop} (h0 : sD sh th) (H : f_X8_greatestBound th p1 c = some r) (hr : r.1 = 0) (hK : K (some (vI r.2.1)) (hp Φ hb M sh r.2.2)) : gw_Con Φ nX8_greatestBound none [.ref (M + th), vI p1] (hp Φ hb M sh c) K := by
  unfold f_X8_greatestBound at H
  refine gw_start oknX8_greatestBound (Nat.le_of_ble_eq_true rfl) ?_
  refine gw_aload_n dX8_greatestBound_0 rfl rfl ?_
  refine gw_iload_n dX8_greatestBound_1 rfl rfl ?_
  obtain ⟨v2, c1, e_c1, H⟩ := cx_n hr H
  refine gw_V1 oknX8_requireConstraint dX8_greatestBound_2 kw_514 kw_516 kw_4 (hp_o (h0.1)) rfl ⟨by decide, by decide⟩ ⟨by decide, by decide⟩ (Nat.le_of_ble_eq_true rfl) (n_X8_requireConstraint (h0) e_c1 rfl ?_)
  refine gw_aload_n dX8_greatestBound_5 rfl rfl ?_
  refine gs_getR cl8 0 dX8_greatestBound_6 rfl kw_234 (by decide) (h0.1) rfl ?_
  refine gs_getRN cl4 0 dX8_greatestBound_9 rfl kw_120 (by decide) (h0.2.1.1) rfl ?_
  refine gw_iload_n dX8_greatestBound_12 rfl rfl ?_
  obtain ⟨v3, e_v3, H⟩ := cv_i H
  refine gw_V1 okX2_bound dX8_greatestBound_13 kw_525 kw_445 kw_446 (hp_o (h0.2.1.2.1.1)) rfl ⟨by decide, by decide⟩ ⟨by decide, by decide⟩ (Nat.le_of_ble_eq_true rfl) (w_X2_bound (h0.2.1.2.1) e_v3 ?_)
  refine gw_istore_n dX8_greatestBound_16 rfl (by decide) ?_
  refine gw_bipushZ dX8_greatestBound_17 rfl (by decide) ?_
  refine gw_iload_n dX8_greatestBound_19 rfl rfl ?_
  refine gw_aload_n dX8_greatestBound_20 rfl rfl ?_
  refine gs_getR cl8 0 dX8_greatestBound_21 rfl kw_234 (by decide) (h0.1) rfl ?_
  refine gw_iload_n dX8_greatestBound_24 rfl rfl ?_
  obtain ⟨v4, e_v4, H⟩ := cv_i H
  refine gw_V1 okX4_roomToRise dX8_greatestBound_25 kw_913 kw_914 kw_915 (hp_o (h0.2.1.1)) rfl ⟨by decide, by decide⟩ ⟨by decide, by decide⟩ (Nat.le_of_ble_eq_true rfl) (w_X4_roomToRise (h0.2.1) e_v4 ?_)
  refine gw_iaddZ dX8_greatestBound_28 rfl ?_
  obtain ⟨g, H⟩ := gd_i H
  refine gw_mminZ dX8_greatestBound_29 rfl kw_917 kw_845 kw_21 kw_846 (by decide) (Nat.le_of_ble_eq_true rfl) (by decide) (by decide) (by decide) g ?_
  cases H
  exact gw_iret dX8_greatestBound_32 rfl (by decide) (by decide) hK
set_option maxRecDepth 100000 in
set_option maxHeartbeats 4000000 in
theorem n_X8_requireOpen {Φ : gwC} {hb : gwHp} {M : Nat} {sh : Nat → Option gSh} {th : Nat} {c : W0} {r : Int × Int × W0} {K : Option Value → gwHp → Prop} (h0 : sD sh th) (H : f_X8_requireOpen th c = some r) (hr : r.1 = 0) (hK : K none (hp Φ hb M sh r.2.2)) : gw_Con Φ nX8_requireOpen none [.ref (M + th)] (hp Φ hb M sh c) K := by
  unfold f_X8_requireOpen at H
  refine gw_start oknX8_requireOpen (Nat.le_of_ble_eq_true rfl) ?_
  refine gw_aload_n dX8_requireOpen_0 rfl rfl ?_
  refine gs_getR cl8 0 dX8_requireOpen_1 rfl kw_234 (by decide) (h0.1) rfl ?_
  refine gs_getRN cl4 1 dX8_requireOpen_4 rfl kw_124 (by decide) (h0.2.1.1) rfl ?_
  obtain ⟨v1, e_v1, H⟩ := cv_i H
  refine gw_V0 okX6_isOpen dX8_requireOpen_7 kw_603 kw_604 kw_605 (hp_o (h0.2.1.2.2.1)) rfl ⟨by decide, by decide⟩ ⟨by decide, by decide⟩ (Nat.le_of_ble_eq_true rfl) (w_X6_isOpen (h0.2.1.2.2) e_v1 ?_)
  obtain ⟨g, H⟩ := gd_i H
  refine gw_if_neZ (tgt := 24) dX8_requireOpen_10 rfl (by decide) g (fun q => ?_) (fun q => ?_)
  · have H := bq_f q H
    cases H
    exact gw_vret dX8_requireOpen_24 rfl (by decide) (by decide) hK
  · have H := bq_t q H
    exact absurd (show (2 : Int) = 0 from (congrArg (fun z => z.1) (Option.some.inj H)).trans hr) (by decide)
set_option maxRecDepth 100000 in
set_option maxHeartbeats 4000000 in
theorem n_X8_nextColumn {Φ : gwC} {hb : gwHp} {M : Nat} {sh : Nat → Option gSh} {th : Nat} {c : W0} {r : Int × Int × W0} {K : Option Value → gwHp → Prop} (h0 : sD sh th) (H : f_X8_nextColumn th c = some r) (hr : r.1 = 0) (hK : K (some (vI r.2.1)) (hp Φ hb M sh r.2.2)) : gw_Con Φ nX8_nextColumn none [.ref (M + th)] (hp Φ hb M sh c) K := by
  unfold f_X8_nextColumn at H
  refine gw_start oknX8_nextColumn (Nat.le_of_ble_eq_true rfl) ?_
  refine gw_aload_n dX8_nextColumn_0 rfl rfl ?_
  obtain ⟨v2, c1, e_c1, H⟩ := cx_n hr H
  refine gw_V0 oknX8_requireOpen dX8_nextColumn_1 kw_599 kw_601 kw_7 (hp_o (h0.1)) rfl ⟨by decide, by decide⟩ ⟨by decide, by decide⟩ (Nat.le_of_ble_eq_true rfl) (n_X8_requireOpen (h0) e_c1 rfl ?_)
  refine gw_aload_n dX8_nextColumn_4 rfl rfl ?_
  refine gs_getR cl8 0 dX8_nextColumn_5 rfl kw_234 (by decide) (h0.1) rfl ?_
  obtain ⟨v3, e_v3, H⟩ := cv_i H
  refine gw_V0 okX4_chosenColumn dX8_nextColumn_8 kw_616 kw_617 kw_618 (hp_o (h0.2.1.1)) rfl ⟨by decide, by decide⟩ ⟨by decide, by decide⟩ (Nat.le_of_ble_eq_true rfl) (w_X4_chosenColumn (h0.2.1) e_v3 ?_)
  cases H
  exact gw_iret dX8_nextColumn_11 rfl (by decide) (by decide) hK
set_option maxRecDepth 100000 in
set_option maxHeartbeats 4000000 in
theorem n_X8_nextRow {Φ : gwC} {hb : gwHp} {M : Nat} {sh : Nat → Option gSh} {th : Nat} {c : W0} {r : Int × Int × W0} {K : Option Value → gwHp → Prop} (h0 : sD sh th) (H : f_X8_nextRow th c = some r) (hr : r.1 = 0) (hK : K (some (vI r.2.1)) (hp Φ hb M sh r.2.2)) : gw_Con Φ nX8_nextRow none [.ref (M + th)] (hp Φ hb M sh c) K := by
  unfold f_X8_nextRow at H
  refine gw_start oknX8_nextRow (Nat.le_of_ble_eq_true rfl) ?_
  refine gw_aload_n dX8_nextRow_0 rfl rfl ?_
  obtain ⟨v2, c1, e_c1, H⟩ := cx_n hr H
  refine gw_V0 oknX8_requireOpen dX8_nextRow_1 kw_599 kw_601 kw_7 (hp_o (h0.1)) rfl ⟨by decide, by decide⟩ ⟨by decide, by decide⟩ (Nat.le_of_ble_eq_true rfl) (n_X8_requireOpen (h0) e_c1 rfl ?_)
  refine gw_aload_n dX8_nextRow_4 rfl rfl ?_
  refine gs_getR cl8 0 dX8_nextRow_5 rfl kw_234 (by decide) (h0.1) rfl ?_
  refine gs_getRN cl4 1 dX8_nextRow_8 rfl kw_124 (by decide) (h0.2.1.1) rfl ?_
  refine gw_aload_n dX8_nextRow_11 rfl rfl ?_
  refine gs_getR cl8 0 dX8_nextRow_12 rfl kw_234 (by decide) (h0.1) rfl ?_
  obtain ⟨v3, e_v3, H⟩ := cv_i H
  refine gw_V0 okX4_chosenColumn dX8_nextRow_15 kw_616 kw_617 kw_618 (hp_o (h0.2.1.1)) rfl ⟨by decide, by decide⟩ ⟨by decide, by decide⟩ (Nat.le_of_ble_eq_true rfl) (w_X4_chosenColumn (h0.2.1) e_v3 ?_)
  obtain ⟨v4, e_v4, H⟩ := cv_i H
  refine gw_V1 okX6_leastRow dX8_nextRow_18 kw_628 kw_571 kw_572 (hp_o (h0.2.1.2.2.1)) rfl ⟨by decide, by decide⟩ ⟨by decide, by decide⟩ (Nat.le_of_ble_eq_true rfl) (w_X6_leastRow (h0.2.1.2.2) e_v4 ?_)
  cases H
  exact gw_iret dX8_nextRow_21 rfl (by decide) (by decide) hK
set_option maxRecDepth 100000 in
set_option maxHeartbeats 4000000 in
theorem n_X8_pivot {Φ : gwC} {hb : gwHp} {M : Nat} {sh : Nat → Option gSh} {th : Nat} {p1 : Int} {p2 : Int} {c : W0} {r : Int × Int × W0} {K : Option Value → gwHp → Prop} (h0 : sD sh th) (H : f_X8_pivot th p1 p2 c = some r) (hr : r.1 = 0) (hK : K (some (vI r.2.1)) (hp Φ hb M sh r.2.2)) : gw_Con Φ nX8_pivot none [.ref (M + th), vI p1, vI p2] (hp Φ hb M sh c) K := by
  unfold f_X8_pivot at H
  refine gw_start oknX8_pivot (Nat.le_of_ble_eq_true rfl) ?_
  refine gw_aload_n dX8_pivot_0 rfl rfl ?_
  refine gw_iload_n dX8_pivot_1 rfl rfl ?_
  obtain ⟨v2, c1, e_c1, H⟩ := cx_n hr H
  refine gw_V1 oknX8_requireRow dX8_pivot_2 kw_539 kw_541 kw_5 (hp_o (h0.1)) rfl ⟨by decide, by decide⟩ ⟨by decide, by decide⟩ (Nat.le_of_ble_eq_true rfl) (n_X8_requireRow (h0) e_c1 rfl ?_)
  refine gw_aload_n dX8_pivot_5 rfl rfl ?_
  refine gw_iload_n dX8_pivot_6 rfl rfl ?_
  obtain ⟨v4, c3, e_c3, H⟩ := cx_n hr H
  refine gw_V1 oknX8_requireColumn dX8_pivot_7 kw_544 kw_546 kw_6 (hp_o (h0.1)) rfl ⟨by decide, by decide⟩ ⟨by decide, by decide⟩ (Nat.le_of_ble_eq_true rfl) (n_X8_requireColumn (h0) e_c3 rfl ?_)
  refine gw_aload_n dX8_pivot_10 rfl rfl ?_
  refine gs_getR cl8 0 dX8_pivot_11 rfl kw_234 (by decide) (h0.1) rfl ?_
  refine gs_getRN cl4 1 dX8_pivot_14 rfl kw_124 (by decide) (h0.2.1.1) rfl ?_
  refine gw_iload_n dX8_pivot_17 rfl rfl ?_
  refine gw_iload_n dX8_pivot_18 rfl rfl ?_
  obtain ⟨v5, e_v5, H⟩ := cv_i H
  refine gw_V2 okX6_obstacle dX8_pivot_19 kw_549 kw_550 kw_551 (hp_o (h0.2.1.2.2.1)) rfl ⟨by decide, by decide⟩ ⟨by decide, by decide⟩ (Nat.le_of_ble_eq_true rfl) (w_X6_obstacle (h0.2.1.2.2) e_v5 ?_)
  obtain ⟨g, H⟩ := gd_i H
  refine gw_if_eqZ (tgt := 35) dX8_pivot_22 rfl (by decide) g (fun q => ?_) (fun q => ?_)
  · have H := bq_t q H
    refine gw_aload_n dX8_pivot_35 rfl rfl ?_
    obtain ⟨v7, c6, e_c6, H⟩ := cl_i H
    refine gw_V0 okX8_saveState dX8_pivot_36 kw_407 kw_409 kw_1 (hp_o (h0.1)) rfl ⟨by decide, by decide⟩ ⟨by decide, by decide⟩ (Nat.le_of_ble_eq_true rfl) (w_X8_saveState (h0) e_c6 ?_)
    refine gw_aload_n dX8_pivot_39 rfl rfl ?_
    refine gs_getR cl8 0 dX8_pivot_40 rfl kw_234 (by decide) (h0.1) rfl ?_
    refine gs_getRN cl4 1 dX8_pivot_43 rfl kw_124 (by decide) (h0.2.1.1) rfl ?_
    refine gw_iload_n dX8_pivot_46 rfl rfl ?_
    obtain ⟨v8, e_v8, H⟩ := cv_i H
    refine gw_V1 okX6_namedBy dX8_pivot_47 kw_579 kw_558 kw_559 (hp_o (h0.2.1.2.2.1)) rfl ⟨by decide, by decide⟩ ⟨by decide, by decide⟩ (Nat.le_of_ble_eq_true rfl) (w_X6_namedBy (h0.2.1.2.2) e_v8 ?_)
    refine gw_istore_n dX8_pivot_50 rfl (by decide) ?_
    refine gw_aload_n dX8_pivot_51 rfl rfl ?_
    refine gs_getR cl8 0 dX8_pivot_52 rfl kw_234 (by decide) (h0.1) rfl ?_
    refine gw_iload_n dX8_pivot_55 rfl rfl ?_
    refine gw_iload_n dX8_pivot_56 rfl rfl ?_
    obtain ⟨v10, c9, e_c9, H⟩ := cl_i H
    refine gw_V2 okX4_turn dX8_pivot_57 kw_580 kw_581 kw_582 (hp_o (h0.2.1.1)) rfl ⟨by decide, by decide⟩ ⟨by decide, by decide⟩ (Nat.le_of_ble_eq_true rfl) (w_X4_turn (h0.2.1) e_c9 ?_)
    refine gw_iload_n dX8_pivot_60 rfl rfl ?_
    cases H
    exact gw_iret dX8_pivot_61 rfl (by decide) (by decide) hK
  · have H := bq_f q H
    exact absurd (show (2 : Int) = 0 from (congrArg (fun z => z.1) (Option.some.inj H)).trans hr) (by decide)
set_option maxRecDepth 100000 in
set_option maxHeartbeats 4000000 in
theorem n_X8_undo {Φ : gwC} {hb : gwHp} {M : Nat} {sh : Nat → Option gSh} {th : Nat} {c : W0} {r : Int × Int × W0} {K : Option Value → gwHp → Prop} (h0 : sD sh th) (H : f_X8_undo th c = some r) (hr : r.1 = 0) (hK : K (some (vI r.2.1)) (hp Φ hb M sh r.2.2)) : gw_Con Φ nX8_undo none [.ref (M + th)] (hp Φ hb M sh c) K := by
  unfold f_X8_undo at H
  refine gw_start oknX8_undo (Nat.le_of_ble_eq_true rfl) ?_
  refine gw_aload_n dX8_undo_0 rfl rfl ?_
  refine gs_getI cl8 10 10 dX8_undo_1 rfl kw_243 (by decide) (h0.1) rfl rfl ?_
  refine gw_iconstZ dX8_undo_4 rfl ?_
  obtain ⟨g, H⟩ := gd_i H
  obtain ⟨k1, e_k1, H⟩ := jn_i H
  have hJ_k1 : ∀ (u2 : Unit), k1 u2 = some r → G Φ nX8_undo (gw_M Φ nX8_undo K) none 0 0 20 [] [] (hp Φ hb M sh c) := by
    intro u2 H
    subst e_k1
    exact absurd (show (2 : Int) = 0 from (congrArg (fun z => z.1) (Option.some.inj H)).trans hr) (by decide)
  refine gw_icmp_ltZ (tgt := 20) dX8_undo_5 rfl (by decide) g (by decide) (fun q => ?_) (fun q => ?_)
  · have H := bq_t q H
    exact gw_L (hJ_k1 _ H) (lvA_n)
  · have H := bq_f q H
    refine gw_aload_n dX8_undo_8 rfl rfl ?_
    refine gs_getI cl8 10 10 dX8_undo_9 rfl kw_243 (by decide) (h0.1) rfl rfl ?_
    refine gw_aload_n dX8_undo_12 rfl rfl ?_
    refine gs_getR cl8 3 dX8_undo_13 rfl kw_237 (by decide) (h0.1) rfl ?_
    refine gs_alenR dX8_undo_16 rfl (h0.2.2.2.2.1) ?_
    obtain ⟨g, H⟩ := gd_i H
    refine gw_icmp_leZ (tgt := 30) dX8_undo_17 rfl (by decide) g (by decide) (fun q => ?_) (fun q => ?_)
    · have H := bq_t q H
      refine gw_aload_n dX8_undo_30 rfl rfl ?_
      refine gw_dup dX8_undo_31 rfl rfl ?_
      refine gs_getI cl8 10 10 dX8_undo_32 rfl kw_243 (by decide) (h0.1) rfl rfl ?_
      refine gw_iconstZ dX8_undo_35 rfl ?_
      refine gw_isubZ dX8_undo_36 rfl ?_
      obtain ⟨c3, e_c3, H⟩ := sto_i H
      refine gs_putIE cl8 10 10 dX8_undo_37 rfl kw_243 (by decide) rfl rfl (h0.1) rfl rfl e_c3 ?_
      refine gw_aload_n dX8_undo_40 rfl rfl ?_
      refine gs_getR cl8 0 dX8_undo_41 rfl kw_234 (by decide) (h0.1) rfl ?_
      refine gw_aload_n dX8_undo_44 rfl rfl ?_
      refine gs_getR cl8 3 dX8_undo_45 rfl kw_237 (by decide) (h0.1) rfl ?_
      refine gw_aload_n dX8_undo_48 rfl rfl ?_
      refine gs_getI cl8 10 10 dX8_undo_49 rfl kw_243 (by decide) (h0.1) rfl rfl ?_
      obtain ⟨g, H⟩ := gd_i H
      refine gs_aaldZ dX8_undo_52 rfl (h0.2.2.2.2.1) g (by decide) ?_
      obtain ⟨hz4, H⟩ := gd_i H
      have hz4 := stP_s h0 hz4
      obtain ⟨v6, c5, e_c5, H⟩ := cl_i H
      refine gw_V1 okX4_copy dX8_undo_53 kw_339 kw_340 kw_341 (hp_o (h0.2.1.1)) rfl ⟨by decide, by decide⟩ ⟨by decide, by decide⟩ (Nat.le_of_ble_eq_true rfl) (w_X4_copy (h0.2.1) (hz4) e_c5 ?_)
      refine gw_aload_n dX8_undo_56 rfl rfl ?_
      refine gs_getI cl8 10 10 dX8_undo_57 rfl kw_243 (by decide) (h0.1) rfl rfl ?_
      cases H
      exact gw_iret dX8_undo_60 rfl (by decide) (by decide) hK
    · have H := bq_f q H
      exact gw_L (hJ_k1 _ H) (lvA_n)
set_option maxRecDepth 100000 in
set_option maxHeartbeats 4000000 in
theorem n_X8_step {Φ : gwC} {hb : gwHp} {M : Nat} {sh : Nat → Option gSh} {th : Nat} {c : W0} {r : Int × Int × W0} {K : Option Value → gwHp → Prop} (h0 : sD sh th) (H : f_X8_step th c = some r) (hr : r.1 = 0) (hK : K (some (vI r.2.1)) (hp Φ hb M sh r.2.2)) : gw_Con Φ nX8_step none [.ref (M + th)] (hp Φ hb M sh c) K := by
  unfold f_X8_step at H
  refine gw_start oknX8_step (Nat.le_of_ble_eq_true rfl) ?_
  refine gw_aload_n dX8_step_0 rfl rfl ?_
  obtain ⟨v2, c1, e_c1, H⟩ := cx_n hr H
  refine gw_V0 oknX8_requireOpen dX8_step_1 kw_599 kw_601 kw_7 (hp_o (h0.1)) rfl ⟨by decide, by decide⟩ ⟨by decide, by decide⟩ (Nat.le_of_ble_eq_true rfl) (n_X8_requireOpen (h0) e_c1 rfl ?_)
  refine gw_aload_n dX8_step_4 rfl rfl ?_
  obtain ⟨v4, c3, e_c3, H⟩ := cl_i H
  refine gw_V0 okX8_saveState dX8_step_5 kw_407 kw_409 kw_1 (hp_o (h0.1)) rfl ⟨by decide, by decide⟩ ⟨by decide, by decide⟩ (Nat.le_of_ble_eq_true rfl) (w_X8_saveState (h0) e_c3 ?_)
  refine gw_aload_n dX8_step_8 rfl rfl ?_
  refine gs_getR cl8 0 dX8_step_9 rfl kw_234 (by decide) (h0.1) rfl ?_
  obtain ⟨v5, e_v5, H⟩ := cv_i H
  refine gw_V0 okX4_chosenColumn dX8_step_12 kw_616 kw_617 kw_618 (hp_o (h0.2.1.1)) rfl ⟨by decide, by decide⟩ ⟨by decide, by decide⟩ (Nat.le_of_ble_eq_true rfl) (w_X4_chosenColumn (h0.2.1) e_v5 ?_)
  refine gw_istore_n dX8_step_15 rfl (by decide) ?_
  refine gw_aload_n dX8_step_16 rfl rfl ?_
  refine gs_getR cl8 0 dX8_step_17 rfl kw_234 (by decide) (h0.1) rfl ?_
  refine gw_aload_n dX8_step_20 rfl rfl ?_
  refine gs_getR cl8 0 dX8_step_21 rfl kw_234 (by decide) (h0.1) rfl ?_
  refine gs_getRN cl4 1 dX8_step_24 rfl kw_124 (by decide) (h0.2.1.1) rfl ?_
  refine gw_iload_n dX8_step_27 rfl rfl ?_
  obtain ⟨v6, e_v6, H⟩ := cv_i H
  refine gw_V1 okX6_leastRow dX8_step_28 kw_628 kw_571 kw_572 (hp_o (h0.2.1.2.2.1)) rfl ⟨by decide, by decide⟩ ⟨by decide, by decide⟩ (Nat.le_of_ble_eq_true rfl) (w_X6_leastRow (h0.2.1.2.2) e_v6 ?_)
  refine gw_iload_n dX8_step_31 rfl rfl ?_
  obtain ⟨v8, c7, e_c7, H⟩ := cl_i H
  refine gw_V2 okX4_turn dX8_step_32 kw_580 kw_581 kw_582 (hp_o (h0.2.1.1)) rfl ⟨by decide, by decide⟩ ⟨by decide, by decide⟩ (Nat.le_of_ble_eq_true rfl) (w_X4_turn (h0.2.1) e_c7 ?_)
  refine gw_iload_n dX8_step_35 rfl rfl ?_
  cases H
  exact gw_iret dX8_step_36 rfl (by decide) (by decide) hK
end NA
