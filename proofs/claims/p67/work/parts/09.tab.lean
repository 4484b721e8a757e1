section GT
abbrev mX0_init : gwY := (yX0_init, cX0_init, 1, (Option.none : Option Jvm.ClassFile.FieldType), { frames := 3, cells := 2, slots := 142, locals := 83 }, [])
theorem okX0_init : gw_ok mX0_init 0 := ⟨by decide +kernel, kw_184, kw_25, by decide +kernel, rfl⟩
abbrev mX0_unknown : gwY := (yX0_unknown, cX0_unknown, 2, (Option.some Jvm.ClassFile.FieldType.long), { frames := 2, cells := 0, slots := 0, locals := 63 }, [])
theorem okX0_unknown : gw_ok mX0_unknown 1 := ⟨by decide +kernel, kw_804, kw_25, by decide +kernel, rfl⟩
abbrev mX0_solveDuals : gwY := (yX0_solveDuals, cX0_solveDuals, 5, (Option.some Jvm.ClassFile.FieldType.boolean), { frames := 4, cells := 0, slots := 0, locals := 121 }, [])
theorem okX0_solveDuals : gw_ok mX0_solveDuals 1 := ⟨by decide +kernel, kw_782, kw_25, by decide +kernel, rfl⟩
abbrev mX0_solveBasis : gwY := (yX0_solveBasis, cX0_solveBasis, 6, (Option.some Jvm.ClassFile.FieldType.boolean), { frames := 4, cells := 0, slots := 0, locals := 121 }, [])
theorem okX0_solveBasis : gw_ok mX0_solveBasis 2 := ⟨by decide +kernel, kw_856, kw_25, by decide +kernel, rfl⟩
abbrev mX0_eliminate : gwY := (yX0_eliminate, cX0_eliminate, 4, (Option.some Jvm.ClassFile.FieldType.boolean), { frames := 3, cells := 0, slots := 0, locals := 98 }, [])
theorem okX0_eliminate : gw_ok mX0_eliminate 0 := ⟨by decide +kernel, kw_790, kw_25, by decide +kernel, rfl⟩
abbrev mX0_rowWith : gwY := (yX0_rowWith, cX0_rowWith, 3, (Option.some Jvm.ClassFile.FieldType.int), { frames := 2, cells := 0, slots := 0, locals := 63 }, [])
theorem okX0_rowWith : gw_ok mX0_rowWith 1 := ⟨by decide +kernel, kw_794, kw_25, by decide +kernel, rfl⟩
abbrev mX0_swap : gwY := (yX0_swap, cX0_swap, 6, (Option.none : Option Jvm.ClassFile.FieldType), { frames := 2, cells := 0, slots := 0, locals := 65 }, [])
theorem okX0_swap : gw_ok mX0_swap 2 := ⟨by decide +kernel, kw_799, kw_25, by decide +kernel, rfl⟩
abbrev mX1_init : gwY := (yX1_init, cX1_init, 3, (Option.none : Option Jvm.ClassFile.FieldType), { frames := 2, cells := 1, slots := 140, locals := 61 }, [])
theorem okX1_init : gw_ok mX1_init 2 := ⟨by decide +kernel, kw_59, kw_20, by decide +kernel, rfl⟩
abbrev mX1_at : gwY := (yX1_at, cX1_at, 4, (Option.some Jvm.ClassFile.FieldType.long), { frames := 1, cells := 0, slots := 0, locals := 40 }, [])
theorem okX1_at : gw_ok mX1_at 2 := ⟨by decide +kernel, kw_443, kw_20, by decide +kernel, rfl⟩
abbrev mX1_put : gwY := (yX1_put, cX1_put, 6, (Option.none : Option Jvm.ClassFile.FieldType), { frames := 1, cells := 0, slots := 0, locals := 40 }, [])
theorem okX1_put : gw_ok mX1_put 3 := ⟨by decide +kernel, kw_422, kw_20, by decide +kernel, rfl⟩
abbrev mX1_clear : gwY := (yX1_clear, cX1_clear, 14, (Option.none : Option Jvm.ClassFile.FieldType), { frames := 2, cells := 0, slots := 0, locals := 65 }, [])
theorem okX1_clear : gw_ok mX1_clear 5 := ⟨by decide +kernel, kw_592, kw_20, by decide +kernel, rfl⟩
abbrev mX1_copy : gwY := (yX1_copy, cX1_copy, 2, (Option.none : Option Jvm.ClassFile.FieldType), { frames := 1, cells := 0, slots := 0, locals := 40 }, [])
theorem okX1_copy : gw_ok mX1_copy 1 := ⟨by decide +kernel, kw_350, kw_20, by decide +kernel, rfl⟩
abbrev mX2_init : gwY := (yX2_init, cX2_init, 1, (Option.none : Option Jvm.ClassFile.FieldType), { frames := 3, cells := 2, slots := 142, locals := 83 }, [])
theorem okX2_init : gw_ok mX2_init 0 := ⟨by decide +kernel, kw_53, kw_19, by decide +kernel, rfl⟩
abbrev mX2_profit : gwY := (yX2_profit, cX2_profit, 2, (Option.some Jvm.ClassFile.FieldType.int), { frames := 2, cells := 0, slots := 0, locals := 63 }, [])
theorem okX2_profit : gw_ok mX2_profit 1 := ⟨by decide +kernel, kw_455, kw_19, by decide +kernel, rfl⟩
abbrev mX2_putProfit : gwY := (yX2_putProfit, cX2_putProfit, 3, (Option.none : Option Jvm.ClassFile.FieldType), { frames := 2, cells := 0, slots := 0, locals := 65 }, [])
theorem okX2_putProfit : gw_ok mX2_putProfit 2 := ⟨by decide +kernel, kw_488, kw_19, by decide +kernel, rfl⟩
abbrev mX2_coefficient : gwY := (yX2_coefficient, cX2_coefficient, 3, (Option.some Jvm.ClassFile.FieldType.int), { frames := 2, cells := 0, slots := 0, locals := 63 }, [])
theorem okX2_coefficient : gw_ok mX2_coefficient 2 := ⟨by decide +kernel, kw_439, kw_19, by decide +kernel, rfl⟩
abbrev mX2_putCoefficient : gwY := (yX2_putCoefficient, cX2_putCoefficient, 4, (Option.none : Option Jvm.ClassFile.FieldType), { frames := 2, cells := 0, slots := 0, locals := 65 }, [])
theorem okX2_putCoefficient : gw_ok mX2_putCoefficient 3 := ⟨by decide +kernel, kw_505, kw_19, by decide +kernel, rfl⟩
abbrev mX2_bound : gwY := (yX2_bound, cX2_bound, 2, (Option.some Jvm.ClassFile.FieldType.int), { frames := 2, cells := 0, slots := 0, locals := 63 }, [])
theorem okX2_bound : gw_ok mX2_bound 1 := ⟨by decide +kernel, kw_447, kw_19, by decide +kernel, rfl⟩
abbrev mX2_putBound : gwY := (yX2_putBound, cX2_putBound, 3, (Option.none : Option Jvm.ClassFile.FieldType), { frames := 2, cells := 0, slots := 0, locals := 65 }, [])
theorem okX2_putBound : gw_ok mX2_putBound 2 := ⟨by decide +kernel, kw_509, kw_19, by decide +kernel, rfl⟩
abbrev mX2_firstFactor : gwY := (yX2_firstFactor, cX2_firstFactor, 3, (Option.some Jvm.ClassFile.FieldType.int), { frames := 3, cells := 0, slots := 0, locals := 85 }, [])
theorem okX2_firstFactor : gw_ok mX2_firstFactor 2 := ⟨by decide +kernel, kw_435, kw_19, by decide +kernel, rfl⟩
abbrev mX2_columnProfit : gwY := (yX2_columnProfit, cX2_columnProfit, 2, (Option.some Jvm.ClassFile.FieldType.int), { frames := 3, cells := 0, slots := 0, locals := 84 }, [])
theorem okX2_columnProfit : gw_ok mX2_columnProfit 1 := ⟨by decide +kernel, kw_451, kw_19, by decide +kernel, rfl⟩
abbrev mX2_resize : gwY := (yX2_resize, cX2_resize, 4, (Option.none : Option Jvm.ClassFile.FieldType), { frames := 2, cells := 0, slots := 0, locals := 65 }, [])
theorem okX2_resize : gw_ok mX2_resize 1 := ⟨by decide +kernel, kw_418, kw_19, by decide +kernel, rfl⟩
abbrev mX2_add : gwY := (yX2_add, cX2_add, 4, (Option.some Jvm.ClassFile.FieldType.int), { frames := 3, cells := 0, slots := 0, locals := 88 }, [])
theorem okX2_add : gw_ok mX2_add 1 := ⟨by decide +kernel, kw_501, kw_19, by decide +kernel, rfl⟩
abbrev mX2_drop : gwY := (yX2_drop, cX2_drop, 4, (Option.none : Option Jvm.ClassFile.FieldType), { frames := 2, cells := 0, slots := 0, locals := 65 }, [])
theorem okX2_drop : gw_ok mX2_drop 1 := ⟨by decide +kernel, kw_534, kw_19, by decide +kernel, rfl⟩
abbrev mX2_copy : gwY := (yX2_copy, cX2_copy, 2, (Option.none : Option Jvm.ClassFile.FieldType), { frames := 2, cells := 0, slots := 0, locals := 61 }, [])
theorem okX2_copy : gw_ok mX2_copy 1 := ⟨by decide +kernel, kw_346, kw_19, by decide +kernel, rfl⟩
abbrev mX3_init : gwY := (yX3_init, cX3_init, 1, (Option.none : Option Jvm.ClassFile.FieldType), { frames := 4, cells := 6, slots := 289, locals := 103 }, [])
theorem okX3_init : gw_ok mX3_init 0 := ⟨by decide +kernel, kw_165, kw_24, by decide +kernel, rfl⟩
abbrev mX4_init : gwY := (yX4_init, cX4_init, 1, (Option.none : Option Jvm.ClassFile.FieldType), { frames := 4, cells := 8, slots := 434, locals := 103 }, [])
theorem okX4_init : gw_ok mX4_init 0 := ⟨by decide +kernel, kw_47, kw_18, by decide +kernel, rfl⟩
abbrev mX4_copy : gwY := (yX4_copy, cX4_copy, 2, (Option.none : Option Jvm.ClassFile.FieldType), { frames := 3, cells := 0, slots := 0, locals := 82 }, [])
theorem okX4_copy : gw_ok mX4_copy 1 := ⟨by decide +kernel, kw_342, kw_18, by decide +kernel, rfl⟩
abbrev mX4_start : gwY := (yX4_start, cX4_start, 1, (Option.none : Option Jvm.ClassFile.FieldType), { frames := 5, cells := 0, slots := 0, locals := 130 }, [])
theorem okX4_start : gw_ok mX4_start 0 := ⟨by decide +kernel, kw_426, kw_18, by decide +kernel, rfl⟩
abbrev mX4_chosenColumn : gwY := (yX4_chosenColumn, cX4_chosenColumn, 1, (Option.some Jvm.ClassFile.FieldType.int), { frames := 5, cells := 0, slots := 0, locals := 147 }, [])
theorem okX4_chosenColumn : gw_ok mX4_chosenColumn 0 := ⟨by decide +kernel, kw_619, kw_18, by decide +kernel, rfl⟩
abbrev mX4_turn : gwY := (yX4_turn, cX4_turn, 3, (Option.none : Option Jvm.ClassFile.FieldType), { frames := 4, cells := 0, slots := 0, locals := 123 }, [])
theorem okX4_turn : gw_ok mX4_turn 2 := ⟨by decide +kernel, kw_583, kw_18, by decide +kernel, rfl⟩
abbrev mX4_run : gwY := (yX4_run, cX4_run, 3, (Option.some Jvm.ClassFile.FieldType.int), { frames := 5, cells := 0, slots := 0, locals := 147 }, [])
theorem okX4_run : gw_ok mX4_run 0 := ⟨by decide +kernel, kw_636, kw_18, by decide +kernel, rfl⟩
abbrev mX4_dual : gwY := (yX4_dual, cX4_dual, 2, (Option.some Jvm.ClassFile.FieldType.long), { frames := 3, cells := 0, slots := 0, locals := 84 }, [])
theorem okX4_dual : gw_ok mX4_dual 1 := ⟨by decide +kernel, kw_765, kw_18, by decide +kernel, rfl⟩
abbrev mX4_dualWorth : gwY := (yX4_dualWorth, cX4_dualWorth, 4, (Option.some Jvm.ClassFile.FieldType.long), { frames := 4, cells := 0, slots := 0, locals := 105 }, [])
theorem okX4_dualWorth : gw_ok mX4_dualWorth 0 := ⟨by decide +kernel, kw_826, kw_18, by decide +kernel, rfl⟩
abbrev mX4_roomToFall : gwY := (yX4_roomToFall, cX4_roomToFall, 2, (Option.some Jvm.ClassFile.FieldType.int), { frames := 4, cells := 0, slots := 0, locals := 112 }, [])
theorem okX4_roomToFall : gw_ok mX4_roomToFall 1 := ⟨by decide +kernel, kw_899, kw_18, by decide +kernel, rfl⟩
abbrev mX4_roomToRise : gwY := (yX4_roomToRise, cX4_roomToRise, 2, (Option.some Jvm.ClassFile.FieldType.int), { frames := 4, cells := 0, slots := 0, locals := 112 }, [])
theorem okX4_roomToRise : gw_ok mX4_roomToRise 1 := ⟨by decide +kernel, kw_916, kw_18, by decide +kernel, rfl⟩
abbrev mX5_init : gwY := (yX5_init, cX5_init, 1, (Option.none : Option Jvm.ClassFile.FieldType), { frames := 4, cells := 5, slots := 287, locals := 103 }, [])
theorem okX5_init : gw_ok mX5_init 0 := ⟨by decide +kernel, kw_205, kw_26, by decide +kernel, rfl⟩
abbrev mX5_look : gwY := (yX5_look, cX5_look, 4, (Option.none : Option Jvm.ClassFile.FieldType), { frames := 5, cells := 0, slots := 0, locals := 146 }, [])
theorem okX5_look : gw_ok mX5_look 1 := ⟨by decide +kernel, kw_843, kw_26, by decide +kernel, rfl⟩
abbrev mX5_isFeasible : gwY := (yX5_isFeasible, cX5_isFeasible, 4, (Option.some Jvm.ClassFile.FieldType.boolean), { frames := 3, cells := 0, slots := 0, locals := 84 }, [])
theorem okX5_isFeasible : gw_ok mX5_isFeasible 0 := ⟨by decide +kernel, kw_861, kw_26, by decide +kernel, rfl⟩
abbrev mX5_sumOfProfits : gwY := (yX5_sumOfProfits, cX5_sumOfProfits, 7, (Option.some Jvm.ClassFile.FieldType.long), { frames := 4, cells := 0, slots := 0, locals := 105 }, [])
theorem okX5_sumOfProfits : gw_ok mX5_sumOfProfits 2 := ⟨by decide +kernel, kw_866, kw_26, by decide +kernel, rfl⟩
abbrev mX5_noteValue : gwY := (yX5_noteValue, cX5_noteValue, 9, (Option.none : Option Jvm.ClassFile.FieldType), { frames := 4, cells := 0, slots := 0, locals := 116 }, [])
theorem okX5_noteValue : gw_ok mX5_noteValue 2 := ⟨by decide +kernel, kw_871, kw_26, by decide +kernel, rfl⟩
abbrev mX5_isNoted : gwY := (yX5_isNoted, cX5_isNoted, 6, (Option.some Jvm.ClassFile.FieldType.boolean), { frames := 2, cells := 0, slots := 0, locals := 63 }, [])
theorem okX5_isNoted : gw_ok mX5_isNoted 2 := ⟨by decide +kernel, kw_877, kw_26, by decide +kernel, rfl⟩
abbrev mX6_init : gwY := (yX6_init, cX6_init, 1, (Option.none : Option Jvm.ClassFile.FieldType), { frames := 3, cells := 4, slots := 284, locals := 83 }, [])
theorem okX6_init : gw_ok mX6_init 0 := ⟨by decide +kernel, kw_96, kw_22, by decide +kernel, rfl⟩
abbrev mX6_start : gwY := (yX6_start, cX6_start, 4, (Option.none : Option Jvm.ClassFile.FieldType), { frames := 4, cells := 0, slots := 0, locals := 107 }, [])
theorem okX6_start : gw_ok mX6_start 1 := ⟨by decide +kernel, kw_430, kw_22, by decide +kernel, rfl⟩
abbrev mX6_copy : gwY := (yX6_copy, cX6_copy, 2, (Option.none : Option Jvm.ClassFile.FieldType), { frames := 2, cells := 0, slots := 0, locals := 61 }, [])
theorem okX6_copy : gw_ok mX6_copy 1 := ⟨by decide +kernel, kw_357, kw_22, by decide +kernel, rfl⟩
abbrev mX6_entry : gwY := (yX6_entry, cX6_entry, 3, (Option.some Jvm.ClassFile.FieldType.long), { frames := 2, cells := 0, slots := 0, locals := 63 }, [])
theorem okX6_entry : gw_ok mX6_entry 2 := ⟨by decide +kernel, kw_569, kw_22, by decide +kernel, rfl⟩
abbrev mX6_side : gwY := (yX6_side, cX6_side, 2, (Option.some Jvm.ClassFile.FieldType.long), { frames := 2, cells := 0, slots := 0, locals := 63 }, [])
theorem okX6_side : gw_ok mX6_side 1 := ⟨by decide +kernel, kw_577, kw_22, by decide +kernel, rfl⟩
abbrev mX6_reduced : gwY := (yX6_reduced, cX6_reduced, 2, (Option.some Jvm.ClassFile.FieldType.long), { frames := 2, cells := 0, slots := 0, locals := 63 }, [])
theorem okX6_reduced : gw_ok mX6_reduced 1 := ⟨by decide +kernel, kw_565, kw_22, by decide +kernel, rfl⟩
abbrev mX6_worth : gwY := (yX6_worth, cX6_worth, 1, (Option.some Jvm.ClassFile.FieldType.long), { frames := 2, cells := 0, slots := 0, locals := 63 }, [])
theorem okX6_worth : gw_ok mX6_worth 0 := ⟨by decide +kernel, kw_721, kw_22, by decide +kernel, rfl⟩
abbrev mX6_namedBy : gwY := (yX6_namedBy, cX6_namedBy, 2, (Option.some Jvm.ClassFile.FieldType.int), { frames := 2, cells := 0, slots := 0, locals := 63 }, [])
theorem okX6_namedBy : gw_ok mX6_namedBy 1 := ⟨by decide +kernel, kw_560, kw_22, by decide +kernel, rfl⟩
abbrev mX6_rowNaming : gwY := (yX6_rowNaming, cX6_rowNaming, 3, (Option.some Jvm.ClassFile.FieldType.int), { frames := 3, cells := 0, slots := 0, locals := 84 }, [])
theorem okX6_rowNaming : gw_ok mX6_rowNaming 1 := ⟨by decide +kernel, kw_556, kw_22, by decide +kernel, rfl⟩
abbrev mX6_given : gwY := (yX6_given, cX6_given, 3, (Option.some Jvm.ClassFile.FieldType.long), { frames := 4, cells := 0, slots := 0, locals := 106 }, [])
theorem okX6_given : gw_ok mX6_given 1 := ⟨by decide +kernel, kw_694, kw_22, by decide +kernel, rfl⟩
abbrev mX6_isBest : gwY := (yX6_isBest, cX6_isBest, 2, (Option.some Jvm.ClassFile.FieldType.boolean), { frames := 3, cells := 0, slots := 0, locals := 84 }, [])
theorem okX6_isBest : gw_ok mX6_isBest 0 := ⟨by decide +kernel, kw_610, kw_22, by decide +kernel, rfl⟩
abbrev mX6_openColumn : gwY := (yX6_openColumn, cX6_openColumn, 2, (Option.some Jvm.ClassFile.FieldType.int), { frames := 3, cells := 0, slots := 0, locals := 96 }, [])
theorem okX6_openColumn : gw_ok mX6_openColumn 0 := ⟨by decide +kernel, kw_614, kw_22, by decide +kernel, rfl⟩
abbrev mX6_isOpen : gwY := (yX6_isOpen, cX6_isOpen, 1, (Option.some Jvm.ClassFile.FieldType.boolean), { frames := 4, cells := 0, slots := 0, locals := 117 }, [])
theorem okX6_isOpen : gw_ok mX6_isOpen 0 := ⟨by decide +kernel, kw_606, kw_22, by decide +kernel, rfl⟩
abbrev mX6_leastRow : gwY := (yX6_leastRow, cX6_leastRow, 14, (Option.some Jvm.ClassFile.FieldType.int), { frames := 2, cells := 0, slots := 0, locals := 63 }, [])
theorem okX6_leastRow : gw_ok mX6_leastRow 1 := ⟨by decide +kernel, kw_573, kw_22, by decide +kernel, rfl⟩
abbrev mX6_obstacle : gwY := (yX6_obstacle, cX6_obstacle, 4, (Option.some Jvm.ClassFile.FieldType.int), { frames := 4, cells := 0, slots := 0, locals := 106 }, [])
theorem okX6_obstacle : gw_ok mX6_obstacle 2 := ⟨by decide +kernel, kw_552, kw_22, by decide +kernel, rfl⟩
abbrev mX6_chosenColumn : gwY := (yX6_chosenColumn, cX6_chosenColumn, 4, (Option.some Jvm.ClassFile.FieldType.int), { frames := 4, cells := 0, slots := 0, locals := 124 }, [])
theorem okX6_chosenColumn : gw_ok mX6_chosenColumn 1 := ⟨by decide +kernel, kw_623, kw_22, by decide +kernel, rfl⟩
abbrev mX6_gainsMore : gwY := (yX6_gainsMore, cX6_gainsMore, 9, (Option.some Jvm.ClassFile.FieldType.boolean), { frames := 3, cells := 0, slots := 0, locals := 96 }, [])
theorem okX6_gainsMore : gw_ok mX6_gainsMore 2 := ⟨by decide +kernel, kw_627, kw_22, by decide +kernel, rfl⟩
abbrev mX6_turn : gwY := (yX6_turn, cX6_turn, 6, (Option.none : Option Jvm.ClassFile.FieldType), { frames := 3, cells := 0, slots := 0, locals := 98 }, [])
theorem okX6_turn : gw_ok mX6_turn 2 := ⟨by decide +kernel, kw_588, kw_22, by decide +kernel, rfl⟩
abbrev mX6_room : gwY := (yX6_room, cX6_room, 8, (Option.some Jvm.ClassFile.FieldType.int), { frames := 3, cells := 0, slots := 0, locals := 85 }, [])
theorem okX6_room : gw_ok mX6_room 2 := ⟨by decide +kernel, kw_903, kw_22, by decide +kernel, rfl⟩
abbrev mX7_init : gwY := (yX7_init, cX7_init, 1, (Option.none : Option Jvm.ClassFile.FieldType), { frames := 3, cells := 2, slots := 142, locals := 83 }, [])
theorem okX7_init : gw_ok mX7_init 0 := ⟨by decide +kernel, kw_151, kw_23, by decide +kernel, rfl⟩
abbrev mX8_init : gwY := (yX8_init, cX8_init, 2, (Option.none : Option Jvm.ClassFile.FieldType), { frames := 5, cells := 353, slots := 19212, locals := 123 }, [])
theorem okX8_init : gw_ok mX8_init 0 := ⟨by decide +kernel, kw_39, kw_17, by decide +kernel, rfl⟩
abbrev mX8_setVariables : gwY := (yX8_setVariables, cX8_setVariables, 3, (Option.some Jvm.ClassFile.FieldType.int), { frames := 7, cells := 1, slots := 6, locals := 150 }, [])
theorem okX8_setVariables : gw_ok mX8_setVariables 1 := ⟨by decide +kernel, kw_390, kw_17, by decide +kernel, rfl⟩
abbrev mX8_setProfit : gwY := (yX8_setProfit, cX8_setProfit, 4, (Option.some Jvm.ClassFile.FieldType.int), { frames := 8, cells := 2, slots := 12, locals := 150 }, [])
theorem okX8_setProfit : gw_ok mX8_setProfit 2 := ⟨by decide +kernel, kw_459, kw_17, by decide +kernel, rfl⟩
abbrev mX8_addConstraint : gwY := (yX8_addConstraint, cX8_addConstraint, 3, (Option.some Jvm.ClassFile.FieldType.int), { frames := 8, cells := 2, slots := 12, locals := 150 }, [])
theorem okX8_addConstraint : gw_ok mX8_addConstraint 1 := ⟨by decide +kernel, kw_492, kw_17, by decide +kernel, rfl⟩
abbrev mX8_setCoefficient : gwY := (yX8_setCoefficient, cX8_setCoefficient, 5, (Option.some Jvm.ClassFile.FieldType.int), { frames := 8, cells := 3, slots := 18, locals := 150 }, [])
theorem okX8_setCoefficient : gw_ok mX8_setCoefficient 3 := ⟨by decide +kernel, kw_513, kw_17, by decide +kernel, rfl⟩
abbrev mX8_setBound : gwY := (yX8_setBound, cX8_setBound, 4, (Option.some Jvm.ClassFile.FieldType.int), { frames := 8, cells := 2, slots := 12, locals := 150 }, [])
theorem okX8_setBound : gw_ok mX8_setBound 2 := ⟨by decide +kernel, kw_524, kw_17, by decide +kernel, rfl⟩
abbrev mX8_dropConstraint : gwY := (yX8_dropConstraint, cX8_dropConstraint, 2, (Option.some Jvm.ClassFile.FieldType.int), { frames := 8, cells := 1, slots := 6, locals := 150 }, [])
theorem okX8_dropConstraint : gw_ok mX8_dropConstraint 1 := ⟨by decide +kernel, kw_530, kw_17, by decide +kernel, rfl⟩
abbrev mX8_begin : gwY := (yX8_begin, cX8_begin, 2, (Option.some Jvm.ClassFile.FieldType.int), { frames := 6, cells := 0, slots := 0, locals := 150 }, [])
theorem okX8_begin : gw_ok mX8_begin 0 := ⟨by decide +kernel, kw_648, kw_17, by decide +kernel, rfl⟩
abbrev mX8_pivot : gwY := (yX8_pivot, cX8_pivot, 4, (Option.some Jvm.ClassFile.FieldType.int), { frames := 8, cells := 3, slots := 18, locals := 145 }, [])
theorem okX8_pivot : gw_ok mX8_pivot 2 := ⟨by decide +kernel, kw_538, kw_17, by decide +kernel, rfl⟩
abbrev mX8_step : gwY := (yX8_step, cX8_step, 2, (Option.some Jvm.ClassFile.FieldType.int), { frames := 8, cells := 1, slots := 6, locals := 167 }, [])
theorem okX8_step : gw_ok mX8_step 0 := ⟨by decide +kernel, kw_598, kw_17, by decide +kernel, rfl⟩
abbrev mX8_solve : gwY := (yX8_solve, cX8_solve, 1, (Option.some Jvm.ClassFile.FieldType.int), { frames := 6, cells := 0, slots := 0, locals := 169 }, [])
theorem okX8_solve : gw_ok mX8_solve 0 := ⟨by decide +kernel, kw_632, kw_17, by decide +kernel, rfl⟩
abbrev mX8_setRule : gwY := (yX8_setRule, cX8_setRule, 3, (Option.some Jvm.ClassFile.FieldType.int), { frames := 7, cells := 1, slots := 6, locals := 124 }, [])
theorem okX8_setRule : gw_ok mX8_setRule 1 := ⟨by decide +kernel, kw_643, kw_17, by decide +kernel, rfl⟩
abbrev mX8_undo : gwY := (yX8_undo, cX8_undo, 1, (Option.some Jvm.ClassFile.FieldType.int), { frames := 7, cells := 1, slots := 6, locals := 103 }, [])
theorem okX8_undo : gw_ok mX8_undo 0 := ⟨by decide +kernel, kw_270, kw_17, by decide +kernel, rfl⟩
abbrev mX8_savedStates : gwY := (yX8_savedStates, cX8_savedStates, 1, (Option.some Jvm.ClassFile.FieldType.int), { frames := 1, cells := 0, slots := 0, locals := 40 }, [])
theorem okX8_savedStates : gw_ok mX8_savedStates 0 := ⟨by decide +kernel, kw_362, kw_17, by decide +kernel, rfl⟩
abbrev mX8_variables : gwY := (yX8_variables, cX8_variables, 1, (Option.some Jvm.ClassFile.FieldType.int), { frames := 1, cells := 0, slots := 0, locals := 40 }, [])
theorem okX8_variables : gw_ok mX8_variables 0 := ⟨by decide +kernel, kw_380, kw_17, by decide +kernel, rfl⟩
abbrev mX8_constraints : gwY := (yX8_constraints, cX8_constraints, 1, (Option.some Jvm.ClassFile.FieldType.int), { frames := 1, cells := 0, slots := 0, locals := 40 }, [])
theorem okX8_constraints : gw_ok mX8_constraints 0 := ⟨by decide +kernel, kw_376, kw_17, by decide +kernel, rfl⟩
abbrev mX8_profitOf : gwY := (yX8_profitOf, cX8_profitOf, 2, (Option.some Jvm.ClassFile.FieldType.int), { frames := 8, cells := 1, slots := 6, locals := 121 }, [])
theorem okX8_profitOf : gw_ok mX8_profitOf 1 := ⟨by decide +kernel, kw_671, kw_17, by decide +kernel, rfl⟩
abbrev mX8_coefficientOf : gwY := (yX8_coefficientOf, cX8_coefficientOf, 3, (Option.some Jvm.ClassFile.FieldType.int), { frames := 8, cells := 2, slots := 12, locals := 121 }, [])
theorem okX8_coefficientOf : gw_ok mX8_coefficientOf 2 := ⟨by decide +kernel, kw_683, kw_17, by decide +kernel, rfl⟩
abbrev mX8_boundOf : gwY := (yX8_boundOf, cX8_boundOf, 2, (Option.some Jvm.ClassFile.FieldType.int), { frames := 8, cells := 1, slots := 6, locals := 121 }, [])
theorem okX8_boundOf : gw_ok mX8_boundOf 1 := ⟨by decide +kernel, kw_675, kw_17, by decide +kernel, rfl⟩
abbrev mX8_rule : gwY := (yX8_rule, cX8_rule, 1, (Option.some Jvm.ClassFile.FieldType.int), { frames := 1, cells := 0, slots := 0, locals := 40 }, [])
theorem okX8_rule : gw_ok mX8_rule 0 := ⟨by decide +kernel, kw_655, kw_17, by decide +kernel, rfl⟩
abbrev mX8_columnOf : gwY := (yX8_columnOf, cX8_columnOf, 2, (Option.some Jvm.ClassFile.FieldType.int), { frames := 8, cells := 1, slots := 6, locals := 121 }, [])
theorem okX8_columnOf : gw_ok mX8_columnOf 1 := ⟨by decide +kernel, kw_679, kw_17, by decide +kernel, rfl⟩
abbrev mX8_isNamed : gwY := (yX8_isNamed, cX8_isNamed, 2, (Option.some Jvm.ClassFile.FieldType.boolean), { frames := 8, cells := 1, slots := 6, locals := 121 }, [])
theorem okX8_isNamed : gw_ok mX8_isNamed 1 := ⟨by decide +kernel, kw_756, kw_17, by decide +kernel, rfl⟩
abbrev mX8_isOptimal : gwY := (yX8_isOptimal, cX8_isOptimal, 1, (Option.some Jvm.ClassFile.FieldType.boolean), { frames := 4, cells := 0, slots := 0, locals := 105 }, [])
theorem okX8_isOptimal : gw_ok mX8_isOptimal 0 := ⟨by decide +kernel, kw_812, kw_17, by decide +kernel, rfl⟩
abbrev mX8_hasRay : gwY := (yX8_hasRay, cX8_hasRay, 1, (Option.some Jvm.ClassFile.FieldType.boolean), { frames := 4, cells := 0, slots := 0, locals := 117 }, [])
theorem okX8_hasRay : gw_ok mX8_hasRay 0 := ⟨by decide +kernel, kw_817, kw_17, by decide +kernel, rfl⟩
abbrev mX8_pivots : gwY := (yX8_pivots, cX8_pivots, 1, (Option.some Jvm.ClassFile.FieldType.int), { frames := 1, cells := 0, slots := 0, locals := 40 }, [])
theorem okX8_pivots : gw_ok mX8_pivots 0 := ⟨by decide +kernel, kw_659, kw_17, by decide +kernel, rfl⟩
abbrev mX8_allPivots : gwY := (yX8_allPivots, cX8_allPivots, 1, (Option.some Jvm.ClassFile.FieldType.int), { frames := 1, cells := 0, slots := 0, locals := 40 }, [])
theorem okX8_allPivots : gw_ok mX8_allPivots 0 := ⟨by decide +kernel, kw_663, kw_17, by decide +kernel, rfl⟩
abbrev mX8_idlePivots : gwY := (yX8_idlePivots, cX8_idlePivots, 1, (Option.some Jvm.ClassFile.FieldType.int), { frames := 1, cells := 0, slots := 0, locals := 40 }, [])
theorem okX8_idlePivots : gw_ok mX8_idlePivots 0 := ⟨by decide +kernel, kw_667, kw_17, by decide +kernel, rfl⟩
abbrev mX8_entryNumerator : gwY := (yX8_entryNumerator, cX8_entryNumerator, 3, (Option.some Jvm.ClassFile.FieldType.long), { frames := 8, cells := 2, slots := 12, locals := 121 }, [])
theorem okX8_entryNumerator : gw_ok mX8_entryNumerator 2 := ⟨by decide +kernel, kw_743, kw_17, by decide +kernel, rfl⟩
abbrev mX8_entryDenominator : gwY := (yX8_entryDenominator, cX8_entryDenominator, 3, (Option.some Jvm.ClassFile.FieldType.long), { frames := 8, cells := 2, slots := 12, locals := 121 }, [])
theorem okX8_entryDenominator : gw_ok mX8_entryDenominator 2 := ⟨by decide +kernel, kw_752, kw_17, by decide +kernel, rfl⟩
abbrev mX8_reducedNumerator : gwY := (yX8_reducedNumerator, cX8_reducedNumerator, 2, (Option.some Jvm.ClassFile.FieldType.long), { frames := 8, cells := 1, slots := 6, locals := 121 }, [])
theorem okX8_reducedNumerator : gw_ok mX8_reducedNumerator 1 := ⟨by decide +kernel, kw_738, kw_17, by decide +kernel, rfl⟩
abbrev mX8_reducedDenominator : gwY := (yX8_reducedDenominator, cX8_reducedDenominator, 2, (Option.some Jvm.ClassFile.FieldType.long), { frames := 8, cells := 1, slots := 6, locals := 121 }, [])
theorem okX8_reducedDenominator : gw_ok mX8_reducedDenominator 1 := ⟨by decide +kernel, kw_774, kw_17, by decide +kernel, rfl⟩
abbrev mX8_valueNumerator : gwY := (yX8_valueNumerator, cX8_valueNumerator, 1, (Option.some Jvm.ClassFile.FieldType.long), { frames := 4, cells := 0, slots := 0, locals := 116 }, [])
theorem okX8_valueNumerator : gw_ok mX8_valueNumerator 0 := ⟨by decide +kernel, kw_717, kw_17, by decide +kernel, rfl⟩
abbrev mX8_valueDenominator : gwY := (yX8_valueDenominator, cX8_valueDenominator, 1, (Option.some Jvm.ClassFile.FieldType.long), { frames := 4, cells := 0, slots := 0, locals := 116 }, [])
theorem okX8_valueDenominator : gw_ok mX8_valueDenominator 0 := ⟨by decide +kernel, kw_725, kw_17, by decide +kernel, rfl⟩
abbrev mX8_givenNumerator : gwY := (yX8_givenNumerator, cX8_givenNumerator, 2, (Option.some Jvm.ClassFile.FieldType.long), { frames := 8, cells := 1, slots := 6, locals := 128 }, [])
theorem okX8_givenNumerator : gw_ok mX8_givenNumerator 1 := ⟨by decide +kernel, kw_707, kw_17, by decide +kernel, rfl⟩
abbrev mX8_givenDenominator : gwY := (yX8_givenDenominator, cX8_givenDenominator, 2, (Option.some Jvm.ClassFile.FieldType.long), { frames := 8, cells := 1, slots := 6, locals := 128 }, [])
theorem okX8_givenDenominator : gw_ok mX8_givenDenominator 1 := ⟨by decide +kernel, kw_690, kw_17, by decide +kernel, rfl⟩
abbrev mX8_value : gwY := (yX8_value, cX8_value, 1, (Option.some Jvm.ClassFile.FieldType.double), { frames := 5, cells := 0, slots := 0, locals := 136 }, [])
theorem okX8_value : gw_ok mX8_value 0 := ⟨by decide +kernel, kw_729, kw_17, by decide +kernel, rfl⟩
abbrev mX8_dualNumerator : gwY := (yX8_dualNumerator, cX8_dualNumerator, 2, (Option.some Jvm.ClassFile.FieldType.long), { frames := 8, cells := 1, slots := 6, locals := 121 }, [])
theorem okX8_dualNumerator : gw_ok mX8_dualNumerator 1 := ⟨by decide +kernel, kw_761, kw_17, by decide +kernel, rfl⟩
abbrev mX8_dualDenominator : gwY := (yX8_dualDenominator, cX8_dualDenominator, 2, (Option.some Jvm.ClassFile.FieldType.long), { frames := 8, cells := 1, slots := 6, locals := 121 }, [])
theorem okX8_dualDenominator : gw_ok mX8_dualDenominator 1 := ⟨by decide +kernel, kw_770, kw_17, by decide +kernel, rfl⟩
abbrev mX8_dualNumeratorByEquations : gwY := (yX8_dualNumeratorByEquations, cX8_dualNumeratorByEquations, 2, (Option.some Jvm.ClassFile.FieldType.long), { frames := 8, cells := 1, slots := 6, locals := 145 }, [])
theorem okX8_dualNumeratorByEquations : gw_ok mX8_dualNumeratorByEquations 1 := ⟨by decide +kernel, kw_778, kw_17, by decide +kernel, rfl⟩
abbrev mX8_dualDenominatorByEquations : gwY := (yX8_dualDenominatorByEquations, cX8_dualDenominatorByEquations, 2, (Option.some Jvm.ClassFile.FieldType.long), { frames := 8, cells := 1, slots := 6, locals := 145 }, [])
theorem okX8_dualDenominatorByEquations : gw_ok mX8_dualDenominatorByEquations 1 := ⟨by decide +kernel, kw_808, kw_17, by decide +kernel, rfl⟩
abbrev mX8_dualValueNumerator : gwY := (yX8_dualValueNumerator, cX8_dualValueNumerator, 1, (Option.some Jvm.ClassFile.FieldType.long), { frames := 5, cells := 0, slots := 0, locals := 128 }, [])
theorem okX8_dualValueNumerator : gw_ok mX8_dualValueNumerator 0 := ⟨by decide +kernel, kw_822, kw_17, by decide +kernel, rfl⟩
abbrev mX8_dualValueDenominator : gwY := (yX8_dualValueDenominator, cX8_dualValueDenominator, 1, (Option.some Jvm.ClassFile.FieldType.long), { frames := 5, cells := 0, slots := 0, locals := 128 }, [])
theorem okX8_dualValueDenominator : gw_ok mX8_dualValueDenominator 0 := ⟨by decide +kernel, kw_832, kw_17, by decide +kernel, rfl⟩
abbrev mX8_feasibleBases : gwY := (yX8_feasibleBases, cX8_feasibleBases, 1, (Option.some Jvm.ClassFile.FieldType.int), { frames := 6, cells := 0, slots := 0, locals := 169 }, [])
theorem okX8_feasibleBases : gw_ok mX8_feasibleBases 0 := ⟨by decide +kernel, kw_887, kw_17, by decide +kernel, rfl⟩
abbrev mX8_unlikeValues : gwY := (yX8_unlikeValues, cX8_unlikeValues, 1, (Option.some Jvm.ClassFile.FieldType.int), { frames := 6, cells := 0, slots := 0, locals := 169 }, [])
theorem okX8_unlikeValues : gw_ok mX8_unlikeValues 0 := ⟨by decide +kernel, kw_891, kw_17, by decide +kernel, rfl⟩
abbrev mX8_bestNumerator : gwY := (yX8_bestNumerator, cX8_bestNumerator, 1, (Option.some Jvm.ClassFile.FieldType.long), { frames := 6, cells := 0, slots := 0, locals := 169 }, [])
theorem okX8_bestNumerator : gw_ok mX8_bestNumerator 0 := ⟨by decide +kernel, kw_839, kw_17, by decide +kernel, rfl⟩
abbrev mX8_bestDenominator : gwY := (yX8_bestDenominator, cX8_bestDenominator, 1, (Option.some Jvm.ClassFile.FieldType.long), { frames := 6, cells := 0, slots := 0, locals := 169 }, [])
theorem okX8_bestDenominator : gw_ok mX8_bestDenominator 0 := ⟨by decide +kernel, kw_883, kw_17, by decide +kernel, rfl⟩
abbrev mX8_whyNoPivot : gwY := (yX8_whyNoPivot, cX8_whyNoPivot, 3, (Option.some Jvm.ClassFile.FieldType.int), { frames := 8, cells := 2, slots := 12, locals := 129 }, [])
theorem okX8_whyNoPivot : gw_ok mX8_whyNoPivot 2 := ⟨by decide +kernel, kw_748, kw_17, by decide +kernel, rfl⟩
abbrev mX8_nextColumn : gwY := (yX8_nextColumn, cX8_nextColumn, 1, (Option.some Jvm.ClassFile.FieldType.int), { frames := 8, cells := 1, slots := 6, locals := 167 }, [])
theorem okX8_nextColumn : gw_ok mX8_nextColumn 0 := ⟨by decide +kernel, kw_928, kw_17, by decide +kernel, rfl⟩
abbrev mX8_nextRow : gwY := (yX8_nextRow, cX8_nextRow, 1, (Option.some Jvm.ClassFile.FieldType.int), { frames := 8, cells := 1, slots := 6, locals := 167 }, [])
theorem okX8_nextRow : gw_ok mX8_nextRow 0 := ⟨by decide +kernel, kw_932, kw_17, by decide +kernel, rfl⟩
abbrev mX8_pivotsLeft : gwY := (yX8_pivotsLeft, cX8_pivotsLeft, 1, (Option.some Jvm.ClassFile.FieldType.int), { frames := 6, cells := 0, slots := 0, locals := 169 }, [])
theorem okX8_pivotsLeft : gw_ok mX8_pivotsLeft 0 := ⟨by decide +kernel, kw_924, kw_17, by decide +kernel, rfl⟩
abbrev mX8_leastBound : gwY := (yX8_leastBound, cX8_leastBound, 3, (Option.some Jvm.ClassFile.FieldType.int), { frames := 8, cells := 1, slots := 6, locals := 133 }, [])
theorem okX8_leastBound : gw_ok mX8_leastBound 1 := ⟨by decide +kernel, kw_895, kw_17, by decide +kernel, rfl⟩
abbrev mX8_greatestBound : gwY := (yX8_greatestBound, cX8_greatestBound, 3, (Option.some Jvm.ClassFile.FieldType.int), { frames := 8, cells := 1, slots := 6, locals := 133 }, [])
theorem okX8_greatestBound : gw_ok mX8_greatestBound 1 := ⟨by decide +kernel, kw_912, kw_17, by decide +kernel, rfl⟩
abbrev mX8_requireVariable : gwY := (yX8_requireVariable, cX8_requireVariable, 2, (Option.none : Option Jvm.ClassFile.FieldType), { frames := 7, cells := 1, slots := 6, locals := 100 }, [])
theorem okX8_requireVariable : gw_ok mX8_requireVariable 1 := ⟨by decide +kernel, kw_463, kw_17, by decide +kernel, rfl⟩
abbrev mX8_requireConstraint : gwY := (yX8_requireConstraint, cX8_requireConstraint, 2, (Option.none : Option Jvm.ClassFile.FieldType), { frames := 7, cells := 1, slots := 6, locals := 100 }, [])
theorem okX8_requireConstraint : gw_ok mX8_requireConstraint 1 := ⟨by decide +kernel, kw_517, kw_17, by decide +kernel, rfl⟩
abbrev mX8_requireRow : gwY := (yX8_requireRow, cX8_requireRow, 2, (Option.none : Option Jvm.ClassFile.FieldType), { frames := 7, cells := 1, slots := 6, locals := 100 }, [])
theorem okX8_requireRow : gw_ok mX8_requireRow 1 := ⟨by decide +kernel, kw_542, kw_17, by decide +kernel, rfl⟩
abbrev mX8_requireColumn : gwY := (yX8_requireColumn, cX8_requireColumn, 2, (Option.none : Option Jvm.ClassFile.FieldType), { frames := 7, cells := 1, slots := 6, locals := 100 }, [])
theorem okX8_requireColumn : gw_ok mX8_requireColumn 1 := ⟨by decide +kernel, kw_547, kw_17, by decide +kernel, rfl⟩
abbrev mX8_requireFactor : gwY := (yX8_requireFactor, cX8_requireFactor, 1, (Option.none : Option Jvm.ClassFile.FieldType), { frames := 7, cells := 1, slots := 6, locals := 100 }, [])
theorem okX8_requireFactor : gw_ok mX8_requireFactor 1 := ⟨by decide +kernel, kw_482, kw_17, by decide +kernel, rfl⟩
abbrev mX8_requireBound : gwY := (yX8_requireBound, cX8_requireBound, 1, (Option.none : Option Jvm.ClassFile.FieldType), { frames := 7, cells := 1, slots := 6, locals := 100 }, [])
theorem okX8_requireBound : gw_ok mX8_requireBound 1 := ⟨by decide +kernel, kw_495, kw_17, by decide +kernel, rfl⟩
abbrev mX8_requireOpen : gwY := (yX8_requireOpen, cX8_requireOpen, 1, (Option.none : Option Jvm.ClassFile.FieldType), { frames := 7, cells := 1, slots := 6, locals := 137 }, [])
theorem okX8_requireOpen : gw_ok mX8_requireOpen 0 := ⟨by decide +kernel, kw_602, kw_17, by decide +kernel, rfl⟩
abbrev mX8_saveState : gwY := (yX8_saveState, cX8_saveState, 2, (Option.none : Option Jvm.ClassFile.FieldType), { frames := 4, cells := 0, slots := 0, locals := 103 }, [])
theorem okX8_saveState : gw_ok mX8_saveState 0 := ⟨by decide +kernel, kw_410, kw_17, by decide +kernel, rfl⟩
abbrev mX8_dropOldest : gwY := (yX8_dropOldest, cX8_dropOldest, 3, (Option.none : Option Jvm.ClassFile.FieldType), { frames := 1, cells := 0, slots := 0, locals := 40 }, [])
theorem okX8_dropOldest : gw_ok mX8_dropOldest 0 := ⟨by decide +kernel, kw_414, kw_17, by decide +kernel, rfl⟩
abbrev mX8_lowNumerator : gwY := (yX8_lowNumerator, cX8_lowNumerator, 6, (Option.some Jvm.ClassFile.FieldType.long), { frames := 3, cells := 0, slots := 0, locals := 91 }, [])
theorem okX8_lowNumerator : gw_ok mX8_lowNumerator 2 := ⟨by decide +kernel, kw_710, kw_17, by decide +kernel, rfl⟩
abbrev mX8_lowDenominator : gwY := (yX8_lowDenominator, cX8_lowDenominator, 6, (Option.some Jvm.ClassFile.FieldType.long), { frames := 3, cells := 0, slots := 0, locals := 91 }, [])
theorem okX8_lowDenominator : gw_ok mX8_lowDenominator 2 := ⟨by decide +kernel, kw_697, kw_17, by decide +kernel, rfl⟩
abbrev mX8_commonDivisor : gwY := (yX8_commonDivisor, cX8_commonDivisor, 11, (Option.some Jvm.ClassFile.FieldType.long), { frames := 2, cells := 0, slots := 0, locals := 61 }, [])
theorem okX8_commonDivisor : gw_ok mX8_commonDivisor 2 := ⟨by decide +kernel, kw_700, kw_17, by decide +kernel, rfl⟩
abbrev mJ6_bitCount_0f7a4 : gwY := (yJ6_bitCount_0f7a4, cJ6_bitCount_0f7a4, 1, (Option.some Jvm.ClassFile.FieldType.int), { frames := 1, cells := 0, slots := 0, locals := 40 }, [])
theorem okJ6_bitCount_0f7a4 : gw_ok mJ6_bitCount_0f7a4 1 := ⟨by decide +kernel, kw_849, kw_34, by decide +kernel, rfl⟩
abbrev mL_cell : gwY := (yL_cell, cL_cell, 2, (Option.some Jvm.ClassFile.FieldType.int), { frames := 1, cells := 0, slots := 0, locals := 40 }, [])
theorem okL_cell : gw_ok mL_cell 2 := ⟨by decide +kernel, kw_365, kw_16, by decide +kernel, rfl⟩
abbrev mL_low : gwY := (yL_low, cL_low, 2, (Option.some Jvm.ClassFile.FieldType.int), { frames := 1, cells := 0, slots := 0, locals := 40 }, [])
theorem okL_low : gw_ok mL_low 2 := ⟨by decide +kernel, kw_371, kw_16, by decide +kernel, rfl⟩
abbrev mL_changes : gwY := (yL_changes, cL_changes, 7, (Option.some Jvm.ClassFile.FieldType.int), { frames := 9, cells := 16, slots := 96, locals := 189 }, [((0 : Nat), (145 : Nat), (148 : Nat), (47 : Nat)), ((0 : Nat), (145 : Nat), (152 : Nat), (49 : Nat)), ((0 : Nat), (145 : Nat), (156 : Nat), (51 : Nat))])
theorem okL_changes : gw_okX mL_changes 6 := ⟨by decide +kernel, kw_383, kw_16, by decide +kernel⟩
abbrev mL_act : gwY := (yL_act, cL_act, 8, (Option.some Jvm.ClassFile.FieldType.int), { frames := 10, cells := 160, slots := 960, locals := 215 }, [])
theorem okL_act : gw_ok mL_act 3 := ⟨by decide +kernel, kw_368, kw_16, by decide +kernel, rfl⟩
abbrev mL_areAlike : gwY := (yL_areAlike, cL_areAlike, 5, (Option.some Jvm.ClassFile.FieldType.boolean), { frames := 9, cells := 10, slots := 60, locals := 143 }, [])
theorem okL_areAlike : gw_ok mL_areAlike 2 := ⟨by decide +kernel, kw_651, kw_16, by decide +kernel, rfl⟩
abbrev mL_divisor : gwY := (yL_divisor, cL_divisor, 10, (Option.some Jvm.ClassFile.FieldType.long), { frames := 1, cells := 0, slots := 0, locals := 40 }, [])
theorem okL_divisor : gw_ok mL_divisor 2 := ⟨by decide +kernel, kw_713, kw_16, by decide +kernel, rfl⟩
abbrev mL_isSolutionSo : gwY := (yL_isSolutionSo, cL_isSolutionSo, 14, (Option.some Jvm.ClassFile.FieldType.boolean), { frames := 9, cells := 11, slots := 66, locals := 156 }, [])
theorem okL_isSolutionSo : gw_ok mL_isSolutionSo 1 := ⟨by decide +kernel, kw_686, kw_16, by decide +kernel, rfl⟩
abbrev mL_areColumnsSo : gwY := (yL_areColumnsSo, cL_areColumnsSo, 13, (Option.some Jvm.ClassFile.FieldType.boolean), { frames := 9, cells := 27, slots := 162, locals := 166 }, [])
theorem okL_areColumnsSo : gw_ok mL_areColumnsSo 1 := ⟨by decide +kernel, kw_734, kw_16, by decide +kernel, rfl⟩
abbrev mL_areBasesSo : gwY := (yL_areBasesSo, cL_areBasesSo, 7, (Option.some Jvm.ClassFile.FieldType.boolean), { frames := 9, cells := 4, slots := 24, locals := 189 }, [])
theorem okL_areBasesSo : gw_ok mL_areBasesSo 1 := ⟨by decide +kernel, kw_835, kw_16, by decide +kernel, rfl⟩
abbrev mL_isStepSo : gwY := (yL_isStepSo, cL_isStepSo, 16, (Option.some Jvm.ClassFile.FieldType.boolean), { frames := 10, cells := 30, slots := 180, locals := 215 }, [])
theorem okL_isStepSo : gw_ok mL_isStepSo 2 := ⟨by decide +kernel, kw_920, kw_16, by decide +kernel, rfl⟩
theorem inW0 : ∀ w ∈ u_ws RX0 TX0 3, w ∈ gw_W := by decide +kernel
theorem cl0 : gw_Cl 0 RX0 TX0 3 tyX0 := ⟨rfl, inW0, tyX0_ok, nmX0⟩
theorem inW1 : ∀ w ∈ u_ws RX1 TX1 2, w ∈ gw_W := by decide +kernel
theorem cl1 : gw_Cl 1 RX1 TX1 2 tyX1 := ⟨rfl, inW1, tyX1_ok, nmX1⟩
theorem inW2 : ∀ w ∈ u_ws RX2 TX2 3, w ∈ gw_W := by decide +kernel
theorem cl2 : gw_Cl 2 RX2 TX2 3 tyX2 := ⟨rfl, inW2, tyX2_ok, nmX2⟩
theorem inW3 : ∀ w ∈ u_ws RX3 TX3 3, w ∈ gw_W := by decide +kernel
theorem cl3 : gw_Cl 3 RX3 TX3 3 tyX3 := ⟨rfl, inW3, tyX3_ok, nmX3⟩
theorem inW4 : ∀ w ∈ u_ws RX4 TX4 6, w ∈ gw_W := by decide +kernel
theorem cl4 : gw_Cl 4 RX4 TX4 6 tyX4 := ⟨rfl, inW4, tyX4_ok, nmX4⟩
theorem inW5 : ∀ w ∈ u_ws RX5 TX5 6, w ∈ gw_W := by decide +kernel
theorem cl5 : gw_Cl 5 RX5 TX5 6 tyX5 := ⟨rfl, inW5, tyX5_ok, nmX5⟩
theorem inW6 : ∀ w ∈ u_ws RX6 TX6 5, w ∈ gw_W := by decide +kernel
theorem cl6 : gw_Cl 6 RX6 TX6 5 tyX6 := ⟨rfl, inW6, tyX6_ok, nmX6⟩
theorem inW7 : ∀ w ∈ u_ws RX7 TX7 2, w ∈ gw_W := by decide +kernel
theorem cl7 : gw_Cl 7 RX7 TX7 2 tyX7 := ⟨rfl, inW7, tyX7_ok, nmX7⟩
theorem inW8 : ∀ w ∈ u_ws RX8 TX8 11, w ∈ gw_W := by decide +kernel
theorem cl8 : gw_Cl 8 RX8 TX8 11 tyX8 := ⟨rfl, inW8, tyX8_ok, nmX8⟩
def gw_nms : List String := ["java/lang/RuntimeException", "java/lang/Exception"]
theorem gw_nms_ok : ∀ n ∈ gw_nms, Bundle.fit n = true := by decide +kernel
theorem thw_IA : ∀ w ∈ vx_atS RX8 61 "java/lang/IllegalArgumentException" gw_nms, w ∈ gw_W ∨ w ∈ gw_NW ∧ w.onTables = true := by decide +kernel
theorem thw_IS : ∀ w ∈ vx_atS RX8 108 "java/lang/IllegalStateException" gw_nms, w ∈ gw_W ∨ w ∈ gw_NW ∧ w.onTables = true := by decide +kernel
theorem thw_IO : ∀ w ∈ vx_atS RX8 403 "java/lang/IndexOutOfBoundsException" gw_nms, w ∈ gw_W ∨ w ∈ gw_NW ∧ w.onTables = true := by decide +kernel
end GT
