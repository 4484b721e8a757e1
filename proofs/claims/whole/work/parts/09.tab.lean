section GT
abbrev mX0_init : gwY := (yX0_init, cX0_init, 1, (Option.none : Option Jvm.ClassFile.FieldType), { frames := 3, cells := 2, slots := 142, locals := 83 }, [])
theorem okX0_init : gw_ok mX0_init 0 := ⟨by decide +kernel, kw_278, kw_108, by decide +kernel, rfl⟩
abbrev mX0_unknown : gwY := (yX0_unknown, cX0_unknown, 2, (Option.some Jvm.ClassFile.FieldType.long), { frames := 2, cells := 0, slots := 0, locals := 63 }, [])
theorem okX0_unknown : gw_ok mX0_unknown 1 := ⟨by decide +kernel, kw_699, kw_108, by decide +kernel, rfl⟩
abbrev mX0_solveDuals : gwY := (yX0_solveDuals, cX0_solveDuals, 5, (Option.some Jvm.ClassFile.FieldType.boolean), { frames := 4, cells := 0, slots := 0, locals := 121 }, [])
theorem okX0_solveDuals : gw_ok mX0_solveDuals 1 := ⟨by decide +kernel, kw_767, kw_108, by decide +kernel, rfl⟩
abbrev mX0_solveBasis : gwY := (yX0_solveBasis, cX0_solveBasis, 6, (Option.some Jvm.ClassFile.FieldType.boolean), { frames := 4, cells := 0, slots := 0, locals := 121 }, [])
theorem okX0_solveBasis : gw_ok mX0_solveBasis 2 := ⟨by decide +kernel, kw_674, kw_108, by decide +kernel, rfl⟩
abbrev mX0_eliminate : gwY := (yX0_eliminate, cX0_eliminate, 4, (Option.some Jvm.ClassFile.FieldType.boolean), { frames := 3, cells := 0, slots := 0, locals := 98 }, [])
theorem okX0_eliminate : gw_ok mX0_eliminate 0 := ⟨by decide +kernel, kw_681, kw_108, by decide +kernel, rfl⟩
abbrev mX0_rowWith : gwY := (yX0_rowWith, cX0_rowWith, 3, (Option.some Jvm.ClassFile.FieldType.int), { frames := 2, cells := 0, slots := 0, locals := 63 }, [])
theorem okX0_rowWith : gw_ok mX0_rowWith 1 := ⟨by decide +kernel, kw_685, kw_108, by decide +kernel, rfl⟩
abbrev mX0_swap : gwY := (yX0_swap, cX0_swap, 6, (Option.none : Option Jvm.ClassFile.FieldType), { frames := 2, cells := 0, slots := 0, locals := 65 }, [])
theorem okX0_swap : gw_ok mX0_swap 2 := ⟨by decide +kernel, kw_690, kw_108, by decide +kernel, rfl⟩
abbrev mX1_init : gwY := (yX1_init, cX1_init, 3, (Option.none : Option Jvm.ClassFile.FieldType), { frames := 2, cells := 1, slots := 140, locals := 61 }, [])
theorem okX1_init : gw_ok mX1_init 2 := ⟨by decide +kernel, kw_143, kw_103, by decide +kernel, rfl⟩
abbrev mX1_at : gwY := (yX1_at, cX1_at, 4, (Option.some Jvm.ClassFile.FieldType.long), { frames := 1, cells := 0, slots := 0, locals := 40 }, [])
theorem okX1_at : gw_ok mX1_at 2 := ⟨by decide +kernel, kw_417, kw_103, by decide +kernel, rfl⟩
abbrev mX1_put : gwY := (yX1_put, cX1_put, 6, (Option.none : Option Jvm.ClassFile.FieldType), { frames := 1, cells := 0, slots := 0, locals := 40 }, [])
theorem okX1_put : gw_ok mX1_put 3 := ⟨by decide +kernel, kw_405, kw_103, by decide +kernel, rfl⟩
abbrev mX1_clear : gwY := (yX1_clear, cX1_clear, 14, (Option.none : Option Jvm.ClassFile.FieldType), { frames := 2, cells := 0, slots := 0, locals := 65 }, [])
theorem okX1_clear : gw_ok mX1_clear 5 := ⟨by decide +kernel, kw_488, kw_103, by decide +kernel, rfl⟩
abbrev mX1_copy : gwY := (yX1_copy, cX1_copy, 2, (Option.none : Option Jvm.ClassFile.FieldType), { frames := 1, cells := 0, slots := 0, locals := 40 }, [])
theorem okX1_copy : gw_ok mX1_copy 1 := ⟨by decide +kernel, kw_385, kw_103, by decide +kernel, rfl⟩
abbrev mX2_init : gwY := (yX2_init, cX2_init, 1, (Option.none : Option Jvm.ClassFile.FieldType), { frames := 3, cells := 2, slots := 142, locals := 83 }, [])
theorem okX2_init : gw_ok mX2_init 0 := ⟨by decide +kernel, kw_137, kw_102, by decide +kernel, rfl⟩
abbrev mX2_profit : gwY := (yX2_profit, cX2_profit, 2, (Option.some Jvm.ClassFile.FieldType.int), { frames := 2, cells := 0, slots := 0, locals := 63 }, [])
theorem okX2_profit : gw_ok mX2_profit 1 := ⟨by decide +kernel, kw_429, kw_102, by decide +kernel, rfl⟩
abbrev mX2_putProfit : gwY := (yX2_putProfit, cX2_putProfit, 3, (Option.none : Option Jvm.ClassFile.FieldType), { frames := 2, cells := 0, slots := 0, locals := 65 }, [])
theorem okX2_putProfit : gw_ok mX2_putProfit 2 := ⟨by decide +kernel, kw_962, kw_102, by decide +kernel, rfl⟩
abbrev mX2_coefficient : gwY := (yX2_coefficient, cX2_coefficient, 3, (Option.some Jvm.ClassFile.FieldType.int), { frames := 2, cells := 0, slots := 0, locals := 63 }, [])
theorem okX2_coefficient : gw_ok mX2_coefficient 2 := ⟨by decide +kernel, kw_413, kw_102, by decide +kernel, rfl⟩
abbrev mX2_putCoefficient : gwY := (yX2_putCoefficient, cX2_putCoefficient, 4, (Option.none : Option Jvm.ClassFile.FieldType), { frames := 2, cells := 0, slots := 0, locals := 65 }, [])
theorem okX2_putCoefficient : gw_ok mX2_putCoefficient 3 := ⟨by decide +kernel, kw_554, kw_102, by decide +kernel, rfl⟩
abbrev mX2_bound : gwY := (yX2_bound, cX2_bound, 2, (Option.some Jvm.ClassFile.FieldType.int), { frames := 2, cells := 0, slots := 0, locals := 63 }, [])
theorem okX2_bound : gw_ok mX2_bound 1 := ⟨by decide +kernel, kw_421, kw_102, by decide +kernel, rfl⟩
abbrev mX2_putBound : gwY := (yX2_putBound, cX2_putBound, 3, (Option.none : Option Jvm.ClassFile.FieldType), { frames := 2, cells := 0, slots := 0, locals := 65 }, [])
theorem okX2_putBound : gw_ok mX2_putBound 2 := ⟨by decide +kernel, kw_558, kw_102, by decide +kernel, rfl⟩
abbrev mX2_firstFactor : gwY := (yX2_firstFactor, cX2_firstFactor, 3, (Option.some Jvm.ClassFile.FieldType.int), { frames := 3, cells := 0, slots := 0, locals := 85 }, [])
theorem okX2_firstFactor : gw_ok mX2_firstFactor 2 := ⟨by decide +kernel, kw_409, kw_102, by decide +kernel, rfl⟩
abbrev mX2_columnProfit : gwY := (yX2_columnProfit, cX2_columnProfit, 2, (Option.some Jvm.ClassFile.FieldType.int), { frames := 3, cells := 0, slots := 0, locals := 84 }, [])
theorem okX2_columnProfit : gw_ok mX2_columnProfit 1 := ⟨by decide +kernel, kw_425, kw_102, by decide +kernel, rfl⟩
abbrev mX2_resize : gwY := (yX2_resize, cX2_resize, 4, (Option.none : Option Jvm.ClassFile.FieldType), { frames := 2, cells := 0, slots := 0, locals := 65 }, [])
theorem okX2_resize : gw_ok mX2_resize 1 := ⟨by decide +kernel, kw_536, kw_102, by decide +kernel, rfl⟩
abbrev mX2_add : gwY := (yX2_add, cX2_add, 4, (Option.some Jvm.ClassFile.FieldType.int), { frames := 3, cells := 0, slots := 0, locals := 88 }, [])
theorem okX2_add : gw_ok mX2_add 1 := ⟨by decide +kernel, kw_550, kw_102, by decide +kernel, rfl⟩
abbrev mX2_drop : gwY := (yX2_drop, cX2_drop, 4, (Option.none : Option Jvm.ClassFile.FieldType), { frames := 2, cells := 0, slots := 0, locals := 65 }, [])
theorem okX2_drop : gw_ok mX2_drop 1 := ⟨by decide +kernel, kw_1018, kw_102, by decide +kernel, rfl⟩
abbrev mX2_empty : gwY := (yX2_empty, cX2_empty, 2, (Option.none : Option Jvm.ClassFile.FieldType), { frames := 3, cells := 0, slots := 0, locals := 88 }, [])
theorem okX2_empty : gw_ok mX2_empty 1 := ⟨by decide +kernel, kw_532, kw_102, by decide +kernel, rfl⟩
abbrev mX2_copy : gwY := (yX2_copy, cX2_copy, 2, (Option.none : Option Jvm.ClassFile.FieldType), { frames := 2, cells := 0, slots := 0, locals := 61 }, [])
theorem okX2_copy : gw_ok mX2_copy 1 := ⟨by decide +kernel, kw_381, kw_102, by decide +kernel, rfl⟩
abbrev mX3_init : gwY := (yX3_init, cX3_init, 1, (Option.none : Option Jvm.ClassFile.FieldType), { frames := 4, cells := 6, slots := 289, locals := 103 }, [])
theorem okX3_init : gw_ok mX3_init 0 := ⟨by decide +kernel, kw_256, kw_107, by decide +kernel, rfl⟩
abbrev mX3_read : gwY := (yX3_read, cX3_read, 3, (Option.some Jvm.ClassFile.FieldType.boolean), { frames := 6, cells := 0, slots := 0, locals := 150 }, [])
theorem okX3_read : gw_ok mX3_read 1 := ⟨by decide +kernel, kw_506, kw_107, by decide +kernel, rfl⟩
abbrev mX3_take : gwY := (yX3_take, cX3_take, 2, (Option.some Jvm.ClassFile.FieldType.boolean), { frames := 3, cells := 0, slots := 0, locals := 84 }, [])
theorem okX3_take : gw_ok mX3_take 1 := ⟨by decide +kernel, kw_515, kw_107, by decide +kernel, rfl⟩
abbrev mX3_nextIsDigit : gwY := (yX3_nextIsDigit, cX3_nextIsDigit, 3, (Option.some Jvm.ClassFile.FieldType.boolean), { frames := 3, cells := 0, slots := 0, locals := 84 }, [])
theorem okX3_nextIsDigit : gw_ok mX3_nextIsDigit 2 := ⟨by decide +kernel, kw_524, kw_107, by decide +kernel, rfl⟩
abbrev mX3_takeDigit : gwY := (yX3_takeDigit, cX3_takeDigit, 2, (Option.some Jvm.ClassFile.FieldType.int), { frames := 3, cells := 0, slots := 0, locals := 84 }, [])
theorem okX3_takeDigit : gw_ok mX3_takeDigit 0 := ⟨by decide +kernel, kw_528, kw_107, by decide +kernel, rfl⟩
abbrev mX3_takeConstraint : gwY := (yX3_takeConstraint, cX3_takeConstraint, 2, (Option.some Jvm.ClassFile.FieldType.boolean), { frames := 5, cells := 0, slots := 0, locals := 129 }, [])
theorem okX3_takeConstraint : gw_ok mX3_takeConstraint 0 := ⟨by decide +kernel, kw_546, kw_107, by decide +kernel, rfl⟩
abbrev mX3_takeFactors : gwY := (yX3_takeFactors, cX3_takeFactors, 4, (Option.some Jvm.ClassFile.FieldType.boolean), { frames := 4, cells := 0, slots := 0, locals := 106 }, [])
theorem okX3_takeFactors : gw_ok mX3_takeFactors 1 := ⟨by decide +kernel, kw_541, kw_107, by decide +kernel, rfl⟩
abbrev mX3_takeBound : gwY := (yX3_takeBound, cX3_takeBound, 3, (Option.some Jvm.ClassFile.FieldType.boolean), { frames := 4, cells := 0, slots := 0, locals := 106 }, [])
theorem okX3_takeBound : gw_ok mX3_takeBound 1 := ⟨by decide +kernel, kw_562, kw_107, by decide +kernel, rfl⟩
abbrev mX4_init : gwY := (yX4_init, cX4_init, 1, (Option.none : Option Jvm.ClassFile.FieldType), { frames := 4, cells := 8, slots := 434, locals := 103 }, [])
theorem okX4_init : gw_ok mX4_init 0 := ⟨by decide +kernel, kw_131, kw_101, by decide +kernel, rfl⟩
abbrev mX4_copy : gwY := (yX4_copy, cX4_copy, 2, (Option.none : Option Jvm.ClassFile.FieldType), { frames := 3, cells := 0, slots := 0, locals := 82 }, [])
theorem okX4_copy : gw_ok mX4_copy 1 := ⟨by decide +kernel, kw_377, kw_101, by decide +kernel, rfl⟩
abbrev mX4_start : gwY := (yX4_start, cX4_start, 1, (Option.none : Option Jvm.ClassFile.FieldType), { frames := 5, cells := 0, slots := 0, locals := 130 }, [])
theorem okX4_start : gw_ok mX4_start 0 := ⟨by decide +kernel, kw_397, kw_101, by decide +kernel, rfl⟩
abbrev mX4_chosenColumn : gwY := (yX4_chosenColumn, cX4_chosenColumn, 1, (Option.some Jvm.ClassFile.FieldType.int), { frames := 5, cells := 0, slots := 0, locals := 147 }, [])
theorem okX4_chosenColumn : gw_ok mX4_chosenColumn 0 := ⟨by decide +kernel, kw_903, kw_101, by decide +kernel, rfl⟩
abbrev mX4_turn : gwY := (yX4_turn, cX4_turn, 3, (Option.none : Option Jvm.ClassFile.FieldType), { frames := 4, cells := 0, slots := 0, locals := 123 }, [])
theorem okX4_turn : gw_ok mX4_turn 2 := ⟨by decide +kernel, kw_479, kw_101, by decide +kernel, rfl⟩
abbrev mX4_run : gwY := (yX4_run, cX4_run, 3, (Option.some Jvm.ClassFile.FieldType.int), { frames := 5, cells := 0, slots := 0, locals := 147 }, [])
theorem okX4_run : gw_ok mX4_run 0 := ⟨by decide +kernel, kw_437, kw_101, by decide +kernel, rfl⟩
abbrev mX4_dual : gwY := (yX4_dual, cX4_dual, 2, (Option.some Jvm.ClassFile.FieldType.long), { frames := 3, cells := 0, slots := 0, locals := 84 }, [])
theorem okX4_dual : gw_ok mX4_dual 1 := ⟨by decide +kernel, kw_647, kw_101, by decide +kernel, rfl⟩
abbrev mX4_dualWorth : gwY := (yX4_dualWorth, cX4_dualWorth, 4, (Option.some Jvm.ClassFile.FieldType.long), { frames := 4, cells := 0, slots := 0, locals := 105 }, [])
theorem okX4_dualWorth : gw_ok mX4_dualWorth 0 := ⟨by decide +kernel, kw_643, kw_101, by decide +kernel, rfl⟩
abbrev mX4_roomToFall : gwY := (yX4_roomToFall, cX4_roomToFall, 2, (Option.some Jvm.ClassFile.FieldType.int), { frames := 4, cells := 0, slots := 0, locals := 112 }, [])
theorem okX4_roomToFall : gw_ok mX4_roomToFall 1 := ⟨by decide +kernel, kw_856, kw_101, by decide +kernel, rfl⟩
abbrev mX4_roomToRise : gwY := (yX4_roomToRise, cX4_roomToRise, 2, (Option.some Jvm.ClassFile.FieldType.int), { frames := 4, cells := 0, slots := 0, locals := 112 }, [])
theorem okX4_roomToRise : gw_ok mX4_roomToRise 1 := ⟨by decide +kernel, kw_873, kw_101, by decide +kernel, rfl⟩
abbrev mX5_init : gwY := (yX5_init, cX5_init, 1, (Option.none : Option Jvm.ClassFile.FieldType), { frames := 4, cells := 5, slots := 287, locals := 103 }, [])
theorem okX5_init : gw_ok mX5_init 0 := ⟨by decide +kernel, kw_299, kw_109, by decide +kernel, rfl⟩
abbrev mX5_look : gwY := (yX5_look, cX5_look, 4, (Option.none : Option Jvm.ClassFile.FieldType), { frames := 5, cells := 0, slots := 0, locals := 146 }, [])
theorem okX5_look : gw_ok mX5_look 1 := ⟨by decide +kernel, kw_661, kw_109, by decide +kernel, rfl⟩
abbrev mX5_isFeasible : gwY := (yX5_isFeasible, cX5_isFeasible, 4, (Option.some Jvm.ClassFile.FieldType.boolean), { frames := 3, cells := 0, slots := 0, locals := 84 }, [])
theorem okX5_isFeasible : gw_ok mX5_isFeasible 0 := ⟨by decide +kernel, kw_695, kw_109, by decide +kernel, rfl⟩
abbrev mX5_sumOfProfits : gwY := (yX5_sumOfProfits, cX5_sumOfProfits, 7, (Option.some Jvm.ClassFile.FieldType.long), { frames := 4, cells := 0, slots := 0, locals := 105 }, [])
theorem okX5_sumOfProfits : gw_ok mX5_sumOfProfits 2 := ⟨by decide +kernel, kw_703, kw_109, by decide +kernel, rfl⟩
abbrev mX5_noteValue : gwY := (yX5_noteValue, cX5_noteValue, 9, (Option.none : Option Jvm.ClassFile.FieldType), { frames := 4, cells := 0, slots := 0, locals := 116 }, [])
theorem okX5_noteValue : gw_ok mX5_noteValue 2 := ⟨by decide +kernel, kw_708, kw_109, by decide +kernel, rfl⟩
abbrev mX5_isNoted : gwY := (yX5_isNoted, cX5_isNoted, 6, (Option.some Jvm.ClassFile.FieldType.boolean), { frames := 2, cells := 0, slots := 0, locals := 63 }, [])
theorem okX5_isNoted : gw_ok mX5_isNoted 2 := ⟨by decide +kernel, kw_714, kw_109, by decide +kernel, rfl⟩
abbrev mX6_init : gwY := (yX6_init, cX6_init, 1, (Option.none : Option Jvm.ClassFile.FieldType), { frames := 3, cells := 4, slots := 284, locals := 83 }, [])
theorem okX6_init : gw_ok mX6_init 0 := ⟨by decide +kernel, kw_184, kw_105, by decide +kernel, rfl⟩
abbrev mX6_start : gwY := (yX6_start, cX6_start, 4, (Option.none : Option Jvm.ClassFile.FieldType), { frames := 4, cells := 0, slots := 0, locals := 107 }, [])
theorem okX6_start : gw_ok mX6_start 1 := ⟨by decide +kernel, kw_401, kw_105, by decide +kernel, rfl⟩
abbrev mX6_copy : gwY := (yX6_copy, cX6_copy, 2, (Option.none : Option Jvm.ClassFile.FieldType), { frames := 2, cells := 0, slots := 0, locals := 61 }, [])
theorem okX6_copy : gw_ok mX6_copy 1 := ⟨by decide +kernel, kw_392, kw_105, by decide +kernel, rfl⟩
abbrev mX6_entry : gwY := (yX6_entry, cX6_entry, 3, (Option.some Jvm.ClassFile.FieldType.long), { frames := 2, cells := 0, slots := 0, locals := 63 }, [])
theorem okX6_entry : gw_ok mX6_entry 2 := ⟨by decide +kernel, kw_474, kw_105, by decide +kernel, rfl⟩
abbrev mX6_side : gwY := (yX6_side, cX6_side, 2, (Option.some Jvm.ClassFile.FieldType.long), { frames := 2, cells := 0, slots := 0, locals := 63 }, [])
theorem okX6_side : gw_ok mX6_side 1 := ⟨by decide +kernel, kw_470, kw_105, by decide +kernel, rfl⟩
abbrev mX6_reduced : gwY := (yX6_reduced, cX6_reduced, 2, (Option.some Jvm.ClassFile.FieldType.long), { frames := 2, cells := 0, slots := 0, locals := 63 }, [])
theorem okX6_reduced : gw_ok mX6_reduced 1 := ⟨by decide +kernel, kw_449, kw_105, by decide +kernel, rfl⟩
abbrev mX6_worth : gwY := (yX6_worth, cX6_worth, 1, (Option.some Jvm.ClassFile.FieldType.long), { frames := 2, cells := 0, slots := 0, locals := 63 }, [])
theorem okX6_worth : gw_ok mX6_worth 0 := ⟨by decide +kernel, kw_613, kw_105, by decide +kernel, rfl⟩
abbrev mX6_namedBy : gwY := (yX6_namedBy, cX6_namedBy, 2, (Option.some Jvm.ClassFile.FieldType.int), { frames := 2, cells := 0, slots := 0, locals := 63 }, [])
theorem okX6_namedBy : gw_ok mX6_namedBy 1 := ⟨by decide +kernel, kw_771, kw_105, by decide +kernel, rfl⟩
abbrev mX6_rowNaming : gwY := (yX6_rowNaming, cX6_rowNaming, 3, (Option.some Jvm.ClassFile.FieldType.int), { frames := 3, cells := 0, slots := 0, locals := 84 }, [])
theorem okX6_rowNaming : gw_ok mX6_rowNaming 1 := ⟨by decide +kernel, kw_882, kw_105, by decide +kernel, rfl⟩
abbrev mX6_given : gwY := (yX6_given, cX6_given, 3, (Option.some Jvm.ClassFile.FieldType.long), { frames := 4, cells := 0, slots := 0, locals := 106 }, [])
theorem okX6_given : gw_ok mX6_given 1 := ⟨by decide +kernel, kw_888, kw_105, by decide +kernel, rfl⟩
abbrev mX6_isBest : gwY := (yX6_isBest, cX6_isBest, 2, (Option.some Jvm.ClassFile.FieldType.boolean), { frames := 3, cells := 0, slots := 0, locals := 84 }, [])
theorem okX6_isBest : gw_ok mX6_isBest 0 := ⟨by decide +kernel, kw_445, kw_105, by decide +kernel, rfl⟩
abbrev mX6_openColumn : gwY := (yX6_openColumn, cX6_openColumn, 2, (Option.some Jvm.ClassFile.FieldType.int), { frames := 3, cells := 0, slots := 0, locals := 96 }, [])
theorem okX6_openColumn : gw_ok mX6_openColumn 0 := ⟨by decide +kernel, kw_454, kw_105, by decide +kernel, rfl⟩
abbrev mX6_isOpen : gwY := (yX6_isOpen, cX6_isOpen, 1, (Option.some Jvm.ClassFile.FieldType.boolean), { frames := 4, cells := 0, slots := 0, locals := 117 }, [])
theorem okX6_isOpen : gw_ok mX6_isOpen 0 := ⟨by decide +kernel, kw_441, kw_105, by decide +kernel, rfl⟩
abbrev mX6_leastRow : gwY := (yX6_leastRow, cX6_leastRow, 14, (Option.some Jvm.ClassFile.FieldType.int), { frames := 2, cells := 0, slots := 0, locals := 63 }, [])
theorem okX6_leastRow : gw_ok mX6_leastRow 1 := ⟨by decide +kernel, kw_458, kw_105, by decide +kernel, rfl⟩
abbrev mX6_obstacle : gwY := (yX6_obstacle, cX6_obstacle, 4, (Option.some Jvm.ClassFile.FieldType.int), { frames := 4, cells := 0, slots := 0, locals := 106 }, [])
theorem okX6_obstacle : gw_ok mX6_obstacle 2 := ⟨by decide +kernel, kw_1039, kw_105, by decide +kernel, rfl⟩
abbrev mX6_chosenColumn : gwY := (yX6_chosenColumn, cX6_chosenColumn, 4, (Option.some Jvm.ClassFile.FieldType.int), { frames := 4, cells := 0, slots := 0, locals := 124 }, [])
theorem okX6_chosenColumn : gw_ok mX6_chosenColumn 1 := ⟨by decide +kernel, kw_462, kw_105, by decide +kernel, rfl⟩
abbrev mX6_gainsMore : gwY := (yX6_gainsMore, cX6_gainsMore, 9, (Option.some Jvm.ClassFile.FieldType.boolean), { frames := 3, cells := 0, slots := 0, locals := 96 }, [])
theorem okX6_gainsMore : gw_ok mX6_gainsMore 2 := ⟨by decide +kernel, kw_466, kw_105, by decide +kernel, rfl⟩
abbrev mX6_turn : gwY := (yX6_turn, cX6_turn, 6, (Option.none : Option Jvm.ClassFile.FieldType), { frames := 3, cells := 0, slots := 0, locals := 98 }, [])
theorem okX6_turn : gw_ok mX6_turn 2 := ⟨by decide +kernel, kw_484, kw_105, by decide +kernel, rfl⟩
abbrev mX6_growth : gwY := (yX6_growth, cX6_growth, 4, (Option.some Jvm.ClassFile.FieldType.long), { frames := 4, cells := 0, slots := 0, locals := 117 }, [])
theorem okX6_growth : gw_ok mX6_growth 1 := ⟨by decide +kernel, kw_1257, kw_105, by decide +kernel, rfl⟩
abbrev mX6_room : gwY := (yX6_room, cX6_room, 8, (Option.some Jvm.ClassFile.FieldType.int), { frames := 3, cells := 0, slots := 0, locals := 85 }, [])
theorem okX6_room : gw_ok mX6_room 2 := ⟨by decide +kernel, kw_860, kw_105, by decide +kernel, rfl⟩
abbrev mX7_init : gwY := (yX7_init, cX7_init, 1, (Option.none : Option Jvm.ClassFile.FieldType), { frames := 3, cells := 2, slots := 142, locals := 83 }, [])
theorem okX7_init : gw_ok mX7_init 0 := ⟨by decide +kernel, kw_239, kw_106, by decide +kernel, rfl⟩
abbrev mX7_codeAt : gwY := (yX7_codeAt, cX7_codeAt, 2, (Option.some Jvm.ClassFile.FieldType.int), { frames := 2, cells := 0, slots := 0, locals := 63 }, [])
theorem okX7_codeAt : gw_ok mX7_codeAt 1 := ⟨by decide +kernel, kw_519, kw_106, by decide +kernel, rfl⟩
abbrev mX7_add : gwY := (yX7_add, cX7_add, 2, (Option.none : Option Jvm.ClassFile.FieldType), { frames := 2, cells := 0, slots := 0, locals := 65 }, [])
theorem okX7_add : gw_ok mX7_add 1 := ⟨by decide +kernel, kw_1075, kw_106, by decide +kernel, rfl⟩
abbrev mX7_clear : gwY := (yX7_clear, cX7_clear, 1, (Option.none : Option Jvm.ClassFile.FieldType), { frames := 1, cells := 0, slots := 0, locals := 40 }, [])
theorem okX7_clear : gw_ok mX7_clear 0 := ⟨by decide +kernel, kw_498, kw_106, by decide +kernel, rfl⟩
abbrev mX7_copy : gwY := (yX7_copy, cX7_copy, 2, (Option.none : Option Jvm.ClassFile.FieldType), { frames := 2, cells := 0, slots := 0, locals := 61 }, [])
theorem okX7_copy : gw_ok mX7_copy 1 := ⟨by decide +kernel, kw_510, kw_106, by decide +kernel, rfl⟩
abbrev mX7_addProblem : gwY := (yX7_addProblem, cX7_addProblem, 4, (Option.none : Option Jvm.ClassFile.FieldType), { frames := 4, cells := 0, slots := 0, locals := 108 }, [])
theorem okX7_addProblem : gw_ok mX7_addProblem 1 := ⟨by decide +kernel, kw_1096, kw_106, by decide +kernel, rfl⟩
abbrev mX7_addFactor : gwY := (yX7_addFactor, cX7_addFactor, 3, (Option.none : Option Jvm.ClassFile.FieldType), { frames := 3, cells := 0, slots := 0, locals := 86 }, [])
theorem okX7_addFactor : gw_ok mX7_addFactor 2 := ⟨by decide +kernel, kw_1102, kw_106, by decide +kernel, rfl⟩
abbrev mX7_addBound : gwY := (yX7_addBound, cX7_addBound, 2, (Option.none : Option Jvm.ClassFile.FieldType), { frames := 3, cells := 0, slots := 0, locals := 86 }, [])
theorem okX7_addBound : gw_ok mX7_addBound 1 := ⟨by decide +kernel, kw_1111, kw_106, by decide +kernel, rfl⟩
abbrev mX8_init : gwY := (yX8_init, cX8_init, 2, (Option.none : Option Jvm.ClassFile.FieldType), { frames := 5, cells := 353, slots := 19212, locals := 123 }, [])
theorem okX8_init : gw_ok mX8_init 0 := ⟨by decide +kernel, kw_123, kw_100, by decide +kernel, rfl⟩
abbrev mX8_setVariables : gwY := (yX8_setVariables, cX8_setVariables, 3, (Option.some Jvm.ClassFile.FieldType.int), { frames := 7, cells := 1, slots := 6, locals := 150 }, [])
theorem okX8_setVariables : gw_ok mX8_setVariables 1 := ⟨by decide +kernel, kw_924, kw_100, by decide +kernel, rfl⟩
abbrev mX8_setProfit : gwY := (yX8_setProfit, cX8_setProfit, 4, (Option.some Jvm.ClassFile.FieldType.int), { frames := 8, cells := 2, slots := 12, locals := 150 }, [])
theorem okX8_setProfit : gw_ok mX8_setProfit 2 := ⟨by decide +kernel, kw_949, kw_100, by decide +kernel, rfl⟩
abbrev mX8_addConstraint : gwY := (yX8_addConstraint, cX8_addConstraint, 3, (Option.some Jvm.ClassFile.FieldType.int), { frames := 8, cells := 2, slots := 12, locals := 150 }, [])
theorem okX8_addConstraint : gw_ok mX8_addConstraint 1 := ⟨by decide +kernel, kw_970, kw_100, by decide +kernel, rfl⟩
abbrev mX8_setCoefficient : gwY := (yX8_setCoefficient, cX8_setCoefficient, 5, (Option.some Jvm.ClassFile.FieldType.int), { frames := 8, cells := 3, slots := 18, locals := 150 }, [])
theorem okX8_setCoefficient : gw_ok mX8_setCoefficient 3 := ⟨by decide +kernel, kw_998, kw_100, by decide +kernel, rfl⟩
abbrev mX8_setBound : gwY := (yX8_setBound, cX8_setBound, 4, (Option.some Jvm.ClassFile.FieldType.int), { frames := 8, cells := 2, slots := 12, locals := 150 }, [])
theorem okX8_setBound : gw_ok mX8_setBound 2 := ⟨by decide +kernel, kw_1006, kw_100, by decide +kernel, rfl⟩
abbrev mX8_dropConstraint : gwY := (yX8_dropConstraint, cX8_dropConstraint, 2, (Option.some Jvm.ClassFile.FieldType.int), { frames := 8, cells := 1, slots := 6, locals := 150 }, [])
theorem okX8_dropConstraint : gw_ok mX8_dropConstraint 1 := ⟨by decide +kernel, kw_1014, kw_100, by decide +kernel, rfl⟩
abbrev mX8_begin : gwY := (yX8_begin, cX8_begin, 2, (Option.some Jvm.ClassFile.FieldType.int), { frames := 6, cells := 0, slots := 0, locals := 150 }, [])
theorem okX8_begin : gw_ok mX8_begin 0 := ⟨by decide +kernel, kw_365, kw_100, by decide +kernel, rfl⟩
abbrev mX8_pivot : gwY := (yX8_pivot, cX8_pivot, 4, (Option.some Jvm.ClassFile.FieldType.int), { frames := 8, cells := 3, slots := 18, locals := 145 }, [])
theorem okX8_pivot : gw_ok mX8_pivot 2 := ⟨by decide +kernel, kw_1025, kw_100, by decide +kernel, rfl⟩
abbrev mX8_step : gwY := (yX8_step, cX8_step, 2, (Option.some Jvm.ClassFile.FieldType.int), { frames := 8, cells := 1, slots := 6, locals := 167 }, [])
theorem okX8_step : gw_ok mX8_step 0 := ⟨by decide +kernel, kw_1048, kw_100, by decide +kernel, rfl⟩
abbrev mX8_solve : gwY := (yX8_solve, cX8_solve, 1, (Option.some Jvm.ClassFile.FieldType.int), { frames := 6, cells := 0, slots := 0, locals := 169 }, [])
theorem okX8_solve : gw_ok mX8_solve 0 := ⟨by decide +kernel, kw_433, kw_100, by decide +kernel, rfl⟩
abbrev mX8_setRule : gwY := (yX8_setRule, cX8_setRule, 3, (Option.some Jvm.ClassFile.FieldType.int), { frames := 7, cells := 1, slots := 6, locals := 124 }, [])
theorem okX8_setRule : gw_ok mX8_setRule 1 := ⟨by decide +kernel, kw_1061, kw_100, by decide +kernel, rfl⟩
abbrev mX8_append : gwY := (yX8_append, cX8_append, 2, (Option.some Jvm.ClassFile.FieldType.int), { frames := 7, cells := 1, slots := 6, locals := 100 }, [])
theorem okX8_append : gw_ok mX8_append 1 := ⟨by decide +kernel, kw_1069, kw_100, by decide +kernel, rfl⟩
abbrev mX8_clearBuffer : gwY := (yX8_clearBuffer, cX8_clearBuffer, 2, (Option.some Jvm.ClassFile.FieldType.int), { frames := 2, cells := 0, slots := 0, locals := 60 }, [])
theorem okX8_clearBuffer : gw_ok mX8_clearBuffer 0 := ⟨by decide +kernel, kw_494, kw_100, by decide +kernel, rfl⟩
abbrev mX8_firstError : gwY := (yX8_firstError, cX8_firstError, 1, (Option.some Jvm.ClassFile.FieldType.int), { frames := 7, cells := 0, slots := 0, locals := 172 }, [])
theorem okX8_firstError : gw_ok mX8_firstError 0 := ⟨by decide +kernel, kw_502, kw_100, by decide +kernel, rfl⟩
abbrev mX8_load : gwY := (yX8_load, cX8_load, 1, (Option.some Jvm.ClassFile.FieldType.int), { frames := 7, cells := 1, slots := 6, locals := 172 }, [])
theorem okX8_load : gw_ok mX8_load 0 := ⟨by decide +kernel, kw_1083, kw_100, by decide +kernel, rfl⟩
abbrev mX8_write : gwY := (yX8_write, cX8_write, 1, (Option.some Jvm.ClassFile.FieldType.int), { frames := 7, cells := 1, slots := 6, locals := 131 }, [])
theorem okX8_write : gw_ok mX8_write 0 := ⟨by decide +kernel, kw_1092, kw_100, by decide +kernel, rfl⟩
abbrev mX8_undo : gwY := (yX8_undo, cX8_undo, 1, (Option.some Jvm.ClassFile.FieldType.int), { frames := 7, cells := 1, slots := 6, locals := 103 }, [])
theorem okX8_undo : gw_ok mX8_undo 0 := ⟨by decide +kernel, kw_1120, kw_100, by decide +kernel, rfl⟩
abbrev mX8_keep : gwY := (yX8_keep, cX8_keep, 1, (Option.some Jvm.ClassFile.FieldType.int), { frames := 4, cells := 0, slots := 0, locals := 103 }, [])
theorem okX8_keep : gw_ok mX8_keep 0 := ⟨by decide +kernel, kw_567, kw_100, by decide +kernel, rfl⟩
abbrev mX8_restore : gwY := (yX8_restore, cX8_restore, 1, (Option.some Jvm.ClassFile.FieldType.int), { frames := 7, cells := 1, slots := 6, locals := 124 }, [])
theorem okX8_restore : gw_ok mX8_restore 0 := ⟨by decide +kernel, kw_1128, kw_100, by decide +kernel, rfl⟩
abbrev mX8_savedStates : gwY := (yX8_savedStates, cX8_savedStates, 1, (Option.some Jvm.ClassFile.FieldType.int), { frames := 1, cells := 0, slots := 0, locals := 40 }, [])
theorem okX8_savedStates : gw_ok mX8_savedStates 0 := ⟨by decide +kernel, kw_571, kw_100, by decide +kernel, rfl⟩
abbrev mX8_variables : gwY := (yX8_variables, cX8_variables, 1, (Option.some Jvm.ClassFile.FieldType.int), { frames := 1, cells := 0, slots := 0, locals := 40 }, [])
theorem okX8_variables : gw_ok mX8_variables 0 := ⟨by decide +kernel, kw_575, kw_100, by decide +kernel, rfl⟩
abbrev mX8_constraints : gwY := (yX8_constraints, cX8_constraints, 1, (Option.some Jvm.ClassFile.FieldType.int), { frames := 1, cells := 0, slots := 0, locals := 40 }, [])
theorem okX8_constraints : gw_ok mX8_constraints 0 := ⟨by decide +kernel, kw_579, kw_100, by decide +kernel, rfl⟩
abbrev mX8_profitOf : gwY := (yX8_profitOf, cX8_profitOf, 2, (Option.some Jvm.ClassFile.FieldType.int), { frames := 8, cells := 1, slots := 6, locals := 121 }, [])
theorem okX8_profitOf : gw_ok mX8_profitOf 1 := ⟨by decide +kernel, kw_1136, kw_100, by decide +kernel, rfl⟩
abbrev mX8_coefficientOf : gwY := (yX8_coefficientOf, cX8_coefficientOf, 3, (Option.some Jvm.ClassFile.FieldType.int), { frames := 8, cells := 2, slots := 12, locals := 121 }, [])
theorem okX8_coefficientOf : gw_ok mX8_coefficientOf 2 := ⟨by decide +kernel, kw_1143, kw_100, by decide +kernel, rfl⟩
abbrev mX8_boundOf : gwY := (yX8_boundOf, cX8_boundOf, 2, (Option.some Jvm.ClassFile.FieldType.int), { frames := 8, cells := 1, slots := 6, locals := 121 }, [])
theorem okX8_boundOf : gw_ok mX8_boundOf 1 := ⟨by decide +kernel, kw_1150, kw_100, by decide +kernel, rfl⟩
abbrev mX8_rule : gwY := (yX8_rule, cX8_rule, 1, (Option.some Jvm.ClassFile.FieldType.int), { frames := 1, cells := 0, slots := 0, locals := 40 }, [])
theorem okX8_rule : gw_ok mX8_rule 0 := ⟨by decide +kernel, kw_583, kw_100, by decide +kernel, rfl⟩
abbrev mX8_columnOf : gwY := (yX8_columnOf, cX8_columnOf, 2, (Option.some Jvm.ClassFile.FieldType.int), { frames := 8, cells := 1, slots := 6, locals := 121 }, [])
theorem okX8_columnOf : gw_ok mX8_columnOf 1 := ⟨by decide +kernel, kw_1157, kw_100, by decide +kernel, rfl⟩
abbrev mX8_isNamed : gwY := (yX8_isNamed, cX8_isNamed, 2, (Option.some Jvm.ClassFile.FieldType.boolean), { frames := 8, cells := 1, slots := 6, locals := 121 }, [])
theorem okX8_isNamed : gw_ok mX8_isNamed 1 := ⟨by decide +kernel, kw_1164, kw_100, by decide +kernel, rfl⟩
abbrev mX8_isOptimal : gwY := (yX8_isOptimal, cX8_isOptimal, 1, (Option.some Jvm.ClassFile.FieldType.boolean), { frames := 4, cells := 0, slots := 0, locals := 105 }, [])
theorem okX8_isOptimal : gw_ok mX8_isOptimal 0 := ⟨by decide +kernel, kw_587, kw_100, by decide +kernel, rfl⟩
abbrev mX8_hasRay : gwY := (yX8_hasRay, cX8_hasRay, 1, (Option.some Jvm.ClassFile.FieldType.boolean), { frames := 4, cells := 0, slots := 0, locals := 117 }, [])
theorem okX8_hasRay : gw_ok mX8_hasRay 0 := ⟨by decide +kernel, kw_592, kw_100, by decide +kernel, rfl⟩
abbrev mX8_pivots : gwY := (yX8_pivots, cX8_pivots, 1, (Option.some Jvm.ClassFile.FieldType.int), { frames := 1, cells := 0, slots := 0, locals := 40 }, [])
theorem okX8_pivots : gw_ok mX8_pivots 0 := ⟨by decide +kernel, kw_597, kw_100, by decide +kernel, rfl⟩
abbrev mX8_allPivots : gwY := (yX8_allPivots, cX8_allPivots, 1, (Option.some Jvm.ClassFile.FieldType.int), { frames := 1, cells := 0, slots := 0, locals := 40 }, [])
theorem okX8_allPivots : gw_ok mX8_allPivots 0 := ⟨by decide +kernel, kw_601, kw_100, by decide +kernel, rfl⟩
abbrev mX8_idlePivots : gwY := (yX8_idlePivots, cX8_idlePivots, 1, (Option.some Jvm.ClassFile.FieldType.int), { frames := 1, cells := 0, slots := 0, locals := 40 }, [])
theorem okX8_idlePivots : gw_ok mX8_idlePivots 0 := ⟨by decide +kernel, kw_605, kw_100, by decide +kernel, rfl⟩
abbrev mX8_entryNumerator : gwY := (yX8_entryNumerator, cX8_entryNumerator, 3, (Option.some Jvm.ClassFile.FieldType.long), { frames := 8, cells := 2, slots := 12, locals := 121 }, [])
theorem okX8_entryNumerator : gw_ok mX8_entryNumerator 2 := ⟨by decide +kernel, kw_1171, kw_100, by decide +kernel, rfl⟩
abbrev mX8_entryDenominator : gwY := (yX8_entryDenominator, cX8_entryDenominator, 3, (Option.some Jvm.ClassFile.FieldType.long), { frames := 8, cells := 2, slots := 12, locals := 121 }, [])
theorem okX8_entryDenominator : gw_ok mX8_entryDenominator 2 := ⟨by decide +kernel, kw_1178, kw_100, by decide +kernel, rfl⟩
abbrev mX8_reducedNumerator : gwY := (yX8_reducedNumerator, cX8_reducedNumerator, 2, (Option.some Jvm.ClassFile.FieldType.long), { frames := 8, cells := 1, slots := 6, locals := 121 }, [])
theorem okX8_reducedNumerator : gw_ok mX8_reducedNumerator 1 := ⟨by decide +kernel, kw_1185, kw_100, by decide +kernel, rfl⟩
abbrev mX8_reducedDenominator : gwY := (yX8_reducedDenominator, cX8_reducedDenominator, 2, (Option.some Jvm.ClassFile.FieldType.long), { frames := 8, cells := 1, slots := 6, locals := 121 }, [])
theorem okX8_reducedDenominator : gw_ok mX8_reducedDenominator 1 := ⟨by decide +kernel, kw_1192, kw_100, by decide +kernel, rfl⟩
abbrev mX8_valueNumerator : gwY := (yX8_valueNumerator, cX8_valueNumerator, 1, (Option.some Jvm.ClassFile.FieldType.long), { frames := 4, cells := 0, slots := 0, locals := 116 }, [])
theorem okX8_valueNumerator : gw_ok mX8_valueNumerator 0 := ⟨by decide +kernel, kw_609, kw_100, by decide +kernel, rfl⟩
abbrev mX8_valueDenominator : gwY := (yX8_valueDenominator, cX8_valueDenominator, 1, (Option.some Jvm.ClassFile.FieldType.long), { frames := 4, cells := 0, slots := 0, locals := 116 }, [])
theorem okX8_valueDenominator : gw_ok mX8_valueDenominator 0 := ⟨by decide +kernel, kw_626, kw_100, by decide +kernel, rfl⟩
abbrev mX8_givenNumerator : gwY := (yX8_givenNumerator, cX8_givenNumerator, 2, (Option.some Jvm.ClassFile.FieldType.long), { frames := 8, cells := 1, slots := 6, locals := 128 }, [])
theorem okX8_givenNumerator : gw_ok mX8_givenNumerator 1 := ⟨by decide +kernel, kw_1199, kw_100, by decide +kernel, rfl⟩
abbrev mX8_givenDenominator : gwY := (yX8_givenDenominator, cX8_givenDenominator, 2, (Option.some Jvm.ClassFile.FieldType.long), { frames := 8, cells := 1, slots := 6, locals := 128 }, [])
theorem okX8_givenDenominator : gw_ok mX8_givenDenominator 1 := ⟨by decide +kernel, kw_1206, kw_100, by decide +kernel, rfl⟩
abbrev mX8_value : gwY := (yX8_value, cX8_value, 1, (Option.some Jvm.ClassFile.FieldType.double), { frames := 5, cells := 0, slots := 0, locals := 136 }, [])
theorem okX8_value : gw_ok mX8_value 0 := ⟨by decide +kernel, kw_633, kw_100, by decide +kernel, rfl⟩
abbrev mX8_dualNumerator : gwY := (yX8_dualNumerator, cX8_dualNumerator, 2, (Option.some Jvm.ClassFile.FieldType.long), { frames := 8, cells := 1, slots := 6, locals := 121 }, [])
theorem okX8_dualNumerator : gw_ok mX8_dualNumerator 1 := ⟨by decide +kernel, kw_1213, kw_100, by decide +kernel, rfl⟩
abbrev mX8_dualDenominator : gwY := (yX8_dualDenominator, cX8_dualDenominator, 2, (Option.some Jvm.ClassFile.FieldType.long), { frames := 8, cells := 1, slots := 6, locals := 121 }, [])
theorem okX8_dualDenominator : gw_ok mX8_dualDenominator 1 := ⟨by decide +kernel, kw_1220, kw_100, by decide +kernel, rfl⟩
abbrev mX8_dualNumeratorByEquations : gwY := (yX8_dualNumeratorByEquations, cX8_dualNumeratorByEquations, 2, (Option.some Jvm.ClassFile.FieldType.long), { frames := 8, cells := 1, slots := 6, locals := 145 }, [])
theorem okX8_dualNumeratorByEquations : gw_ok mX8_dualNumeratorByEquations 1 := ⟨by decide +kernel, kw_1227, kw_100, by decide +kernel, rfl⟩
abbrev mX8_dualDenominatorByEquations : gwY := (yX8_dualDenominatorByEquations, cX8_dualDenominatorByEquations, 2, (Option.some Jvm.ClassFile.FieldType.long), { frames := 8, cells := 1, slots := 6, locals := 145 }, [])
theorem okX8_dualDenominatorByEquations : gw_ok mX8_dualDenominatorByEquations 1 := ⟨by decide +kernel, kw_1234, kw_100, by decide +kernel, rfl⟩
abbrev mX8_dualValueNumerator : gwY := (yX8_dualValueNumerator, cX8_dualValueNumerator, 1, (Option.some Jvm.ClassFile.FieldType.long), { frames := 5, cells := 0, slots := 0, locals := 128 }, [])
theorem okX8_dualValueNumerator : gw_ok mX8_dualValueNumerator 0 := ⟨by decide +kernel, kw_639, kw_100, by decide +kernel, rfl⟩
abbrev mX8_dualValueDenominator : gwY := (yX8_dualValueDenominator, cX8_dualValueDenominator, 1, (Option.some Jvm.ClassFile.FieldType.long), { frames := 5, cells := 0, slots := 0, locals := 128 }, [])
theorem okX8_dualValueDenominator : gw_ok mX8_dualValueDenominator 0 := ⟨by decide +kernel, kw_653, kw_100, by decide +kernel, rfl⟩
abbrev mX8_rayColumn : gwY := (yX8_rayColumn, cX8_rayColumn, 1, (Option.some Jvm.ClassFile.FieldType.int), { frames := 8, cells := 1, slots := 6, locals := 137 }, [])
theorem okX8_rayColumn : gw_ok mX8_rayColumn 0 := ⟨by decide +kernel, kw_1241, kw_100, by decide +kernel, rfl⟩
abbrev mX8_rayNumerator : gwY := (yX8_rayNumerator, cX8_rayNumerator, 2, (Option.some Jvm.ClassFile.FieldType.long), { frames := 8, cells := 2, slots := 12, locals := 140 }, [])
theorem okX8_rayNumerator : gw_ok mX8_rayNumerator 1 := ⟨by decide +kernel, kw_1253, kw_100, by decide +kernel, rfl⟩
abbrev mX8_rayDenominator : gwY := (yX8_rayDenominator, cX8_rayDenominator, 2, (Option.some Jvm.ClassFile.FieldType.long), { frames := 8, cells := 2, slots := 12, locals := 140 }, [])
theorem okX8_rayDenominator : gw_ok mX8_rayDenominator 1 := ⟨by decide +kernel, kw_1264, kw_100, by decide +kernel, rfl⟩
abbrev mX8_feasibleBases : gwY := (yX8_feasibleBases, cX8_feasibleBases, 1, (Option.some Jvm.ClassFile.FieldType.int), { frames := 6, cells := 0, slots := 0, locals := 169 }, [])
theorem okX8_feasibleBases : gw_ok mX8_feasibleBases 0 := ⟨by decide +kernel, kw_657, kw_100, by decide +kernel, rfl⟩
abbrev mX8_unlikeValues : gwY := (yX8_unlikeValues, cX8_unlikeValues, 1, (Option.some Jvm.ClassFile.FieldType.int), { frames := 6, cells := 0, slots := 0, locals := 169 }, [])
theorem okX8_unlikeValues : gw_ok mX8_unlikeValues 0 := ⟨by decide +kernel, kw_720, kw_100, by decide +kernel, rfl⟩
abbrev mX8_bestNumerator : gwY := (yX8_bestNumerator, cX8_bestNumerator, 1, (Option.some Jvm.ClassFile.FieldType.long), { frames := 6, cells := 0, slots := 0, locals := 169 }, [])
theorem okX8_bestNumerator : gw_ok mX8_bestNumerator 0 := ⟨by decide +kernel, kw_724, kw_100, by decide +kernel, rfl⟩
abbrev mX8_bestDenominator : gwY := (yX8_bestDenominator, cX8_bestDenominator, 1, (Option.some Jvm.ClassFile.FieldType.long), { frames := 6, cells := 0, slots := 0, locals := 169 }, [])
theorem okX8_bestDenominator : gw_ok mX8_bestDenominator 0 := ⟨by decide +kernel, kw_728, kw_100, by decide +kernel, rfl⟩
abbrev mX8_whyNoPivot : gwY := (yX8_whyNoPivot, cX8_whyNoPivot, 3, (Option.some Jvm.ClassFile.FieldType.int), { frames := 8, cells := 2, slots := 12, locals := 129 }, [])
theorem okX8_whyNoPivot : gw_ok mX8_whyNoPivot 2 := ⟨by decide +kernel, kw_1271, kw_100, by decide +kernel, rfl⟩
abbrev mX8_nextColumn : gwY := (yX8_nextColumn, cX8_nextColumn, 1, (Option.some Jvm.ClassFile.FieldType.int), { frames := 8, cells := 1, slots := 6, locals := 167 }, [])
theorem okX8_nextColumn : gw_ok mX8_nextColumn 0 := ⟨by decide +kernel, kw_1278, kw_100, by decide +kernel, rfl⟩
abbrev mX8_nextRow : gwY := (yX8_nextRow, cX8_nextRow, 1, (Option.some Jvm.ClassFile.FieldType.int), { frames := 8, cells := 1, slots := 6, locals := 167 }, [])
theorem okX8_nextRow : gw_ok mX8_nextRow 0 := ⟨by decide +kernel, kw_1285, kw_100, by decide +kernel, rfl⟩
abbrev mX8_pivotsLeft : gwY := (yX8_pivotsLeft, cX8_pivotsLeft, 1, (Option.some Jvm.ClassFile.FieldType.int), { frames := 6, cells := 0, slots := 0, locals := 169 }, [])
theorem okX8_pivotsLeft : gw_ok mX8_pivotsLeft 0 := ⟨by decide +kernel, kw_732, kw_100, by decide +kernel, rfl⟩
abbrev mX8_leastBound : gwY := (yX8_leastBound, cX8_leastBound, 3, (Option.some Jvm.ClassFile.FieldType.int), { frames := 8, cells := 1, slots := 6, locals := 133 }, [])
theorem okX8_leastBound : gw_ok mX8_leastBound 1 := ⟨by decide +kernel, kw_780, kw_100, by decide +kernel, rfl⟩
abbrev mX8_greatestBound : gwY := (yX8_greatestBound, cX8_greatestBound, 3, (Option.some Jvm.ClassFile.FieldType.int), { frames := 8, cells := 1, slots := 6, locals := 133 }, [])
theorem okX8_greatestBound : gw_ok mX8_greatestBound 1 := ⟨by decide +kernel, kw_869, kw_100, by decide +kernel, rfl⟩
abbrev mX8_solvedNumerator : gwY := (yX8_solvedNumerator, cX8_solvedNumerator, 3, (Option.some Jvm.ClassFile.FieldType.long), { frames := 9, cells := 3, slots := 18, locals := 191 }, [])
theorem okX8_solvedNumerator : gw_ok mX8_solvedNumerator 2 := ⟨by decide +kernel, kw_1300, kw_100, by decide +kernel, rfl⟩
abbrev mX8_solvedDenominator : gwY := (yX8_solvedDenominator, cX8_solvedDenominator, 3, (Option.some Jvm.ClassFile.FieldType.long), { frames := 9, cells := 3, slots := 18, locals := 191 }, [])
theorem okX8_solvedDenominator : gw_ok mX8_solvedDenominator 2 := ⟨by decide +kernel, kw_1312, kw_100, by decide +kernel, rfl⟩
abbrev mX8_digest : gwY := (yX8_digest, cX8_digest, 3, (Option.some Jvm.ClassFile.FieldType.long), { frames := 10, cells := 8, slots := 48, locals := 193 }, [])
theorem okX8_digest : gw_ok mX8_digest 0 := ⟨by decide +kernel, kw_736, kw_100, by decide +kernel, rfl⟩
abbrev mX8_mix : gwY := (yX8_mix, cX8_mix, 4, (Option.some Jvm.ClassFile.FieldType.long), { frames := 1, cells := 0, slots := 0, locals := 40 }, [])
theorem okX8_mix : gw_ok mX8_mix 2 := ⟨by decide +kernel, kw_744, kw_100, by decide +kernel, rfl⟩
abbrev mX8_mixTruth : gwY := (yX8_mixTruth, cX8_mixTruth, 3, (Option.some Jvm.ClassFile.FieldType.long), { frames := 2, cells := 0, slots := 0, locals := 63 }, [])
theorem okX8_mixTruth : gw_ok mX8_mixTruth 2 := ⟨by decide +kernel, kw_749, kw_100, by decide +kernel, rfl⟩
abbrev mX8_mixFraction : gwY := (yX8_mixFraction, cX8_mixFraction, 8, (Option.some Jvm.ClassFile.FieldType.long), { frames := 4, cells := 0, slots := 0, locals := 116 }, [])
theorem okX8_mixFraction : gw_ok mX8_mixFraction 3 := ⟨by decide +kernel, kw_757, kw_100, by decide +kernel, rfl⟩
abbrev mX8_mixCounts : gwY := (yX8_mixCounts, cX8_mixCounts, 5, (Option.some Jvm.ClassFile.FieldType.long), { frames := 5, cells := 0, slots := 0, locals := 137 }, [])
theorem okX8_mixCounts : gw_ok mX8_mixCounts 1 := ⟨by decide +kernel, kw_741, kw_100, by decide +kernel, rfl⟩
abbrev mX8_mixValues : gwY := (yX8_mixValues, cX8_mixValues, 5, (Option.some Jvm.ClassFile.FieldType.long), { frames := 6, cells := 0, slots := 0, locals := 169 }, [])
theorem okX8_mixValues : gw_ok mX8_mixValues 1 := ⟨by decide +kernel, kw_754, kw_100, by decide +kernel, rfl⟩
abbrev mX8_mixProblem : gwY := (yX8_mixProblem, cX8_mixProblem, 7, (Option.some Jvm.ClassFile.FieldType.long), { frames := 9, cells := 8, slots := 48, locals := 155 }, [])
theorem okX8_mixProblem : gw_ok mX8_mixProblem 1 := ⟨by decide +kernel, kw_762, kw_100, by decide +kernel, rfl⟩
abbrev mX8_mixColumns : gwY := (yX8_mixColumns, cX8_mixColumns, 6, (Option.some Jvm.ClassFile.FieldType.long), { frames := 5, cells := 0, slots := 0, locals := 143 }, [])
theorem okX8_mixColumns : gw_ok mX8_mixColumns 1 := ⟨by decide +kernel, kw_878, kw_100, by decide +kernel, rfl⟩
abbrev mX8_mixRows : gwY := (yX8_mixRows, cX8_mixRows, 7, (Option.some Jvm.ClassFile.FieldType.long), { frames := 5, cells := 0, slots := 0, locals := 143 }, [])
theorem okX8_mixRows : gw_ok mX8_mixRows 1 := ⟨by decide +kernel, kw_893, kw_100, by decide +kernel, rfl⟩
abbrev mX8_mixNext : gwY := (yX8_mixNext, cX8_mixNext, 4, (Option.some Jvm.ClassFile.FieldType.long), { frames := 6, cells := 0, slots := 0, locals := 167 }, [])
theorem okX8_mixNext : gw_ok mX8_mixNext 1 := ⟨by decide +kernel, kw_899, kw_100, by decide +kernel, rfl⟩
abbrev mX8_mixBuffer : gwY := (yX8_mixBuffer, cX8_mixBuffer, 6, (Option.some Jvm.ClassFile.FieldType.long), { frames := 3, cells := 0, slots := 0, locals := 84 }, [])
theorem okX8_mixBuffer : gw_ok mX8_mixBuffer 1 := ⟨by decide +kernel, kw_915, kw_100, by decide +kernel, rfl⟩
abbrev mX8_bitsOf : gwY := (yX8_bitsOf, cX8_bitsOf, 7, (Option.some Jvm.ClassFile.FieldType.long), { frames := 1, cells := 0, slots := 0, locals := 40 }, [])
theorem okX8_bitsOf : gw_ok mX8_bitsOf 1 := ⟨by decide +kernel, kw_908, kw_100, by decide +kernel, rfl⟩
abbrev mX8_requireVariable : gwY := (yX8_requireVariable, cX8_requireVariable, 2, (Option.none : Option Jvm.ClassFile.FieldType), { frames := 7, cells := 1, slots := 6, locals := 100 }, [])
theorem okX8_requireVariable : gw_ok mX8_requireVariable 1 := ⟨by decide +kernel, kw_953, kw_100, by decide +kernel, rfl⟩
abbrev mX8_requireConstraint : gwY := (yX8_requireConstraint, cX8_requireConstraint, 2, (Option.none : Option Jvm.ClassFile.FieldType), { frames := 7, cells := 1, slots := 6, locals := 100 }, [])
theorem okX8_requireConstraint : gw_ok mX8_requireConstraint 1 := ⟨by decide +kernel, kw_784, kw_100, by decide +kernel, rfl⟩
abbrev mX8_requireRow : gwY := (yX8_requireRow, cX8_requireRow, 2, (Option.none : Option Jvm.ClassFile.FieldType), { frames := 7, cells := 1, slots := 6, locals := 100 }, [])
theorem okX8_requireRow : gw_ok mX8_requireRow 1 := ⟨by decide +kernel, kw_1029, kw_100, by decide +kernel, rfl⟩
abbrev mX8_requireColumn : gwY := (yX8_requireColumn, cX8_requireColumn, 2, (Option.none : Option Jvm.ClassFile.FieldType), { frames := 7, cells := 1, slots := 6, locals := 100 }, [])
theorem okX8_requireColumn : gw_ok mX8_requireColumn 1 := ⟨by decide +kernel, kw_1034, kw_100, by decide +kernel, rfl⟩
abbrev mX8_requireFactor : gwY := (yX8_requireFactor, cX8_requireFactor, 1, (Option.none : Option Jvm.ClassFile.FieldType), { frames := 7, cells := 1, slots := 6, locals := 100 }, [])
theorem okX8_requireFactor : gw_ok mX8_requireFactor 1 := ⟨by decide +kernel, kw_957, kw_100, by decide +kernel, rfl⟩
abbrev mX8_requireBound : gwY := (yX8_requireBound, cX8_requireBound, 1, (Option.none : Option Jvm.ClassFile.FieldType), { frames := 7, cells := 1, slots := 6, locals := 100 }, [])
theorem okX8_requireBound : gw_ok mX8_requireBound 1 := ⟨by decide +kernel, kw_973, kw_100, by decide +kernel, rfl⟩
abbrev mX8_requireOpen : gwY := (yX8_requireOpen, cX8_requireOpen, 1, (Option.none : Option Jvm.ClassFile.FieldType), { frames := 7, cells := 1, slots := 6, locals := 137 }, [])
theorem okX8_requireOpen : gw_ok mX8_requireOpen 0 := ⟨by decide +kernel, kw_1052, kw_100, by decide +kernel, rfl⟩
abbrev mX8_requireRay : gwY := (yX8_requireRay, cX8_requireRay, 1, (Option.none : Option Jvm.ClassFile.FieldType), { frames := 7, cells := 1, slots := 6, locals := 117 }, [])
theorem okX8_requireRay : gw_ok mX8_requireRay 0 := ⟨by decide +kernel, kw_1245, kw_100, by decide +kernel, rfl⟩
abbrev mX8_saveState : gwY := (yX8_saveState, cX8_saveState, 2, (Option.none : Option Jvm.ClassFile.FieldType), { frames := 4, cells := 0, slots := 0, locals := 103 }, [])
theorem okX8_saveState : gw_ok mX8_saveState 0 := ⟨by decide +kernel, kw_369, kw_100, by decide +kernel, rfl⟩
abbrev mX8_dropOldest : gwY := (yX8_dropOldest, cX8_dropOldest, 3, (Option.none : Option Jvm.ClassFile.FieldType), { frames := 1, cells := 0, slots := 0, locals := 40 }, [])
theorem okX8_dropOldest : gw_ok mX8_dropOldest 0 := ⟨by decide +kernel, kw_373, kw_100, by decide +kernel, rfl⟩
abbrev mX8_tryBound : gwY := (yX8_tryBound, cX8_tryBound, 3, (Option.none : Option Jvm.ClassFile.FieldType), { frames := 8, cells := 3, slots := 18, locals := 169 }, [])
theorem okX8_tryBound : gw_ok mX8_tryBound 2 := ⟨by decide +kernel, kw_1304, kw_100, by decide +kernel, rfl⟩
abbrev mX8_lowNumerator : gwY := (yX8_lowNumerator, cX8_lowNumerator, 6, (Option.some Jvm.ClassFile.FieldType.long), { frames := 3, cells := 0, slots := 0, locals := 91 }, [])
theorem okX8_lowNumerator : gw_ok mX8_lowNumerator 2 := ⟨by decide +kernel, kw_616, kw_100, by decide +kernel, rfl⟩
abbrev mX8_lowDenominator : gwY := (yX8_lowDenominator, cX8_lowDenominator, 6, (Option.some Jvm.ClassFile.FieldType.long), { frames := 3, cells := 0, slots := 0, locals := 91 }, [])
theorem okX8_lowDenominator : gw_ok mX8_lowDenominator 2 := ⟨by decide +kernel, kw_629, kw_100, by decide +kernel, rfl⟩
abbrev mX8_commonDivisor : gwY := (yX8_commonDivisor, cX8_commonDivisor, 11, (Option.some Jvm.ClassFile.FieldType.long), { frames := 2, cells := 0, slots := 0, locals := 61 }, [])
theorem okX8_commonDivisor : gw_ok mX8_commonDivisor 2 := ⟨by decide +kernel, kw_619, kw_100, by decide +kernel, rfl⟩
abbrev mX9_init : gwY := (yX9_init, cX9_init, 1, (Option.none : Option Jvm.ClassFile.FieldType), { frames := 1, cells := 13, slots := 764, locals := 40 }, [])
theorem okX9_init : gw_ok mX9_init 0 := ⟨by decide +kernel, kw_1317, kw_110, by decide +kernel, rfl⟩
abbrev mX9_thrown : gwY := (yX9_thrown, cX9_thrown, 1, (Option.some Jvm.ClassFile.FieldType.int), { frames := 1, cells := 0, slots := 0, locals := 40 }, [])
theorem okX9_thrown : gw_ok mX9_thrown 0 := ⟨by decide +kernel, kw_1408, kw_110, by decide +kernel, rfl⟩
abbrev mX9_in : gwY := (yX9_in, cX9_in, 3, (Option.some Jvm.ClassFile.FieldType.boolean), { frames := 1, cells := 0, slots := 0, locals := 40 }, [])
theorem okX9_in : gw_ok mX9_in 3 := ⟨by decide +kernel, kw_1415, kw_110, by decide +kernel, rfl⟩
abbrev mX9_holds : gwY := (yX9_holds, cX9_holds, 2, (Option.some Jvm.ClassFile.FieldType.boolean), { frames := 1, cells := 0, slots := 0, locals := 40 }, [])
theorem okX9_holds : gw_ok mX9_holds 1 := ⟨by decide +kernel, kw_1419, kw_110, by decide +kernel, rfl⟩
abbrev mX9_isVariable : gwY := (yX9_isVariable, cX9_isVariable, 2, (Option.some Jvm.ClassFile.FieldType.boolean), { frames := 2, cells := 0, slots := 0, locals := 62 }, [])
theorem okX9_isVariable : gw_ok mX9_isVariable 1 := ⟨by decide +kernel, kw_1435, kw_110, by decide +kernel, rfl⟩
abbrev mX9_isConstraint : gwY := (yX9_isConstraint, cX9_isConstraint, 2, (Option.some Jvm.ClassFile.FieldType.boolean), { frames := 2, cells := 0, slots := 0, locals := 62 }, [])
theorem okX9_isConstraint : gw_ok mX9_isConstraint 1 := ⟨by decide +kernel, kw_1451, kw_110, by decide +kernel, rfl⟩
abbrev mX9_columns : gwY := (yX9_columns, cX9_columns, 1, (Option.some Jvm.ClassFile.FieldType.int), { frames := 1, cells := 0, slots := 0, locals := 40 }, [])
theorem okX9_columns : gw_ok mX9_columns 0 := ⟨by decide +kernel, kw_1479, kw_110, by decide +kernel, rfl⟩
abbrev mX9_isColumn : gwY := (yX9_isColumn, cX9_isColumn, 2, (Option.some Jvm.ClassFile.FieldType.boolean), { frames := 2, cells := 0, slots := 0, locals := 62 }, [])
theorem okX9_isColumn : gw_ok mX9_isColumn 1 := ⟨by decide +kernel, kw_1475, kw_110, by decide +kernel, rfl⟩
abbrev mX9_save : gwY := (yX9_save, cX9_save, 2, (Option.none : Option Jvm.ClassFile.FieldType), { frames := 1, cells := 0, slots := 0, locals := 40 }, [])
theorem okX9_save : gw_ok mX9_save 0 := ⟨by decide +kernel, kw_1423, kw_110, by decide +kernel, rfl⟩
abbrev mX9_putAside : gwY := (yX9_putAside, cX9_putAside, 2, (Option.none : Option Jvm.ClassFile.FieldType), { frames := 1, cells := 0, slots := 0, locals := 40 }, [])
theorem okX9_putAside : gw_ok mX9_putAside 0 := ⟨by decide +kernel, kw_1892, kw_110, by decide +kernel, rfl⟩
abbrev mX9_putBack : gwY := (yX9_putBack, cX9_putBack, 2, (Option.none : Option Jvm.ClassFile.FieldType), { frames := 1, cells := 0, slots := 0, locals := 40 }, [])
theorem okX9_putBack : gw_ok mX9_putBack 0 := ⟨by decide +kernel, kw_1896, kw_110, by decide +kernel, rfl⟩
abbrev mX9_begins : gwY := (yX9_begins, cX9_begins, 2, (Option.none : Option Jvm.ClassFile.FieldType), { frames := 1, cells := 0, slots := 0, locals := 40 }, [])
theorem okX9_begins : gw_ok mX9_begins 0 := ⟨by decide +kernel, kw_1427, kw_110, by decide +kernel, rfl⟩
abbrev mX9_divisor : gwY := (yX9_divisor, cX9_divisor, 10, (Option.some Jvm.ClassFile.FieldType.long), { frames := 1, cells := 0, slots := 0, locals := 40 }, [])
theorem okX9_divisor : gw_ok mX9_divisor 2 := ⟨by decide +kernel, kw_1510, kw_110, by decide +kernel, rfl⟩
abbrev mX9_becomes : gwY := (yX9_becomes, cX9_becomes, 7, (Option.none : Option Jvm.ClassFile.FieldType), { frames := 2, cells := 0, slots := 0, locals := 69 }, [])
theorem okX9_becomes : gw_ok mX9_becomes 2 := ⟨by decide +kernel, kw_1507, kw_110, by decide +kernel, rfl⟩
abbrev mX9_adds : gwY := (yX9_adds, cX9_adds, 7, (Option.none : Option Jvm.ClassFile.FieldType), { frames := 3, cells := 0, slots := 0, locals := 95 }, [])
theorem okX9_adds : gw_ok mX9_adds 3 := ⟨by decide +kernel, kw_1538, kw_110, by decide +kernel, rfl⟩
abbrev mX9_firstFactor : gwY := (yX9_firstFactor, cX9_firstFactor, 3, (Option.some Jvm.ClassFile.FieldType.int), { frames := 1, cells := 0, slots := 0, locals := 40 }, [])
theorem okX9_firstFactor : gw_ok mX9_firstFactor 2 := ⟨by decide +kernel, kw_1495, kw_110, by decide +kernel, rfl⟩
abbrev mX9_lessens : gwY := (yX9_lessens, cX9_lessens, 8, (Option.none : Option Jvm.ClassFile.FieldType), { frames := 3, cells := 0, slots := 0, locals := 95 }, [])
theorem okX9_lessens : gw_ok mX9_lessens 4 := ⟨by decide +kernel, kw_1514, kw_110, by decide +kernel, rfl⟩
abbrev mX9_divides : gwY := (yX9_divides, cX9_divides, 7, (Option.none : Option Jvm.ClassFile.FieldType), { frames := 3, cells := 0, slots := 0, locals := 95 }, [])
theorem okX9_divides : gw_ok mX9_divides 3 := ⟨by decide +kernel, kw_1503, kw_110, by decide +kernel, rfl⟩
abbrev mX9_freeRow : gwY := (yX9_freeRow, cX9_freeRow, 5, (Option.some Jvm.ClassFile.FieldType.int), { frames := 1, cells := 0, slots := 0, locals := 40 }, [])
theorem okX9_freeRow : gw_ok mX9_freeRow 2 := ⟨by decide +kernel, kw_1499, kw_110, by decide +kernel, rfl⟩
abbrev mX9_lays : gwY := (yX9_lays, cX9_lays, 5, (Option.some Jvm.ClassFile.FieldType.boolean), { frames := 4, cells := 0, slots := 0, locals := 122 }, [])
theorem okX9_lays : gw_ok mX9_lays 0 := ⟨by decide +kernel, kw_1491, kw_110, by decide +kernel, rfl⟩
abbrev mX9_laysNow : gwY := (yX9_laysNow, cX9_laysNow, 2, (Option.none : Option Jvm.ClassFile.FieldType), { frames := 5, cells := 0, slots := 0, locals := 146 }, [])
theorem okX9_laysNow : gw_ok mX9_laysNow 0 := ⟨by decide +kernel, kw_1487, kw_110, by decide +kernel, rfl⟩
abbrev mX9_profit : gwY := (yX9_profit, cX9_profit, 2, (Option.some Jvm.ClassFile.FieldType.int), { frames := 1, cells := 0, slots := 0, locals := 40 }, [])
theorem okX9_profit : gw_ok mX9_profit 1 := ⟨by decide +kernel, kw_1530, kw_110, by decide +kernel, rfl⟩
abbrev mX9_entry : gwY := (yX9_entry, cX9_entry, 3, (Option.some Jvm.ClassFile.FieldType.long), { frames := 1, cells := 0, slots := 0, locals := 40 }, [])
theorem okX9_entry : gw_ok mX9_entry 2 := ⟨by decide +kernel, kw_1534, kw_110, by decide +kernel, rfl⟩
abbrev mX9_isFeasible : gwY := (yX9_isFeasible, cX9_isFeasible, 3, (Option.some Jvm.ClassFile.FieldType.boolean), { frames := 2, cells := 0, slots := 0, locals := 62 }, [])
theorem okX9_isFeasible : gw_ok mX9_isFeasible 0 := ⟨by decide +kernel, kw_1852, kw_110, by decide +kernel, rfl⟩
abbrev mX9_values : gwY := (yX9_values, cX9_values, 2, (Option.none : Option Jvm.ClassFile.FieldType), { frames := 4, cells := 0, slots := 0, locals := 121 }, [])
theorem okX9_values : gw_ok mX9_values 0 := ⟨by decide +kernel, kw_1758, kw_110, by decide +kernel, rfl⟩
abbrev mX9_reduces : gwY := (yX9_reduces, cX9_reduces, 3, (Option.none : Option Jvm.ClassFile.FieldType), { frames := 4, cells := 0, slots := 0, locals := 121 }, [])
theorem okX9_reduces : gw_ok mX9_reduces 1 := ⟨by decide +kernel, kw_1526, kw_110, by decide +kernel, rfl⟩
abbrev mX9_isRising : gwY := (yX9_isRising, cX9_isRising, 2, (Option.some Jvm.ClassFile.FieldType.boolean), { frames := 5, cells := 0, slots := 0, locals := 143 }, [])
theorem okX9_isRising : gw_ok mX9_isRising 1 := ⟨by decide +kernel, kw_1522, kw_110, by decide +kernel, rfl⟩
abbrev mX9_hasEntry : gwY := (yX9_hasEntry, cX9_hasEntry, 4, (Option.some Jvm.ClassFile.FieldType.boolean), { frames := 2, cells := 0, slots := 0, locals := 62 }, [])
theorem okX9_hasEntry : gw_ok mX9_hasEntry 1 := ⟨by decide +kernel, kw_1570, kw_110, by decide +kernel, rfl⟩
abbrev mX9_isBest : gwY := (yX9_isBest, cX9_isBest, 3, (Option.some Jvm.ClassFile.FieldType.boolean), { frames := 6, cells := 0, slots := 0, locals := 164 }, [])
theorem okX9_isBest : gw_ok mX9_isBest 0 := ⟨by decide +kernel, kw_1562, kw_110, by decide +kernel, rfl⟩
abbrev mX9_endless : gwY := (yX9_endless, cX9_endless, 3, (Option.some Jvm.ClassFile.FieldType.int), { frames := 6, cells := 0, slots := 0, locals := 164 }, [])
theorem okX9_endless : gw_ok mX9_endless 0 := ⟨by decide +kernel, kw_1566, kw_110, by decide +kernel, rfl⟩
abbrev mX9_against : gwY := (yX9_against, cX9_against, 16, (Option.some Jvm.ClassFile.FieldType.long), { frames := 2, cells := 0, slots := 0, locals := 69 }, [])
theorem okX9_against : gw_ok mX9_against 3 := ⟨by decide +kernel, kw_1542, kw_110, by decide +kernel, rfl⟩
abbrev mX9_leastRow : gwY := (yX9_leastRow, cX9_leastRow, 7, (Option.some Jvm.ClassFile.FieldType.int), { frames := 3, cells := 0, slots := 0, locals := 104 }, [])
theorem okX9_leastRow : gw_ok mX9_leastRow 1 := ⟨by decide +kernel, kw_1582, kw_110, by decide +kernel, rfl⟩
abbrev mX9_weighs : gwY := (yX9_weighs, cX9_weighs, 3, (Option.none : Option Jvm.ClassFile.FieldType), { frames := 5, cells := 0, slots := 0, locals := 143 }, [])
theorem okX9_weighs : gw_ok mX9_weighs 1 := ⟨by decide +kernel, kw_1578, kw_110, by decide +kernel, rfl⟩
abbrev mX9_isMore : gwY := (yX9_isMore, cX9_isMore, 20, (Option.some Jvm.ClassFile.FieldType.boolean), { frames := 1, cells := 0, slots := 0, locals := 40 }, [])
theorem okX9_isMore : gw_ok mX9_isMore 4 := ⟨by decide +kernel, kw_1586, kw_110, by decide +kernel, rfl⟩
abbrev mX9_bestColumn : gwY := (yX9_bestColumn, cX9_bestColumn, 8, (Option.some Jvm.ClassFile.FieldType.int), { frames := 6, cells := 0, slots := 0, locals := 165 }, [])
theorem okX9_bestColumn : gw_ok mX9_bestColumn 0 := ⟨by decide +kernel, kw_1574, kw_110, by decide +kernel, rfl⟩
abbrev mX9_turns : gwY := (yX9_turns, cX9_turns, 3, (Option.none : Option Jvm.ClassFile.FieldType), { frames := 6, cells := 0, slots := 0, locals := 167 }, [])
theorem okX9_turns : gw_ok mX9_turns 2 := ⟨by decide +kernel, kw_1546, kw_110, by decide +kernel, rfl⟩
abbrev mX9_isOver : gwY := (yX9_isOver, cX9_isOver, 1, (Option.some Jvm.ClassFile.FieldType.boolean), { frames := 7, cells := 0, slots := 0, locals := 186 }, [])
theorem okX9_isOver : gw_ok mX9_isOver 0 := ⟨by decide +kernel, kw_1558, kw_110, by decide +kernel, rfl⟩
abbrev mX9_solves : gwY := (yX9_solves, cX9_solves, 3, (Option.some Jvm.ClassFile.FieldType.int), { frames := 8, cells := 0, slots := 0, locals := 206 }, [])
theorem okX9_solves : gw_ok mX9_solves 0 := ⟨by decide +kernel, kw_1594, kw_110, by decide +kernel, rfl⟩
abbrev mX9_setVariables : gwY := (yX9_setVariables, cX9_setVariables, 5, (Option.some Jvm.ClassFile.FieldType.int), { frames := 2, cells := 0, slots := 0, locals := 62 }, [])
theorem okX9_setVariables : gw_ok mX9_setVariables 1 := ⟨by decide +kernel, kw_1412, kw_110, by decide +kernel, rfl⟩
abbrev mX9_changes : gwY := (yX9_changes, cX9_changes, 4, (Option.some Jvm.ClassFile.FieldType.int), { frames := 2, cells := 0, slots := 0, locals := 61 }, [])
theorem okX9_changes : gw_ok mX9_changes 2 := ⟨by decide +kernel, kw_1439, kw_110, by decide +kernel, rfl⟩
abbrev mX9_setProfit : gwY := (yX9_setProfit, cX9_setProfit, 3, (Option.some Jvm.ClassFile.FieldType.int), { frames := 3, cells := 0, slots := 0, locals := 84 }, [])
theorem okX9_setProfit : gw_ok mX9_setProfit 2 := ⟨by decide +kernel, kw_1431, kw_110, by decide +kernel, rfl⟩
abbrev mX9_addConstraint : gwY := (yX9_addConstraint, cX9_addConstraint, 4, (Option.some Jvm.ClassFile.FieldType.int), { frames := 2, cells := 0, slots := 0, locals := 62 }, [])
theorem okX9_addConstraint : gw_ok mX9_addConstraint 1 := ⟨by decide +kernel, kw_1443, kw_110, by decide +kernel, rfl⟩
abbrev mX9_setCoefficient : gwY := (yX9_setCoefficient, cX9_setCoefficient, 4, (Option.some Jvm.ClassFile.FieldType.int), { frames := 3, cells := 0, slots := 0, locals := 84 }, [])
theorem okX9_setCoefficient : gw_ok mX9_setCoefficient 3 := ⟨by decide +kernel, kw_1447, kw_110, by decide +kernel, rfl⟩
abbrev mX9_setBound : gwY := (yX9_setBound, cX9_setBound, 3, (Option.some Jvm.ClassFile.FieldType.int), { frames := 3, cells := 0, slots := 0, locals := 84 }, [])
theorem okX9_setBound : gw_ok mX9_setBound 2 := ⟨by decide +kernel, kw_1455, kw_110, by decide +kernel, rfl⟩
abbrev mX9_dropConstraint : gwY := (yX9_dropConstraint, cX9_dropConstraint, 4, (Option.some Jvm.ClassFile.FieldType.int), { frames := 3, cells := 0, slots := 0, locals := 83 }, [])
theorem okX9_dropConstraint : gw_ok mX9_dropConstraint 1 := ⟨by decide +kernel, kw_1459, kw_110, by decide +kernel, rfl⟩
abbrev mX9_begin : gwY := (yX9_begin, cX9_begin, 2, (Option.some Jvm.ClassFile.FieldType.int), { frames := 2, cells := 0, slots := 0, locals := 61 }, [])
theorem okX9_begin : gw_ok mX9_begin 0 := ⟨by decide +kernel, kw_1463, kw_110, by decide +kernel, rfl⟩
abbrev mX9_isPlace : gwY := (yX9_isPlace, cX9_isPlace, 3, (Option.some Jvm.ClassFile.FieldType.boolean), { frames := 3, cells := 0, slots := 0, locals := 83 }, [])
theorem okX9_isPlace : gw_ok mX9_isPlace 2 := ⟨by decide +kernel, kw_1471, kw_110, by decide +kernel, rfl⟩
abbrev mX9_isIn : gwY := (yX9_isIn, cX9_isIn, 4, (Option.some Jvm.ClassFile.FieldType.boolean), { frames := 1, cells := 0, slots := 0, locals := 40 }, [])
theorem okX9_isIn : gw_ok mX9_isIn 1 := ⟨by decide +kernel, kw_1518, kw_110, by decide +kernel, rfl⟩
abbrev mX9_hindrance : gwY := (yX9_hindrance, cX9_hindrance, 5, (Option.some Jvm.ClassFile.FieldType.int), { frames := 6, cells := 0, slots := 0, locals := 167 }, [])
theorem okX9_hindrance : gw_ok mX9_hindrance 2 := ⟨by decide +kernel, kw_1483, kw_110, by decide +kernel, rfl⟩
abbrev mX9_pivot : gwY := (yX9_pivot, cX9_pivot, 4, (Option.some Jvm.ClassFile.FieldType.int), { frames := 7, cells := 0, slots := 0, locals := 191 }, [])
theorem okX9_pivot : gw_ok mX9_pivot 2 := ⟨by decide +kernel, kw_1467, kw_110, by decide +kernel, rfl⟩
abbrev mX9_isAtEnd : gwY := (yX9_isAtEnd, cX9_isAtEnd, 1, (Option.some Jvm.ClassFile.FieldType.boolean), { frames := 8, cells := 0, slots := 0, locals := 206 }, [])
theorem okX9_isAtEnd : gw_ok mX9_isAtEnd 0 := ⟨by decide +kernel, kw_1554, kw_110, by decide +kernel, rfl⟩
abbrev mX9_step : gwY := (yX9_step, cX9_step, 2, (Option.some Jvm.ClassFile.FieldType.int), { frames := 9, cells := 0, slots := 0, locals := 226 }, [])
theorem okX9_step : gw_ok mX9_step 0 := ⟨by decide +kernel, kw_1550, kw_110, by decide +kernel, rfl⟩
abbrev mX9_solve : gwY := (yX9_solve, cX9_solve, 1, (Option.some Jvm.ClassFile.FieldType.int), { frames := 9, cells := 0, slots := 0, locals := 228 }, [])
theorem okX9_solve : gw_ok mX9_solve 0 := ⟨by decide +kernel, kw_1590, kw_110, by decide +kernel, rfl⟩
abbrev mX9_setRule : gwY := (yX9_setRule, cX9_setRule, 3, (Option.some Jvm.ClassFile.FieldType.int), { frames := 2, cells := 0, slots := 0, locals := 62 }, [])
theorem okX9_setRule : gw_ok mX9_setRule 1 := ⟨by decide +kernel, kw_1598, kw_110, by decide +kernel, rfl⟩
abbrev mX9_append : gwY := (yX9_append, cX9_append, 2, (Option.some Jvm.ClassFile.FieldType.int), { frames := 2, cells := 0, slots := 0, locals := 62 }, [])
theorem okX9_append : gw_ok mX9_append 1 := ⟨by decide +kernel, kw_1602, kw_110, by decide +kernel, rfl⟩
abbrev mX9_clearBuffer : gwY := (yX9_clearBuffer, cX9_clearBuffer, 2, (Option.some Jvm.ClassFile.FieldType.int), { frames := 1, cells := 0, slots := 0, locals := 40 }, [])
theorem okX9_clearBuffer : gw_ok mX9_clearBuffer 0 := ⟨by decide +kernel, kw_1606, kw_110, by decide +kernel, rfl⟩
abbrev mX9_isNext : gwY := (yX9_isNext, cX9_isNext, 3, (Option.some Jvm.ClassFile.FieldType.boolean), { frames := 2, cells := 0, slots := 0, locals := 62 }, [])
theorem okX9_isNext : gw_ok mX9_isNext 2 := ⟨by decide +kernel, kw_1622, kw_110, by decide +kernel, rfl⟩
abbrev mX9_takes : gwY := (yX9_takes, cX9_takes, 5, (Option.some Jvm.ClassFile.FieldType.int), { frames := 3, cells := 0, slots := 0, locals := 84 }, [])
theorem okX9_takes : gw_ok mX9_takes 2 := ⟨by decide +kernel, kw_1618, kw_110, by decide +kernel, rfl⟩
abbrev mX9_factor : gwY := (yX9_factor, cX9_factor, 1, (Option.some Jvm.ClassFile.FieldType.int), { frames := 4, cells := 0, slots := 0, locals := 108 }, [])
theorem okX9_factor : gw_ok mX9_factor 0 := ⟨by decide +kernel, kw_1630, kw_110, by decide +kernel, rfl⟩
abbrev mX9_readFactors : gwY := (yX9_readFactors, cX9_readFactors, 4, (Option.none : Option Jvm.ClassFile.FieldType), { frames := 5, cells := 0, slots := 0, locals := 128 }, [])
theorem okX9_readFactors : gw_ok mX9_readFactors 1 := ⟨by decide +kernel, kw_1626, kw_110, by decide +kernel, rfl⟩
abbrev mX9_bound : gwY := (yX9_bound, cX9_bound, 2, (Option.some Jvm.ClassFile.FieldType.int), { frames := 4, cells := 0, slots := 0, locals := 108 }, [])
theorem okX9_bound : gw_ok mX9_bound 0 := ⟨by decide +kernel, kw_1634, kw_110, by decide +kernel, rfl⟩
abbrev mX9_readProblem : gwY := (yX9_readProblem, cX9_readProblem, 2, (Option.none : Option Jvm.ClassFile.FieldType), { frames := 6, cells := 0, slots := 0, locals := 151 }, [])
theorem okX9_readProblem : gw_ok mX9_readProblem 0 := ⟨by decide +kernel, kw_1614, kw_110, by decide +kernel, rfl⟩
abbrev mX9_firstError : gwY := (yX9_firstError, cX9_firstError, 1, (Option.some Jvm.ClassFile.FieldType.int), { frames := 7, cells := 0, slots := 0, locals := 172 }, [])
theorem okX9_firstError : gw_ok mX9_firstError 0 := ⟨by decide +kernel, kw_1610, kw_110, by decide +kernel, rfl⟩
abbrev mX9_load : gwY := (yX9_load, cX9_load, 2, (Option.some Jvm.ClassFile.FieldType.int), { frames := 7, cells := 0, slots := 0, locals := 172 }, [])
theorem okX9_load : gw_ok mX9_load 0 := ⟨by decide +kernel, kw_1638, kw_110, by decide +kernel, rfl⟩
abbrev mX9_writes : gwY := (yX9_writes, cX9_writes, 2, (Option.none : Option Jvm.ClassFile.FieldType), { frames := 1, cells := 0, slots := 0, locals := 40 }, [])
theorem okX9_writes : gw_ok mX9_writes 1 := ⟨by decide +kernel, kw_1650, kw_110, by decide +kernel, rfl⟩
abbrev mX9_writesFactors : gwY := (yX9_writesFactors, cX9_writesFactors, 4, (Option.none : Option Jvm.ClassFile.FieldType), { frames := 2, cells := 0, slots := 0, locals := 61 }, [])
theorem okX9_writesFactors : gw_ok mX9_writesFactors 1 := ⟨by decide +kernel, kw_1654, kw_110, by decide +kernel, rfl⟩
abbrev mX9_writesProblem : gwY := (yX9_writesProblem, cX9_writesProblem, 2, (Option.none : Option Jvm.ClassFile.FieldType), { frames := 3, cells := 0, slots := 0, locals := 84 }, [])
theorem okX9_writesProblem : gw_ok mX9_writesProblem 0 := ⟨by decide +kernel, kw_1646, kw_110, by decide +kernel, rfl⟩
abbrev mX9_write : gwY := (yX9_write, cX9_write, 2, (Option.some Jvm.ClassFile.FieldType.int), { frames := 4, cells := 0, slots := 0, locals := 105 }, [])
theorem okX9_write : gw_ok mX9_write 0 := ⟨by decide +kernel, kw_1642, kw_110, by decide +kernel, rfl⟩
abbrev mX9_undo : gwY := (yX9_undo, cX9_undo, 2, (Option.some Jvm.ClassFile.FieldType.int), { frames := 2, cells := 0, slots := 0, locals := 61 }, [])
theorem okX9_undo : gw_ok mX9_undo 0 := ⟨by decide +kernel, kw_1658, kw_110, by decide +kernel, rfl⟩
abbrev mX9_keep : gwY := (yX9_keep, cX9_keep, 2, (Option.some Jvm.ClassFile.FieldType.int), { frames := 1, cells := 0, slots := 0, locals := 40 }, [])
theorem okX9_keep : gw_ok mX9_keep 0 := ⟨by decide +kernel, kw_1662, kw_110, by decide +kernel, rfl⟩
abbrev mX9_restore : gwY := (yX9_restore, cX9_restore, 2, (Option.some Jvm.ClassFile.FieldType.int), { frames := 2, cells := 0, slots := 0, locals := 61 }, [])
theorem okX9_restore : gw_ok mX9_restore 0 := ⟨by decide +kernel, kw_1666, kw_110, by decide +kernel, rfl⟩
abbrev mX9_savedStates : gwY := (yX9_savedStates, cX9_savedStates, 1, (Option.some Jvm.ClassFile.FieldType.int), { frames := 1, cells := 0, slots := 0, locals := 40 }, [])
theorem okX9_savedStates : gw_ok mX9_savedStates 0 := ⟨by decide +kernel, kw_1670, kw_110, by decide +kernel, rfl⟩
abbrev mX9_variables : gwY := (yX9_variables, cX9_variables, 1, (Option.some Jvm.ClassFile.FieldType.int), { frames := 1, cells := 0, slots := 0, locals := 40 }, [])
theorem okX9_variables : gw_ok mX9_variables 0 := ⟨by decide +kernel, kw_1674, kw_110, by decide +kernel, rfl⟩
abbrev mX9_constraints : gwY := (yX9_constraints, cX9_constraints, 1, (Option.some Jvm.ClassFile.FieldType.int), { frames := 1, cells := 0, slots := 0, locals := 40 }, [])
theorem okX9_constraints : gw_ok mX9_constraints 0 := ⟨by decide +kernel, kw_1678, kw_110, by decide +kernel, rfl⟩
abbrev mX9_profitOf : gwY := (yX9_profitOf, cX9_profitOf, 2, (Option.some Jvm.ClassFile.FieldType.int), { frames := 3, cells := 0, slots := 0, locals := 83 }, [])
theorem okX9_profitOf : gw_ok mX9_profitOf 1 := ⟨by decide +kernel, kw_1682, kw_110, by decide +kernel, rfl⟩
abbrev mX9_coefficientOf : gwY := (yX9_coefficientOf, cX9_coefficientOf, 3, (Option.some Jvm.ClassFile.FieldType.int), { frames := 3, cells := 0, slots := 0, locals := 83 }, [])
theorem okX9_coefficientOf : gw_ok mX9_coefficientOf 2 := ⟨by decide +kernel, kw_1686, kw_110, by decide +kernel, rfl⟩
abbrev mX9_boundOf : gwY := (yX9_boundOf, cX9_boundOf, 2, (Option.some Jvm.ClassFile.FieldType.int), { frames := 3, cells := 0, slots := 0, locals := 83 }, [])
theorem okX9_boundOf : gw_ok mX9_boundOf 1 := ⟨by decide +kernel, kw_1690, kw_110, by decide +kernel, rfl⟩
abbrev mX9_rule : gwY := (yX9_rule, cX9_rule, 1, (Option.some Jvm.ClassFile.FieldType.int), { frames := 1, cells := 0, slots := 0, locals := 40 }, [])
theorem okX9_rule : gw_ok mX9_rule 0 := ⟨by decide +kernel, kw_1694, kw_110, by decide +kernel, rfl⟩
abbrev mX9_columnOf : gwY := (yX9_columnOf, cX9_columnOf, 2, (Option.some Jvm.ClassFile.FieldType.int), { frames := 3, cells := 0, slots := 0, locals := 83 }, [])
theorem okX9_columnOf : gw_ok mX9_columnOf 1 := ⟨by decide +kernel, kw_1698, kw_110, by decide +kernel, rfl⟩
abbrev mX9_isNamed : gwY := (yX9_isNamed, cX9_isNamed, 2, (Option.some Jvm.ClassFile.FieldType.boolean), { frames := 3, cells := 0, slots := 0, locals := 83 }, [])
theorem okX9_isNamed : gw_ok mX9_isNamed 1 := ⟨by decide +kernel, kw_1702, kw_110, by decide +kernel, rfl⟩
abbrev mX9_isOptimal : gwY := (yX9_isOptimal, cX9_isOptimal, 1, (Option.some Jvm.ClassFile.FieldType.boolean), { frames := 7, cells := 0, slots := 0, locals := 186 }, [])
theorem okX9_isOptimal : gw_ok mX9_isOptimal 0 := ⟨by decide +kernel, kw_1706, kw_110, by decide +kernel, rfl⟩
abbrev mX9_hasRay : gwY := (yX9_hasRay, cX9_hasRay, 1, (Option.some Jvm.ClassFile.FieldType.boolean), { frames := 7, cells := 0, slots := 0, locals := 186 }, [])
theorem okX9_hasRay : gw_ok mX9_hasRay 0 := ⟨by decide +kernel, kw_1710, kw_110, by decide +kernel, rfl⟩
abbrev mX9_pivots : gwY := (yX9_pivots, cX9_pivots, 1, (Option.some Jvm.ClassFile.FieldType.int), { frames := 1, cells := 0, slots := 0, locals := 40 }, [])
theorem okX9_pivots : gw_ok mX9_pivots 0 := ⟨by decide +kernel, kw_1714, kw_110, by decide +kernel, rfl⟩
abbrev mX9_allPivots : gwY := (yX9_allPivots, cX9_allPivots, 1, (Option.some Jvm.ClassFile.FieldType.int), { frames := 1, cells := 0, slots := 0, locals := 40 }, [])
theorem okX9_allPivots : gw_ok mX9_allPivots 0 := ⟨by decide +kernel, kw_1718, kw_110, by decide +kernel, rfl⟩
abbrev mX9_idlePivots : gwY := (yX9_idlePivots, cX9_idlePivots, 1, (Option.some Jvm.ClassFile.FieldType.int), { frames := 1, cells := 0, slots := 0, locals := 40 }, [])
theorem okX9_idlePivots : gw_ok mX9_idlePivots 0 := ⟨by decide +kernel, kw_1722, kw_110, by decide +kernel, rfl⟩
abbrev mX9_entryOf : gwY := (yX9_entryOf, cX9_entryOf, 3, (Option.none : Option Jvm.ClassFile.FieldType), { frames := 6, cells := 0, slots := 0, locals := 167 }, [])
theorem okX9_entryOf : gw_ok mX9_entryOf 2 := ⟨by decide +kernel, kw_1730, kw_110, by decide +kernel, rfl⟩
abbrev mX9_entryNumerator : gwY := (yX9_entryNumerator, cX9_entryNumerator, 3, (Option.some Jvm.ClassFile.FieldType.long), { frames := 7, cells := 0, slots := 0, locals := 189 }, [])
theorem okX9_entryNumerator : gw_ok mX9_entryNumerator 2 := ⟨by decide +kernel, kw_1726, kw_110, by decide +kernel, rfl⟩
abbrev mX9_entryDenominator : gwY := (yX9_entryDenominator, cX9_entryDenominator, 3, (Option.some Jvm.ClassFile.FieldType.long), { frames := 7, cells := 0, slots := 0, locals := 189 }, [])
theorem okX9_entryDenominator : gw_ok mX9_entryDenominator 2 := ⟨by decide +kernel, kw_1734, kw_110, by decide +kernel, rfl⟩
abbrev mX9_reducedOf : gwY := (yX9_reducedOf, cX9_reducedOf, 2, (Option.none : Option Jvm.ClassFile.FieldType), { frames := 6, cells := 0, slots := 0, locals := 167 }, [])
theorem okX9_reducedOf : gw_ok mX9_reducedOf 1 := ⟨by decide +kernel, kw_1742, kw_110, by decide +kernel, rfl⟩
abbrev mX9_reducedNumerator : gwY := (yX9_reducedNumerator, cX9_reducedNumerator, 2, (Option.some Jvm.ClassFile.FieldType.long), { frames := 7, cells := 0, slots := 0, locals := 188 }, [])
theorem okX9_reducedNumerator : gw_ok mX9_reducedNumerator 1 := ⟨by decide +kernel, kw_1738, kw_110, by decide +kernel, rfl⟩
abbrev mX9_reducedDenominator : gwY := (yX9_reducedDenominator, cX9_reducedDenominator, 2, (Option.some Jvm.ClassFile.FieldType.long), { frames := 7, cells := 0, slots := 0, locals := 188 }, [])
theorem okX9_reducedDenominator : gw_ok mX9_reducedDenominator 1 := ⟨by decide +kernel, kw_1746, kw_110, by decide +kernel, rfl⟩
abbrev mX9_valueNow : gwY := (yX9_valueNow, cX9_valueNow, 1, (Option.none : Option Jvm.ClassFile.FieldType), { frames := 6, cells := 0, slots := 0, locals := 167 }, [])
theorem okX9_valueNow : gw_ok mX9_valueNow 0 := ⟨by decide +kernel, kw_1754, kw_110, by decide +kernel, rfl⟩
abbrev mX9_valueNumerator : gwY := (yX9_valueNumerator, cX9_valueNumerator, 1, (Option.some Jvm.ClassFile.FieldType.long), { frames := 7, cells := 0, slots := 0, locals := 187 }, [])
theorem okX9_valueNumerator : gw_ok mX9_valueNumerator 0 := ⟨by decide +kernel, kw_1750, kw_110, by decide +kernel, rfl⟩
abbrev mX9_valueDenominator : gwY := (yX9_valueDenominator, cX9_valueDenominator, 1, (Option.some Jvm.ClassFile.FieldType.long), { frames := 7, cells := 0, slots := 0, locals := 187 }, [])
theorem okX9_valueDenominator : gw_ok mX9_valueDenominator 0 := ⟨by decide +kernel, kw_1762, kw_110, by decide +kernel, rfl⟩
abbrev mX9_givenTo : gwY := (yX9_givenTo, cX9_givenTo, 3, (Option.none : Option Jvm.ClassFile.FieldType), { frames := 6, cells := 0, slots := 0, locals := 167 }, [])
theorem okX9_givenTo : gw_ok mX9_givenTo 1 := ⟨by decide +kernel, kw_1770, kw_110, by decide +kernel, rfl⟩
abbrev mX9_givenNumerator : gwY := (yX9_givenNumerator, cX9_givenNumerator, 2, (Option.some Jvm.ClassFile.FieldType.long), { frames := 7, cells := 0, slots := 0, locals := 189 }, [])
theorem okX9_givenNumerator : gw_ok mX9_givenNumerator 1 := ⟨by decide +kernel, kw_1766, kw_110, by decide +kernel, rfl⟩
abbrev mX9_givenDenominator : gwY := (yX9_givenDenominator, cX9_givenDenominator, 2, (Option.some Jvm.ClassFile.FieldType.long), { frames := 7, cells := 0, slots := 0, locals := 189 }, [])
theorem okX9_givenDenominator : gw_ok mX9_givenDenominator 1 := ⟨by decide +kernel, kw_1774, kw_110, by decide +kernel, rfl⟩
abbrev mX9_value : gwY := (yX9_value, cX9_value, 1, (Option.some Jvm.ClassFile.FieldType.double), { frames := 7, cells := 0, slots := 0, locals := 187 }, [])
theorem okX9_value : gw_ok mX9_value 0 := ⟨by decide +kernel, kw_1778, kw_110, by decide +kernel, rfl⟩
abbrev mX9_dualOf : gwY := (yX9_dualOf, cX9_dualOf, 2, (Option.none : Option Jvm.ClassFile.FieldType), { frames := 7, cells := 0, slots := 0, locals := 188 }, [])
theorem okX9_dualOf : gw_ok mX9_dualOf 1 := ⟨by decide +kernel, kw_1786, kw_110, by decide +kernel, rfl⟩
abbrev mX9_dualNumerator : gwY := (yX9_dualNumerator, cX9_dualNumerator, 2, (Option.some Jvm.ClassFile.FieldType.long), { frames := 8, cells := 0, slots := 0, locals := 209 }, [])
theorem okX9_dualNumerator : gw_ok mX9_dualNumerator 1 := ⟨by decide +kernel, kw_1782, kw_110, by decide +kernel, rfl⟩
abbrev mX9_dualDenominator : gwY := (yX9_dualDenominator, cX9_dualDenominator, 2, (Option.some Jvm.ClassFile.FieldType.long), { frames := 8, cells := 0, slots := 0, locals := 209 }, [])
theorem okX9_dualDenominator : gw_ok mX9_dualDenominator 1 := ⟨by decide +kernel, kw_1790, kw_110, by decide +kernel, rfl⟩
abbrev mX9_dualNumeratorByEquations : gwY := (yX9_dualNumeratorByEquations, cX9_dualNumeratorByEquations, 2, (Option.some Jvm.ClassFile.FieldType.long), { frames := 9, cells := 0, slots := 0, locals := 230 }, [])
theorem okX9_dualNumeratorByEquations : gw_ok mX9_dualNumeratorByEquations 1 := ⟨by decide +kernel, kw_1794, kw_110, by decide +kernel, rfl⟩
abbrev mX9_dualDenominatorByEquations : gwY := (yX9_dualDenominatorByEquations, cX9_dualDenominatorByEquations, 2, (Option.some Jvm.ClassFile.FieldType.long), { frames := 9, cells := 0, slots := 0, locals := 230 }, [])
theorem okX9_dualDenominatorByEquations : gw_ok mX9_dualDenominatorByEquations 1 := ⟨by decide +kernel, kw_1799, kw_110, by decide +kernel, rfl⟩
abbrev mX9_dualValue : gwY := (yX9_dualValue, cX9_dualValue, 10, (Option.none : Option Jvm.ClassFile.FieldType), { frames := 8, cells := 0, slots := 0, locals := 209 }, [])
theorem okX9_dualValue : gw_ok mX9_dualValue 0 := ⟨by decide +kernel, kw_1808, kw_110, by decide +kernel, rfl⟩
abbrev mX9_dualValueNumerator : gwY := (yX9_dualValueNumerator, cX9_dualValueNumerator, 1, (Option.some Jvm.ClassFile.FieldType.long), { frames := 9, cells := 0, slots := 0, locals := 238 }, [])
theorem okX9_dualValueNumerator : gw_ok mX9_dualValueNumerator 0 := ⟨by decide +kernel, kw_1804, kw_110, by decide +kernel, rfl⟩
abbrev mX9_dualValueDenominator : gwY := (yX9_dualValueDenominator, cX9_dualValueDenominator, 1, (Option.some Jvm.ClassFile.FieldType.long), { frames := 9, cells := 0, slots := 0, locals := 238 }, [])
theorem okX9_dualValueDenominator : gw_ok mX9_dualValueDenominator 0 := ⟨by decide +kernel, kw_1812, kw_110, by decide +kernel, rfl⟩
abbrev mX9_endlessNow : gwY := (yX9_endlessNow, cX9_endlessNow, 1, (Option.some Jvm.ClassFile.FieldType.int), { frames := 7, cells := 0, slots := 0, locals := 186 }, [])
theorem okX9_endlessNow : gw_ok mX9_endlessNow 0 := ⟨by decide +kernel, kw_1820, kw_110, by decide +kernel, rfl⟩
abbrev mX9_rayColumn : gwY := (yX9_rayColumn, cX9_rayColumn, 1, (Option.some Jvm.ClassFile.FieldType.int), { frames := 8, cells := 0, slots := 0, locals := 206 }, [])
theorem okX9_rayColumn : gw_ok mX9_rayColumn 0 := ⟨by decide +kernel, kw_1816, kw_110, by decide +kernel, rfl⟩
abbrev mX9_along : gwY := (yX9_along, cX9_along, 4, (Option.none : Option Jvm.ClassFile.FieldType), { frames := 8, cells := 0, slots := 0, locals := 206 }, [])
theorem okX9_along : gw_ok mX9_along 1 := ⟨by decide +kernel, kw_1832, kw_110, by decide +kernel, rfl⟩
abbrev mX9_errorOfRay : gwY := (yX9_errorOfRay, cX9_errorOfRay, 2, (Option.some Jvm.ClassFile.FieldType.int), { frames := 8, cells := 0, slots := 0, locals := 206 }, [])
theorem okX9_errorOfRay : gw_ok mX9_errorOfRay 1 := ⟨by decide +kernel, kw_1828, kw_110, by decide +kernel, rfl⟩
abbrev mX9_rayNumerator : gwY := (yX9_rayNumerator, cX9_rayNumerator, 2, (Option.some Jvm.ClassFile.FieldType.long), { frames := 9, cells := 0, slots := 0, locals := 229 }, [])
theorem okX9_rayNumerator : gw_ok mX9_rayNumerator 1 := ⟨by decide +kernel, kw_1824, kw_110, by decide +kernel, rfl⟩
abbrev mX9_rayDenominator : gwY := (yX9_rayDenominator, cX9_rayDenominator, 2, (Option.some Jvm.ClassFile.FieldType.long), { frames := 9, cells := 0, slots := 0, locals := 229 }, [])
theorem okX9_rayDenominator : gw_ok mX9_rayDenominator 1 := ⟨by decide +kernel, kw_1836, kw_110, by decide +kernel, rfl⟩
abbrev mX9_namesSet : gwY := (yX9_namesSet, cX9_namesSet, 4, (Option.some Jvm.ClassFile.FieldType.boolean), { frames := 2, cells := 0, slots := 0, locals := 60 }, [])
theorem okX9_namesSet : gw_ok mX9_namesSet 1 := ⟨by decide +kernel, kw_1848, kw_110, by decide +kernel, rfl⟩
abbrev mX9_looksAtValue : gwY := (yX9_looksAtValue, cX9_looksAtValue, 3, (Option.none : Option Jvm.ClassFile.FieldType), { frames := 1, cells := 0, slots := 0, locals := 40 }, [])
theorem okX9_looksAtValue : gw_ok mX9_looksAtValue 0 := ⟨by decide +kernel, kw_1856, kw_110, by decide +kernel, rfl⟩
abbrev mX9_looksAtBases : gwY := (yX9_looksAtBases, cX9_looksAtBases, 2, (Option.none : Option Jvm.ClassFile.FieldType), { frames := 5, cells := 0, slots := 0, locals := 146 }, [])
theorem okX9_looksAtBases : gw_ok mX9_looksAtBases 0 := ⟨by decide +kernel, kw_1844, kw_110, by decide +kernel, rfl⟩
abbrev mX9_feasibleBases : gwY := (yX9_feasibleBases, cX9_feasibleBases, 1, (Option.some Jvm.ClassFile.FieldType.int), { frames := 6, cells := 0, slots := 0, locals := 167 }, [])
theorem okX9_feasibleBases : gw_ok mX9_feasibleBases 0 := ⟨by decide +kernel, kw_1840, kw_110, by decide +kernel, rfl⟩
abbrev mX9_unlikeValues : gwY := (yX9_unlikeValues, cX9_unlikeValues, 1, (Option.some Jvm.ClassFile.FieldType.int), { frames := 6, cells := 0, slots := 0, locals := 167 }, [])
theorem okX9_unlikeValues : gw_ok mX9_unlikeValues 0 := ⟨by decide +kernel, kw_1860, kw_110, by decide +kernel, rfl⟩
abbrev mX9_bestNumerator : gwY := (yX9_bestNumerator, cX9_bestNumerator, 1, (Option.some Jvm.ClassFile.FieldType.long), { frames := 6, cells := 0, slots := 0, locals := 167 }, [])
theorem okX9_bestNumerator : gw_ok mX9_bestNumerator 0 := ⟨by decide +kernel, kw_1864, kw_110, by decide +kernel, rfl⟩
abbrev mX9_bestDenominator : gwY := (yX9_bestDenominator, cX9_bestDenominator, 1, (Option.some Jvm.ClassFile.FieldType.long), { frames := 6, cells := 0, slots := 0, locals := 167 }, [])
theorem okX9_bestDenominator : gw_ok mX9_bestDenominator 0 := ⟨by decide +kernel, kw_1868, kw_110, by decide +kernel, rfl⟩
abbrev mX9_whyNoPivot : gwY := (yX9_whyNoPivot, cX9_whyNoPivot, 3, (Option.some Jvm.ClassFile.FieldType.int), { frames := 7, cells := 0, slots := 0, locals := 191 }, [])
theorem okX9_whyNoPivot : gw_ok mX9_whyNoPivot 2 := ⟨by decide +kernel, kw_1872, kw_110, by decide +kernel, rfl⟩
abbrev mX9_nextColumn : gwY := (yX9_nextColumn, cX9_nextColumn, 1, (Option.some Jvm.ClassFile.FieldType.int), { frames := 9, cells := 0, slots := 0, locals := 226 }, [])
theorem okX9_nextColumn : gw_ok mX9_nextColumn 0 := ⟨by decide +kernel, kw_1876, kw_110, by decide +kernel, rfl⟩
abbrev mX9_nextRow : gwY := (yX9_nextRow, cX9_nextRow, 1, (Option.some Jvm.ClassFile.FieldType.int), { frames := 9, cells := 0, slots := 0, locals := 226 }, [])
theorem okX9_nextRow : gw_ok mX9_nextRow 0 := ⟨by decide +kernel, kw_1880, kw_110, by decide +kernel, rfl⟩
abbrev mX9_leftPivots : gwY := (yX9_leftPivots, cX9_leftPivots, 2, (Option.some Jvm.ClassFile.FieldType.int), { frames := 9, cells := 0, slots := 0, locals := 228 }, [])
theorem okX9_leftPivots : gw_ok mX9_leftPivots 0 := ⟨by decide +kernel, kw_1888, kw_110, by decide +kernel, rfl⟩
abbrev mX9_pivotsLeft : gwY := (yX9_pivotsLeft, cX9_pivotsLeft, 1, (Option.some Jvm.ClassFile.FieldType.int), { frames := 10, cells := 0, slots := 0, locals := 249 }, [])
theorem okX9_pivotsLeft : gw_ok mX9_pivotsLeft 0 := ⟨by decide +kernel, kw_1884, kw_110, by decide +kernel, rfl⟩
abbrev mX9_staysFeasible : gwY := (yX9_staysFeasible, cX9_staysFeasible, 5, (Option.some Jvm.ClassFile.FieldType.boolean), { frames := 4, cells := 0, slots := 0, locals := 121 }, [])
theorem okX9_staysFeasible : gw_ok mX9_staysFeasible 2 := ⟨by decide +kernel, kw_1908, kw_110, by decide +kernel, rfl⟩
abbrev mX9_outer : gwY := (yX9_outer, cX9_outer, 6, (Option.some Jvm.ClassFile.FieldType.int), { frames := 6, cells := 0, slots := 0, locals := 167 }, [])
theorem okX9_outer : gw_ok mX9_outer 2 := ⟨by decide +kernel, kw_1904, kw_110, by decide +kernel, rfl⟩
abbrev mX9_leastBound : gwY := (yX9_leastBound, cX9_leastBound, 2, (Option.some Jvm.ClassFile.FieldType.int), { frames := 7, cells := 0, slots := 0, locals := 192 }, [])
theorem okX9_leastBound : gw_ok mX9_leastBound 1 := ⟨by decide +kernel, kw_1900, kw_110, by decide +kernel, rfl⟩
abbrev mX9_greatestBound : gwY := (yX9_greatestBound, cX9_greatestBound, 2, (Option.some Jvm.ClassFile.FieldType.int), { frames := 7, cells := 0, slots := 0, locals := 192 }, [])
theorem okX9_greatestBound : gw_ok mX9_greatestBound 1 := ⟨by decide +kernel, kw_1912, kw_110, by decide +kernel, rfl⟩
abbrev mX9_errorOfSolved : gwY := (yX9_errorOfSolved, cX9_errorOfSolved, 5, (Option.some Jvm.ClassFile.FieldType.int), { frames := 9, cells := 0, slots := 0, locals := 228 }, [])
theorem okX9_errorOfSolved : gw_ok mX9_errorOfSolved 2 := ⟨by decide +kernel, kw_1920, kw_110, by decide +kernel, rfl⟩
abbrev mX9_solvedNumerator : gwY := (yX9_solvedNumerator, cX9_solvedNumerator, 3, (Option.some Jvm.ClassFile.FieldType.long), { frames := 10, cells := 0, slots := 0, locals := 252 }, [])
theorem okX9_solvedNumerator : gw_ok mX9_solvedNumerator 2 := ⟨by decide +kernel, kw_1916, kw_110, by decide +kernel, rfl⟩
abbrev mX9_solvedDenominator : gwY := (yX9_solvedDenominator, cX9_solvedDenominator, 3, (Option.some Jvm.ClassFile.FieldType.long), { frames := 10, cells := 0, slots := 0, locals := 252 }, [])
theorem okX9_solvedDenominator : gw_ok mX9_solvedDenominator 2 := ⟨by decide +kernel, kw_1924, kw_110, by decide +kernel, rfl⟩
abbrev mX9_takesIn : gwY := (yX9_takesIn, cX9_takesIn, 3, (Option.none : Option Jvm.ClassFile.FieldType), { frames := 1, cells := 0, slots := 0, locals := 40 }, [])
theorem okX9_takesIn : gw_ok mX9_takesIn 1 := ⟨by decide +kernel, kw_1933, kw_110, by decide +kernel, rfl⟩
abbrev mX9_takesFraction : gwY := (yX9_takesFraction, cX9_takesFraction, 1, (Option.none : Option Jvm.ClassFile.FieldType), { frames := 2, cells := 0, slots := 0, locals := 62 }, [])
theorem okX9_takesFraction : gw_ok mX9_takesFraction 0 := ⟨by decide +kernel, kw_1938, kw_110, by decide +kernel, rfl⟩
abbrev mX9_bitsOf : gwY := (yX9_bitsOf, cX9_bitsOf, 6, (Option.some Jvm.ClassFile.FieldType.long), { frames := 1, cells := 0, slots := 0, locals := 40 }, [])
theorem okX9_bitsOf : gw_ok mX9_bitsOf 1 := ⟨by decide +kernel, kw_1945, kw_110, by decide +kernel, rfl⟩
abbrev mX9_takesConstraint : gwY := (yX9_takesConstraint, cX9_takesConstraint, 3, (Option.none : Option Jvm.ClassFile.FieldType), { frames := 8, cells := 0, slots := 0, locals := 209 }, [])
theorem okX9_takesConstraint : gw_ok mX9_takesConstraint 1 := ⟨by decide +kernel, kw_1942, kw_110, by decide +kernel, rfl⟩
abbrev mX9_digest : gwY := (yX9_digest, cX9_digest, 7, (Option.some Jvm.ClassFile.FieldType.long), { frames := 10, cells := 0, slots := 0, locals := 249 }, [])
theorem okX9_digest : gw_ok mX9_digest 0 := ⟨by decide +kernel, kw_1928, kw_110, by decide +kernel, rfl⟩
abbrev mJ6_bitCount_0f7a4 : gwY := (yJ6_bitCount_0f7a4, cJ6_bitCount_0f7a4, 1, (Option.some Jvm.ClassFile.FieldType.int), { frames := 1, cells := 0, slots := 0, locals := 40 }, [])
theorem okJ6_bitCount_0f7a4 : gw_ok mJ6_bitCount_0f7a4 1 := ⟨by decide +kernel, kw_667, kw_118, by decide +kernel, rfl⟩
abbrev mL_setVariables : gwY := (yL_setVariables, cL_setVariables, 4, (Option.some Jvm.ClassFile.FieldType.int), { frames := 8, cells := 1, slots := 6, locals := 172 }, [((0 : Nat), (9 : Nat), (12 : Nat), (13 : Nat))])
theorem okL_setVariables : gw_okX mL_setVariables 3 := ⟨by decide +kernel, kw_919, kw_99, by decide +kernel⟩
abbrev mL_setProfit : gwY := (yL_setProfit, cL_setProfit, 5, (Option.some Jvm.ClassFile.FieldType.int), { frames := 9, cells := 2, slots := 12, locals := 173 }, [((0 : Nat), (10 : Nat), (13 : Nat), (19 : Nat)), ((0 : Nat), (10 : Nat), (17 : Nat), (13 : Nat))])
theorem okL_setProfit : gw_okX mL_setProfit 4 := ⟨by decide +kernel, kw_944, kw_99, by decide +kernel⟩
abbrev mL_addConstraint : gwY := (yL_addConstraint, cL_addConstraint, 4, (Option.some Jvm.ClassFile.FieldType.int), { frames := 9, cells := 2, slots := 12, locals := 172 }, [((0 : Nat), (9 : Nat), (12 : Nat), (13 : Nat)), ((0 : Nat), (9 : Nat), (15 : Nat), (24 : Nat))])
theorem okL_addConstraint : gw_okX mL_addConstraint 3 := ⟨by decide +kernel, kw_965, kw_99, by decide +kernel⟩
abbrev mL_setCoefficient : gwY := (yL_setCoefficient, cL_setCoefficient, 6, (Option.some Jvm.ClassFile.FieldType.int), { frames := 9, cells := 3, slots := 18, locals := 174 }, [((0 : Nat), (12 : Nat), (15 : Nat), (19 : Nat)), ((0 : Nat), (12 : Nat), (19 : Nat), (13 : Nat))])
theorem okL_setCoefficient : gw_okX mL_setCoefficient 5 := ⟨by decide +kernel, kw_994, kw_99, by decide +kernel⟩
abbrev mL_setBound : gwY := (yL_setBound, cL_setBound, 5, (Option.some Jvm.ClassFile.FieldType.int), { frames := 9, cells := 2, slots := 12, locals := 173 }, [((0 : Nat), (10 : Nat), (13 : Nat), (19 : Nat)), ((0 : Nat), (10 : Nat), (17 : Nat), (13 : Nat))])
theorem okL_setBound : gw_okX mL_setBound 4 := ⟨by decide +kernel, kw_1002, kw_99, by decide +kernel⟩
abbrev mL_dropConstraint : gwY := (yL_dropConstraint, cL_dropConstraint, 4, (Option.some Jvm.ClassFile.FieldType.int), { frames := 9, cells := 1, slots := 6, locals := 171 }, [((0 : Nat), (9 : Nat), (12 : Nat), (19 : Nat))])
theorem okL_dropConstraint : gw_okX mL_dropConstraint 3 := ⟨by decide +kernel, kw_1010, kw_99, by decide +kernel⟩
abbrev mL_pivot : gwY := (yL_pivot, cL_pivot, 5, (Option.some Jvm.ClassFile.FieldType.int), { frames := 9, cells := 3, slots := 18, locals := 168 }, [((0 : Nat), (10 : Nat), (13 : Nat), (19 : Nat)), ((0 : Nat), (10 : Nat), (17 : Nat), (24 : Nat))])
theorem okL_pivot : gw_okX mL_pivot 4 := ⟨by decide +kernel, kw_1021, kw_99, by decide +kernel⟩
abbrev mL_step : gwY := (yL_step, cL_step, 3, (Option.some Jvm.ClassFile.FieldType.int), { frames := 9, cells := 1, slots := 6, locals := 188 }, [((0 : Nat), (8 : Nat), (11 : Nat), (24 : Nat))])
theorem okL_step : gw_okX mL_step 2 := ⟨by decide +kernel, kw_1044, kw_99, by decide +kernel⟩
abbrev mL_setRule : gwY := (yL_setRule, cL_setRule, 4, (Option.some Jvm.ClassFile.FieldType.int), { frames := 8, cells := 1, slots := 6, locals := 146 }, [((0 : Nat), (9 : Nat), (12 : Nat), (13 : Nat))])
theorem okL_setRule : gw_okX mL_setRule 3 := ⟨by decide +kernel, kw_1057, kw_99, by decide +kernel⟩
abbrev mL_append : gwY := (yL_append, cL_append, 4, (Option.some Jvm.ClassFile.FieldType.int), { frames := 8, cells := 1, slots := 6, locals := 121 }, [((0 : Nat), (9 : Nat), (12 : Nat), (13 : Nat)), ((0 : Nat), (9 : Nat), (15 : Nat), (24 : Nat))])
theorem okL_append : gw_okX mL_append 3 := ⟨by decide +kernel, kw_1065, kw_99, by decide +kernel⟩
abbrev mL_load : gwY := (yL_load, cL_load, 3, (Option.some Jvm.ClassFile.FieldType.int), { frames := 8, cells := 1, slots := 6, locals := 192 }, [((0 : Nat), (8 : Nat), (11 : Nat), (13 : Nat))])
theorem okL_load : gw_okX mL_load 2 := ⟨by decide +kernel, kw_1079, kw_99, by decide +kernel⟩
abbrev mL_write : gwY := (yL_write, cL_write, 3, (Option.some Jvm.ClassFile.FieldType.int), { frames := 8, cells := 1, slots := 6, locals := 151 }, [((0 : Nat), (8 : Nat), (11 : Nat), (24 : Nat))])
theorem okL_write : gw_okX mL_write 2 := ⟨by decide +kernel, kw_1088, kw_99, by decide +kernel⟩
abbrev mL_undo : gwY := (yL_undo, cL_undo, 3, (Option.some Jvm.ClassFile.FieldType.int), { frames := 8, cells := 1, slots := 6, locals := 123 }, [((0 : Nat), (8 : Nat), (11 : Nat), (24 : Nat))])
theorem okL_undo : gw_okX mL_undo 2 := ⟨by decide +kernel, kw_1116, kw_99, by decide +kernel⟩
abbrev mL_restore : gwY := (yL_restore, cL_restore, 3, (Option.some Jvm.ClassFile.FieldType.int), { frames := 8, cells := 1, slots := 6, locals := 144 }, [((0 : Nat), (8 : Nat), (11 : Nat), (24 : Nat))])
theorem okL_restore : gw_okX mL_restore 2 := ⟨by decide +kernel, kw_1124, kw_99, by decide +kernel⟩
abbrev mL_profitOf : gwY := (yL_profitOf, cL_profitOf, 4, (Option.some Jvm.ClassFile.FieldType.int), { frames := 9, cells := 1, slots := 6, locals := 142 }, [((0 : Nat), (9 : Nat), (12 : Nat), (19 : Nat))])
theorem okL_profitOf : gw_okX mL_profitOf 3 := ⟨by decide +kernel, kw_1132, kw_99, by decide +kernel⟩
abbrev mL_coefficientOf : gwY := (yL_coefficientOf, cL_coefficientOf, 5, (Option.some Jvm.ClassFile.FieldType.int), { frames := 9, cells := 2, slots := 12, locals := 143 }, [((0 : Nat), (10 : Nat), (13 : Nat), (19 : Nat))])
theorem okL_coefficientOf : gw_okX mL_coefficientOf 4 := ⟨by decide +kernel, kw_1139, kw_99, by decide +kernel⟩
abbrev mL_boundOf : gwY := (yL_boundOf, cL_boundOf, 4, (Option.some Jvm.ClassFile.FieldType.int), { frames := 9, cells := 1, slots := 6, locals := 142 }, [((0 : Nat), (9 : Nat), (12 : Nat), (19 : Nat))])
theorem okL_boundOf : gw_okX mL_boundOf 3 := ⟨by decide +kernel, kw_1146, kw_99, by decide +kernel⟩
abbrev mL_columnOf : gwY := (yL_columnOf, cL_columnOf, 4, (Option.some Jvm.ClassFile.FieldType.int), { frames := 9, cells := 1, slots := 6, locals := 142 }, [((0 : Nat), (9 : Nat), (12 : Nat), (19 : Nat))])
theorem okL_columnOf : gw_okX mL_columnOf 3 := ⟨by decide +kernel, kw_1153, kw_99, by decide +kernel⟩
abbrev mL_isNamed : gwY := (yL_isNamed, cL_isNamed, 4, (Option.some Jvm.ClassFile.FieldType.int), { frames := 9, cells := 1, slots := 6, locals := 142 }, [((0 : Nat), (16 : Nat), (19 : Nat), (19 : Nat))])
theorem okL_isNamed : gw_okX mL_isNamed 3 := ⟨by decide +kernel, kw_1160, kw_99, by decide +kernel⟩
abbrev mL_entryNumerator : gwY := (yL_entryNumerator, cL_entryNumerator, 5, (Option.some Jvm.ClassFile.FieldType.int), { frames := 9, cells := 2, slots := 12, locals := 143 }, [((0 : Nat), (9 : Nat), (12 : Nat), (19 : Nat))])
theorem okL_entryNumerator : gw_okX mL_entryNumerator 4 := ⟨by decide +kernel, kw_1167, kw_99, by decide +kernel⟩
abbrev mL_entryDenominator : gwY := (yL_entryDenominator, cL_entryDenominator, 5, (Option.some Jvm.ClassFile.FieldType.int), { frames := 9, cells := 2, slots := 12, locals := 143 }, [((0 : Nat), (9 : Nat), (12 : Nat), (19 : Nat))])
theorem okL_entryDenominator : gw_okX mL_entryDenominator 4 := ⟨by decide +kernel, kw_1174, kw_99, by decide +kernel⟩
abbrev mL_reducedNumerator : gwY := (yL_reducedNumerator, cL_reducedNumerator, 4, (Option.some Jvm.ClassFile.FieldType.int), { frames := 9, cells := 1, slots := 6, locals := 142 }, [((0 : Nat), (8 : Nat), (11 : Nat), (19 : Nat))])
theorem okL_reducedNumerator : gw_okX mL_reducedNumerator 3 := ⟨by decide +kernel, kw_1181, kw_99, by decide +kernel⟩
abbrev mL_reducedDenominator : gwY := (yL_reducedDenominator, cL_reducedDenominator, 4, (Option.some Jvm.ClassFile.FieldType.int), { frames := 9, cells := 1, slots := 6, locals := 142 }, [((0 : Nat), (8 : Nat), (11 : Nat), (19 : Nat))])
theorem okL_reducedDenominator : gw_okX mL_reducedDenominator 3 := ⟨by decide +kernel, kw_1188, kw_99, by decide +kernel⟩
abbrev mL_givenNumerator : gwY := (yL_givenNumerator, cL_givenNumerator, 4, (Option.some Jvm.ClassFile.FieldType.int), { frames := 9, cells := 1, slots := 6, locals := 149 }, [((0 : Nat), (8 : Nat), (11 : Nat), (19 : Nat))])
theorem okL_givenNumerator : gw_okX mL_givenNumerator 3 := ⟨by decide +kernel, kw_1195, kw_99, by decide +kernel⟩
abbrev mL_givenDenominator : gwY := (yL_givenDenominator, cL_givenDenominator, 4, (Option.some Jvm.ClassFile.FieldType.int), { frames := 9, cells := 1, slots := 6, locals := 149 }, [((0 : Nat), (8 : Nat), (11 : Nat), (19 : Nat))])
theorem okL_givenDenominator : gw_okX mL_givenDenominator 3 := ⟨by decide +kernel, kw_1202, kw_99, by decide +kernel⟩
abbrev mL_dualNumerator : gwY := (yL_dualNumerator, cL_dualNumerator, 4, (Option.some Jvm.ClassFile.FieldType.int), { frames := 9, cells := 1, slots := 6, locals := 142 }, [((0 : Nat), (8 : Nat), (11 : Nat), (19 : Nat))])
theorem okL_dualNumerator : gw_okX mL_dualNumerator 3 := ⟨by decide +kernel, kw_1209, kw_99, by decide +kernel⟩
abbrev mL_dualDenominator : gwY := (yL_dualDenominator, cL_dualDenominator, 4, (Option.some Jvm.ClassFile.FieldType.int), { frames := 9, cells := 1, slots := 6, locals := 142 }, [((0 : Nat), (8 : Nat), (11 : Nat), (19 : Nat))])
theorem okL_dualDenominator : gw_okX mL_dualDenominator 3 := ⟨by decide +kernel, kw_1216, kw_99, by decide +kernel⟩
abbrev mL_dualNumeratorByEquations : gwY := (yL_dualNumeratorByEquations, cL_dualNumeratorByEquations, 4, (Option.some Jvm.ClassFile.FieldType.int), { frames := 9, cells := 1, slots := 6, locals := 166 }, [((0 : Nat), (8 : Nat), (11 : Nat), (19 : Nat))])
theorem okL_dualNumeratorByEquations : gw_okX mL_dualNumeratorByEquations 3 := ⟨by decide +kernel, kw_1223, kw_99, by decide +kernel⟩
abbrev mL_dualDenominatorByEquations : gwY := (yL_dualDenominatorByEquations, cL_dualDenominatorByEquations, 4, (Option.some Jvm.ClassFile.FieldType.int), { frames := 9, cells := 1, slots := 6, locals := 166 }, [((0 : Nat), (8 : Nat), (11 : Nat), (19 : Nat))])
theorem okL_dualDenominatorByEquations : gw_okX mL_dualDenominatorByEquations 3 := ⟨by decide +kernel, kw_1230, kw_99, by decide +kernel⟩
abbrev mL_rayColumn : gwY := (yL_rayColumn, cL_rayColumn, 3, (Option.some Jvm.ClassFile.FieldType.int), { frames := 9, cells := 1, slots := 6, locals := 157 }, [((0 : Nat), (8 : Nat), (11 : Nat), (24 : Nat))])
theorem okL_rayColumn : gw_okX mL_rayColumn 2 := ⟨by decide +kernel, kw_1237, kw_99, by decide +kernel⟩
abbrev mL_rayNumerator : gwY := (yL_rayNumerator, cL_rayNumerator, 4, (Option.some Jvm.ClassFile.FieldType.int), { frames := 9, cells := 2, slots := 12, locals := 161 }, [((0 : Nat), (8 : Nat), (11 : Nat), (19 : Nat)), ((0 : Nat), (8 : Nat), (14 : Nat), (24 : Nat))])
theorem okL_rayNumerator : gw_okX mL_rayNumerator 3 := ⟨by decide +kernel, kw_1249, kw_99, by decide +kernel⟩
abbrev mL_rayDenominator : gwY := (yL_rayDenominator, cL_rayDenominator, 4, (Option.some Jvm.ClassFile.FieldType.int), { frames := 9, cells := 2, slots := 12, locals := 161 }, [((0 : Nat), (8 : Nat), (11 : Nat), (19 : Nat)), ((0 : Nat), (8 : Nat), (14 : Nat), (24 : Nat))])
theorem okL_rayDenominator : gw_okX mL_rayDenominator 3 := ⟨by decide +kernel, kw_1260, kw_99, by decide +kernel⟩
abbrev mL_whyNoPivot : gwY := (yL_whyNoPivot, cL_whyNoPivot, 5, (Option.some Jvm.ClassFile.FieldType.int), { frames := 9, cells := 2, slots := 12, locals := 151 }, [((0 : Nat), (10 : Nat), (13 : Nat), (19 : Nat))])
theorem okL_whyNoPivot : gw_okX mL_whyNoPivot 4 := ⟨by decide +kernel, kw_1267, kw_99, by decide +kernel⟩
abbrev mL_nextColumn : gwY := (yL_nextColumn, cL_nextColumn, 3, (Option.some Jvm.ClassFile.FieldType.int), { frames := 9, cells := 1, slots := 6, locals := 187 }, [((0 : Nat), (8 : Nat), (11 : Nat), (24 : Nat))])
theorem okL_nextColumn : gw_okX mL_nextColumn 2 := ⟨by decide +kernel, kw_1274, kw_99, by decide +kernel⟩
abbrev mL_nextRow : gwY := (yL_nextRow, cL_nextRow, 3, (Option.some Jvm.ClassFile.FieldType.int), { frames := 9, cells := 1, slots := 6, locals := 187 }, [((0 : Nat), (8 : Nat), (11 : Nat), (24 : Nat))])
theorem okL_nextRow : gw_okX mL_nextRow 2 := ⟨by decide +kernel, kw_1281, kw_99, by decide +kernel⟩
abbrev mL_leastBound : gwY := (yL_leastBound, cL_leastBound, 4, (Option.some Jvm.ClassFile.FieldType.int), { frames := 9, cells := 1, slots := 6, locals := 155 }, [((0 : Nat), (9 : Nat), (12 : Nat), (19 : Nat))])
theorem okL_leastBound : gw_okX mL_leastBound 3 := ⟨by decide +kernel, kw_1288, kw_99, by decide +kernel⟩
abbrev mL_greatestBound : gwY := (yL_greatestBound, cL_greatestBound, 4, (Option.some Jvm.ClassFile.FieldType.int), { frames := 9, cells := 1, slots := 6, locals := 155 }, [((0 : Nat), (9 : Nat), (12 : Nat), (19 : Nat))])
theorem okL_greatestBound : gw_okX mL_greatestBound 3 := ⟨by decide +kernel, kw_1292, kw_99, by decide +kernel⟩
abbrev mL_solvedNumerator : gwY := (yL_solvedNumerator, cL_solvedNumerator, 5, (Option.some Jvm.ClassFile.FieldType.int), { frames := 10, cells := 3, slots := 18, locals := 213 }, [((0 : Nat), (9 : Nat), (12 : Nat), (19 : Nat)), ((0 : Nat), (9 : Nat), (16 : Nat), (13 : Nat)), ((0 : Nat), (9 : Nat), (20 : Nat), (24 : Nat))])
theorem okL_solvedNumerator : gw_okX mL_solvedNumerator 4 := ⟨by decide +kernel, kw_1296, kw_99, by decide +kernel⟩
abbrev mL_solvedDenominator : gwY := (yL_solvedDenominator, cL_solvedDenominator, 5, (Option.some Jvm.ClassFile.FieldType.int), { frames := 10, cells := 3, slots := 18, locals := 213 }, [((0 : Nat), (9 : Nat), (12 : Nat), (19 : Nat)), ((0 : Nat), (9 : Nat), (16 : Nat), (13 : Nat)), ((0 : Nat), (9 : Nat), (20 : Nat), (24 : Nat))])
theorem okL_solvedDenominator : gw_okX mL_solvedDenominator 4 := ⟨by decide +kernel, kw_1308, kw_99, by decide +kernel⟩
theorem inW0 : ∀ w ∈ u_ws RX0 TX0 3, w ∈ gw_W := by decide +kernel
theorem cl0 : gw_Cl 0 RX0 TX0 3 tyX0 := ⟨rfl, inW0, tyX0_ok, nmX0⟩
theorem inW1 : ∀ w ∈ u_ws RX1 TX1 2, w ∈ gw_W := by decide +kernel
theorem cl1 : gw_Cl 1 RX1 TX1 2 tyX1 := ⟨rfl, inW1, tyX1_ok, nmX1⟩
theorem inW2 : ∀ w ∈ u_ws RX2 TX2 3, w ∈ gw_W := by decide +kernel
theorem cl2 : gw_Cl 2 RX2 TX2 3 tyX2 := ⟨rfl, inW2, tyX2_ok, nmX2⟩
theorem inW3 : ∀ w ∈ u_ws RX3 TX3 3, w ∈ gw_W := by decide +kernel
theorem cl3 : gw_Cl 3 RX3 TX3 3 tyX3 := ⟨rfl, inW3, tyX3_ok, nmX3⟩
theorem inW4 : ∀ w ∈ u_ws RX4 TX4 6, w ∈ gw_W := by decide +kernel
theorem cl4 : gw_Cl 4 RX4 TX4 6 tyX4 := ⟨rfl, inW4, tyX4_ok, nmX4⟩
theorem inW5 : ∀ w ∈ u_ws RX5 TX5 6, w ∈ gw_W := by decide +kernel
theorem cl5 : gw_Cl 5 RX5 TX5 6 tyX5 := ⟨rfl, inW5, tyX5_ok, nmX5⟩
theorem inW6 : ∀ w ∈ u_ws RX6 TX6 5, w ∈ gw_W := by decide +kernel
theorem cl6 : gw_Cl 6 RX6 TX6 5 tyX6 := ⟨rfl, inW6, tyX6_ok, nmX6⟩
theorem inW7 : ∀ w ∈ u_ws RX7 TX7 2, w ∈ gw_W := by decide +kernel
theorem cl7 : gw_Cl 7 RX7 TX7 2 tyX7 := ⟨rfl, inW7, tyX7_ok, nmX7⟩
theorem inW8 : ∀ w ∈ u_ws RX8 TX8 11, w ∈ gw_W := by decide +kernel
theorem cl8 : gw_Cl 8 RX8 TX8 11 tyX8 := ⟨rfl, inW8, tyX8_ok, nmX8⟩
theorem inW9 : ∀ w ∈ u_ws RX9 TX9 28, w ∈ gw_W := by decide +kernel
theorem cl9 : gw_Cl 9 RX9 TX9 28 tyX9 := ⟨rfl, inW9, tyX9_ok, nmX9⟩
def gw_nms : List String := ["java/lang/RuntimeException", "java/lang/Exception"]
theorem gw_nms_ok : ∀ n ∈ gw_nms, Bundle.fit n = true := by decide +kernel
theorem thw_IA : ∀ w ∈ vx_atS RX8 61 "java/lang/IllegalArgumentException" gw_nms, w ∈ gw_W ∨ w ∈ gw_NW ∧ w.onTables = true := by decide +kernel
theorem thw_IS : ∀ w ∈ vx_atS RX8 108 "java/lang/IllegalStateException" gw_nms, w ∈ gw_W ∨ w ∈ gw_NW ∧ w.onTables = true := by decide +kernel
theorem thw_IO : ∀ w ∈ vx_atS RX8 403 "java/lang/IndexOutOfBoundsException" gw_nms, w ∈ gw_W ∨ w ∈ gw_NW ∧ w.onTables = true := by decide +kernel
end GT
