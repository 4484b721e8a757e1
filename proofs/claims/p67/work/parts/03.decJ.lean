theorem dJ6_bitCount_0f7a4_0 : decode cJ6_bitCount_0f7a4 0 = .ok (.iload_n 0, 1) := by decide +kernel
theorem dJ6_bitCount_0f7a4_1 : decode cJ6_bitCount_0f7a4 1 = .ok (.iload_n 0, 1) := by decide +kernel
theorem dJ6_bitCount_0f7a4_2 : decode cJ6_bitCount_0f7a4 2 = .ok (.iconst 1, 1) := by decide +kernel
theorem dJ6_bitCount_0f7a4_3 : decode cJ6_bitCount_0f7a4 3 = .ok (.iushr, 1) := by decide +kernel
theorem dJ6_bitCount_0f7a4_4 : decode cJ6_bitCount_0f7a4 4 = .ok (.ldc_w 265, 3) := by decide +kernel
theorem dJ6_bitCount_0f7a4_7 : decode cJ6_bitCount_0f7a4 7 = .ok (.iand, 1) := by decide +kernel
theorem dJ6_bitCount_0f7a4_8 : decode cJ6_bitCount_0f7a4 8 = .ok (.isub, 1) := by decide +kernel
theorem dJ6_bitCount_0f7a4_9 : decode cJ6_bitCount_0f7a4 9 = .ok (.istore_n 0, 1) := by decide +kernel
theorem dJ6_bitCount_0f7a4_10 : decode cJ6_bitCount_0f7a4 10 = .ok (.iload_n 0, 1) := by decide +kernel
theorem dJ6_bitCount_0f7a4_11 : decode cJ6_bitCount_0f7a4 11 = .ok (.ldc_w 266, 3) := by decide +kernel
theorem dJ6_bitCount_0f7a4_14 : decode cJ6_bitCount_0f7a4 14 = .ok (.iand, 1) := by decide +kernel
theorem dJ6_bitCount_0f7a4_15 : decode cJ6_bitCount_0f7a4 15 = .ok (.iload_n 0, 1) := by decide +kernel
theorem dJ6_bitCount_0f7a4_16 : decode cJ6_bitCount_0f7a4 16 = .ok (.iconst 2, 1) := by decide +kernel
theorem dJ6_bitCount_0f7a4_17 : decode cJ6_bitCount_0f7a4 17 = .ok (.iushr, 1) := by decide +kernel
theorem dJ6_bitCount_0f7a4_18 : decode cJ6_bitCount_0f7a4 18 = .ok (.ldc_w 266, 3) := by decide +kernel
theorem dJ6_bitCount_0f7a4_21 : decode cJ6_bitCount_0f7a4 21 = .ok (.iand, 1) := by decide +kernel
theorem dJ6_bitCount_0f7a4_22 : decode cJ6_bitCount_0f7a4 22 = .ok (.iadd, 1) := by decide +kernel
theorem dJ6_bitCount_0f7a4_23 : decode cJ6_bitCount_0f7a4 23 = .ok (.istore_n 0, 1) := by decide +kernel
theorem dJ6_bitCount_0f7a4_24 : decode cJ6_bitCount_0f7a4 24 = .ok (.iload_n 0, 1) := by decide +kernel
theorem dJ6_bitCount_0f7a4_25 : decode cJ6_bitCount_0f7a4 25 = .ok (.iload_n 0, 1) := by decide +kernel
theorem dJ6_bitCount_0f7a4_26 : decode cJ6_bitCount_0f7a4 26 = .ok (.iconst 4, 1) := by decide +kernel
theorem dJ6_bitCount_0f7a4_27 : decode cJ6_bitCount_0f7a4 27 = .ok (.iushr, 1) := by decide +kernel
theorem dJ6_bitCount_0f7a4_28 : decode cJ6_bitCount_0f7a4 28 = .ok (.iadd, 1) := by decide +kernel
theorem dJ6_bitCount_0f7a4_29 : decode cJ6_bitCount_0f7a4 29 = .ok (.ldc_w 267, 3) := by decide +kernel
theorem dJ6_bitCount_0f7a4_32 : decode cJ6_bitCount_0f7a4 32 = .ok (.iand, 1) := by decide +kernel
theorem dJ6_bitCount_0f7a4_33 : decode cJ6_bitCount_0f7a4 33 = .ok (.istore_n 0, 1) := by decide +kernel
theorem dJ6_bitCount_0f7a4_34 : decode cJ6_bitCount_0f7a4 34 = .ok (.iload_n 0, 1) := by decide +kernel
theorem dJ6_bitCount_0f7a4_35 : decode cJ6_bitCount_0f7a4 35 = .ok (.iload_n 0, 1) := by decide +kernel
theorem dJ6_bitCount_0f7a4_36 : decode cJ6_bitCount_0f7a4 36 = .ok (.bipush 8, 2) := by decide +kernel
theorem dJ6_bitCount_0f7a4_38 : decode cJ6_bitCount_0f7a4 38 = .ok (.iushr, 1) := by decide +kernel
theorem dJ6_bitCount_0f7a4_39 : decode cJ6_bitCount_0f7a4 39 = .ok (.iadd, 1) := by decide +kernel
theorem dJ6_bitCount_0f7a4_40 : decode cJ6_bitCount_0f7a4 40 = .ok (.istore_n 0, 1) := by decide +kernel
theorem dJ6_bitCount_0f7a4_41 : decode cJ6_bitCount_0f7a4 41 = .ok (.iload_n 0, 1) := by decide +kernel
theorem dJ6_bitCount_0f7a4_42 : decode cJ6_bitCount_0f7a4 42 = .ok (.iload_n 0, 1) := by decide +kernel
theorem dJ6_bitCount_0f7a4_43 : decode cJ6_bitCount_0f7a4 43 = .ok (.bipush 16, 2) := by decide +kernel
theorem dJ6_bitCount_0f7a4_45 : decode cJ6_bitCount_0f7a4 45 = .ok (.iushr, 1) := by decide +kernel
theorem dJ6_bitCount_0f7a4_46 : decode cJ6_bitCount_0f7a4 46 = .ok (.iadd, 1) := by decide +kernel
theorem dJ6_bitCount_0f7a4_47 : decode cJ6_bitCount_0f7a4 47 = .ok (.istore_n 0, 1) := by decide +kernel
theorem dJ6_bitCount_0f7a4_48 : decode cJ6_bitCount_0f7a4 48 = .ok (.iload_n 0, 1) := by decide +kernel
theorem dJ6_bitCount_0f7a4_49 : decode cJ6_bitCount_0f7a4 49 = .ok (.bipush 63, 2) := by decide +kernel
theorem dJ6_bitCount_0f7a4_51 : decode cJ6_bitCount_0f7a4 51 = .ok (.iand, 1) := by decide +kernel
theorem dJ6_bitCount_0f7a4_52 : decode cJ6_bitCount_0f7a4 52 = .ok (.ireturn, 1) := by decide +kernel
theorem dJ9_abs_067f4_0 : decode cJ9_abs_067f4 0 = .ok (.lload_n 0, 1) := by decide +kernel
theorem dJ9_abs_067f4_1 : decode cJ9_abs_067f4 1 = .ok (.lconst 0, 1) := by decide +kernel
theorem dJ9_abs_067f4_2 : decode cJ9_abs_067f4 2 = .ok (.lcmp, 1) := by decide +kernel
theorem dJ9_abs_067f4_3 : decode cJ9_abs_067f4 3 = .ok (.ifCond .ge 8, 3) := by decide +kernel
theorem dJ9_abs_067f4_6 : decode cJ9_abs_067f4 6 = .ok (.lload_n 0, 1) := by decide +kernel
theorem dJ9_abs_067f4_7 : decode cJ9_abs_067f4 7 = .ok (.lneg, 1) := by decide +kernel
theorem dJ9_abs_067f4_8 : decode cJ9_abs_067f4 8 = .ok (.goto 4, 3) := by decide +kernel
theorem dJ9_abs_067f4_11 : decode cJ9_abs_067f4 11 = .ok (.lload_n 0, 1) := by decide +kernel
theorem dJ9_abs_067f4_12 : decode cJ9_abs_067f4 12 = .ok (.lreturn, 1) := by decide +kernel
theorem dJ9_max_7cf53_0 : decode cJ9_max_7cf53 0 = .ok (.iload_n 0, 1) := by decide +kernel
theorem dJ9_max_7cf53_1 : decode cJ9_max_7cf53 1 = .ok (.iload_n 1, 1) := by decide +kernel
theorem dJ9_max_7cf53_2 : decode cJ9_max_7cf53 2 = .ok (.if_icmp .lt 7, 3) := by decide +kernel
theorem dJ9_max_7cf53_5 : decode cJ9_max_7cf53 5 = .ok (.iload_n 0, 1) := by decide +kernel
theorem dJ9_max_7cf53_6 : decode cJ9_max_7cf53 6 = .ok (.goto 4, 3) := by decide +kernel
theorem dJ9_max_7cf53_9 : decode cJ9_max_7cf53 9 = .ok (.iload_n 1, 1) := by decide +kernel
theorem dJ9_max_7cf53_10 : decode cJ9_max_7cf53 10 = .ok (.ireturn, 1) := by decide +kernel
theorem dJ9_min_7cf53_0 : decode cJ9_min_7cf53 0 = .ok (.iload_n 0, 1) := by decide +kernel
theorem dJ9_min_7cf53_1 : decode cJ9_min_7cf53 1 = .ok (.iload_n 1, 1) := by decide +kernel
theorem dJ9_min_7cf53_2 : decode cJ9_min_7cf53 2 = .ok (.if_icmp .gt 7, 3) := by decide +kernel
theorem dJ9_min_7cf53_5 : decode cJ9_min_7cf53 5 = .ok (.iload_n 0, 1) := by decide +kernel
theorem dJ9_min_7cf53_6 : decode cJ9_min_7cf53 6 = .ok (.goto 4, 3) := by decide +kernel
theorem dJ9_min_7cf53_9 : decode cJ9_min_7cf53 9 = .ok (.iload_n 1, 1) := by decide +kernel
theorem dJ9_min_7cf53_10 : decode cJ9_min_7cf53 10 = .ok (.ireturn, 1) := by decide +kernel
theorem dJ9_min_f86c9_0 : decode cJ9_min_f86c9 0 = .ok (.lload_n 0, 1) := by decide +kernel
theorem dJ9_min_f86c9_1 : decode cJ9_min_f86c9 1 = .ok (.lload_n 2, 1) := by decide +kernel
theorem dJ9_min_f86c9_2 : decode cJ9_min_f86c9 2 = .ok (.lcmp, 1) := by decide +kernel
theorem dJ9_min_f86c9_3 : decode cJ9_min_f86c9 3 = .ok (.ifCond .gt 7, 3) := by decide +kernel
theorem dJ9_min_f86c9_6 : decode cJ9_min_f86c9 6 = .ok (.lload_n 0, 1) := by decide +kernel
theorem dJ9_min_f86c9_7 : decode cJ9_min_f86c9 7 = .ok (.goto 4, 3) := by decide +kernel
theorem dJ9_min_f86c9_10 : decode cJ9_min_f86c9 10 = .ok (.lload_n 2, 1) := by decide +kernel
theorem dJ9_min_f86c9_11 : decode cJ9_min_f86c9 11 = .ok (.lreturn, 1) := by decide +kernel
theorem dX0_init_0 : decode cX0_init 0 = .ok (.aload_n 0, 1) := by decide +kernel
theorem dX0_init_1 : decode cX0_init 1 = .ok (.invokespecial 3, 3) := by decide +kernel
theorem dX0_init_4 : decode cX0_init 4 = .ok (.aload_n 0, 1) := by decide +kernel
theorem dX0_init_5 : decode cX0_init 5 = .ok (.lconst 1, 1) := by decide +kernel
theorem dX0_init_6 : decode cX0_init 6 = .ok (.putfield 9, 3) := by decide +kernel
theorem dX0_init_9 : decode cX0_init 9 = .ok (.aload_n 0, 1) := by decide +kernel
theorem dX0_init_10 : decode cX0_init 10 = .ok (.new 15, 3) := by decide +kernel
theorem dX0_init_13 : decode cX0_init 13 = .ok (.dup, 1) := by decide +kernel
theorem dX0_init_14 : decode cX0_init 14 = .ok (.iconst 4, 1) := by decide +kernel
theorem dX0_init_15 : decode cX0_init 15 = .ok (.iconst 5, 1) := by decide +kernel
theorem dX0_init_16 : decode cX0_init 16 = .ok (.invokespecial 17, 3) := by decide +kernel
theorem dX0_init_19 : decode cX0_init 19 = .ok (.putfield 20, 3) := by decide +kernel
theorem dX0_init_22 : decode cX0_init 22 = .ok (.return_, 1) := by decide +kernel
theorem dX0_unknown_0 : decode cX0_unknown 0 = .ok (.aload_n 0, 1) := by decide +kernel
theorem dX0_unknown_1 : decode cX0_unknown 1 = .ok (.getfield 20, 3) := by decide +kernel
theorem dX0_unknown_4 : decode cX0_unknown 4 = .ok (.iload_n 1, 1) := by decide +kernel
theorem dX0_unknown_5 : decode cX0_unknown 5 = .ok (.aload_n 0, 1) := by decide +kernel
theorem dX0_unknown_6 : decode cX0_unknown 6 = .ok (.getfield 24, 3) := by decide +kernel
theorem dX0_unknown_9 : decode cX0_unknown 9 = .ok (.invokevirtual 28, 3) := by decide +kernel
theorem dX0_unknown_12 : decode cX0_unknown 12 = .ok (.lreturn, 1) := by decide +kernel
theorem dX0_solveDuals_0 : decode cX0_solveDuals 0 = .ok (.aload_n 1, 1) := by decide +kernel
theorem dX0_solveDuals_1 : decode cX0_solveDuals 1 = .ok (.ifnonnull 5, 3) := by decide +kernel
theorem dX0_solveDuals_4 : decode cX0_solveDuals 4 = .ok (.iconst 0, 1) := by decide +kernel
theorem dX0_solveDuals_5 : decode cX0_solveDuals 5 = .ok (.ireturn, 1) := by decide +kernel
theorem dX0_solveDuals_6 : decode cX0_solveDuals 6 = .ok (.aload_n 0, 1) := by decide +kernel
theorem dX0_solveDuals_7 : decode cX0_solveDuals 7 = .ok (.aload_n 1, 1) := by decide +kernel
theorem dX0_solveDuals_8 : decode cX0_solveDuals 8 = .ok (.getfield 32, 3) := by decide +kernel
theorem dX0_solveDuals_11 : decode cX0_solveDuals 11 = .ok (.getfield 38, 3) := by decide +kernel
theorem dX0_solveDuals_14 : decode cX0_solveDuals 14 = .ok (.putfield 24, 3) := by decide +kernel
theorem dX0_solveDuals_17 : decode cX0_solveDuals 17 = .ok (.iconst 0, 1) := by decide +kernel
theorem dX0_solveDuals_18 : decode cX0_solveDuals 18 = .ok (.istore_n 2, 1) := by decide +kernel
theorem dX0_solveDuals_19 : decode cX0_solveDuals 19 = .ok (.iload_n 2, 1) := by decide +kernel
theorem dX0_solveDuals_20 : decode cX0_solveDuals 20 = .ok (.aload_n 0, 1) := by decide +kernel
theorem dX0_solveDuals_21 : decode cX0_solveDuals 21 = .ok (.getfield 24, 3) := by decide +kernel
theorem dX0_solveDuals_24 : decode cX0_solveDuals 24 = .ok (.if_icmp .ge 78, 3) := by decide +kernel
theorem dX0_solveDuals_27 : decode cX0_solveDuals 27 = .ok (.aload_n 1, 1) := by decide +kernel
theorem dX0_solveDuals_28 : decode cX0_solveDuals 28 = .ok (.getfield 43, 3) := by decide +kernel
theorem dX0_solveDuals_31 : decode cX0_solveDuals 31 = .ok (.iload_n 2, 1) := by decide +kernel
theorem dX0_solveDuals_32 : decode cX0_solveDuals 32 = .ok (.invokevirtual 47, 3) := by decide +kernel
theorem dX0_solveDuals_35 : decode cX0_solveDuals 35 = .ok (.istore_n 3, 1) := by decide +kernel
theorem dX0_solveDuals_36 : decode cX0_solveDuals 36 = .ok (.iconst 0, 1) := by decide +kernel
theorem dX0_solveDuals_37 : decode cX0_solveDuals 37 = .ok (.istore 4, 2) := by decide +kernel
theorem dX0_solveDuals_39 : decode cX0_solveDuals 39 = .ok (.iload 4, 2) := by decide +kernel
theorem dX0_solveDuals_41 : decode cX0_solveDuals 41 = .ok (.aload_n 0, 1) := by decide +kernel
theorem dX0_solveDuals_42 : decode cX0_solveDuals 42 = .ok (.getfield 24, 3) := by decide +kernel
theorem dX0_solveDuals_45 : decode cX0_solveDuals 45 = .ok (.if_icmp .ge 30, 3) := by decide +kernel
theorem dX0_solveDuals_48 : decode cX0_solveDuals 48 = .ok (.aload_n 0, 1) := by decide +kernel
theorem dX0_solveDuals_49 : decode cX0_solveDuals 49 = .ok (.getfield 20, 3) := by decide +kernel
theorem dX0_solveDuals_52 : decode cX0_solveDuals 52 = .ok (.iload_n 2, 1) := by decide +kernel
theorem dX0_solveDuals_53 : decode cX0_solveDuals 53 = .ok (.iload 4, 2) := by decide +kernel
theorem dX0_solveDuals_55 : decode cX0_solveDuals 55 = .ok (.aload_n 1, 1) := by decide +kernel
theorem dX0_solveDuals_56 : decode cX0_solveDuals 56 = .ok (.getfield 32, 3) := by decide +kernel
theorem dX0_solveDuals_59 : decode cX0_solveDuals 59 = .ok (.iload 4, 2) := by decide +kernel
theorem dX0_solveDuals_61 : decode cX0_solveDuals 61 = .ok (.iload_n 3, 1) := by decide +kernel
theorem dX0_solveDuals_62 : decode cX0_solveDuals 62 = .ok (.invokevirtual 53, 3) := by decide +kernel
theorem dX0_solveDuals_65 : decode cX0_solveDuals 65 = .ok (.i2l, 1) := by decide +kernel
theorem dX0_solveDuals_66 : decode cX0_solveDuals 66 = .ok (.invokevirtual 57, 3) := by decide +kernel
theorem dX0_solveDuals_69 : decode cX0_solveDuals 69 = .ok (.iinc 4 1, 3) := by decide +kernel
theorem dX0_solveDuals_72 : decode cX0_solveDuals 72 = .ok (.goto (-33), 3) := by decide +kernel
theorem dX0_solveDuals_75 : decode cX0_solveDuals 75 = .ok (.aload_n 0, 1) := by decide +kernel
theorem dX0_solveDuals_76 : decode cX0_solveDuals 76 = .ok (.getfield 20, 3) := by decide +kernel
theorem dX0_solveDuals_79 : decode cX0_solveDuals 79 = .ok (.iload_n 2, 1) := by decide +kernel
theorem dX0_solveDuals_80 : decode cX0_solveDuals 80 = .ok (.aload_n 0, 1) := by decide +kernel
theorem dX0_solveDuals_81 : decode cX0_solveDuals 81 = .ok (.getfield 24, 3) := by decide +kernel
theorem dX0_solveDuals_84 : decode cX0_solveDuals 84 = .ok (.aload_n 1, 1) := by decide +kernel
theorem dX0_solveDuals_85 : decode cX0_solveDuals 85 = .ok (.getfield 32, 3) := by decide +kernel
theorem dX0_solveDuals_88 : decode cX0_solveDuals 88 = .ok (.iload_n 3, 1) := by decide +kernel
theorem dX0_solveDuals_89 : decode cX0_solveDuals 89 = .ok (.invokevirtual 61, 3) := by decide +kernel
theorem dX0_solveDuals_92 : decode cX0_solveDuals 92 = .ok (.i2l, 1) := by decide +kernel
theorem dX0_solveDuals_93 : decode cX0_solveDuals 93 = .ok (.invokevirtual 57, 3) := by decide +kernel
theorem dX0_solveDuals_96 : decode cX0_solveDuals 96 = .ok (.iinc 2 1, 3) := by decide +kernel
theorem dX0_solveDuals_99 : decode cX0_solveDuals 99 = .ok (.goto (-80), 3) := by decide +kernel
theorem dX0_solveDuals_102 : decode cX0_solveDuals 102 = .ok (.aload_n 0, 1) := by decide +kernel
theorem dX0_solveDuals_103 : decode cX0_solveDuals 103 = .ok (.invokevirtual 64, 3) := by decide +kernel
theorem dX0_solveDuals_106 : decode cX0_solveDuals 106 = .ok (.ireturn, 1) := by decide +kernel
theorem dX0_solveBasis_0 : decode cX0_solveBasis 0 = .ok (.aload_n 1, 1) := by decide +kernel
theorem dX0_solveBasis_1 : decode cX0_solveBasis 1 = .ok (.ifnonnull 5, 3) := by decide +kernel
theorem dX0_solveBasis_4 : decode cX0_solveBasis 4 = .ok (.iconst 0, 1) := by decide +kernel
theorem dX0_solveBasis_5 : decode cX0_solveBasis 5 = .ok (.ireturn, 1) := by decide +kernel
theorem dX0_solveBasis_6 : decode cX0_solveBasis 6 = .ok (.aload_n 0, 1) := by decide +kernel
theorem dX0_solveBasis_7 : decode cX0_solveBasis 7 = .ok (.aload_n 1, 1) := by decide +kernel
theorem dX0_solveBasis_8 : decode cX0_solveBasis 8 = .ok (.getfield 38, 3) := by decide +kernel
theorem dX0_solveBasis_11 : decode cX0_solveBasis 11 = .ok (.putfield 24, 3) := by decide +kernel
theorem dX0_solveBasis_14 : decode cX0_solveBasis 14 = .ok (.iconst 0, 1) := by decide +kernel
theorem dX0_solveBasis_15 : decode cX0_solveBasis 15 = .ok (.istore_n 3, 1) := by decide +kernel
theorem dX0_solveBasis_16 : decode cX0_solveBasis 16 = .ok (.iconst 0, 1) := by decide +kernel
theorem dX0_solveBasis_17 : decode cX0_solveBasis 17 = .ok (.istore 4, 2) := by decide +kernel
theorem dX0_solveBasis_19 : decode cX0_solveBasis 19 = .ok (.iload 4, 2) := by decide +kernel
theorem dX0_solveBasis_21 : decode cX0_solveBasis 21 = .ok (.aload_n 1, 1) := by decide +kernel
theorem dX0_solveBasis_22 : decode cX0_solveBasis 22 = .ok (.getfield 68, 3) := by decide +kernel
theorem dX0_solveBasis_25 : decode cX0_solveBasis 25 = .ok (.aload_n 0, 1) := by decide +kernel
theorem dX0_solveBasis_26 : decode cX0_solveBasis 26 = .ok (.getfield 24, 3) := by decide +kernel
theorem dX0_solveBasis_29 : decode cX0_solveBasis 29 = .ok (.iadd, 1) := by decide +kernel
theorem dX0_solveBasis_30 : decode cX0_solveBasis 30 = .ok (.if_icmp .ge 59, 3) := by decide +kernel
theorem dX0_solveBasis_33 : decode cX0_solveBasis 33 = .ok (.iload_n 2, 1) := by decide +kernel
theorem dX0_solveBasis_34 : decode cX0_solveBasis 34 = .ok (.iload 4, 2) := by decide +kernel
theorem dX0_solveBasis_36 : decode cX0_solveBasis 36 = .ok (.ishr, 1) := by decide +kernel
theorem dX0_solveBasis_37 : decode cX0_solveBasis 37 = .ok (.iconst 1, 1) := by decide +kernel
theorem dX0_solveBasis_38 : decode cX0_solveBasis 38 = .ok (.iand, 1) := by decide +kernel
theorem dX0_solveBasis_39 : decode cX0_solveBasis 39 = .ok (.iconst 1, 1) := by decide +kernel
theorem dX0_solveBasis_40 : decode cX0_solveBasis 40 = .ok (.if_icmp .ne 43, 3) := by decide +kernel
theorem dX0_solveBasis_43 : decode cX0_solveBasis 43 = .ok (.iconst 0, 1) := by decide +kernel
theorem dX0_solveBasis_44 : decode cX0_solveBasis 44 = .ok (.istore 5, 2) := by decide +kernel
theorem dX0_solveBasis_46 : decode cX0_solveBasis 46 = .ok (.iload 5, 2) := by decide +kernel
theorem dX0_solveBasis_48 : decode cX0_solveBasis 48 = .ok (.aload_n 0, 1) := by decide +kernel
theorem dX0_solveBasis_49 : decode cX0_solveBasis 49 = .ok (.getfield 24, 3) := by decide +kernel
theorem dX0_solveBasis_52 : decode cX0_solveBasis 52 = .ok (.if_icmp .ge 28, 3) := by decide +kernel
theorem dX0_solveBasis_55 : decode cX0_solveBasis 55 = .ok (.aload_n 0, 1) := by decide +kernel
theorem dX0_solveBasis_56 : decode cX0_solveBasis 56 = .ok (.getfield 20, 3) := by decide +kernel
theorem dX0_solveBasis_59 : decode cX0_solveBasis 59 = .ok (.iload 5, 2) := by decide +kernel
theorem dX0_solveBasis_61 : decode cX0_solveBasis 61 = .ok (.iload_n 3, 1) := by decide +kernel
theorem dX0_solveBasis_62 : decode cX0_solveBasis 62 = .ok (.aload_n 1, 1) := by decide +kernel
theorem dX0_solveBasis_63 : decode cX0_solveBasis 63 = .ok (.iload 5, 2) := by decide +kernel
theorem dX0_solveBasis_65 : decode cX0_solveBasis 65 = .ok (.iload 4, 2) := by decide +kernel
theorem dX0_solveBasis_67 : decode cX0_solveBasis 67 = .ok (.invokevirtual 53, 3) := by decide +kernel
theorem dX0_solveBasis_70 : decode cX0_solveBasis 70 = .ok (.i2l, 1) := by decide +kernel
theorem dX0_solveBasis_71 : decode cX0_solveBasis 71 = .ok (.invokevirtual 57, 3) := by decide +kernel
theorem dX0_solveBasis_74 : decode cX0_solveBasis 74 = .ok (.iinc 5 1, 3) := by decide +kernel
theorem dX0_solveBasis_77 : decode cX0_solveBasis 77 = .ok (.goto (-31), 3) := by decide +kernel
theorem dX0_solveBasis_80 : decode cX0_solveBasis 80 = .ok (.iinc 3 1, 3) := by decide +kernel
theorem dX0_solveBasis_83 : decode cX0_solveBasis 83 = .ok (.iinc 4 1, 3) := by decide +kernel
theorem dX0_solveBasis_86 : decode cX0_solveBasis 86 = .ok (.goto (-67), 3) := by decide +kernel
theorem dX0_solveBasis_89 : decode cX0_solveBasis 89 = .ok (.iconst 0, 1) := by decide +kernel
theorem dX0_solveBasis_90 : decode cX0_solveBasis 90 = .ok (.istore 4, 2) := by decide +kernel
theorem dX0_solveBasis_92 : decode cX0_solveBasis 92 = .ok (.iload 4, 2) := by decide +kernel
theorem dX0_solveBasis_94 : decode cX0_solveBasis 94 = .ok (.aload_n 0, 1) := by decide +kernel
theorem dX0_solveBasis_95 : decode cX0_solveBasis 95 = .ok (.getfield 24, 3) := by decide +kernel
theorem dX0_solveBasis_98 : decode cX0_solveBasis 98 = .ok (.if_icmp .ge 29, 3) := by decide +kernel
theorem dX0_solveBasis_101 : decode cX0_solveBasis 101 = .ok (.aload_n 0, 1) := by decide +kernel
theorem dX0_solveBasis_102 : decode cX0_solveBasis 102 = .ok (.getfield 20, 3) := by decide +kernel
theorem dX0_solveBasis_105 : decode cX0_solveBasis 105 = .ok (.iload 4, 2) := by decide +kernel
theorem dX0_solveBasis_107 : decode cX0_solveBasis 107 = .ok (.aload_n 0, 1) := by decide +kernel
theorem dX0_solveBasis_108 : decode cX0_solveBasis 108 = .ok (.getfield 24, 3) := by decide +kernel
theorem dX0_solveBasis_111 : decode cX0_solveBasis 111 = .ok (.aload_n 1, 1) := by decide +kernel
theorem dX0_solveBasis_112 : decode cX0_solveBasis 112 = .ok (.iload 4, 2) := by decide +kernel
theorem dX0_solveBasis_114 : decode cX0_solveBasis 114 = .ok (.invokevirtual 71, 3) := by decide +kernel
theorem dX0_solveBasis_117 : decode cX0_solveBasis 117 = .ok (.i2l, 1) := by decide +kernel
theorem dX0_solveBasis_118 : decode cX0_solveBasis 118 = .ok (.invokevirtual 57, 3) := by decide +kernel
theorem dX0_solveBasis_121 : decode cX0_solveBasis 121 = .ok (.iinc 4 1, 3) := by decide +kernel
theorem dX0_solveBasis_124 : decode cX0_solveBasis 124 = .ok (.goto (-32), 3) := by decide +kernel
theorem dX0_solveBasis_127 : decode cX0_solveBasis 127 = .ok (.aload_n 0, 1) := by decide +kernel
theorem dX0_solveBasis_128 : decode cX0_solveBasis 128 = .ok (.invokevirtual 64, 3) := by decide +kernel
theorem dX0_solveBasis_131 : decode cX0_solveBasis 131 = .ok (.ireturn, 1) := by decide +kernel
theorem dX0_eliminate_0 : decode cX0_eliminate 0 = .ok (.aload_n 0, 1) := by decide +kernel
theorem dX0_eliminate_1 : decode cX0_eliminate 1 = .ok (.lconst 1, 1) := by decide +kernel
theorem dX0_eliminate_2 : decode cX0_eliminate 2 = .ok (.putfield 9, 3) := by decide +kernel
theorem dX0_eliminate_5 : decode cX0_eliminate 5 = .ok (.iconst 0, 1) := by decide +kernel
theorem dX0_eliminate_6 : decode cX0_eliminate 6 = .ok (.istore_n 1, 1) := by decide +kernel
theorem dX0_eliminate_7 : decode cX0_eliminate 7 = .ok (.iload_n 1, 1) := by decide +kernel
theorem dX0_eliminate_8 : decode cX0_eliminate 8 = .ok (.aload_n 0, 1) := by decide +kernel
theorem dX0_eliminate_9 : decode cX0_eliminate 9 = .ok (.getfield 24, 3) := by decide +kernel
theorem dX0_eliminate_12 : decode cX0_eliminate 12 = .ok (.if_icmp .ge 79, 3) := by decide +kernel
theorem dX0_eliminate_15 : decode cX0_eliminate 15 = .ok (.aload_n 0, 1) := by decide +kernel
theorem dX0_eliminate_16 : decode cX0_eliminate 16 = .ok (.iload_n 1, 1) := by decide +kernel
theorem dX0_eliminate_17 : decode cX0_eliminate 17 = .ok (.invokevirtual 74, 3) := by decide +kernel
theorem dX0_eliminate_20 : decode cX0_eliminate 20 = .ok (.istore_n 2, 1) := by decide +kernel
theorem dX0_eliminate_21 : decode cX0_eliminate 21 = .ok (.iload_n 2, 1) := by decide +kernel
theorem dX0_eliminate_22 : decode cX0_eliminate 22 = .ok (.ifCond .ge 5, 3) := by decide +kernel
theorem dX0_eliminate_25 : decode cX0_eliminate 25 = .ok (.iconst 0, 1) := by decide +kernel
theorem dX0_eliminate_26 : decode cX0_eliminate 26 = .ok (.ireturn, 1) := by decide +kernel
theorem dX0_eliminate_27 : decode cX0_eliminate 27 = .ok (.aload_n 0, 1) := by decide +kernel
theorem dX0_eliminate_28 : decode cX0_eliminate 28 = .ok (.iload_n 2, 1) := by decide +kernel
theorem dX0_eliminate_29 : decode cX0_eliminate 29 = .ok (.iload_n 1, 1) := by decide +kernel
theorem dX0_eliminate_30 : decode cX0_eliminate 30 = .ok (.invokevirtual 77, 3) := by decide +kernel
theorem dX0_eliminate_33 : decode cX0_eliminate 33 = .ok (.iconst 0, 1) := by decide +kernel
theorem dX0_eliminate_34 : decode cX0_eliminate 34 = .ok (.istore_n 3, 1) := by decide +kernel
theorem dX0_eliminate_35 : decode cX0_eliminate 35 = .ok (.iload_n 3, 1) := by decide +kernel
theorem dX0_eliminate_36 : decode cX0_eliminate 36 = .ok (.aload_n 0, 1) := by decide +kernel
theorem dX0_eliminate_37 : decode cX0_eliminate 37 = .ok (.getfield 24, 3) := by decide +kernel
theorem dX0_eliminate_40 : decode cX0_eliminate 40 = .ok (.if_icmp .ge 32, 3) := by decide +kernel
theorem dX0_eliminate_43 : decode cX0_eliminate 43 = .ok (.iload_n 3, 1) := by decide +kernel
theorem dX0_eliminate_44 : decode cX0_eliminate 44 = .ok (.iload_n 1, 1) := by decide +kernel
theorem dX0_eliminate_45 : decode cX0_eliminate 45 = .ok (.if_icmp .eq 21, 3) := by decide +kernel
theorem dX0_eliminate_48 : decode cX0_eliminate 48 = .ok (.aload_n 0, 1) := by decide +kernel
theorem dX0_eliminate_49 : decode cX0_eliminate 49 = .ok (.getfield 20, 3) := by decide +kernel
theorem dX0_eliminate_52 : decode cX0_eliminate 52 = .ok (.iload_n 3, 1) := by decide +kernel
theorem dX0_eliminate_53 : decode cX0_eliminate 53 = .ok (.iload_n 1, 1) := by decide +kernel
theorem dX0_eliminate_54 : decode cX0_eliminate 54 = .ok (.iload_n 1, 1) := by decide +kernel
theorem dX0_eliminate_55 : decode cX0_eliminate 55 = .ok (.aload_n 0, 1) := by decide +kernel
theorem dX0_eliminate_56 : decode cX0_eliminate 56 = .ok (.getfield 24, 3) := by decide +kernel
theorem dX0_eliminate_59 : decode cX0_eliminate 59 = .ok (.aload_n 0, 1) := by decide +kernel
theorem dX0_eliminate_60 : decode cX0_eliminate 60 = .ok (.getfield 9, 3) := by decide +kernel
theorem dX0_eliminate_63 : decode cX0_eliminate 63 = .ok (.invokevirtual 80, 3) := by decide +kernel
theorem dX0_eliminate_66 : decode cX0_eliminate 66 = .ok (.iinc 3 1, 3) := by decide +kernel
theorem dX0_eliminate_69 : decode cX0_eliminate 69 = .ok (.goto (-34), 3) := by decide +kernel
theorem dX0_eliminate_72 : decode cX0_eliminate 72 = .ok (.aload_n 0, 1) := by decide +kernel
theorem dX0_eliminate_73 : decode cX0_eliminate 73 = .ok (.aload_n 0, 1) := by decide +kernel
theorem dX0_eliminate_74 : decode cX0_eliminate 74 = .ok (.getfield 20, 3) := by decide +kernel
theorem dX0_eliminate_77 : decode cX0_eliminate 77 = .ok (.iload_n 1, 1) := by decide +kernel
theorem dX0_eliminate_78 : decode cX0_eliminate 78 = .ok (.iload_n 1, 1) := by decide +kernel
theorem dX0_eliminate_79 : decode cX0_eliminate 79 = .ok (.invokevirtual 28, 3) := by decide +kernel
theorem dX0_eliminate_82 : decode cX0_eliminate 82 = .ok (.putfield 9, 3) := by decide +kernel
theorem dX0_eliminate_85 : decode cX0_eliminate 85 = .ok (.iinc 1 1, 3) := by decide +kernel
theorem dX0_eliminate_88 : decode cX0_eliminate 88 = .ok (.goto (-81), 3) := by decide +kernel
theorem dX0_eliminate_91 : decode cX0_eliminate 91 = .ok (.iconst 1, 1) := by decide +kernel
theorem dX0_eliminate_92 : decode cX0_eliminate 92 = .ok (.ireturn, 1) := by decide +kernel
theorem dX0_rowWith_0 : decode cX0_rowWith 0 = .ok (.iload_n 1, 1) := by decide +kernel
theorem dX0_rowWith_1 : decode cX0_rowWith 1 = .ok (.istore_n 2, 1) := by decide +kernel
theorem dX0_rowWith_2 : decode cX0_rowWith 2 = .ok (.iload_n 2, 1) := by decide +kernel
theorem dX0_rowWith_3 : decode cX0_rowWith 3 = .ok (.aload_n 0, 1) := by decide +kernel
theorem dX0_rowWith_4 : decode cX0_rowWith 4 = .ok (.getfield 24, 3) := by decide +kernel
theorem dX0_rowWith_7 : decode cX0_rowWith 7 = .ok (.if_icmp .ge 25, 3) := by decide +kernel
theorem dX0_rowWith_10 : decode cX0_rowWith 10 = .ok (.aload_n 0, 1) := by decide +kernel
theorem dX0_rowWith_11 : decode cX0_rowWith 11 = .ok (.getfield 20, 3) := by decide +kernel
theorem dX0_rowWith_14 : decode cX0_rowWith 14 = .ok (.iload_n 2, 1) := by decide +kernel
theorem dX0_rowWith_15 : decode cX0_rowWith 15 = .ok (.iload_n 1, 1) := by decide +kernel
theorem dX0_rowWith_16 : decode cX0_rowWith 16 = .ok (.invokevirtual 28, 3) := by decide +kernel
theorem dX0_rowWith_19 : decode cX0_rowWith 19 = .ok (.lconst 0, 1) := by decide +kernel
theorem dX0_rowWith_20 : decode cX0_rowWith 20 = .ok (.lcmp, 1) := by decide +kernel
theorem dX0_rowWith_21 : decode cX0_rowWith 21 = .ok (.ifCond .eq 5, 3) := by decide +kernel
theorem dX0_rowWith_24 : decode cX0_rowWith 24 = .ok (.iload_n 2, 1) := by decide +kernel
theorem dX0_rowWith_25 : decode cX0_rowWith 25 = .ok (.ireturn, 1) := by decide +kernel
theorem dX0_rowWith_26 : decode cX0_rowWith 26 = .ok (.iinc 2 1, 3) := by decide +kernel
theorem dX0_rowWith_29 : decode cX0_rowWith 29 = .ok (.goto (-27), 3) := by decide +kernel
theorem dX0_rowWith_32 : decode cX0_rowWith 32 = .ok (.iconst (-1), 1) := by decide +kernel
theorem dX0_rowWith_33 : decode cX0_rowWith 33 = .ok (.ireturn, 1) := by decide +kernel
theorem dX0_swap_0 : decode cX0_swap 0 = .ok (.iconst 0, 1) := by decide +kernel
theorem dX0_swap_1 : decode cX0_swap 1 = .ok (.istore_n 3, 1) := by decide +kernel
theorem dX0_swap_2 : decode cX0_swap 2 = .ok (.iload_n 3, 1) := by decide +kernel
theorem dX0_swap_3 : decode cX0_swap 3 = .ok (.aload_n 0, 1) := by decide +kernel
theorem dX0_swap_4 : decode cX0_swap 4 = .ok (.getfield 24, 3) := by decide +kernel
theorem dX0_swap_7 : decode cX0_swap 7 = .ok (.if_icmp .gt 49, 3) := by decide +kernel
theorem dX0_swap_10 : decode cX0_swap 10 = .ok (.aload_n 0, 1) := by decide +kernel
theorem dX0_swap_11 : decode cX0_swap 11 = .ok (.getfield 20, 3) := by decide +kernel
theorem dX0_swap_14 : decode cX0_swap 14 = .ok (.iload_n 1, 1) := by decide +kernel
theorem dX0_swap_15 : decode cX0_swap 15 = .ok (.iload_n 3, 1) := by decide +kernel
theorem dX0_swap_16 : decode cX0_swap 16 = .ok (.invokevirtual 28, 3) := by decide +kernel
theorem dX0_swap_19 : decode cX0_swap 19 = .ok (.lstore 4, 2) := by decide +kernel
theorem dX0_swap_21 : decode cX0_swap 21 = .ok (.aload_n 0, 1) := by decide +kernel
theorem dX0_swap_22 : decode cX0_swap 22 = .ok (.getfield 20, 3) := by decide +kernel
theorem dX0_swap_25 : decode cX0_swap 25 = .ok (.iload_n 1, 1) := by decide +kernel
theorem dX0_swap_26 : decode cX0_swap 26 = .ok (.iload_n 3, 1) := by decide +kernel
theorem dX0_swap_27 : decode cX0_swap 27 = .ok (.aload_n 0, 1) := by decide +kernel
theorem dX0_swap_28 : decode cX0_swap 28 = .ok (.getfield 20, 3) := by decide +kernel
theorem dX0_swap_31 : decode cX0_swap 31 = .ok (.iload_n 2, 1) := by decide +kernel
theorem dX0_swap_32 : decode cX0_swap 32 = .ok (.iload_n 3, 1) := by decide +kernel
theorem dX0_swap_33 : decode cX0_swap 33 = .ok (.invokevirtual 28, 3) := by decide +kernel
theorem dX0_swap_36 : decode cX0_swap 36 = .ok (.invokevirtual 57, 3) := by decide +kernel
theorem dX0_swap_39 : decode cX0_swap 39 = .ok (.aload_n 0, 1) := by decide +kernel
theorem dX0_swap_40 : decode cX0_swap 40 = .ok (.getfield 20, 3) := by decide +kernel
theorem dX0_swap_43 : decode cX0_swap 43 = .ok (.iload_n 2, 1) := by decide +kernel
theorem dX0_swap_44 : decode cX0_swap 44 = .ok (.iload_n 3, 1) := by decide +kernel
theorem dX0_swap_45 : decode cX0_swap 45 = .ok (.lload 4, 2) := by decide +kernel
theorem dX0_swap_47 : decode cX0_swap 47 = .ok (.invokevirtual 57, 3) := by decide +kernel
theorem dX0_swap_50 : decode cX0_swap 50 = .ok (.iinc 3 1, 3) := by decide +kernel
theorem dX0_swap_53 : decode cX0_swap 53 = .ok (.goto (-51), 3) := by decide +kernel
theorem dX0_swap_56 : decode cX0_swap 56 = .ok (.return_, 1) := by decide +kernel
theorem dX1_init_0 : decode cX1_init 0 = .ok (.aload_n 0, 1) := by decide +kernel
theorem dX1_init_1 : decode cX1_init 1 = .ok (.invokespecial 1, 3) := by decide +kernel
theorem dX1_init_4 : decode cX1_init 4 = .ok (.aload_n 0, 1) := by decide +kernel
theorem dX1_init_5 : decode cX1_init 5 = .ok (.iconst 1, 1) := by decide +kernel
theorem dX1_init_6 : decode cX1_init 6 = .ok (.iload_n 2, 1) := by decide +kernel
theorem dX1_init_7 : decode cX1_init 7 = .ok (.invokestatic 7, 3) := by decide +kernel
theorem dX1_init_10 : decode cX1_init 10 = .ok (.putfield 13, 3) := by decide +kernel
theorem dX1_init_13 : decode cX1_init 13 = .ok (.aload_n 0, 1) := by decide +kernel
theorem dX1_init_14 : decode cX1_init 14 = .ok (.iconst 1, 1) := by decide +kernel
theorem dX1_init_15 : decode cX1_init 15 = .ok (.iload_n 1, 1) := by decide +kernel
theorem dX1_init_16 : decode cX1_init 16 = .ok (.invokestatic 7, 3) := by decide +kernel
theorem dX1_init_19 : decode cX1_init 19 = .ok (.aload_n 0, 1) := by decide +kernel
theorem dX1_init_20 : decode cX1_init 20 = .ok (.getfield 13, 3) := by decide +kernel
theorem dX1_init_23 : decode cX1_init 23 = .ok (.imul, 1) := by decide +kernel
theorem dX1_init_24 : decode cX1_init 24 = .ok (.newarray .long, 2) := by decide +kernel
theorem dX1_init_26 : decode cX1_init 26 = .ok (.putfield 19, 3) := by decide +kernel
theorem dX1_init_29 : decode cX1_init 29 = .ok (.return_, 1) := by decide +kernel
theorem dX1_at_0 : decode cX1_at 0 = .ok (.iload_n 1, 1) := by decide +kernel
theorem dX1_at_1 : decode cX1_at 1 = .ok (.aload_n 0, 1) := by decide +kernel
theorem dX1_at_2 : decode cX1_at 2 = .ok (.getfield 13, 3) := by decide +kernel
theorem dX1_at_5 : decode cX1_at 5 = .ok (.imul, 1) := by decide +kernel
theorem dX1_at_6 : decode cX1_at 6 = .ok (.iload_n 2, 1) := by decide +kernel
theorem dX1_at_7 : decode cX1_at 7 = .ok (.iadd, 1) := by decide +kernel
theorem dX1_at_8 : decode cX1_at 8 = .ok (.istore_n 3, 1) := by decide +kernel
theorem dX1_at_9 : decode cX1_at 9 = .ok (.iload_n 1, 1) := by decide +kernel
theorem dX1_at_10 : decode cX1_at 10 = .ok (.ifCond .lt 28, 3) := by decide +kernel
theorem dX1_at_13 : decode cX1_at 13 = .ok (.iload_n 2, 1) := by decide +kernel
theorem dX1_at_14 : decode cX1_at 14 = .ok (.ifCond .lt 24, 3) := by decide +kernel
theorem dX1_at_17 : decode cX1_at 17 = .ok (.iload_n 2, 1) := by decide +kernel
theorem dX1_at_18 : decode cX1_at 18 = .ok (.aload_n 0, 1) := by decide +kernel
theorem dX1_at_19 : decode cX1_at 19 = .ok (.getfield 13, 3) := by decide +kernel
theorem dX1_at_22 : decode cX1_at 22 = .ok (.if_icmp .ge 16, 3) := by decide +kernel
theorem dX1_at_25 : decode cX1_at 25 = .ok (.iload_n 3, 1) := by decide +kernel
theorem dX1_at_26 : decode cX1_at 26 = .ok (.ifCond .lt 12, 3) := by decide +kernel
theorem dX1_at_29 : decode cX1_at 29 = .ok (.iload_n 3, 1) := by decide +kernel
theorem dX1_at_30 : decode cX1_at 30 = .ok (.aload_n 0, 1) := by decide +kernel
theorem dX1_at_31 : decode cX1_at 31 = .ok (.getfield 19, 3) := by decide +kernel
theorem dX1_at_34 : decode cX1_at 34 = .ok (.arraylength, 1) := by decide +kernel
theorem dX1_at_35 : decode cX1_at 35 = .ok (.if_icmp .lt 5, 3) := by decide +kernel
theorem dX1_at_38 : decode cX1_at 38 = .ok (.lconst 0, 1) := by decide +kernel
theorem dX1_at_39 : decode cX1_at 39 = .ok (.lreturn, 1) := by decide +kernel
theorem dX1_at_40 : decode cX1_at 40 = .ok (.aload_n 0, 1) := by decide +kernel
theorem dX1_at_41 : decode cX1_at 41 = .ok (.getfield 19, 3) := by decide +kernel
theorem dX1_at_44 : decode cX1_at 44 = .ok (.iload_n 3, 1) := by decide +kernel
theorem dX1_at_45 : decode cX1_at 45 = .ok (.laload, 1) := by decide +kernel
theorem dX1_at_46 : decode cX1_at 46 = .ok (.lreturn, 1) := by decide +kernel
theorem dX1_put_0 : decode cX1_put 0 = .ok (.iload_n 1, 1) := by decide +kernel
theorem dX1_put_1 : decode cX1_put 1 = .ok (.aload_n 0, 1) := by decide +kernel
theorem dX1_put_2 : decode cX1_put 2 = .ok (.getfield 13, 3) := by decide +kernel
theorem dX1_put_5 : decode cX1_put 5 = .ok (.imul, 1) := by decide +kernel
theorem dX1_put_6 : decode cX1_put 6 = .ok (.iload_n 2, 1) := by decide +kernel
theorem dX1_put_7 : decode cX1_put 7 = .ok (.iadd, 1) := by decide +kernel
theorem dX1_put_8 : decode cX1_put 8 = .ok (.istore 5, 2) := by decide +kernel
theorem dX1_put_10 : decode cX1_put 10 = .ok (.iload_n 1, 1) := by decide +kernel
theorem dX1_put_11 : decode cX1_put 11 = .ok (.ifCond .lt 38, 3) := by decide +kernel
theorem dX1_put_14 : decode cX1_put 14 = .ok (.iload_n 2, 1) := by decide +kernel
theorem dX1_put_15 : decode cX1_put 15 = .ok (.ifCond .lt 34, 3) := by decide +kernel
theorem dX1_put_18 : decode cX1_put 18 = .ok (.iload_n 2, 1) := by decide +kernel
theorem dX1_put_19 : decode cX1_put 19 = .ok (.aload_n 0, 1) := by decide +kernel
theorem dX1_put_20 : decode cX1_put 20 = .ok (.getfield 13, 3) := by decide +kernel
theorem dX1_put_23 : decode cX1_put 23 = .ok (.if_icmp .ge 26, 3) := by decide +kernel
theorem dX1_put_26 : decode cX1_put 26 = .ok (.iload 5, 2) := by decide +kernel
theorem dX1_put_28 : decode cX1_put 28 = .ok (.ifCond .lt 21, 3) := by decide +kernel
theorem dX1_put_31 : decode cX1_put 31 = .ok (.iload 5, 2) := by decide +kernel
theorem dX1_put_33 : decode cX1_put 33 = .ok (.aload_n 0, 1) := by decide +kernel
theorem dX1_put_34 : decode cX1_put 34 = .ok (.getfield 19, 3) := by decide +kernel
theorem dX1_put_37 : decode cX1_put 37 = .ok (.arraylength, 1) := by decide +kernel
theorem dX1_put_38 : decode cX1_put 38 = .ok (.if_icmp .ge 11, 3) := by decide +kernel
theorem dX1_put_41 : decode cX1_put 41 = .ok (.aload_n 0, 1) := by decide +kernel
theorem dX1_put_42 : decode cX1_put 42 = .ok (.getfield 19, 3) := by decide +kernel
theorem dX1_put_45 : decode cX1_put 45 = .ok (.iload 5, 2) := by decide +kernel
theorem dX1_put_47 : decode cX1_put 47 = .ok (.lload_n 3, 1) := by decide +kernel
theorem dX1_put_48 : decode cX1_put 48 = .ok (.lastore, 1) := by decide +kernel
theorem dX1_put_49 : decode cX1_put 49 = .ok (.return_, 1) := by decide +kernel
theorem dX1_clear_0 : decode cX1_clear 0 = .ok (.aload_n 0, 1) := by decide +kernel
theorem dX1_clear_1 : decode cX1_clear 1 = .ok (.iload_n 2, 1) := by decide +kernel
theorem dX1_clear_2 : decode cX1_clear 2 = .ok (.iload_n 3, 1) := by decide +kernel
theorem dX1_clear_3 : decode cX1_clear 3 = .ok (.invokevirtual 23, 3) := by decide +kernel
theorem dX1_clear_6 : decode cX1_clear 6 = .ok (.lstore 7, 2) := by decide +kernel
theorem dX1_clear_8 : decode cX1_clear 8 = .ok (.aload_n 0, 1) := by decide +kernel
theorem dX1_clear_9 : decode cX1_clear 9 = .ok (.iload_n 1, 1) := by decide +kernel
theorem dX1_clear_10 : decode cX1_clear 10 = .ok (.iload_n 3, 1) := by decide +kernel
theorem dX1_clear_11 : decode cX1_clear 11 = .ok (.invokevirtual 23, 3) := by decide +kernel
theorem dX1_clear_14 : decode cX1_clear 14 = .ok (.lstore 9, 2) := by decide +kernel
theorem dX1_clear_16 : decode cX1_clear 16 = .ok (.iconst 0, 1) := by decide +kernel
theorem dX1_clear_17 : decode cX1_clear 17 = .ok (.istore 11, 2) := by decide +kernel
theorem dX1_clear_19 : decode cX1_clear 19 = .ok (.iload 11, 2) := by decide +kernel
theorem dX1_clear_21 : decode cX1_clear 21 = .ok (.iload 4, 2) := by decide +kernel
theorem dX1_clear_23 : decode cX1_clear 23 = .ok (.if_icmp .gt 55, 3) := by decide +kernel
theorem dX1_clear_26 : decode cX1_clear 26 = .ok (.aload_n 0, 1) := by decide +kernel
theorem dX1_clear_27 : decode cX1_clear 27 = .ok (.iload_n 1, 1) := by decide +kernel
theorem dX1_clear_28 : decode cX1_clear 28 = .ok (.iload 11, 2) := by decide +kernel
theorem dX1_clear_30 : decode cX1_clear 30 = .ok (.invokevirtual 23, 3) := by decide +kernel
theorem dX1_clear_33 : decode cX1_clear 33 = .ok (.lload 7, 2) := by decide +kernel
theorem dX1_clear_35 : decode cX1_clear 35 = .ok (.lmul, 1) := by decide +kernel
theorem dX1_clear_36 : decode cX1_clear 36 = .ok (.lload 9, 2) := by decide +kernel
theorem dX1_clear_38 : decode cX1_clear 38 = .ok (.aload_n 0, 1) := by decide +kernel
theorem dX1_clear_39 : decode cX1_clear 39 = .ok (.iload_n 2, 1) := by decide +kernel
theorem dX1_clear_40 : decode cX1_clear 40 = .ok (.iload 11, 2) := by decide +kernel
theorem dX1_clear_42 : decode cX1_clear 42 = .ok (.invokevirtual 23, 3) := by decide +kernel
theorem dX1_clear_45 : decode cX1_clear 45 = .ok (.lmul, 1) := by decide +kernel
theorem dX1_clear_46 : decode cX1_clear 46 = .ok (.lsub, 1) := by decide +kernel
theorem dX1_clear_47 : decode cX1_clear 47 = .ok (.lstore 12, 2) := by decide +kernel
theorem dX1_clear_49 : decode cX1_clear 49 = .ok (.aload_n 0, 1) := by decide +kernel
theorem dX1_clear_50 : decode cX1_clear 50 = .ok (.iload_n 1, 1) := by decide +kernel
theorem dX1_clear_51 : decode cX1_clear 51 = .ok (.iload 11, 2) := by decide +kernel
theorem dX1_clear_53 : decode cX1_clear 53 = .ok (.lload 5, 2) := by decide +kernel
theorem dX1_clear_55 : decode cX1_clear 55 = .ok (.lconst 0, 1) := by decide +kernel
theorem dX1_clear_56 : decode cX1_clear 56 = .ok (.lcmp, 1) := by decide +kernel
theorem dX1_clear_57 : decode cX1_clear 57 = .ok (.ifCond .ne 7, 3) := by decide +kernel
theorem dX1_clear_60 : decode cX1_clear 60 = .ok (.lconst 0, 1) := by decide +kernel
theorem dX1_clear_61 : decode cX1_clear 61 = .ok (.goto 8, 3) := by decide +kernel
theorem dX1_clear_64 : decode cX1_clear 64 = .ok (.lload 12, 2) := by decide +kernel
theorem dX1_clear_66 : decode cX1_clear 66 = .ok (.lload 5, 2) := by decide +kernel
theorem dX1_clear_68 : decode cX1_clear 68 = .ok (.ldiv, 1) := by decide +kernel
theorem dX1_clear_69 : decode cX1_clear 69 = .ok (.invokevirtual 27, 3) := by decide +kernel
theorem dX1_clear_72 : decode cX1_clear 72 = .ok (.iinc 11 1, 3) := by decide +kernel
theorem dX1_clear_75 : decode cX1_clear 75 = .ok (.goto (-56), 3) := by decide +kernel
theorem dX1_clear_78 : decode cX1_clear 78 = .ok (.return_, 1) := by decide +kernel
theorem dX1_copy_0 : decode cX1_copy 0 = .ok (.aload_n 1, 1) := by decide +kernel
theorem dX1_copy_1 : decode cX1_copy 1 = .ok (.ifnull 34, 3) := by decide +kernel
theorem dX1_copy_4 : decode cX1_copy 4 = .ok (.aload_n 1, 1) := by decide +kernel
theorem dX1_copy_5 : decode cX1_copy 5 = .ok (.getfield 19, 3) := by decide +kernel
theorem dX1_copy_8 : decode cX1_copy 8 = .ok (.arraylength, 1) := by decide +kernel
theorem dX1_copy_9 : decode cX1_copy 9 = .ok (.aload_n 0, 1) := by decide +kernel
theorem dX1_copy_10 : decode cX1_copy 10 = .ok (.getfield 19, 3) := by decide +kernel
theorem dX1_copy_13 : decode cX1_copy 13 = .ok (.arraylength, 1) := by decide +kernel
theorem dX1_copy_14 : decode cX1_copy 14 = .ok (.if_icmp .ne 21, 3) := by decide +kernel
theorem dX1_copy_17 : decode cX1_copy 17 = .ok (.aload_n 1, 1) := by decide +kernel
theorem dX1_copy_18 : decode cX1_copy 18 = .ok (.getfield 19, 3) := by decide +kernel
theorem dX1_copy_21 : decode cX1_copy 21 = .ok (.iconst 0, 1) := by decide +kernel
theorem dX1_copy_22 : decode cX1_copy 22 = .ok (.aload_n 0, 1) := by decide +kernel
theorem dX1_copy_23 : decode cX1_copy 23 = .ok (.getfield 19, 3) := by decide +kernel
theorem dX1_copy_26 : decode cX1_copy 26 = .ok (.iconst 0, 1) := by decide +kernel
theorem dX1_copy_27 : decode cX1_copy 27 = .ok (.aload_n 0, 1) := by decide +kernel
theorem dX1_copy_28 : decode cX1_copy 28 = .ok (.getfield 19, 3) := by decide +kernel
theorem dX1_copy_31 : decode cX1_copy 31 = .ok (.arraylength, 1) := by decide +kernel
theorem dX1_copy_32 : decode cX1_copy 32 = .ok (.invokestatic 31, 3) := by decide +kernel
theorem dX1_copy_35 : decode cX1_copy 35 = .ok (.return_, 1) := by decide +kernel
theorem dX2_init_0 : decode cX2_init 0 = .ok (.aload_n 0, 1) := by decide +kernel
theorem dX2_init_1 : decode cX2_init 1 = .ok (.invokespecial 3, 3) := by decide +kernel
theorem dX2_init_4 : decode cX2_init 4 = .ok (.aload_n 0, 1) := by decide +kernel
theorem dX2_init_5 : decode cX2_init 5 = .ok (.iconst 2, 1) := by decide +kernel
theorem dX2_init_6 : decode cX2_init 6 = .ok (.putfield 9, 3) := by decide +kernel
theorem dX2_init_9 : decode cX2_init 9 = .ok (.aload_n 0, 1) := by decide +kernel
theorem dX2_init_10 : decode cX2_init 10 = .ok (.new 15, 3) := by decide +kernel
theorem dX2_init_13 : decode cX2_init 13 = .ok (.dup, 1) := by decide +kernel
theorem dX2_init_14 : decode cX2_init 14 = .ok (.iconst 5, 1) := by decide +kernel
theorem dX2_init_15 : decode cX2_init 15 = .ok (.iconst 5, 1) := by decide +kernel
theorem dX2_init_16 : decode cX2_init 16 = .ok (.invokespecial 17, 3) := by decide +kernel
theorem dX2_init_19 : decode cX2_init 19 = .ok (.putfield 20, 3) := by decide +kernel
theorem dX2_init_22 : decode cX2_init 22 = .ok (.return_, 1) := by decide +kernel
theorem dX2_profit_0 : decode cX2_profit 0 = .ok (.aload_n 0, 1) := by decide +kernel
theorem dX2_profit_1 : decode cX2_profit 1 = .ok (.getfield 20, 3) := by decide +kernel
theorem dX2_profit_4 : decode cX2_profit 4 = .ok (.iconst 4, 1) := by decide +kernel
theorem dX2_profit_5 : decode cX2_profit 5 = .ok (.iload_n 1, 1) := by decide +kernel
theorem dX2_profit_6 : decode cX2_profit 6 = .ok (.invokevirtual 24, 3) := by decide +kernel
theorem dX2_profit_9 : decode cX2_profit 9 = .ok (.l2i, 1) := by decide +kernel
theorem dX2_profit_10 : decode cX2_profit 10 = .ok (.ireturn, 1) := by decide +kernel
theorem dX2_putProfit_0 : decode cX2_putProfit 0 = .ok (.aload_n 0, 1) := by decide +kernel
theorem dX2_putProfit_1 : decode cX2_putProfit 1 = .ok (.getfield 20, 3) := by decide +kernel
theorem dX2_putProfit_4 : decode cX2_putProfit 4 = .ok (.iconst 4, 1) := by decide +kernel
theorem dX2_putProfit_5 : decode cX2_putProfit 5 = .ok (.iload_n 1, 1) := by decide +kernel
theorem dX2_putProfit_6 : decode cX2_putProfit 6 = .ok (.iload_n 2, 1) := by decide +kernel
theorem dX2_putProfit_7 : decode cX2_putProfit 7 = .ok (.i2l, 1) := by decide +kernel
theorem dX2_putProfit_8 : decode cX2_putProfit 8 = .ok (.invokevirtual 28, 3) := by decide +kernel
theorem dX2_putProfit_11 : decode cX2_putProfit 11 = .ok (.return_, 1) := by decide +kernel
theorem dX2_coefficient_0 : decode cX2_coefficient 0 = .ok (.aload_n 0, 1) := by decide +kernel
theorem dX2_coefficient_1 : decode cX2_coefficient 1 = .ok (.getfield 20, 3) := by decide +kernel
theorem dX2_coefficient_4 : decode cX2_coefficient 4 = .ok (.iload_n 1, 1) := by decide +kernel
theorem dX2_coefficient_5 : decode cX2_coefficient 5 = .ok (.iload_n 2, 1) := by decide +kernel
theorem dX2_coefficient_6 : decode cX2_coefficient 6 = .ok (.invokevirtual 24, 3) := by decide +kernel
theorem dX2_coefficient_9 : decode cX2_coefficient 9 = .ok (.l2i, 1) := by decide +kernel
theorem dX2_coefficient_10 : decode cX2_coefficient 10 = .ok (.ireturn, 1) := by decide +kernel
theorem dX2_putCoefficient_0 : decode cX2_putCoefficient 0 = .ok (.aload_n 0, 1) := by decide +kernel
theorem dX2_putCoefficient_1 : decode cX2_putCoefficient 1 = .ok (.getfield 20, 3) := by decide +kernel
theorem dX2_putCoefficient_4 : decode cX2_putCoefficient 4 = .ok (.iload_n 1, 1) := by decide +kernel
theorem dX2_putCoefficient_5 : decode cX2_putCoefficient 5 = .ok (.iload_n 2, 1) := by decide +kernel
theorem dX2_putCoefficient_6 : decode cX2_putCoefficient 6 = .ok (.iload_n 3, 1) := by decide +kernel
theorem dX2_putCoefficient_7 : decode cX2_putCoefficient 7 = .ok (.i2l, 1) := by decide +kernel
theorem dX2_putCoefficient_8 : decode cX2_putCoefficient 8 = .ok (.invokevirtual 28, 3) := by decide +kernel
theorem dX2_putCoefficient_11 : decode cX2_putCoefficient 11 = .ok (.return_, 1) := by decide +kernel
theorem dX2_bound_0 : decode cX2_bound 0 = .ok (.aload_n 0, 1) := by decide +kernel
theorem dX2_bound_1 : decode cX2_bound 1 = .ok (.getfield 20, 3) := by decide +kernel
theorem dX2_bound_4 : decode cX2_bound 4 = .ok (.iload_n 1, 1) := by decide +kernel
theorem dX2_bound_5 : decode cX2_bound 5 = .ok (.iconst 4, 1) := by decide +kernel
theorem dX2_bound_6 : decode cX2_bound 6 = .ok (.invokevirtual 24, 3) := by decide +kernel
theorem dX2_bound_9 : decode cX2_bound 9 = .ok (.l2i, 1) := by decide +kernel
theorem dX2_bound_10 : decode cX2_bound 10 = .ok (.ireturn, 1) := by decide +kernel
theorem dX2_putBound_0 : decode cX2_putBound 0 = .ok (.aload_n 0, 1) := by decide +kernel
theorem dX2_putBound_1 : decode cX2_putBound 1 = .ok (.getfield 20, 3) := by decide +kernel
theorem dX2_putBound_4 : decode cX2_putBound 4 = .ok (.iload_n 1, 1) := by decide +kernel
theorem dX2_putBound_5 : decode cX2_putBound 5 = .ok (.iconst 4, 1) := by decide +kernel
theorem dX2_putBound_6 : decode cX2_putBound 6 = .ok (.iload_n 2, 1) := by decide +kernel
theorem dX2_putBound_7 : decode cX2_putBound 7 = .ok (.i2l, 1) := by decide +kernel
theorem dX2_putBound_8 : decode cX2_putBound 8 = .ok (.invokevirtual 28, 3) := by decide +kernel
theorem dX2_putBound_11 : decode cX2_putBound 11 = .ok (.return_, 1) := by decide +kernel
theorem dX2_firstFactor_0 : decode cX2_firstFactor 0 = .ok (.iload_n 2, 1) := by decide +kernel
theorem dX2_firstFactor_1 : decode cX2_firstFactor 1 = .ok (.aload_n 0, 1) := by decide +kernel
theorem dX2_firstFactor_2 : decode cX2_firstFactor 2 = .ok (.getfield 9, 3) := by decide +kernel
theorem dX2_firstFactor_5 : decode cX2_firstFactor 5 = .ok (.if_icmp .ge 10, 3) := by decide +kernel
theorem dX2_firstFactor_8 : decode cX2_firstFactor 8 = .ok (.aload_n 0, 1) := by decide +kernel
theorem dX2_firstFactor_9 : decode cX2_firstFactor 9 = .ok (.iload_n 1, 1) := by decide +kernel
theorem dX2_firstFactor_10 : decode cX2_firstFactor 10 = .ok (.iload_n 2, 1) := by decide +kernel
theorem dX2_firstFactor_11 : decode cX2_firstFactor 11 = .ok (.invokevirtual 32, 3) := by decide +kernel
theorem dX2_firstFactor_14 : decode cX2_firstFactor 14 = .ok (.ireturn, 1) := by decide +kernel
theorem dX2_firstFactor_15 : decode cX2_firstFactor 15 = .ok (.iload_n 2, 1) := by decide +kernel
theorem dX2_firstFactor_16 : decode cX2_firstFactor 16 = .ok (.aload_n 0, 1) := by decide +kernel
theorem dX2_firstFactor_17 : decode cX2_firstFactor 17 = .ok (.getfield 9, 3) := by decide +kernel
theorem dX2_firstFactor_20 : decode cX2_firstFactor 20 = .ok (.isub, 1) := by decide +kernel
theorem dX2_firstFactor_21 : decode cX2_firstFactor 21 = .ok (.iload_n 1, 1) := by decide +kernel
theorem dX2_firstFactor_22 : decode cX2_firstFactor 22 = .ok (.if_icmp .ne 7, 3) := by decide +kernel
theorem dX2_firstFactor_25 : decode cX2_firstFactor 25 = .ok (.iconst 1, 1) := by decide +kernel
theorem dX2_firstFactor_26 : decode cX2_firstFactor 26 = .ok (.goto 4, 3) := by decide +kernel
theorem dX2_firstFactor_29 : decode cX2_firstFactor 29 = .ok (.iconst 0, 1) := by decide +kernel
theorem dX2_firstFactor_30 : decode cX2_firstFactor 30 = .ok (.ireturn, 1) := by decide +kernel
theorem dX2_columnProfit_0 : decode cX2_columnProfit 0 = .ok (.iload_n 1, 1) := by decide +kernel
theorem dX2_columnProfit_1 : decode cX2_columnProfit 1 = .ok (.aload_n 0, 1) := by decide +kernel
theorem dX2_columnProfit_2 : decode cX2_columnProfit 2 = .ok (.getfield 9, 3) := by decide +kernel
theorem dX2_columnProfit_5 : decode cX2_columnProfit 5 = .ok (.if_icmp .ge 11, 3) := by decide +kernel
theorem dX2_columnProfit_8 : decode cX2_columnProfit 8 = .ok (.aload_n 0, 1) := by decide +kernel
theorem dX2_columnProfit_9 : decode cX2_columnProfit 9 = .ok (.iload_n 1, 1) := by decide +kernel
theorem dX2_columnProfit_10 : decode cX2_columnProfit 10 = .ok (.invokevirtual 36, 3) := by decide +kernel
theorem dX2_columnProfit_13 : decode cX2_columnProfit 13 = .ok (.goto 4, 3) := by decide +kernel
theorem dX2_columnProfit_16 : decode cX2_columnProfit 16 = .ok (.iconst 0, 1) := by decide +kernel
theorem dX2_columnProfit_17 : decode cX2_columnProfit 17 = .ok (.ireturn, 1) := by decide +kernel
theorem dX2_resize_0 : decode cX2_resize 0 = .ok (.iload_n 1, 1) := by decide +kernel
theorem dX2_resize_1 : decode cX2_resize 1 = .ok (.istore_n 2, 1) := by decide +kernel
theorem dX2_resize_2 : decode cX2_resize 2 = .ok (.iload_n 2, 1) := by decide +kernel
theorem dX2_resize_3 : decode cX2_resize 3 = .ok (.iconst 4, 1) := by decide +kernel
theorem dX2_resize_4 : decode cX2_resize 4 = .ok (.if_icmp .ge 32, 3) := by decide +kernel
theorem dX2_resize_7 : decode cX2_resize 7 = .ok (.iconst 0, 1) := by decide +kernel
theorem dX2_resize_8 : decode cX2_resize 8 = .ok (.istore_n 3, 1) := by decide +kernel
theorem dX2_resize_9 : decode cX2_resize 9 = .ok (.iload_n 3, 1) := by decide +kernel
theorem dX2_resize_10 : decode cX2_resize 10 = .ok (.iconst 4, 1) := by decide +kernel
theorem dX2_resize_11 : decode cX2_resize 11 = .ok (.if_icmp .gt 19, 3) := by decide +kernel
theorem dX2_resize_14 : decode cX2_resize 14 = .ok (.aload_n 0, 1) := by decide +kernel
theorem dX2_resize_15 : decode cX2_resize 15 = .ok (.getfield 20, 3) := by decide +kernel
theorem dX2_resize_18 : decode cX2_resize 18 = .ok (.iload_n 3, 1) := by decide +kernel
theorem dX2_resize_19 : decode cX2_resize 19 = .ok (.iload_n 2, 1) := by decide +kernel
theorem dX2_resize_20 : decode cX2_resize 20 = .ok (.lconst 0, 1) := by decide +kernel
theorem dX2_resize_21 : decode cX2_resize 21 = .ok (.invokevirtual 28, 3) := by decide +kernel
theorem dX2_resize_24 : decode cX2_resize 24 = .ok (.iinc 3 1, 3) := by decide +kernel
theorem dX2_resize_27 : decode cX2_resize 27 = .ok (.goto (-18), 3) := by decide +kernel
theorem dX2_resize_30 : decode cX2_resize 30 = .ok (.iinc 2 1, 3) := by decide +kernel
theorem dX2_resize_33 : decode cX2_resize 33 = .ok (.goto (-31), 3) := by decide +kernel
theorem dX2_resize_36 : decode cX2_resize 36 = .ok (.aload_n 0, 1) := by decide +kernel
theorem dX2_resize_37 : decode cX2_resize 37 = .ok (.iload_n 1, 1) := by decide +kernel
theorem dX2_resize_38 : decode cX2_resize 38 = .ok (.putfield 9, 3) := by decide +kernel
theorem dX2_resize_41 : decode cX2_resize 41 = .ok (.return_, 1) := by decide +kernel
theorem dX2_add_0 : decode cX2_add 0 = .ok (.aload_n 0, 1) := by decide +kernel
theorem dX2_add_1 : decode cX2_add 1 = .ok (.getfield 40, 3) := by decide +kernel
theorem dX2_add_4 : decode cX2_add 4 = .ok (.istore_n 2, 1) := by decide +kernel
theorem dX2_add_5 : decode cX2_add 5 = .ok (.iconst 0, 1) := by decide +kernel
theorem dX2_add_6 : decode cX2_add 6 = .ok (.istore_n 3, 1) := by decide +kernel
theorem dX2_add_7 : decode cX2_add 7 = .ok (.iload_n 3, 1) := by decide +kernel
theorem dX2_add_8 : decode cX2_add 8 = .ok (.iconst 4, 1) := by decide +kernel
theorem dX2_add_9 : decode cX2_add 9 = .ok (.if_icmp .ge 16, 3) := by decide +kernel
theorem dX2_add_12 : decode cX2_add 12 = .ok (.aload_n 0, 1) := by decide +kernel
theorem dX2_add_13 : decode cX2_add 13 = .ok (.iload_n 2, 1) := by decide +kernel
theorem dX2_add_14 : decode cX2_add 14 = .ok (.iload_n 3, 1) := by decide +kernel
theorem dX2_add_15 : decode cX2_add 15 = .ok (.iconst 0, 1) := by decide +kernel
theorem dX2_add_16 : decode cX2_add 16 = .ok (.invokevirtual 43, 3) := by decide +kernel
theorem dX2_add_19 : decode cX2_add 19 = .ok (.iinc 3 1, 3) := by decide +kernel
theorem dX2_add_22 : decode cX2_add 22 = .ok (.goto (-15), 3) := by decide +kernel
theorem dX2_add_25 : decode cX2_add 25 = .ok (.aload_n 0, 1) := by decide +kernel
theorem dX2_add_26 : decode cX2_add 26 = .ok (.iload_n 2, 1) := by decide +kernel
theorem dX2_add_27 : decode cX2_add 27 = .ok (.iload_n 1, 1) := by decide +kernel
theorem dX2_add_28 : decode cX2_add 28 = .ok (.invokevirtual 47, 3) := by decide +kernel
theorem dX2_add_31 : decode cX2_add 31 = .ok (.aload_n 0, 1) := by decide +kernel
theorem dX2_add_32 : decode cX2_add 32 = .ok (.dup, 1) := by decide +kernel
theorem dX2_add_33 : decode cX2_add 33 = .ok (.getfield 40, 3) := by decide +kernel
theorem dX2_add_36 : decode cX2_add 36 = .ok (.iconst 1, 1) := by decide +kernel
theorem dX2_add_37 : decode cX2_add 37 = .ok (.iadd, 1) := by decide +kernel
theorem dX2_add_38 : decode cX2_add 38 = .ok (.putfield 40, 3) := by decide +kernel
theorem dX2_add_41 : decode cX2_add 41 = .ok (.iload_n 2, 1) := by decide +kernel
theorem dX2_add_42 : decode cX2_add 42 = .ok (.ireturn, 1) := by decide +kernel
theorem dX2_drop_0 : decode cX2_drop 0 = .ok (.iload_n 1, 1) := by decide +kernel
theorem dX2_drop_1 : decode cX2_drop 1 = .ok (.istore_n 2, 1) := by decide +kernel
theorem dX2_drop_2 : decode cX2_drop 2 = .ok (.iload_n 2, 1) := by decide +kernel
theorem dX2_drop_3 : decode cX2_drop 3 = .ok (.aload_n 0, 1) := by decide +kernel
theorem dX2_drop_4 : decode cX2_drop 4 = .ok (.getfield 40, 3) := by decide +kernel
theorem dX2_drop_7 : decode cX2_drop 7 = .ok (.iconst 1, 1) := by decide +kernel
theorem dX2_drop_8 : decode cX2_drop 8 = .ok (.isub, 1) := by decide +kernel
theorem dX2_drop_9 : decode cX2_drop 9 = .ok (.if_icmp .ge 42, 3) := by decide +kernel
theorem dX2_drop_12 : decode cX2_drop 12 = .ok (.iconst 0, 1) := by decide +kernel
theorem dX2_drop_13 : decode cX2_drop 13 = .ok (.istore_n 3, 1) := by decide +kernel
theorem dX2_drop_14 : decode cX2_drop 14 = .ok (.iload_n 3, 1) := by decide +kernel
theorem dX2_drop_15 : decode cX2_drop 15 = .ok (.iconst 4, 1) := by decide +kernel
theorem dX2_drop_16 : decode cX2_drop 16 = .ok (.if_icmp .gt 29, 3) := by decide +kernel
theorem dX2_drop_19 : decode cX2_drop 19 = .ok (.aload_n 0, 1) := by decide +kernel
theorem dX2_drop_20 : decode cX2_drop 20 = .ok (.getfield 20, 3) := by decide +kernel
theorem dX2_drop_23 : decode cX2_drop 23 = .ok (.iload_n 2, 1) := by decide +kernel
theorem dX2_drop_24 : decode cX2_drop 24 = .ok (.iload_n 3, 1) := by decide +kernel
theorem dX2_drop_25 : decode cX2_drop 25 = .ok (.aload_n 0, 1) := by decide +kernel
theorem dX2_drop_26 : decode cX2_drop 26 = .ok (.getfield 20, 3) := by decide +kernel
theorem dX2_drop_29 : decode cX2_drop 29 = .ok (.iload_n 2, 1) := by decide +kernel
theorem dX2_drop_30 : decode cX2_drop 30 = .ok (.iconst 1, 1) := by decide +kernel
theorem dX2_drop_31 : decode cX2_drop 31 = .ok (.iadd, 1) := by decide +kernel
theorem dX2_drop_32 : decode cX2_drop 32 = .ok (.iload_n 3, 1) := by decide +kernel
theorem dX2_drop_33 : decode cX2_drop 33 = .ok (.invokevirtual 24, 3) := by decide +kernel
theorem dX2_drop_36 : decode cX2_drop 36 = .ok (.invokevirtual 28, 3) := by decide +kernel
theorem dX2_drop_39 : decode cX2_drop 39 = .ok (.iinc 3 1, 3) := by decide +kernel
theorem dX2_drop_42 : decode cX2_drop 42 = .ok (.goto (-28), 3) := by decide +kernel
theorem dX2_drop_45 : decode cX2_drop 45 = .ok (.iinc 2 1, 3) := by decide +kernel
theorem dX2_drop_48 : decode cX2_drop 48 = .ok (.goto (-46), 3) := by decide +kernel
theorem dX2_drop_51 : decode cX2_drop 51 = .ok (.aload_n 0, 1) := by decide +kernel
theorem dX2_drop_52 : decode cX2_drop 52 = .ok (.dup, 1) := by decide +kernel
theorem dX2_drop_53 : decode cX2_drop 53 = .ok (.getfield 40, 3) := by decide +kernel
theorem dX2_drop_56 : decode cX2_drop 56 = .ok (.iconst 1, 1) := by decide +kernel
theorem dX2_drop_57 : decode cX2_drop 57 = .ok (.isub, 1) := by decide +kernel
theorem dX2_drop_58 : decode cX2_drop 58 = .ok (.putfield 40, 3) := by decide +kernel
theorem dX2_drop_61 : decode cX2_drop 61 = .ok (.return_, 1) := by decide +kernel
theorem dX2_copy_0 : decode cX2_copy 0 = .ok (.aload_n 1, 1) := by decide +kernel
theorem dX2_copy_1 : decode cX2_copy 1 = .ok (.ifnull 30, 3) := by decide +kernel
theorem dX2_copy_4 : decode cX2_copy 4 = .ok (.aload_n 0, 1) := by decide +kernel
theorem dX2_copy_5 : decode cX2_copy 5 = .ok (.aload_n 1, 1) := by decide +kernel
theorem dX2_copy_6 : decode cX2_copy 6 = .ok (.getfield 9, 3) := by decide +kernel
theorem dX2_copy_9 : decode cX2_copy 9 = .ok (.putfield 9, 3) := by decide +kernel
theorem dX2_copy_12 : decode cX2_copy 12 = .ok (.aload_n 0, 1) := by decide +kernel
theorem dX2_copy_13 : decode cX2_copy 13 = .ok (.aload_n 1, 1) := by decide +kernel
theorem dX2_copy_14 : decode cX2_copy 14 = .ok (.getfield 40, 3) := by decide +kernel
theorem dX2_copy_17 : decode cX2_copy 17 = .ok (.putfield 40, 3) := by decide +kernel
theorem dX2_copy_20 : decode cX2_copy 20 = .ok (.aload_n 0, 1) := by decide +kernel
theorem dX2_copy_21 : decode cX2_copy 21 = .ok (.getfield 20, 3) := by decide +kernel
theorem dX2_copy_24 : decode cX2_copy 24 = .ok (.aload_n 1, 1) := by decide +kernel
theorem dX2_copy_25 : decode cX2_copy 25 = .ok (.getfield 20, 3) := by decide +kernel
theorem dX2_copy_28 : decode cX2_copy 28 = .ok (.invokevirtual 54, 3) := by decide +kernel
theorem dX2_copy_31 : decode cX2_copy 31 = .ok (.return_, 1) := by decide +kernel
theorem dX3_init_0 : decode cX3_init 0 = .ok (.aload_n 0, 1) := by decide +kernel
theorem dX3_init_1 : decode cX3_init 1 = .ok (.invokespecial 3, 3) := by decide +kernel
theorem dX3_init_4 : decode cX3_init 4 = .ok (.aload_n 0, 1) := by decide +kernel
theorem dX3_init_5 : decode cX3_init 5 = .ok (.new 9, 3) := by decide +kernel
theorem dX3_init_8 : decode cX3_init 8 = .ok (.dup, 1) := by decide +kernel
theorem dX3_init_9 : decode cX3_init 9 = .ok (.invokespecial 11, 3) := by decide +kernel
theorem dX3_init_12 : decode cX3_init 12 = .ok (.putfield 12, 3) := by decide +kernel
theorem dX3_init_15 : decode cX3_init 15 = .ok (.aload_n 0, 1) := by decide +kernel
theorem dX3_init_16 : decode cX3_init 16 = .ok (.new 18, 3) := by decide +kernel
theorem dX3_init_19 : decode cX3_init 19 = .ok (.dup, 1) := by decide +kernel
theorem dX3_init_20 : decode cX3_init 20 = .ok (.invokespecial 20, 3) := by decide +kernel
theorem dX3_init_23 : decode cX3_init 23 = .ok (.putfield 21, 3) := by decide +kernel
theorem dX3_init_26 : decode cX3_init 26 = .ok (.return_, 1) := by decide +kernel
theorem dX4_init_0 : decode cX4_init 0 = .ok (.aload_n 0, 1) := by decide +kernel
theorem dX4_init_1 : decode cX4_init 1 = .ok (.invokespecial 3, 3) := by decide +kernel
theorem dX4_init_4 : decode cX4_init 4 = .ok (.aload_n 0, 1) := by decide +kernel
theorem dX4_init_5 : decode cX4_init 5 = .ok (.new 9, 3) := by decide +kernel
theorem dX4_init_8 : decode cX4_init 8 = .ok (.dup, 1) := by decide +kernel
theorem dX4_init_9 : decode cX4_init 9 = .ok (.invokespecial 11, 3) := by decide +kernel
theorem dX4_init_12 : decode cX4_init 12 = .ok (.putfield 12, 3) := by decide +kernel
theorem dX4_init_15 : decode cX4_init 15 = .ok (.aload_n 0, 1) := by decide +kernel
theorem dX4_init_16 : decode cX4_init 16 = .ok (.new 18, 3) := by decide +kernel
theorem dX4_init_19 : decode cX4_init 19 = .ok (.dup, 1) := by decide +kernel
theorem dX4_init_20 : decode cX4_init 20 = .ok (.invokespecial 20, 3) := by decide +kernel
theorem dX4_init_23 : decode cX4_init 23 = .ok (.putfield 21, 3) := by decide +kernel
theorem dX4_init_26 : decode cX4_init 26 = .ok (.return_, 1) := by decide +kernel
theorem dX4_copy_0 : decode cX4_copy 0 = .ok (.aload_n 1, 1) := by decide +kernel
theorem dX4_copy_1 : decode cX4_copy 1 = .ok (.ifnull 57, 3) := by decide +kernel
theorem dX4_copy_4 : decode cX4_copy 4 = .ok (.aload_n 0, 1) := by decide +kernel
theorem dX4_copy_5 : decode cX4_copy 5 = .ok (.getfield 12, 3) := by decide +kernel
theorem dX4_copy_8 : decode cX4_copy 8 = .ok (.aload_n 1, 1) := by decide +kernel
theorem dX4_copy_9 : decode cX4_copy 9 = .ok (.getfield 12, 3) := by decide +kernel
theorem dX4_copy_12 : decode cX4_copy 12 = .ok (.invokevirtual 25, 3) := by decide +kernel
theorem dX4_copy_15 : decode cX4_copy 15 = .ok (.aload_n 0, 1) := by decide +kernel
theorem dX4_copy_16 : decode cX4_copy 16 = .ok (.getfield 21, 3) := by decide +kernel
theorem dX4_copy_19 : decode cX4_copy 19 = .ok (.aload_n 1, 1) := by decide +kernel
theorem dX4_copy_20 : decode cX4_copy 20 = .ok (.getfield 21, 3) := by decide +kernel
theorem dX4_copy_23 : decode cX4_copy 23 = .ok (.invokevirtual 29, 3) := by decide +kernel
theorem dX4_copy_26 : decode cX4_copy 26 = .ok (.aload_n 0, 1) := by decide +kernel
theorem dX4_copy_27 : decode cX4_copy 27 = .ok (.aload_n 1, 1) := by decide +kernel
theorem dX4_copy_28 : decode cX4_copy 28 = .ok (.getfield 32, 3) := by decide +kernel
theorem dX4_copy_31 : decode cX4_copy 31 = .ok (.putfield 32, 3) := by decide +kernel
theorem dX4_copy_34 : decode cX4_copy 34 = .ok (.aload_n 0, 1) := by decide +kernel
theorem dX4_copy_35 : decode cX4_copy 35 = .ok (.aload_n 1, 1) := by decide +kernel
theorem dX4_copy_36 : decode cX4_copy 36 = .ok (.getfield 36, 3) := by decide +kernel
theorem dX4_copy_39 : decode cX4_copy 39 = .ok (.putfield 36, 3) := by decide +kernel
theorem dX4_copy_42 : decode cX4_copy 42 = .ok (.aload_n 0, 1) := by decide +kernel
theorem dX4_copy_43 : decode cX4_copy 43 = .ok (.aload_n 1, 1) := by decide +kernel
theorem dX4_copy_44 : decode cX4_copy 44 = .ok (.getfield 39, 3) := by decide +kernel
theorem dX4_copy_47 : decode cX4_copy 47 = .ok (.putfield 39, 3) := by decide +kernel
theorem dX4_copy_50 : decode cX4_copy 50 = .ok (.aload_n 0, 1) := by decide +kernel
theorem dX4_copy_51 : decode cX4_copy 51 = .ok (.aload_n 1, 1) := by decide +kernel
theorem dX4_copy_52 : decode cX4_copy 52 = .ok (.getfield 42, 3) := by decide +kernel
theorem dX4_copy_55 : decode cX4_copy 55 = .ok (.putfield 42, 3) := by decide +kernel
theorem dX4_copy_58 : decode cX4_copy 58 = .ok (.return_, 1) := by decide +kernel
theorem dX4_start_0 : decode cX4_start 0 = .ok (.aload_n 0, 1) := by decide +kernel
theorem dX4_start_1 : decode cX4_start 1 = .ok (.getfield 21, 3) := by decide +kernel
theorem dX4_start_4 : decode cX4_start 4 = .ok (.aload_n 0, 1) := by decide +kernel
theorem dX4_start_5 : decode cX4_start 5 = .ok (.getfield 12, 3) := by decide +kernel
theorem dX4_start_8 : decode cX4_start 8 = .ok (.invokevirtual 45, 3) := by decide +kernel
theorem dX4_start_11 : decode cX4_start 11 = .ok (.aload_n 0, 1) := by decide +kernel
theorem dX4_start_12 : decode cX4_start 12 = .ok (.iconst 0, 1) := by decide +kernel
theorem dX4_start_13 : decode cX4_start 13 = .ok (.putfield 36, 3) := by decide +kernel
theorem dX4_start_16 : decode cX4_start 16 = .ok (.return_, 1) := by decide +kernel
theorem dX4_chosenColumn_0 : decode cX4_chosenColumn 0 = .ok (.aload_n 0, 1) := by decide +kernel
theorem dX4_chosenColumn_1 : decode cX4_chosenColumn 1 = .ok (.getfield 21, 3) := by decide +kernel
theorem dX4_chosenColumn_4 : decode cX4_chosenColumn 4 = .ok (.aload_n 0, 1) := by decide +kernel
theorem dX4_chosenColumn_5 : decode cX4_chosenColumn 5 = .ok (.getfield 32, 3) := by decide +kernel
theorem dX4_chosenColumn_8 : decode cX4_chosenColumn 8 = .ok (.invokevirtual 48, 3) := by decide +kernel
theorem dX4_chosenColumn_11 : decode cX4_chosenColumn 11 = .ok (.ireturn, 1) := by decide +kernel
theorem dX4_turn_0 : decode cX4_turn 0 = .ok (.aload_n 0, 1) := by decide +kernel
theorem dX4_turn_1 : decode cX4_turn 1 = .ok (.getfield 21, 3) := by decide +kernel
theorem dX4_turn_4 : decode cX4_turn 4 = .ok (.iload_n 1, 1) := by decide +kernel
theorem dX4_turn_5 : decode cX4_turn 5 = .ok (.invokevirtual 52, 3) := by decide +kernel
theorem dX4_turn_8 : decode cX4_turn 8 = .ok (.lconst 0, 1) := by decide +kernel
theorem dX4_turn_9 : decode cX4_turn 9 = .ok (.lcmp, 1) := by decide +kernel
theorem dX4_turn_10 : decode cX4_turn 10 = .ok (.ifCond .ne 13, 3) := by decide +kernel
theorem dX4_turn_13 : decode cX4_turn 13 = .ok (.aload_n 0, 1) := by decide +kernel
theorem dX4_turn_14 : decode cX4_turn 14 = .ok (.dup, 1) := by decide +kernel
theorem dX4_turn_15 : decode cX4_turn 15 = .ok (.getfield 42, 3) := by decide +kernel
theorem dX4_turn_18 : decode cX4_turn 18 = .ok (.iconst 1, 1) := by decide +kernel
theorem dX4_turn_19 : decode cX4_turn 19 = .ok (.iadd, 1) := by decide +kernel
theorem dX4_turn_20 : decode cX4_turn 20 = .ok (.putfield 42, 3) := by decide +kernel
theorem dX4_turn_23 : decode cX4_turn 23 = .ok (.aload_n 0, 1) := by decide +kernel
theorem dX4_turn_24 : decode cX4_turn 24 = .ok (.getfield 21, 3) := by decide +kernel
theorem dX4_turn_27 : decode cX4_turn 27 = .ok (.iload_n 1, 1) := by decide +kernel
theorem dX4_turn_28 : decode cX4_turn 28 = .ok (.iload_n 2, 1) := by decide +kernel
theorem dX4_turn_29 : decode cX4_turn 29 = .ok (.invokevirtual 56, 3) := by decide +kernel
theorem dX4_turn_32 : decode cX4_turn 32 = .ok (.aload_n 0, 1) := by decide +kernel
theorem dX4_turn_33 : decode cX4_turn 33 = .ok (.dup, 1) := by decide +kernel
theorem dX4_turn_34 : decode cX4_turn 34 = .ok (.getfield 36, 3) := by decide +kernel
theorem dX4_turn_37 : decode cX4_turn 37 = .ok (.iconst 1, 1) := by decide +kernel
theorem dX4_turn_38 : decode cX4_turn 38 = .ok (.iadd, 1) := by decide +kernel
theorem dX4_turn_39 : decode cX4_turn 39 = .ok (.putfield 36, 3) := by decide +kernel
theorem dX4_turn_42 : decode cX4_turn 42 = .ok (.aload_n 0, 1) := by decide +kernel
theorem dX4_turn_43 : decode cX4_turn 43 = .ok (.dup, 1) := by decide +kernel
theorem dX4_turn_44 : decode cX4_turn 44 = .ok (.getfield 39, 3) := by decide +kernel
theorem dX4_turn_47 : decode cX4_turn 47 = .ok (.iconst 1, 1) := by decide +kernel
theorem dX4_turn_48 : decode cX4_turn 48 = .ok (.iadd, 1) := by decide +kernel
theorem dX4_turn_49 : decode cX4_turn 49 = .ok (.putfield 39, 3) := by decide +kernel
theorem dX4_turn_52 : decode cX4_turn 52 = .ok (.return_, 1) := by decide +kernel
theorem dX4_run_0 : decode cX4_run 0 = .ok (.iconst 0, 1) := by decide +kernel
theorem dX4_run_1 : decode cX4_run 1 = .ok (.istore_n 1, 1) := by decide +kernel
theorem dX4_run_2 : decode cX4_run 2 = .ok (.iload_n 1, 1) := by decide +kernel
theorem dX4_run_3 : decode cX4_run 3 = .ok (.bipush 40, 2) := by decide +kernel
theorem dX4_run_5 : decode cX4_run 5 = .ok (.if_icmp .ge 44, 3) := by decide +kernel
theorem dX4_run_8 : decode cX4_run 8 = .ok (.aload_n 0, 1) := by decide +kernel
theorem dX4_run_9 : decode cX4_run 9 = .ok (.getfield 21, 3) := by decide +kernel
theorem dX4_run_12 : decode cX4_run 12 = .ok (.invokevirtual 60, 3) := by decide +kernel
theorem dX4_run_15 : decode cX4_run 15 = .ok (.ifCond .eq 34, 3) := by decide +kernel
theorem dX4_run_18 : decode cX4_run 18 = .ok (.aload_n 0, 1) := by decide +kernel
theorem dX4_run_19 : decode cX4_run 19 = .ok (.getfield 21, 3) := by decide +kernel
theorem dX4_run_22 : decode cX4_run 22 = .ok (.aload_n 0, 1) := by decide +kernel
theorem dX4_run_23 : decode cX4_run 23 = .ok (.getfield 32, 3) := by decide +kernel
theorem dX4_run_26 : decode cX4_run 26 = .ok (.invokevirtual 48, 3) := by decide +kernel
theorem dX4_run_29 : decode cX4_run 29 = .ok (.istore_n 2, 1) := by decide +kernel
theorem dX4_run_30 : decode cX4_run 30 = .ok (.aload_n 0, 1) := by decide +kernel
theorem dX4_run_31 : decode cX4_run 31 = .ok (.aload_n 0, 1) := by decide +kernel
theorem dX4_run_32 : decode cX4_run 32 = .ok (.getfield 21, 3) := by decide +kernel
theorem dX4_run_35 : decode cX4_run 35 = .ok (.iload_n 2, 1) := by decide +kernel
theorem dX4_run_36 : decode cX4_run 36 = .ok (.invokevirtual 64, 3) := by decide +kernel
theorem dX4_run_39 : decode cX4_run 39 = .ok (.iload_n 2, 1) := by decide +kernel
theorem dX4_run_40 : decode cX4_run 40 = .ok (.invokevirtual 67, 3) := by decide +kernel
theorem dX4_run_43 : decode cX4_run 43 = .ok (.iinc 1 1, 3) := by decide +kernel
theorem dX4_run_46 : decode cX4_run 46 = .ok (.goto (-44), 3) := by decide +kernel
theorem dX4_run_49 : decode cX4_run 49 = .ok (.iload_n 1, 1) := by decide +kernel
theorem dX4_run_50 : decode cX4_run 50 = .ok (.ireturn, 1) := by decide +kernel
theorem dX4_dual_0 : decode cX4_dual 0 = .ok (.aload_n 0, 1) := by decide +kernel
theorem dX4_dual_1 : decode cX4_dual 1 = .ok (.getfield 21, 3) := by decide +kernel
theorem dX4_dual_4 : decode cX4_dual 4 = .ok (.aload_n 0, 1) := by decide +kernel
theorem dX4_dual_5 : decode cX4_dual 5 = .ok (.getfield 12, 3) := by decide +kernel
theorem dX4_dual_8 : decode cX4_dual 8 = .ok (.getfield 68, 3) := by decide +kernel
theorem dX4_dual_11 : decode cX4_dual 11 = .ok (.iload_n 1, 1) := by decide +kernel
theorem dX4_dual_12 : decode cX4_dual 12 = .ok (.iadd, 1) := by decide +kernel
theorem dX4_dual_13 : decode cX4_dual 13 = .ok (.invokevirtual 71, 3) := by decide +kernel
theorem dX4_dual_16 : decode cX4_dual 16 = .ok (.lneg, 1) := by decide +kernel
theorem dX4_dual_17 : decode cX4_dual 17 = .ok (.lreturn, 1) := by decide +kernel
theorem dX4_dualWorth_0 : decode cX4_dualWorth 0 = .ok (.lconst 0, 1) := by decide +kernel
theorem dX4_dualWorth_1 : decode cX4_dualWorth 1 = .ok (.lstore_n 1, 1) := by decide +kernel
theorem dX4_dualWorth_2 : decode cX4_dualWorth 2 = .ok (.iconst 0, 1) := by decide +kernel
theorem dX4_dualWorth_3 : decode cX4_dualWorth 3 = .ok (.istore_n 3, 1) := by decide +kernel
theorem dX4_dualWorth_4 : decode cX4_dualWorth 4 = .ok (.iload_n 3, 1) := by decide +kernel
theorem dX4_dualWorth_5 : decode cX4_dualWorth 5 = .ok (.aload_n 0, 1) := by decide +kernel
theorem dX4_dualWorth_6 : decode cX4_dualWorth 6 = .ok (.getfield 12, 3) := by decide +kernel
theorem dX4_dualWorth_9 : decode cX4_dualWorth 9 = .ok (.getfield 74, 3) := by decide +kernel
theorem dX4_dualWorth_12 : decode cX4_dualWorth 12 = .ok (.if_icmp .ge 27, 3) := by decide +kernel
theorem dX4_dualWorth_15 : decode cX4_dualWorth 15 = .ok (.lload_n 1, 1) := by decide +kernel
theorem dX4_dualWorth_16 : decode cX4_dualWorth 16 = .ok (.aload_n 0, 1) := by decide +kernel
theorem dX4_dualWorth_17 : decode cX4_dualWorth 17 = .ok (.iload_n 3, 1) := by decide +kernel
theorem dX4_dualWorth_18 : decode cX4_dualWorth 18 = .ok (.invokevirtual 77, 3) := by decide +kernel
theorem dX4_dualWorth_21 : decode cX4_dualWorth 21 = .ok (.aload_n 0, 1) := by decide +kernel
theorem dX4_dualWorth_22 : decode cX4_dualWorth 22 = .ok (.getfield 12, 3) := by decide +kernel
theorem dX4_dualWorth_25 : decode cX4_dualWorth 25 = .ok (.iload_n 3, 1) := by decide +kernel
theorem dX4_dualWorth_26 : decode cX4_dualWorth 26 = .ok (.invokevirtual 80, 3) := by decide +kernel
theorem dX4_dualWorth_29 : decode cX4_dualWorth 29 = .ok (.i2l, 1) := by decide +kernel
theorem dX4_dualWorth_30 : decode cX4_dualWorth 30 = .ok (.lmul, 1) := by decide +kernel
theorem dX4_dualWorth_31 : decode cX4_dualWorth 31 = .ok (.ladd, 1) := by decide +kernel
theorem dX4_dualWorth_32 : decode cX4_dualWorth 32 = .ok (.lstore_n 1, 1) := by decide +kernel
theorem dX4_dualWorth_33 : decode cX4_dualWorth 33 = .ok (.iinc 3 1, 3) := by decide +kernel
theorem dX4_dualWorth_36 : decode cX4_dualWorth 36 = .ok (.goto (-32), 3) := by decide +kernel
theorem dX4_dualWorth_39 : decode cX4_dualWorth 39 = .ok (.lload_n 1, 1) := by decide +kernel
theorem dX4_dualWorth_40 : decode cX4_dualWorth 40 = .ok (.lreturn, 1) := by decide +kernel
theorem dX4_roomToFall_0 : decode cX4_roomToFall 0 = .ok (.aload_n 0, 1) := by decide +kernel
theorem dX4_roomToFall_1 : decode cX4_roomToFall 1 = .ok (.getfield 21, 3) := by decide +kernel
theorem dX4_roomToFall_4 : decode cX4_roomToFall 4 = .ok (.aload_n 0, 1) := by decide +kernel
theorem dX4_roomToFall_5 : decode cX4_roomToFall 5 = .ok (.getfield 12, 3) := by decide +kernel
theorem dX4_roomToFall_8 : decode cX4_roomToFall 8 = .ok (.getfield 68, 3) := by decide +kernel
theorem dX4_roomToFall_11 : decode cX4_roomToFall 11 = .ok (.iload_n 1, 1) := by decide +kernel
theorem dX4_roomToFall_12 : decode cX4_roomToFall 12 = .ok (.iadd, 1) := by decide +kernel
theorem dX4_roomToFall_13 : decode cX4_roomToFall 13 = .ok (.iconst 1, 1) := by decide +kernel
theorem dX4_roomToFall_14 : decode cX4_roomToFall 14 = .ok (.invokevirtual 83, 3) := by decide +kernel
theorem dX4_roomToFall_17 : decode cX4_roomToFall 17 = .ok (.ireturn, 1) := by decide +kernel
theorem dX4_roomToRise_0 : decode cX4_roomToRise 0 = .ok (.aload_n 0, 1) := by decide +kernel
theorem dX4_roomToRise_1 : decode cX4_roomToRise 1 = .ok (.getfield 21, 3) := by decide +kernel
theorem dX4_roomToRise_4 : decode cX4_roomToRise 4 = .ok (.aload_n 0, 1) := by decide +kernel
theorem dX4_roomToRise_5 : decode cX4_roomToRise 5 = .ok (.getfield 12, 3) := by decide +kernel
theorem dX4_roomToRise_8 : decode cX4_roomToRise 8 = .ok (.getfield 68, 3) := by decide +kernel
theorem dX4_roomToRise_11 : decode cX4_roomToRise 11 = .ok (.iload_n 1, 1) := by decide +kernel
theorem dX4_roomToRise_12 : decode cX4_roomToRise 12 = .ok (.iadd, 1) := by decide +kernel
theorem dX4_roomToRise_13 : decode cX4_roomToRise 13 = .ok (.iconst (-1), 1) := by decide +kernel
theorem dX4_roomToRise_14 : decode cX4_roomToRise 14 = .ok (.invokevirtual 83, 3) := by decide +kernel
theorem dX4_roomToRise_17 : decode cX4_roomToRise 17 = .ok (.ireturn, 1) := by decide +kernel
theorem dX5_init_0 : decode cX5_init 0 = .ok (.aload_n 0, 1) := by decide +kernel
theorem dX5_init_1 : decode cX5_init 1 = .ok (.invokespecial 3, 3) := by decide +kernel
theorem dX5_init_4 : decode cX5_init 4 = .ok (.aload_n 0, 1) := by decide +kernel
theorem dX5_init_5 : decode cX5_init 5 = .ok (.new 9, 3) := by decide +kernel
theorem dX5_init_8 : decode cX5_init 8 = .ok (.dup, 1) := by decide +kernel
theorem dX5_init_9 : decode cX5_init 9 = .ok (.invokespecial 11, 3) := by decide +kernel
theorem dX5_init_12 : decode cX5_init 12 = .ok (.putfield 12, 3) := by decide +kernel
theorem dX5_init_15 : decode cX5_init 15 = .ok (.aload_n 0, 1) := by decide +kernel
theorem dX5_init_16 : decode cX5_init 16 = .ok (.new 18, 3) := by decide +kernel
theorem dX5_init_19 : decode cX5_init 19 = .ok (.dup, 1) := by decide +kernel
theorem dX5_init_20 : decode cX5_init 20 = .ok (.iconst 2, 1) := by decide +kernel
theorem dX5_init_21 : decode cX5_init 21 = .ok (.bipush 70, 2) := by decide +kernel
theorem dX5_init_23 : decode cX5_init 23 = .ok (.invokespecial 20, 3) := by decide +kernel
theorem dX5_init_26 : decode cX5_init 26 = .ok (.putfield 23, 3) := by decide +kernel
theorem dX5_init_29 : decode cX5_init 29 = .ok (.aload_n 0, 1) := by decide +kernel
theorem dX5_init_30 : decode cX5_init 30 = .ok (.lconst 1, 1) := by decide +kernel
theorem dX5_init_31 : decode cX5_init 31 = .ok (.putfield 27, 3) := by decide +kernel
theorem dX5_init_34 : decode cX5_init 34 = .ok (.return_, 1) := by decide +kernel
theorem dX5_look_0 : decode cX5_look 0 = .ok (.aload_n 0, 1) := by decide +kernel
theorem dX5_look_1 : decode cX5_look 1 = .ok (.iconst 0, 1) := by decide +kernel
theorem dX5_look_2 : decode cX5_look 2 = .ok (.putfield 31, 3) := by decide +kernel
theorem dX5_look_5 : decode cX5_look 5 = .ok (.aload_n 0, 1) := by decide +kernel
theorem dX5_look_6 : decode cX5_look 6 = .ok (.iconst 0, 1) := by decide +kernel
theorem dX5_look_7 : decode cX5_look 7 = .ok (.putfield 35, 3) := by decide +kernel
theorem dX5_look_10 : decode cX5_look 10 = .ok (.aload_n 1, 1) := by decide +kernel
theorem dX5_look_11 : decode cX5_look 11 = .ok (.ifnonnull 4, 3) := by decide +kernel
theorem dX5_look_14 : decode cX5_look 14 = .ok (.return_, 1) := by decide +kernel
theorem dX5_look_15 : decode cX5_look 15 = .ok (.iconst 1, 1) := by decide +kernel
theorem dX5_look_16 : decode cX5_look 16 = .ok (.bipush 8, 2) := by decide +kernel
theorem dX5_look_18 : decode cX5_look 18 = .ok (.aload_n 1, 1) := by decide +kernel
theorem dX5_look_19 : decode cX5_look 19 = .ok (.getfield 38, 3) := by decide +kernel
theorem dX5_look_22 : decode cX5_look 22 = .ok (.aload_n 1, 1) := by decide +kernel
theorem dX5_look_23 : decode cX5_look 23 = .ok (.getfield 43, 3) := by decide +kernel
theorem dX5_look_26 : decode cX5_look 26 = .ok (.iadd, 1) := by decide +kernel
theorem dX5_look_27 : decode cX5_look 27 = .ok (.invokestatic 46, 3) := by decide +kernel
theorem dX5_look_30 : decode cX5_look 30 = .ok (.ishl, 1) := by decide +kernel
theorem dX5_look_31 : decode cX5_look 31 = .ok (.istore_n 2, 1) := by decide +kernel
theorem dX5_look_32 : decode cX5_look 32 = .ok (.iconst 0, 1) := by decide +kernel
theorem dX5_look_33 : decode cX5_look 33 = .ok (.istore_n 3, 1) := by decide +kernel
theorem dX5_look_34 : decode cX5_look 34 = .ok (.iload_n 3, 1) := by decide +kernel
theorem dX5_look_35 : decode cX5_look 35 = .ok (.iload_n 2, 1) := by decide +kernel
theorem dX5_look_36 : decode cX5_look 36 = .ok (.if_icmp .ge 66, 3) := by decide +kernel
theorem dX5_look_39 : decode cX5_look 39 = .ok (.iload_n 3, 1) := by decide +kernel
theorem dX5_look_40 : decode cX5_look 40 = .ok (.invokestatic 52, 3) := by decide +kernel
theorem dX5_look_43 : decode cX5_look 43 = .ok (.aload_n 1, 1) := by decide +kernel
theorem dX5_look_44 : decode cX5_look 44 = .ok (.getfield 43, 3) := by decide +kernel
theorem dX5_look_47 : decode cX5_look 47 = .ok (.if_icmp .ne 49, 3) := by decide +kernel
theorem dX5_look_50 : decode cX5_look 50 = .ok (.aload_n 0, 1) := by decide +kernel
theorem dX5_look_51 : decode cX5_look 51 = .ok (.getfield 12, 3) := by decide +kernel
theorem dX5_look_54 : decode cX5_look 54 = .ok (.aload_n 1, 1) := by decide +kernel
theorem dX5_look_55 : decode cX5_look 55 = .ok (.iload_n 3, 1) := by decide +kernel
theorem dX5_look_56 : decode cX5_look 56 = .ok (.invokevirtual 58, 3) := by decide +kernel
theorem dX5_look_59 : decode cX5_look 59 = .ok (.ifCond .eq 37, 3) := by decide +kernel
theorem dX5_look_62 : decode cX5_look 62 = .ok (.aload_n 0, 1) := by decide +kernel
theorem dX5_look_63 : decode cX5_look 63 = .ok (.invokevirtual 62, 3) := by decide +kernel
theorem dX5_look_66 : decode cX5_look 66 = .ok (.ifCond .eq 30, 3) := by decide +kernel
theorem dX5_look_69 : decode cX5_look 69 = .ok (.aload_n 0, 1) := by decide +kernel
theorem dX5_look_70 : decode cX5_look 70 = .ok (.dup, 1) := by decide +kernel
theorem dX5_look_71 : decode cX5_look 71 = .ok (.getfield 31, 3) := by decide +kernel
theorem dX5_look_74 : decode cX5_look 74 = .ok (.iconst 1, 1) := by decide +kernel
theorem dX5_look_75 : decode cX5_look 75 = .ok (.iadd, 1) := by decide +kernel
theorem dX5_look_76 : decode cX5_look 76 = .ok (.putfield 31, 3) := by decide +kernel
theorem dX5_look_79 : decode cX5_look 79 = .ok (.aload_n 0, 1) := by decide +kernel
theorem dX5_look_80 : decode cX5_look 80 = .ok (.aload_n 0, 1) := by decide +kernel
theorem dX5_look_81 : decode cX5_look 81 = .ok (.aload_n 1, 1) := by decide +kernel
theorem dX5_look_82 : decode cX5_look 82 = .ok (.iload_n 3, 1) := by decide +kernel
theorem dX5_look_83 : decode cX5_look 83 = .ok (.invokevirtual 66, 3) := by decide +kernel
theorem dX5_look_86 : decode cX5_look 86 = .ok (.aload_n 0, 1) := by decide +kernel
theorem dX5_look_87 : decode cX5_look 87 = .ok (.getfield 12, 3) := by decide +kernel
theorem dX5_look_90 : decode cX5_look 90 = .ok (.getfield 70, 3) := by decide +kernel
theorem dX5_look_93 : decode cX5_look 93 = .ok (.invokevirtual 73, 3) := by decide +kernel
theorem dX5_look_96 : decode cX5_look 96 = .ok (.iinc 3 1, 3) := by decide +kernel
theorem dX5_look_99 : decode cX5_look 99 = .ok (.goto (-65), 3) := by decide +kernel
theorem dX5_look_102 : decode cX5_look 102 = .ok (.return_, 1) := by decide +kernel
theorem dX5_isFeasible_0 : decode cX5_isFeasible 0 = .ok (.iconst 0, 1) := by decide +kernel
theorem dX5_isFeasible_1 : decode cX5_isFeasible 1 = .ok (.istore_n 1, 1) := by decide +kernel
theorem dX5_isFeasible_2 : decode cX5_isFeasible 2 = .ok (.iload_n 1, 1) := by decide +kernel
theorem dX5_isFeasible_3 : decode cX5_isFeasible 3 = .ok (.aload_n 0, 1) := by decide +kernel
theorem dX5_isFeasible_4 : decode cX5_isFeasible 4 = .ok (.getfield 12, 3) := by decide +kernel
theorem dX5_isFeasible_7 : decode cX5_isFeasible 7 = .ok (.getfield 77, 3) := by decide +kernel
theorem dX5_isFeasible_10 : decode cX5_isFeasible 10 = .ok (.if_icmp .ge 47, 3) := by decide +kernel
theorem dX5_isFeasible_13 : decode cX5_isFeasible 13 = .ok (.aload_n 0, 1) := by decide +kernel
theorem dX5_isFeasible_14 : decode cX5_isFeasible 14 = .ok (.getfield 12, 3) := by decide +kernel
theorem dX5_isFeasible_17 : decode cX5_isFeasible 17 = .ok (.iload_n 1, 1) := by decide +kernel
theorem dX5_isFeasible_18 : decode cX5_isFeasible 18 = .ok (.invokevirtual 80, 3) := by decide +kernel
theorem dX5_isFeasible_21 : decode cX5_isFeasible 21 = .ok (.lstore_n 2, 1) := by decide +kernel
theorem dX5_isFeasible_22 : decode cX5_isFeasible 22 = .ok (.aload_n 0, 1) := by decide +kernel
theorem dX5_isFeasible_23 : decode cX5_isFeasible 23 = .ok (.getfield 12, 3) := by decide +kernel
theorem dX5_isFeasible_26 : decode cX5_isFeasible 26 = .ok (.getfield 70, 3) := by decide +kernel
theorem dX5_isFeasible_29 : decode cX5_isFeasible 29 = .ok (.lconst 0, 1) := by decide +kernel
theorem dX5_isFeasible_30 : decode cX5_isFeasible 30 = .ok (.lcmp, 1) := by decide +kernel
theorem dX5_isFeasible_31 : decode cX5_isFeasible 31 = .ok (.ifCond .ge 12, 3) := by decide +kernel
theorem dX5_isFeasible_34 : decode cX5_isFeasible 34 = .ok (.lload_n 2, 1) := by decide +kernel
theorem dX5_isFeasible_35 : decode cX5_isFeasible 35 = .ok (.lconst 0, 1) := by decide +kernel
theorem dX5_isFeasible_36 : decode cX5_isFeasible 36 = .ok (.lcmp, 1) := by decide +kernel
theorem dX5_isFeasible_37 : decode cX5_isFeasible 37 = .ok (.ifCond .le 14, 3) := by decide +kernel
theorem dX5_isFeasible_40 : decode cX5_isFeasible 40 = .ok (.goto 9, 3) := by decide +kernel
theorem dX5_isFeasible_43 : decode cX5_isFeasible 43 = .ok (.lload_n 2, 1) := by decide +kernel
theorem dX5_isFeasible_44 : decode cX5_isFeasible 44 = .ok (.lconst 0, 1) := by decide +kernel
theorem dX5_isFeasible_45 : decode cX5_isFeasible 45 = .ok (.lcmp, 1) := by decide +kernel
theorem dX5_isFeasible_46 : decode cX5_isFeasible 46 = .ok (.ifCond .ge 5, 3) := by decide +kernel
theorem dX5_isFeasible_49 : decode cX5_isFeasible 49 = .ok (.iconst 0, 1) := by decide +kernel
theorem dX5_isFeasible_50 : decode cX5_isFeasible 50 = .ok (.ireturn, 1) := by decide +kernel
theorem dX5_isFeasible_51 : decode cX5_isFeasible 51 = .ok (.iinc 1 1, 3) := by decide +kernel
theorem dX5_isFeasible_54 : decode cX5_isFeasible 54 = .ok (.goto (-52), 3) := by decide +kernel
theorem dX5_isFeasible_57 : decode cX5_isFeasible 57 = .ok (.iconst 1, 1) := by decide +kernel
theorem dX5_isFeasible_58 : decode cX5_isFeasible 58 = .ok (.ireturn, 1) := by decide +kernel
theorem dX5_sumOfProfits_0 : decode cX5_sumOfProfits 0 = .ok (.aload_n 1, 1) := by decide +kernel
theorem dX5_sumOfProfits_1 : decode cX5_sumOfProfits 1 = .ok (.ifnonnull 5, 3) := by decide +kernel
theorem dX5_sumOfProfits_4 : decode cX5_sumOfProfits 4 = .ok (.lconst 0, 1) := by decide +kernel
theorem dX5_sumOfProfits_5 : decode cX5_sumOfProfits 5 = .ok (.lreturn, 1) := by decide +kernel
theorem dX5_sumOfProfits_6 : decode cX5_sumOfProfits 6 = .ok (.lconst 0, 1) := by decide +kernel
theorem dX5_sumOfProfits_7 : decode cX5_sumOfProfits 7 = .ok (.lstore_n 3, 1) := by decide +kernel
theorem dX5_sumOfProfits_8 : decode cX5_sumOfProfits 8 = .ok (.iconst 0, 1) := by decide +kernel
theorem dX5_sumOfProfits_9 : decode cX5_sumOfProfits 9 = .ok (.istore 5, 2) := by decide +kernel
theorem dX5_sumOfProfits_11 : decode cX5_sumOfProfits 11 = .ok (.iconst 0, 1) := by decide +kernel
theorem dX5_sumOfProfits_12 : decode cX5_sumOfProfits 12 = .ok (.istore 6, 2) := by decide +kernel
theorem dX5_sumOfProfits_14 : decode cX5_sumOfProfits 14 = .ok (.iload 6, 2) := by decide +kernel
theorem dX5_sumOfProfits_16 : decode cX5_sumOfProfits 16 = .ok (.aload_n 1, 1) := by decide +kernel
theorem dX5_sumOfProfits_17 : decode cX5_sumOfProfits 17 = .ok (.getfield 38, 3) := by decide +kernel
theorem dX5_sumOfProfits_20 : decode cX5_sumOfProfits 20 = .ok (.aload_n 1, 1) := by decide +kernel
theorem dX5_sumOfProfits_21 : decode cX5_sumOfProfits 21 = .ok (.getfield 43, 3) := by decide +kernel
theorem dX5_sumOfProfits_24 : decode cX5_sumOfProfits 24 = .ok (.iadd, 1) := by decide +kernel
theorem dX5_sumOfProfits_25 : decode cX5_sumOfProfits 25 = .ok (.if_icmp .ge 42, 3) := by decide +kernel
theorem dX5_sumOfProfits_28 : decode cX5_sumOfProfits 28 = .ok (.iload_n 2, 1) := by decide +kernel
theorem dX5_sumOfProfits_29 : decode cX5_sumOfProfits 29 = .ok (.iload 6, 2) := by decide +kernel
theorem dX5_sumOfProfits_31 : decode cX5_sumOfProfits 31 = .ok (.ishr, 1) := by decide +kernel
theorem dX5_sumOfProfits_32 : decode cX5_sumOfProfits 32 = .ok (.iconst 1, 1) := by decide +kernel
theorem dX5_sumOfProfits_33 : decode cX5_sumOfProfits 33 = .ok (.iand, 1) := by decide +kernel
theorem dX5_sumOfProfits_34 : decode cX5_sumOfProfits 34 = .ok (.iconst 1, 1) := by decide +kernel
theorem dX5_sumOfProfits_35 : decode cX5_sumOfProfits 35 = .ok (.if_icmp .ne 26, 3) := by decide +kernel
theorem dX5_sumOfProfits_38 : decode cX5_sumOfProfits 38 = .ok (.lload_n 3, 1) := by decide +kernel
theorem dX5_sumOfProfits_39 : decode cX5_sumOfProfits 39 = .ok (.aload_n 1, 1) := by decide +kernel
theorem dX5_sumOfProfits_40 : decode cX5_sumOfProfits 40 = .ok (.iload 6, 2) := by decide +kernel
theorem dX5_sumOfProfits_42 : decode cX5_sumOfProfits 42 = .ok (.invokevirtual 84, 3) := by decide +kernel
theorem dX5_sumOfProfits_45 : decode cX5_sumOfProfits 45 = .ok (.i2l, 1) := by decide +kernel
theorem dX5_sumOfProfits_46 : decode cX5_sumOfProfits 46 = .ok (.aload_n 0, 1) := by decide +kernel
theorem dX5_sumOfProfits_47 : decode cX5_sumOfProfits 47 = .ok (.getfield 12, 3) := by decide +kernel
theorem dX5_sumOfProfits_50 : decode cX5_sumOfProfits 50 = .ok (.iload 5, 2) := by decide +kernel
theorem dX5_sumOfProfits_52 : decode cX5_sumOfProfits 52 = .ok (.invokevirtual 80, 3) := by decide +kernel
theorem dX5_sumOfProfits_55 : decode cX5_sumOfProfits 55 = .ok (.lmul, 1) := by decide +kernel
theorem dX5_sumOfProfits_56 : decode cX5_sumOfProfits 56 = .ok (.ladd, 1) := by decide +kernel
theorem dX5_sumOfProfits_57 : decode cX5_sumOfProfits 57 = .ok (.lstore_n 3, 1) := by decide +kernel
theorem dX5_sumOfProfits_58 : decode cX5_sumOfProfits 58 = .ok (.iinc 5 1, 3) := by decide +kernel
theorem dX5_sumOfProfits_61 : decode cX5_sumOfProfits 61 = .ok (.iinc 6 1, 3) := by decide +kernel
theorem dX5_sumOfProfits_64 : decode cX5_sumOfProfits 64 = .ok (.goto (-50), 3) := by decide +kernel
theorem dX5_sumOfProfits_67 : decode cX5_sumOfProfits 67 = .ok (.lload_n 3, 1) := by decide +kernel
theorem dX5_sumOfProfits_68 : decode cX5_sumOfProfits 68 = .ok (.lreturn, 1) := by decide +kernel
theorem dX5_noteValue_0 : decode cX5_noteValue 0 = .ok (.lload_n 1, 1) := by decide +kernel
theorem dX5_noteValue_1 : decode cX5_noteValue 1 = .ok (.lload_n 3, 1) := by decide +kernel
theorem dX5_noteValue_2 : decode cX5_noteValue 2 = .ok (.invokestatic 87, 3) := by decide +kernel
theorem dX5_noteValue_5 : decode cX5_noteValue 5 = .ok (.lstore 5, 2) := by decide +kernel
theorem dX5_noteValue_7 : decode cX5_noteValue 7 = .ok (.lload_n 1, 1) := by decide +kernel
theorem dX5_noteValue_8 : decode cX5_noteValue 8 = .ok (.lload_n 3, 1) := by decide +kernel
theorem dX5_noteValue_9 : decode cX5_noteValue 9 = .ok (.invokestatic 91, 3) := by decide +kernel
theorem dX5_noteValue_12 : decode cX5_noteValue 12 = .ok (.lstore 7, 2) := by decide +kernel
theorem dX5_noteValue_14 : decode cX5_noteValue 14 = .ok (.aload_n 0, 1) := by decide +kernel
theorem dX5_noteValue_15 : decode cX5_noteValue 15 = .ok (.lload 5, 2) := by decide +kernel
theorem dX5_noteValue_17 : decode cX5_noteValue 17 = .ok (.lload 7, 2) := by decide +kernel
theorem dX5_noteValue_19 : decode cX5_noteValue 19 = .ok (.invokevirtual 94, 3) := by decide +kernel
theorem dX5_noteValue_22 : decode cX5_noteValue 22 = .ok (.ifCond .eq 4, 3) := by decide +kernel
theorem dX5_noteValue_25 : decode cX5_noteValue 25 = .ok (.return_, 1) := by decide +kernel
theorem dX5_noteValue_26 : decode cX5_noteValue 26 = .ok (.aload_n 0, 1) := by decide +kernel
theorem dX5_noteValue_27 : decode cX5_noteValue 27 = .ok (.getfield 35, 3) := by decide +kernel
theorem dX5_noteValue_30 : decode cX5_noteValue 30 = .ok (.ifCond .eq 21, 3) := by decide +kernel
theorem dX5_noteValue_33 : decode cX5_noteValue 33 = .ok (.lload 5, 2) := by decide +kernel
theorem dX5_noteValue_35 : decode cX5_noteValue 35 = .ok (.aload_n 0, 1) := by decide +kernel
theorem dX5_noteValue_36 : decode cX5_noteValue 36 = .ok (.getfield 27, 3) := by decide +kernel
theorem dX5_noteValue_39 : decode cX5_noteValue 39 = .ok (.lmul, 1) := by decide +kernel
theorem dX5_noteValue_40 : decode cX5_noteValue 40 = .ok (.aload_n 0, 1) := by decide +kernel
theorem dX5_noteValue_41 : decode cX5_noteValue 41 = .ok (.getfield 98, 3) := by decide +kernel
theorem dX5_noteValue_44 : decode cX5_noteValue 44 = .ok (.lload 7, 2) := by decide +kernel
theorem dX5_noteValue_46 : decode cX5_noteValue 46 = .ok (.lmul, 1) := by decide +kernel
theorem dX5_noteValue_47 : decode cX5_noteValue 47 = .ok (.lcmp, 1) := by decide +kernel
theorem dX5_noteValue_48 : decode cX5_noteValue 48 = .ok (.ifCond .le 15, 3) := by decide +kernel
theorem dX5_noteValue_51 : decode cX5_noteValue 51 = .ok (.aload_n 0, 1) := by decide +kernel
theorem dX5_noteValue_52 : decode cX5_noteValue 52 = .ok (.lload 5, 2) := by decide +kernel
theorem dX5_noteValue_54 : decode cX5_noteValue 54 = .ok (.putfield 98, 3) := by decide +kernel
theorem dX5_noteValue_57 : decode cX5_noteValue 57 = .ok (.aload_n 0, 1) := by decide +kernel
theorem dX5_noteValue_58 : decode cX5_noteValue 58 = .ok (.lload 7, 2) := by decide +kernel
theorem dX5_noteValue_60 : decode cX5_noteValue 60 = .ok (.putfield 27, 3) := by decide +kernel
theorem dX5_noteValue_63 : decode cX5_noteValue 63 = .ok (.aload_n 0, 1) := by decide +kernel
theorem dX5_noteValue_64 : decode cX5_noteValue 64 = .ok (.getfield 23, 3) := by decide +kernel
theorem dX5_noteValue_67 : decode cX5_noteValue 67 = .ok (.iconst 0, 1) := by decide +kernel
theorem dX5_noteValue_68 : decode cX5_noteValue 68 = .ok (.aload_n 0, 1) := by decide +kernel
theorem dX5_noteValue_69 : decode cX5_noteValue 69 = .ok (.getfield 35, 3) := by decide +kernel
theorem dX5_noteValue_72 : decode cX5_noteValue 72 = .ok (.lload 5, 2) := by decide +kernel
theorem dX5_noteValue_74 : decode cX5_noteValue 74 = .ok (.invokevirtual 101, 3) := by decide +kernel
theorem dX5_noteValue_77 : decode cX5_noteValue 77 = .ok (.aload_n 0, 1) := by decide +kernel
theorem dX5_noteValue_78 : decode cX5_noteValue 78 = .ok (.getfield 23, 3) := by decide +kernel
theorem dX5_noteValue_81 : decode cX5_noteValue 81 = .ok (.iconst 1, 1) := by decide +kernel
theorem dX5_noteValue_82 : decode cX5_noteValue 82 = .ok (.aload_n 0, 1) := by decide +kernel
theorem dX5_noteValue_83 : decode cX5_noteValue 83 = .ok (.getfield 35, 3) := by decide +kernel
theorem dX5_noteValue_86 : decode cX5_noteValue 86 = .ok (.lload 7, 2) := by decide +kernel
theorem dX5_noteValue_88 : decode cX5_noteValue 88 = .ok (.invokevirtual 101, 3) := by decide +kernel
theorem dX5_noteValue_91 : decode cX5_noteValue 91 = .ok (.aload_n 0, 1) := by decide +kernel
theorem dX5_noteValue_92 : decode cX5_noteValue 92 = .ok (.dup, 1) := by decide +kernel
theorem dX5_noteValue_93 : decode cX5_noteValue 93 = .ok (.getfield 35, 3) := by decide +kernel
theorem dX5_noteValue_96 : decode cX5_noteValue 96 = .ok (.iconst 1, 1) := by decide +kernel
theorem dX5_noteValue_97 : decode cX5_noteValue 97 = .ok (.iadd, 1) := by decide +kernel
theorem dX5_noteValue_98 : decode cX5_noteValue 98 = .ok (.putfield 35, 3) := by decide +kernel
theorem dX5_noteValue_101 : decode cX5_noteValue 101 = .ok (.return_, 1) := by decide +kernel
theorem dX5_isNoted_0 : decode cX5_isNoted 0 = .ok (.iconst 0, 1) := by decide +kernel
theorem dX5_isNoted_1 : decode cX5_isNoted 1 = .ok (.istore 5, 2) := by decide +kernel
theorem dX5_isNoted_3 : decode cX5_isNoted 3 = .ok (.iload 5, 2) := by decide +kernel
theorem dX5_isNoted_5 : decode cX5_isNoted 5 = .ok (.aload_n 0, 1) := by decide +kernel
theorem dX5_isNoted_6 : decode cX5_isNoted 6 = .ok (.getfield 35, 3) := by decide +kernel
theorem dX5_isNoted_9 : decode cX5_isNoted 9 = .ok (.if_icmp .ge 41, 3) := by decide +kernel
theorem dX5_isNoted_12 : decode cX5_isNoted 12 = .ok (.aload_n 0, 1) := by decide +kernel
theorem dX5_isNoted_13 : decode cX5_isNoted 13 = .ok (.getfield 23, 3) := by decide +kernel
theorem dX5_isNoted_16 : decode cX5_isNoted 16 = .ok (.iconst 0, 1) := by decide +kernel
theorem dX5_isNoted_17 : decode cX5_isNoted 17 = .ok (.iload 5, 2) := by decide +kernel
theorem dX5_isNoted_19 : decode cX5_isNoted 19 = .ok (.invokevirtual 105, 3) := by decide +kernel
theorem dX5_isNoted_22 : decode cX5_isNoted 22 = .ok (.lload_n 1, 1) := by decide +kernel
theorem dX5_isNoted_23 : decode cX5_isNoted 23 = .ok (.lcmp, 1) := by decide +kernel
theorem dX5_isNoted_24 : decode cX5_isNoted 24 = .ok (.ifCond .ne 20, 3) := by decide +kernel
theorem dX5_isNoted_27 : decode cX5_isNoted 27 = .ok (.aload_n 0, 1) := by decide +kernel
theorem dX5_isNoted_28 : decode cX5_isNoted 28 = .ok (.getfield 23, 3) := by decide +kernel
theorem dX5_isNoted_31 : decode cX5_isNoted 31 = .ok (.iconst 1, 1) := by decide +kernel
theorem dX5_isNoted_32 : decode cX5_isNoted 32 = .ok (.iload 5, 2) := by decide +kernel
theorem dX5_isNoted_34 : decode cX5_isNoted 34 = .ok (.invokevirtual 105, 3) := by decide +kernel
theorem dX5_isNoted_37 : decode cX5_isNoted 37 = .ok (.lload_n 3, 1) := by decide +kernel
theorem dX5_isNoted_38 : decode cX5_isNoted 38 = .ok (.lcmp, 1) := by decide +kernel
theorem dX5_isNoted_39 : decode cX5_isNoted 39 = .ok (.ifCond .ne 5, 3) := by decide +kernel
theorem dX5_isNoted_42 : decode cX5_isNoted 42 = .ok (.iconst 1, 1) := by decide +kernel
theorem dX5_isNoted_43 : decode cX5_isNoted 43 = .ok (.ireturn, 1) := by decide +kernel
theorem dX5_isNoted_44 : decode cX5_isNoted 44 = .ok (.iinc 5 1, 3) := by decide +kernel
theorem dX5_isNoted_47 : decode cX5_isNoted 47 = .ok (.goto (-44), 3) := by decide +kernel
theorem dX5_isNoted_50 : decode cX5_isNoted 50 = .ok (.iconst 0, 1) := by decide +kernel
theorem dX5_isNoted_51 : decode cX5_isNoted 51 = .ok (.ireturn, 1) := by decide +kernel
theorem dX6_init_0 : decode cX6_init 0 = .ok (.aload_n 0, 1) := by decide +kernel
theorem dX6_init_1 : decode cX6_init 1 = .ok (.invokespecial 3, 3) := by decide +kernel
theorem dX6_init_4 : decode cX6_init 4 = .ok (.aload_n 0, 1) := by decide +kernel
theorem dX6_init_5 : decode cX6_init 5 = .ok (.iconst 2, 1) := by decide +kernel
theorem dX6_init_6 : decode cX6_init 6 = .ok (.putfield 9, 3) := by decide +kernel
theorem dX6_init_9 : decode cX6_init 9 = .ok (.aload_n 0, 1) := by decide +kernel
theorem dX6_init_10 : decode cX6_init 10 = .ok (.lconst 1, 1) := by decide +kernel
theorem dX6_init_11 : decode cX6_init 11 = .ok (.putfield 15, 3) := by decide +kernel
theorem dX6_init_14 : decode cX6_init 14 = .ok (.aload_n 0, 1) := by decide +kernel
theorem dX6_init_15 : decode cX6_init 15 = .ok (.new 19, 3) := by decide +kernel
theorem dX6_init_18 : decode cX6_init 18 = .ok (.dup, 1) := by decide +kernel
theorem dX6_init_19 : decode cX6_init 19 = .ok (.iconst 1, 1) := by decide +kernel
theorem dX6_init_20 : decode cX6_init 20 = .ok (.iconst 4, 1) := by decide +kernel
theorem dX6_init_21 : decode cX6_init 21 = .ok (.invokespecial 21, 3) := by decide +kernel
theorem dX6_init_24 : decode cX6_init 24 = .ok (.putfield 24, 3) := by decide +kernel
theorem dX6_init_27 : decode cX6_init 27 = .ok (.aload_n 0, 1) := by decide +kernel
theorem dX6_init_28 : decode cX6_init 28 = .ok (.new 19, 3) := by decide +kernel
theorem dX6_init_31 : decode cX6_init 31 = .ok (.dup, 1) := by decide +kernel
theorem dX6_init_32 : decode cX6_init 32 = .ok (.iconst 5, 1) := by decide +kernel
theorem dX6_init_33 : decode cX6_init 33 = .ok (.bipush 9, 2) := by decide +kernel
theorem dX6_init_35 : decode cX6_init 35 = .ok (.invokespecial 21, 3) := by decide +kernel
theorem dX6_init_38 : decode cX6_init 38 = .ok (.putfield 28, 3) := by decide +kernel
theorem dX6_init_41 : decode cX6_init 41 = .ok (.return_, 1) := by decide +kernel
theorem dX6_start_0 : decode cX6_start 0 = .ok (.aload_n 1, 1) := by decide +kernel
theorem dX6_start_1 : decode cX6_start 1 = .ok (.ifnonnull 4, 3) := by decide +kernel
theorem dX6_start_4 : decode cX6_start 4 = .ok (.return_, 1) := by decide +kernel
theorem dX6_start_5 : decode cX6_start 5 = .ok (.aload_n 0, 1) := by decide +kernel
theorem dX6_start_6 : decode cX6_start 6 = .ok (.aload_n 1, 1) := by decide +kernel
theorem dX6_start_7 : decode cX6_start 7 = .ok (.getfield 31, 3) := by decide +kernel
theorem dX6_start_10 : decode cX6_start 10 = .ok (.putfield 36, 3) := by decide +kernel
theorem dX6_start_13 : decode cX6_start 13 = .ok (.aload_n 0, 1) := by decide +kernel
theorem dX6_start_14 : decode cX6_start 14 = .ok (.aload_n 1, 1) := by decide +kernel
theorem dX6_start_15 : decode cX6_start 15 = .ok (.getfield 39, 3) := by decide +kernel
theorem dX6_start_18 : decode cX6_start 18 = .ok (.aload_n 1, 1) := by decide +kernel
theorem dX6_start_19 : decode cX6_start 19 = .ok (.getfield 31, 3) := by decide +kernel
theorem dX6_start_22 : decode cX6_start 22 = .ok (.iadd, 1) := by decide +kernel
theorem dX6_start_23 : decode cX6_start 23 = .ok (.putfield 9, 3) := by decide +kernel
theorem dX6_start_26 : decode cX6_start 26 = .ok (.aload_n 0, 1) := by decide +kernel
theorem dX6_start_27 : decode cX6_start 27 = .ok (.lconst 1, 1) := by decide +kernel
theorem dX6_start_28 : decode cX6_start 28 = .ok (.putfield 15, 3) := by decide +kernel
theorem dX6_start_31 : decode cX6_start 31 = .ok (.iconst 0, 1) := by decide +kernel
theorem dX6_start_32 : decode cX6_start 32 = .ok (.istore_n 2, 1) := by decide +kernel
theorem dX6_start_33 : decode cX6_start 33 = .ok (.iload_n 2, 1) := by decide +kernel
theorem dX6_start_34 : decode cX6_start 34 = .ok (.aload_n 0, 1) := by decide +kernel
theorem dX6_start_35 : decode cX6_start 35 = .ok (.getfield 36, 3) := by decide +kernel
theorem dX6_start_38 : decode cX6_start 38 = .ok (.if_icmp .ge 75, 3) := by decide +kernel
theorem dX6_start_41 : decode cX6_start 41 = .ok (.aload_n 0, 1) := by decide +kernel
theorem dX6_start_42 : decode cX6_start 42 = .ok (.getfield 24, 3) := by decide +kernel
theorem dX6_start_45 : decode cX6_start 45 = .ok (.iconst 0, 1) := by decide +kernel
theorem dX6_start_46 : decode cX6_start 46 = .ok (.iload_n 2, 1) := by decide +kernel
theorem dX6_start_47 : decode cX6_start 47 = .ok (.aload_n 1, 1) := by decide +kernel
theorem dX6_start_48 : decode cX6_start 48 = .ok (.getfield 39, 3) := by decide +kernel
theorem dX6_start_51 : decode cX6_start 51 = .ok (.iload_n 2, 1) := by decide +kernel
theorem dX6_start_52 : decode cX6_start 52 = .ok (.iadd, 1) := by decide +kernel
theorem dX6_start_53 : decode cX6_start 53 = .ok (.i2l, 1) := by decide +kernel
theorem dX6_start_54 : decode cX6_start 54 = .ok (.invokevirtual 42, 3) := by decide +kernel
theorem dX6_start_57 : decode cX6_start 57 = .ok (.iconst 0, 1) := by decide +kernel
theorem dX6_start_58 : decode cX6_start 58 = .ok (.istore_n 3, 1) := by decide +kernel
theorem dX6_start_59 : decode cX6_start 59 = .ok (.iload_n 3, 1) := by decide +kernel
theorem dX6_start_60 : decode cX6_start 60 = .ok (.aload_n 0, 1) := by decide +kernel
theorem dX6_start_61 : decode cX6_start 61 = .ok (.getfield 9, 3) := by decide +kernel
theorem dX6_start_64 : decode cX6_start 64 = .ok (.if_icmp .ge 25, 3) := by decide +kernel
theorem dX6_start_67 : decode cX6_start 67 = .ok (.aload_n 0, 1) := by decide +kernel
theorem dX6_start_68 : decode cX6_start 68 = .ok (.getfield 28, 3) := by decide +kernel
theorem dX6_start_71 : decode cX6_start 71 = .ok (.iload_n 2, 1) := by decide +kernel
theorem dX6_start_72 : decode cX6_start 72 = .ok (.iload_n 3, 1) := by decide +kernel
theorem dX6_start_73 : decode cX6_start 73 = .ok (.aload_n 1, 1) := by decide +kernel
theorem dX6_start_74 : decode cX6_start 74 = .ok (.iload_n 2, 1) := by decide +kernel
theorem dX6_start_75 : decode cX6_start 75 = .ok (.iload_n 3, 1) := by decide +kernel
theorem dX6_start_76 : decode cX6_start 76 = .ok (.invokevirtual 46, 3) := by decide +kernel
theorem dX6_start_79 : decode cX6_start 79 = .ok (.i2l, 1) := by decide +kernel
theorem dX6_start_80 : decode cX6_start 80 = .ok (.invokevirtual 42, 3) := by decide +kernel
theorem dX6_start_83 : decode cX6_start 83 = .ok (.iinc 3 1, 3) := by decide +kernel
theorem dX6_start_86 : decode cX6_start 86 = .ok (.goto (-27), 3) := by decide +kernel
theorem dX6_start_89 : decode cX6_start 89 = .ok (.aload_n 0, 1) := by decide +kernel
theorem dX6_start_90 : decode cX6_start 90 = .ok (.getfield 28, 3) := by decide +kernel
theorem dX6_start_93 : decode cX6_start 93 = .ok (.iload_n 2, 1) := by decide +kernel
theorem dX6_start_94 : decode cX6_start 94 = .ok (.aload_n 0, 1) := by decide +kernel
theorem dX6_start_95 : decode cX6_start 95 = .ok (.getfield 9, 3) := by decide +kernel
theorem dX6_start_98 : decode cX6_start 98 = .ok (.aload_n 1, 1) := by decide +kernel
theorem dX6_start_99 : decode cX6_start 99 = .ok (.iload_n 2, 1) := by decide +kernel
theorem dX6_start_100 : decode cX6_start 100 = .ok (.invokevirtual 50, 3) := by decide +kernel
theorem dX6_start_103 : decode cX6_start 103 = .ok (.i2l, 1) := by decide +kernel
theorem dX6_start_104 : decode cX6_start 104 = .ok (.invokevirtual 42, 3) := by decide +kernel
theorem dX6_start_107 : decode cX6_start 107 = .ok (.iinc 2 1, 3) := by decide +kernel
theorem dX6_start_110 : decode cX6_start 110 = .ok (.goto (-77), 3) := by decide +kernel
theorem dX6_start_113 : decode cX6_start 113 = .ok (.iconst 0, 1) := by decide +kernel
theorem dX6_start_114 : decode cX6_start 114 = .ok (.istore_n 2, 1) := by decide +kernel
theorem dX6_start_115 : decode cX6_start 115 = .ok (.iload_n 2, 1) := by decide +kernel
theorem dX6_start_116 : decode cX6_start 116 = .ok (.aload_n 0, 1) := by decide +kernel
theorem dX6_start_117 : decode cX6_start 117 = .ok (.getfield 9, 3) := by decide +kernel
theorem dX6_start_120 : decode cX6_start 120 = .ok (.if_icmp .ge 27, 3) := by decide +kernel
theorem dX6_start_123 : decode cX6_start 123 = .ok (.aload_n 0, 1) := by decide +kernel
theorem dX6_start_124 : decode cX6_start 124 = .ok (.getfield 28, 3) := by decide +kernel
theorem dX6_start_127 : decode cX6_start 127 = .ok (.aload_n 0, 1) := by decide +kernel
theorem dX6_start_128 : decode cX6_start 128 = .ok (.getfield 36, 3) := by decide +kernel
theorem dX6_start_131 : decode cX6_start 131 = .ok (.iload_n 2, 1) := by decide +kernel
theorem dX6_start_132 : decode cX6_start 132 = .ok (.aload_n 1, 1) := by decide +kernel
theorem dX6_start_133 : decode cX6_start 133 = .ok (.iload_n 2, 1) := by decide +kernel
theorem dX6_start_134 : decode cX6_start 134 = .ok (.invokevirtual 54, 3) := by decide +kernel
theorem dX6_start_137 : decode cX6_start 137 = .ok (.i2l, 1) := by decide +kernel
theorem dX6_start_138 : decode cX6_start 138 = .ok (.invokevirtual 42, 3) := by decide +kernel
theorem dX6_start_141 : decode cX6_start 141 = .ok (.iinc 2 1, 3) := by decide +kernel
theorem dX6_start_144 : decode cX6_start 144 = .ok (.goto (-29), 3) := by decide +kernel
theorem dX6_start_147 : decode cX6_start 147 = .ok (.aload_n 0, 1) := by decide +kernel
theorem dX6_start_148 : decode cX6_start 148 = .ok (.getfield 28, 3) := by decide +kernel
theorem dX6_start_151 : decode cX6_start 151 = .ok (.aload_n 0, 1) := by decide +kernel
theorem dX6_start_152 : decode cX6_start 152 = .ok (.getfield 36, 3) := by decide +kernel
theorem dX6_start_155 : decode cX6_start 155 = .ok (.aload_n 0, 1) := by decide +kernel
theorem dX6_start_156 : decode cX6_start 156 = .ok (.getfield 9, 3) := by decide +kernel
theorem dX6_start_159 : decode cX6_start 159 = .ok (.lconst 0, 1) := by decide +kernel
theorem dX6_start_160 : decode cX6_start 160 = .ok (.invokevirtual 42, 3) := by decide +kernel
theorem dX6_start_163 : decode cX6_start 163 = .ok (.return_, 1) := by decide +kernel
theorem dX6_copy_0 : decode cX6_copy 0 = .ok (.aload_n 1, 1) := by decide +kernel
theorem dX6_copy_1 : decode cX6_copy 1 = .ok (.ifnull 49, 3) := by decide +kernel
theorem dX6_copy_4 : decode cX6_copy 4 = .ok (.aload_n 0, 1) := by decide +kernel
theorem dX6_copy_5 : decode cX6_copy 5 = .ok (.aload_n 1, 1) := by decide +kernel
theorem dX6_copy_6 : decode cX6_copy 6 = .ok (.getfield 36, 3) := by decide +kernel
theorem dX6_copy_9 : decode cX6_copy 9 = .ok (.putfield 36, 3) := by decide +kernel
theorem dX6_copy_12 : decode cX6_copy 12 = .ok (.aload_n 0, 1) := by decide +kernel
theorem dX6_copy_13 : decode cX6_copy 13 = .ok (.aload_n 1, 1) := by decide +kernel
theorem dX6_copy_14 : decode cX6_copy 14 = .ok (.getfield 9, 3) := by decide +kernel
theorem dX6_copy_17 : decode cX6_copy 17 = .ok (.putfield 9, 3) := by decide +kernel
theorem dX6_copy_20 : decode cX6_copy 20 = .ok (.aload_n 0, 1) := by decide +kernel
theorem dX6_copy_21 : decode cX6_copy 21 = .ok (.aload_n 1, 1) := by decide +kernel
theorem dX6_copy_22 : decode cX6_copy 22 = .ok (.getfield 15, 3) := by decide +kernel
theorem dX6_copy_25 : decode cX6_copy 25 = .ok (.putfield 15, 3) := by decide +kernel
theorem dX6_copy_28 : decode cX6_copy 28 = .ok (.aload_n 0, 1) := by decide +kernel
theorem dX6_copy_29 : decode cX6_copy 29 = .ok (.getfield 24, 3) := by decide +kernel
theorem dX6_copy_32 : decode cX6_copy 32 = .ok (.aload_n 1, 1) := by decide +kernel
theorem dX6_copy_33 : decode cX6_copy 33 = .ok (.getfield 24, 3) := by decide +kernel
theorem dX6_copy_36 : decode cX6_copy 36 = .ok (.invokevirtual 57, 3) := by decide +kernel
theorem dX6_copy_39 : decode cX6_copy 39 = .ok (.aload_n 0, 1) := by decide +kernel
theorem dX6_copy_40 : decode cX6_copy 40 = .ok (.getfield 28, 3) := by decide +kernel
theorem dX6_copy_43 : decode cX6_copy 43 = .ok (.aload_n 1, 1) := by decide +kernel
theorem dX6_copy_44 : decode cX6_copy 44 = .ok (.getfield 28, 3) := by decide +kernel
theorem dX6_copy_47 : decode cX6_copy 47 = .ok (.invokevirtual 57, 3) := by decide +kernel
theorem dX6_copy_50 : decode cX6_copy 50 = .ok (.return_, 1) := by decide +kernel
theorem dX6_entry_0 : decode cX6_entry 0 = .ok (.aload_n 0, 1) := by decide +kernel
theorem dX6_entry_1 : decode cX6_entry 1 = .ok (.getfield 28, 3) := by decide +kernel
theorem dX6_entry_4 : decode cX6_entry 4 = .ok (.iload_n 1, 1) := by decide +kernel
theorem dX6_entry_5 : decode cX6_entry 5 = .ok (.iload_n 2, 1) := by decide +kernel
theorem dX6_entry_6 : decode cX6_entry 6 = .ok (.invokevirtual 61, 3) := by decide +kernel
theorem dX6_entry_9 : decode cX6_entry 9 = .ok (.lreturn, 1) := by decide +kernel
theorem dX6_side_0 : decode cX6_side 0 = .ok (.aload_n 0, 1) := by decide +kernel
theorem dX6_side_1 : decode cX6_side 1 = .ok (.getfield 28, 3) := by decide +kernel
theorem dX6_side_4 : decode cX6_side 4 = .ok (.iload_n 1, 1) := by decide +kernel
theorem dX6_side_5 : decode cX6_side 5 = .ok (.aload_n 0, 1) := by decide +kernel
theorem dX6_side_6 : decode cX6_side 6 = .ok (.getfield 9, 3) := by decide +kernel
theorem dX6_side_9 : decode cX6_side 9 = .ok (.invokevirtual 61, 3) := by decide +kernel
theorem dX6_side_12 : decode cX6_side 12 = .ok (.lreturn, 1) := by decide +kernel
theorem dX6_reduced_0 : decode cX6_reduced 0 = .ok (.aload_n 0, 1) := by decide +kernel
theorem dX6_reduced_1 : decode cX6_reduced 1 = .ok (.getfield 28, 3) := by decide +kernel
theorem dX6_reduced_4 : decode cX6_reduced 4 = .ok (.aload_n 0, 1) := by decide +kernel
theorem dX6_reduced_5 : decode cX6_reduced 5 = .ok (.getfield 36, 3) := by decide +kernel
theorem dX6_reduced_8 : decode cX6_reduced 8 = .ok (.iload_n 1, 1) := by decide +kernel
theorem dX6_reduced_9 : decode cX6_reduced 9 = .ok (.invokevirtual 61, 3) := by decide +kernel
theorem dX6_reduced_12 : decode cX6_reduced 12 = .ok (.lreturn, 1) := by decide +kernel
theorem dX6_worth_0 : decode cX6_worth 0 = .ok (.aload_n 0, 1) := by decide +kernel
theorem dX6_worth_1 : decode cX6_worth 1 = .ok (.getfield 28, 3) := by decide +kernel
theorem dX6_worth_4 : decode cX6_worth 4 = .ok (.aload_n 0, 1) := by decide +kernel
theorem dX6_worth_5 : decode cX6_worth 5 = .ok (.getfield 36, 3) := by decide +kernel
theorem dX6_worth_8 : decode cX6_worth 8 = .ok (.aload_n 0, 1) := by decide +kernel
theorem dX6_worth_9 : decode cX6_worth 9 = .ok (.getfield 9, 3) := by decide +kernel
theorem dX6_worth_12 : decode cX6_worth 12 = .ok (.invokevirtual 61, 3) := by decide +kernel
theorem dX6_worth_15 : decode cX6_worth 15 = .ok (.lneg, 1) := by decide +kernel
theorem dX6_worth_16 : decode cX6_worth 16 = .ok (.lreturn, 1) := by decide +kernel
theorem dX6_namedBy_0 : decode cX6_namedBy 0 = .ok (.aload_n 0, 1) := by decide +kernel
theorem dX6_namedBy_1 : decode cX6_namedBy 1 = .ok (.getfield 24, 3) := by decide +kernel
theorem dX6_namedBy_4 : decode cX6_namedBy 4 = .ok (.iconst 0, 1) := by decide +kernel
theorem dX6_namedBy_5 : decode cX6_namedBy 5 = .ok (.iload_n 1, 1) := by decide +kernel
theorem dX6_namedBy_6 : decode cX6_namedBy 6 = .ok (.invokevirtual 61, 3) := by decide +kernel
theorem dX6_namedBy_9 : decode cX6_namedBy 9 = .ok (.l2i, 1) := by decide +kernel
theorem dX6_namedBy_10 : decode cX6_namedBy 10 = .ok (.ireturn, 1) := by decide +kernel
theorem dX6_rowNaming_0 : decode cX6_rowNaming 0 = .ok (.iconst 0, 1) := by decide +kernel
theorem dX6_rowNaming_1 : decode cX6_rowNaming 1 = .ok (.istore_n 2, 1) := by decide +kernel
theorem dX6_rowNaming_2 : decode cX6_rowNaming 2 = .ok (.iload_n 2, 1) := by decide +kernel
theorem dX6_rowNaming_3 : decode cX6_rowNaming 3 = .ok (.aload_n 0, 1) := by decide +kernel
theorem dX6_rowNaming_4 : decode cX6_rowNaming 4 = .ok (.getfield 36, 3) := by decide +kernel
theorem dX6_rowNaming_7 : decode cX6_rowNaming 7 = .ok (.if_icmp .ge 20, 3) := by decide +kernel
theorem dX6_rowNaming_10 : decode cX6_rowNaming 10 = .ok (.aload_n 0, 1) := by decide +kernel
theorem dX6_rowNaming_11 : decode cX6_rowNaming 11 = .ok (.iload_n 2, 1) := by decide +kernel
theorem dX6_rowNaming_12 : decode cX6_rowNaming 12 = .ok (.invokevirtual 65, 3) := by decide +kernel
theorem dX6_rowNaming_15 : decode cX6_rowNaming 15 = .ok (.iload_n 1, 1) := by decide +kernel
theorem dX6_rowNaming_16 : decode cX6_rowNaming 16 = .ok (.if_icmp .ne 5, 3) := by decide +kernel
theorem dX6_rowNaming_19 : decode cX6_rowNaming 19 = .ok (.iload_n 2, 1) := by decide +kernel
theorem dX6_rowNaming_20 : decode cX6_rowNaming 20 = .ok (.ireturn, 1) := by decide +kernel
theorem dX6_rowNaming_21 : decode cX6_rowNaming 21 = .ok (.iinc 2 1, 3) := by decide +kernel
theorem dX6_rowNaming_24 : decode cX6_rowNaming 24 = .ok (.goto (-22), 3) := by decide +kernel
theorem dX6_rowNaming_27 : decode cX6_rowNaming 27 = .ok (.iconst (-1), 1) := by decide +kernel
theorem dX6_rowNaming_28 : decode cX6_rowNaming 28 = .ok (.ireturn, 1) := by decide +kernel
theorem dX6_given_0 : decode cX6_given 0 = .ok (.aload_n 0, 1) := by decide +kernel
theorem dX6_given_1 : decode cX6_given 1 = .ok (.iload_n 1, 1) := by decide +kernel
theorem dX6_given_2 : decode cX6_given 2 = .ok (.invokevirtual 68, 3) := by decide +kernel
theorem dX6_given_5 : decode cX6_given 5 = .ok (.istore_n 2, 1) := by decide +kernel
theorem dX6_given_6 : decode cX6_given 6 = .ok (.iload_n 2, 1) := by decide +kernel
theorem dX6_given_7 : decode cX6_given 7 = .ok (.ifCond .ge 7, 3) := by decide +kernel
theorem dX6_given_10 : decode cX6_given 10 = .ok (.lconst 0, 1) := by decide +kernel
theorem dX6_given_11 : decode cX6_given 11 = .ok (.goto 8, 3) := by decide +kernel
theorem dX6_given_14 : decode cX6_given 14 = .ok (.aload_n 0, 1) := by decide +kernel
theorem dX6_given_15 : decode cX6_given 15 = .ok (.iload_n 2, 1) := by decide +kernel
theorem dX6_given_16 : decode cX6_given 16 = .ok (.invokevirtual 71, 3) := by decide +kernel
theorem dX6_given_19 : decode cX6_given 19 = .ok (.lreturn, 1) := by decide +kernel
theorem dX6_isBest_0 : decode cX6_isBest 0 = .ok (.iconst 0, 1) := by decide +kernel
theorem dX6_isBest_1 : decode cX6_isBest 1 = .ok (.istore_n 1, 1) := by decide +kernel
theorem dX6_isBest_2 : decode cX6_isBest 2 = .ok (.iload_n 1, 1) := by decide +kernel
theorem dX6_isBest_3 : decode cX6_isBest 3 = .ok (.aload_n 0, 1) := by decide +kernel
theorem dX6_isBest_4 : decode cX6_isBest 4 = .ok (.getfield 9, 3) := by decide +kernel
theorem dX6_isBest_7 : decode cX6_isBest 7 = .ok (.if_icmp .ge 21, 3) := by decide +kernel
theorem dX6_isBest_10 : decode cX6_isBest 10 = .ok (.aload_n 0, 1) := by decide +kernel
theorem dX6_isBest_11 : decode cX6_isBest 11 = .ok (.iload_n 1, 1) := by decide +kernel
theorem dX6_isBest_12 : decode cX6_isBest 12 = .ok (.invokevirtual 75, 3) := by decide +kernel
theorem dX6_isBest_15 : decode cX6_isBest 15 = .ok (.lconst 0, 1) := by decide +kernel
theorem dX6_isBest_16 : decode cX6_isBest 16 = .ok (.lcmp, 1) := by decide +kernel
theorem dX6_isBest_17 : decode cX6_isBest 17 = .ok (.ifCond .le 5, 3) := by decide +kernel
theorem dX6_isBest_20 : decode cX6_isBest 20 = .ok (.iconst 0, 1) := by decide +kernel
theorem dX6_isBest_21 : decode cX6_isBest 21 = .ok (.ireturn, 1) := by decide +kernel
theorem dX6_isBest_22 : decode cX6_isBest 22 = .ok (.iinc 1 1, 3) := by decide +kernel
theorem dX6_isBest_25 : decode cX6_isBest 25 = .ok (.goto (-23), 3) := by decide +kernel
theorem dX6_isBest_28 : decode cX6_isBest 28 = .ok (.iconst 1, 1) := by decide +kernel
theorem dX6_isBest_29 : decode cX6_isBest 29 = .ok (.ireturn, 1) := by decide +kernel
theorem dX6_openColumn_0 : decode cX6_openColumn 0 = .ok (.iconst 0, 1) := by decide +kernel
theorem dX6_openColumn_1 : decode cX6_openColumn 1 = .ok (.istore_n 1, 1) := by decide +kernel
theorem dX6_openColumn_2 : decode cX6_openColumn 2 = .ok (.iload_n 1, 1) := by decide +kernel
theorem dX6_openColumn_3 : decode cX6_openColumn 3 = .ok (.aload_n 0, 1) := by decide +kernel
theorem dX6_openColumn_4 : decode cX6_openColumn 4 = .ok (.getfield 9, 3) := by decide +kernel
theorem dX6_openColumn_7 : decode cX6_openColumn 7 = .ok (.if_icmp .ge 29, 3) := by decide +kernel
theorem dX6_openColumn_10 : decode cX6_openColumn 10 = .ok (.aload_n 0, 1) := by decide +kernel
theorem dX6_openColumn_11 : decode cX6_openColumn 11 = .ok (.iload_n 1, 1) := by decide +kernel
theorem dX6_openColumn_12 : decode cX6_openColumn 12 = .ok (.invokevirtual 75, 3) := by decide +kernel
theorem dX6_openColumn_15 : decode cX6_openColumn 15 = .ok (.lconst 0, 1) := by decide +kernel
theorem dX6_openColumn_16 : decode cX6_openColumn 16 = .ok (.lcmp, 1) := by decide +kernel
theorem dX6_openColumn_17 : decode cX6_openColumn 17 = .ok (.ifCond .le 13, 3) := by decide +kernel
theorem dX6_openColumn_20 : decode cX6_openColumn 20 = .ok (.aload_n 0, 1) := by decide +kernel
theorem dX6_openColumn_21 : decode cX6_openColumn 21 = .ok (.iload_n 1, 1) := by decide +kernel
theorem dX6_openColumn_22 : decode cX6_openColumn 22 = .ok (.invokevirtual 78, 3) := by decide +kernel
theorem dX6_openColumn_25 : decode cX6_openColumn 25 = .ok (.ifCond .ge 5, 3) := by decide +kernel
theorem dX6_openColumn_28 : decode cX6_openColumn 28 = .ok (.iload_n 1, 1) := by decide +kernel
theorem dX6_openColumn_29 : decode cX6_openColumn 29 = .ok (.ireturn, 1) := by decide +kernel
theorem dX6_openColumn_30 : decode cX6_openColumn 30 = .ok (.iinc 1 1, 3) := by decide +kernel
theorem dX6_openColumn_33 : decode cX6_openColumn 33 = .ok (.goto (-31), 3) := by decide +kernel
theorem dX6_openColumn_36 : decode cX6_openColumn 36 = .ok (.iconst (-1), 1) := by decide +kernel
theorem dX6_openColumn_37 : decode cX6_openColumn 37 = .ok (.ireturn, 1) := by decide +kernel
theorem dX6_isOpen_0 : decode cX6_isOpen 0 = .ok (.aload_n 0, 1) := by decide +kernel
theorem dX6_isOpen_1 : decode cX6_isOpen 1 = .ok (.invokevirtual 81, 3) := by decide +kernel
theorem dX6_isOpen_4 : decode cX6_isOpen 4 = .ok (.ifCond .ne 14, 3) := by decide +kernel
theorem dX6_isOpen_7 : decode cX6_isOpen 7 = .ok (.aload_n 0, 1) := by decide +kernel
theorem dX6_isOpen_8 : decode cX6_isOpen 8 = .ok (.invokevirtual 85, 3) := by decide +kernel
theorem dX6_isOpen_11 : decode cX6_isOpen 11 = .ok (.ifCond .ge 7, 3) := by decide +kernel
theorem dX6_isOpen_14 : decode cX6_isOpen 14 = .ok (.iconst 1, 1) := by decide +kernel
theorem dX6_isOpen_15 : decode cX6_isOpen 15 = .ok (.goto 4, 3) := by decide +kernel
theorem dX6_isOpen_18 : decode cX6_isOpen 18 = .ok (.iconst 0, 1) := by decide +kernel
theorem dX6_isOpen_19 : decode cX6_isOpen 19 = .ok (.ireturn, 1) := by decide +kernel
theorem dX6_leastRow_0 : decode cX6_leastRow 0 = .ok (.iconst (-1), 1) := by decide +kernel
theorem dX6_leastRow_1 : decode cX6_leastRow 1 = .ok (.istore_n 2, 1) := by decide +kernel
theorem dX6_leastRow_2 : decode cX6_leastRow 2 = .ok (.lconst 0, 1) := by decide +kernel
theorem dX6_leastRow_3 : decode cX6_leastRow 3 = .ok (.lstore_n 3, 1) := by decide +kernel
theorem dX6_leastRow_4 : decode cX6_leastRow 4 = .ok (.lconst 0, 1) := by decide +kernel
theorem dX6_leastRow_5 : decode cX6_leastRow 5 = .ok (.lstore 5, 2) := by decide +kernel
theorem dX6_leastRow_7 : decode cX6_leastRow 7 = .ok (.iconst 0, 1) := by decide +kernel
theorem dX6_leastRow_8 : decode cX6_leastRow 8 = .ok (.istore 7, 2) := by decide +kernel
theorem dX6_leastRow_10 : decode cX6_leastRow 10 = .ok (.iload 7, 2) := by decide +kernel
theorem dX6_leastRow_12 : decode cX6_leastRow 12 = .ok (.aload_n 0, 1) := by decide +kernel
theorem dX6_leastRow_13 : decode cX6_leastRow 13 = .ok (.getfield 36, 3) := by decide +kernel
theorem dX6_leastRow_16 : decode cX6_leastRow 16 = .ok (.if_icmp .ge 106, 3) := by decide +kernel
theorem dX6_leastRow_19 : decode cX6_leastRow 19 = .ok (.aload_n 0, 1) := by decide +kernel
theorem dX6_leastRow_20 : decode cX6_leastRow 20 = .ok (.getfield 28, 3) := by decide +kernel
theorem dX6_leastRow_23 : decode cX6_leastRow 23 = .ok (.iload 7, 2) := by decide +kernel
theorem dX6_leastRow_25 : decode cX6_leastRow 25 = .ok (.iload_n 1, 1) := by decide +kernel
theorem dX6_leastRow_26 : decode cX6_leastRow 26 = .ok (.invokevirtual 61, 3) := by decide +kernel
theorem dX6_leastRow_29 : decode cX6_leastRow 29 = .ok (.lstore 8, 2) := by decide +kernel
theorem dX6_leastRow_31 : decode cX6_leastRow 31 = .ok (.aload_n 0, 1) := by decide +kernel
theorem dX6_leastRow_32 : decode cX6_leastRow 32 = .ok (.getfield 28, 3) := by decide +kernel
theorem dX6_leastRow_35 : decode cX6_leastRow 35 = .ok (.iload 7, 2) := by decide +kernel
theorem dX6_leastRow_37 : decode cX6_leastRow 37 = .ok (.aload_n 0, 1) := by decide +kernel
theorem dX6_leastRow_38 : decode cX6_leastRow 38 = .ok (.getfield 9, 3) := by decide +kernel
theorem dX6_leastRow_41 : decode cX6_leastRow 41 = .ok (.invokevirtual 61, 3) := by decide +kernel
theorem dX6_leastRow_44 : decode cX6_leastRow 44 = .ok (.lstore 10, 2) := by decide +kernel
theorem dX6_leastRow_46 : decode cX6_leastRow 46 = .ok (.lload 10, 2) := by decide +kernel
theorem dX6_leastRow_48 : decode cX6_leastRow 48 = .ok (.lload_n 3, 1) := by decide +kernel
theorem dX6_leastRow_49 : decode cX6_leastRow 49 = .ok (.lmul, 1) := by decide +kernel
theorem dX6_leastRow_50 : decode cX6_leastRow 50 = .ok (.lload 5, 2) := by decide +kernel
theorem dX6_leastRow_52 : decode cX6_leastRow 52 = .ok (.lload 8, 2) := by decide +kernel
theorem dX6_leastRow_54 : decode cX6_leastRow 54 = .ok (.lmul, 1) := by decide +kernel
theorem dX6_leastRow_55 : decode cX6_leastRow 55 = .ok (.lsub, 1) := by decide +kernel
theorem dX6_leastRow_56 : decode cX6_leastRow 56 = .ok (.lstore 12, 2) := by decide +kernel
theorem dX6_leastRow_58 : decode cX6_leastRow 58 = .ok (.lload 8, 2) := by decide +kernel
theorem dX6_leastRow_60 : decode cX6_leastRow 60 = .ok (.lconst 0, 1) := by decide +kernel
theorem dX6_leastRow_61 : decode cX6_leastRow 61 = .ok (.lcmp, 1) := by decide +kernel
theorem dX6_leastRow_62 : decode cX6_leastRow 62 = .ok (.ifCond .le 54, 3) := by decide +kernel
theorem dX6_leastRow_65 : decode cX6_leastRow 65 = .ok (.iload_n 2, 1) := by decide +kernel
theorem dX6_leastRow_66 : decode cX6_leastRow 66 = .ok (.ifCond .lt 40, 3) := by decide +kernel
theorem dX6_leastRow_69 : decode cX6_leastRow 69 = .ok (.lload 12, 2) := by decide +kernel
theorem dX6_leastRow_71 : decode cX6_leastRow 71 = .ok (.lconst 0, 1) := by decide +kernel
theorem dX6_leastRow_72 : decode cX6_leastRow 72 = .ok (.lcmp, 1) := by decide +kernel
theorem dX6_leastRow_73 : decode cX6_leastRow 73 = .ok (.ifCond .lt 33, 3) := by decide +kernel
theorem dX6_leastRow_76 : decode cX6_leastRow 76 = .ok (.lload 12, 2) := by decide +kernel
theorem dX6_leastRow_78 : decode cX6_leastRow 78 = .ok (.lconst 0, 1) := by decide +kernel
theorem dX6_leastRow_79 : decode cX6_leastRow 79 = .ok (.lcmp, 1) := by decide +kernel
theorem dX6_leastRow_80 : decode cX6_leastRow 80 = .ok (.ifCond .ne 36, 3) := by decide +kernel
theorem dX6_leastRow_83 : decode cX6_leastRow 83 = .ok (.aload_n 0, 1) := by decide +kernel
theorem dX6_leastRow_84 : decode cX6_leastRow 84 = .ok (.getfield 24, 3) := by decide +kernel
theorem dX6_leastRow_87 : decode cX6_leastRow 87 = .ok (.iconst 0, 1) := by decide +kernel
theorem dX6_leastRow_88 : decode cX6_leastRow 88 = .ok (.iload 7, 2) := by decide +kernel
theorem dX6_leastRow_90 : decode cX6_leastRow 90 = .ok (.invokevirtual 61, 3) := by decide +kernel
theorem dX6_leastRow_93 : decode cX6_leastRow 93 = .ok (.aload_n 0, 1) := by decide +kernel
theorem dX6_leastRow_94 : decode cX6_leastRow 94 = .ok (.getfield 24, 3) := by decide +kernel
theorem dX6_leastRow_97 : decode cX6_leastRow 97 = .ok (.iconst 0, 1) := by decide +kernel
theorem dX6_leastRow_98 : decode cX6_leastRow 98 = .ok (.iload_n 2, 1) := by decide +kernel
theorem dX6_leastRow_99 : decode cX6_leastRow 99 = .ok (.invokevirtual 61, 3) := by decide +kernel
theorem dX6_leastRow_102 : decode cX6_leastRow 102 = .ok (.lcmp, 1) := by decide +kernel
theorem dX6_leastRow_103 : decode cX6_leastRow 103 = .ok (.ifCond .ge 13, 3) := by decide +kernel
theorem dX6_leastRow_106 : decode cX6_leastRow 106 = .ok (.iload 7, 2) := by decide +kernel
theorem dX6_leastRow_108 : decode cX6_leastRow 108 = .ok (.istore_n 2, 1) := by decide +kernel
theorem dX6_leastRow_109 : decode cX6_leastRow 109 = .ok (.lload 8, 2) := by decide +kernel
theorem dX6_leastRow_111 : decode cX6_leastRow 111 = .ok (.lstore_n 3, 1) := by decide +kernel
theorem dX6_leastRow_112 : decode cX6_leastRow 112 = .ok (.lload 10, 2) := by decide +kernel
theorem dX6_leastRow_114 : decode cX6_leastRow 114 = .ok (.lstore 5, 2) := by decide +kernel
theorem dX6_leastRow_116 : decode cX6_leastRow 116 = .ok (.iinc 7 1, 3) := by decide +kernel
theorem dX6_leastRow_119 : decode cX6_leastRow 119 = .ok (.goto (-109), 3) := by decide +kernel
theorem dX6_leastRow_122 : decode cX6_leastRow 122 = .ok (.iload_n 2, 1) := by decide +kernel
theorem dX6_leastRow_123 : decode cX6_leastRow 123 = .ok (.ireturn, 1) := by decide +kernel
theorem dX6_obstacle_0 : decode cX6_obstacle 0 = .ok (.aload_n 0, 1) := by decide +kernel
theorem dX6_obstacle_1 : decode cX6_obstacle 1 = .ok (.iload_n 2, 1) := by decide +kernel
theorem dX6_obstacle_2 : decode cX6_obstacle 2 = .ok (.invokevirtual 68, 3) := by decide +kernel
theorem dX6_obstacle_5 : decode cX6_obstacle 5 = .ok (.ifCond .lt 5, 3) := by decide +kernel
theorem dX6_obstacle_8 : decode cX6_obstacle 8 = .ok (.iconst 1, 1) := by decide +kernel
theorem dX6_obstacle_9 : decode cX6_obstacle 9 = .ok (.ireturn, 1) := by decide +kernel
theorem dX6_obstacle_10 : decode cX6_obstacle 10 = .ok (.aload_n 0, 1) := by decide +kernel
theorem dX6_obstacle_11 : decode cX6_obstacle 11 = .ok (.iload_n 2, 1) := by decide +kernel
theorem dX6_obstacle_12 : decode cX6_obstacle 12 = .ok (.invokevirtual 75, 3) := by decide +kernel
theorem dX6_obstacle_15 : decode cX6_obstacle 15 = .ok (.lconst 0, 1) := by decide +kernel
theorem dX6_obstacle_16 : decode cX6_obstacle 16 = .ok (.lcmp, 1) := by decide +kernel
theorem dX6_obstacle_17 : decode cX6_obstacle 17 = .ok (.ifCond .gt 5, 3) := by decide +kernel
theorem dX6_obstacle_20 : decode cX6_obstacle 20 = .ok (.iconst 2, 1) := by decide +kernel
theorem dX6_obstacle_21 : decode cX6_obstacle 21 = .ok (.ireturn, 1) := by decide +kernel
theorem dX6_obstacle_22 : decode cX6_obstacle 22 = .ok (.aload_n 0, 1) := by decide +kernel
theorem dX6_obstacle_23 : decode cX6_obstacle 23 = .ok (.iload_n 1, 1) := by decide +kernel
theorem dX6_obstacle_24 : decode cX6_obstacle 24 = .ok (.iload_n 2, 1) := by decide +kernel
theorem dX6_obstacle_25 : decode cX6_obstacle 25 = .ok (.invokevirtual 89, 3) := by decide +kernel
theorem dX6_obstacle_28 : decode cX6_obstacle 28 = .ok (.lconst 0, 1) := by decide +kernel
theorem dX6_obstacle_29 : decode cX6_obstacle 29 = .ok (.lcmp, 1) := by decide +kernel
theorem dX6_obstacle_30 : decode cX6_obstacle 30 = .ok (.ifCond .gt 5, 3) := by decide +kernel
theorem dX6_obstacle_33 : decode cX6_obstacle 33 = .ok (.iconst 3, 1) := by decide +kernel
theorem dX6_obstacle_34 : decode cX6_obstacle 34 = .ok (.ireturn, 1) := by decide +kernel
theorem dX6_obstacle_35 : decode cX6_obstacle 35 = .ok (.aload_n 0, 1) := by decide +kernel
theorem dX6_obstacle_36 : decode cX6_obstacle 36 = .ok (.iload_n 2, 1) := by decide +kernel
theorem dX6_obstacle_37 : decode cX6_obstacle 37 = .ok (.invokevirtual 78, 3) := by decide +kernel
theorem dX6_obstacle_40 : decode cX6_obstacle 40 = .ok (.istore_n 3, 1) := by decide +kernel
theorem dX6_obstacle_41 : decode cX6_obstacle 41 = .ok (.aload_n 0, 1) := by decide +kernel
theorem dX6_obstacle_42 : decode cX6_obstacle 42 = .ok (.iload_n 3, 1) := by decide +kernel
theorem dX6_obstacle_43 : decode cX6_obstacle 43 = .ok (.invokevirtual 71, 3) := by decide +kernel
theorem dX6_obstacle_46 : decode cX6_obstacle 46 = .ok (.aload_n 0, 1) := by decide +kernel
theorem dX6_obstacle_47 : decode cX6_obstacle 47 = .ok (.iload_n 1, 1) := by decide +kernel
theorem dX6_obstacle_48 : decode cX6_obstacle 48 = .ok (.iload_n 2, 1) := by decide +kernel
theorem dX6_obstacle_49 : decode cX6_obstacle 49 = .ok (.invokevirtual 89, 3) := by decide +kernel
theorem dX6_obstacle_52 : decode cX6_obstacle 52 = .ok (.lmul, 1) := by decide +kernel
theorem dX6_obstacle_53 : decode cX6_obstacle 53 = .ok (.aload_n 0, 1) := by decide +kernel
theorem dX6_obstacle_54 : decode cX6_obstacle 54 = .ok (.iload_n 1, 1) := by decide +kernel
theorem dX6_obstacle_55 : decode cX6_obstacle 55 = .ok (.invokevirtual 71, 3) := by decide +kernel
theorem dX6_obstacle_58 : decode cX6_obstacle 58 = .ok (.aload_n 0, 1) := by decide +kernel
theorem dX6_obstacle_59 : decode cX6_obstacle 59 = .ok (.iload_n 3, 1) := by decide +kernel
theorem dX6_obstacle_60 : decode cX6_obstacle 60 = .ok (.iload_n 2, 1) := by decide +kernel
theorem dX6_obstacle_61 : decode cX6_obstacle 61 = .ok (.invokevirtual 89, 3) := by decide +kernel
theorem dX6_obstacle_64 : decode cX6_obstacle 64 = .ok (.lmul, 1) := by decide +kernel
theorem dX6_obstacle_65 : decode cX6_obstacle 65 = .ok (.lcmp, 1) := by decide +kernel
theorem dX6_obstacle_66 : decode cX6_obstacle 66 = .ok (.ifCond .ge 7, 3) := by decide +kernel
theorem dX6_obstacle_69 : decode cX6_obstacle 69 = .ok (.iconst 4, 1) := by decide +kernel
theorem dX6_obstacle_70 : decode cX6_obstacle 70 = .ok (.goto 4, 3) := by decide +kernel
theorem dX6_obstacle_73 : decode cX6_obstacle 73 = .ok (.iconst 0, 1) := by decide +kernel
theorem dX6_obstacle_74 : decode cX6_obstacle 74 = .ok (.ireturn, 1) := by decide +kernel
theorem dX6_chosenColumn_0 : decode cX6_chosenColumn 0 = .ok (.iconst (-1), 1) := by decide +kernel
theorem dX6_chosenColumn_1 : decode cX6_chosenColumn 1 = .ok (.istore_n 2, 1) := by decide +kernel
theorem dX6_chosenColumn_2 : decode cX6_chosenColumn 2 = .ok (.iconst 0, 1) := by decide +kernel
theorem dX6_chosenColumn_3 : decode cX6_chosenColumn 3 = .ok (.istore_n 3, 1) := by decide +kernel
theorem dX6_chosenColumn_4 : decode cX6_chosenColumn 4 = .ok (.iload_n 3, 1) := by decide +kernel
theorem dX6_chosenColumn_5 : decode cX6_chosenColumn 5 = .ok (.aload_n 0, 1) := by decide +kernel
theorem dX6_chosenColumn_6 : decode cX6_chosenColumn 6 = .ok (.getfield 9, 3) := by decide +kernel
theorem dX6_chosenColumn_9 : decode cX6_chosenColumn 9 = .ok (.if_icmp .ge 58, 3) := by decide +kernel
theorem dX6_chosenColumn_12 : decode cX6_chosenColumn 12 = .ok (.aload_n 0, 1) := by decide +kernel
theorem dX6_chosenColumn_13 : decode cX6_chosenColumn 13 = .ok (.iload_n 3, 1) := by decide +kernel
theorem dX6_chosenColumn_14 : decode cX6_chosenColumn 14 = .ok (.invokevirtual 75, 3) := by decide +kernel
theorem dX6_chosenColumn_17 : decode cX6_chosenColumn 17 = .ok (.lconst 0, 1) := by decide +kernel
theorem dX6_chosenColumn_18 : decode cX6_chosenColumn 18 = .ok (.lcmp, 1) := by decide +kernel
theorem dX6_chosenColumn_19 : decode cX6_chosenColumn 19 = .ok (.ifCond .le 42, 3) := by decide +kernel
theorem dX6_chosenColumn_22 : decode cX6_chosenColumn 22 = .ok (.iload_n 2, 1) := by decide +kernel
theorem dX6_chosenColumn_23 : decode cX6_chosenColumn 23 = .ok (.ifCond .lt 36, 3) := by decide +kernel
theorem dX6_chosenColumn_26 : decode cX6_chosenColumn 26 = .ok (.iload_n 1, 1) := by decide +kernel
theorem dX6_chosenColumn_27 : decode cX6_chosenColumn 27 = .ok (.iconst 1, 1) := by decide +kernel
theorem dX6_chosenColumn_28 : decode cX6_chosenColumn 28 = .ok (.if_icmp .ne 17, 3) := by decide +kernel
theorem dX6_chosenColumn_31 : decode cX6_chosenColumn 31 = .ok (.aload_n 0, 1) := by decide +kernel
theorem dX6_chosenColumn_32 : decode cX6_chosenColumn 32 = .ok (.iload_n 3, 1) := by decide +kernel
theorem dX6_chosenColumn_33 : decode cX6_chosenColumn 33 = .ok (.invokevirtual 75, 3) := by decide +kernel
theorem dX6_chosenColumn_36 : decode cX6_chosenColumn 36 = .ok (.aload_n 0, 1) := by decide +kernel
theorem dX6_chosenColumn_37 : decode cX6_chosenColumn 37 = .ok (.iload_n 2, 1) := by decide +kernel
theorem dX6_chosenColumn_38 : decode cX6_chosenColumn 38 = .ok (.invokevirtual 75, 3) := by decide +kernel
theorem dX6_chosenColumn_41 : decode cX6_chosenColumn 41 = .ok (.lcmp, 1) := by decide +kernel
theorem dX6_chosenColumn_42 : decode cX6_chosenColumn 42 = .ok (.ifCond .gt 17, 3) := by decide +kernel
theorem dX6_chosenColumn_45 : decode cX6_chosenColumn 45 = .ok (.iload_n 1, 1) := by decide +kernel
theorem dX6_chosenColumn_46 : decode cX6_chosenColumn 46 = .ok (.iconst 2, 1) := by decide +kernel
theorem dX6_chosenColumn_47 : decode cX6_chosenColumn 47 = .ok (.if_icmp .ne 14, 3) := by decide +kernel
theorem dX6_chosenColumn_50 : decode cX6_chosenColumn 50 = .ok (.aload_n 0, 1) := by decide +kernel
theorem dX6_chosenColumn_51 : decode cX6_chosenColumn 51 = .ok (.iload_n 3, 1) := by decide +kernel
theorem dX6_chosenColumn_52 : decode cX6_chosenColumn 52 = .ok (.iload_n 2, 1) := by decide +kernel
theorem dX6_chosenColumn_53 : decode cX6_chosenColumn 53 = .ok (.invokevirtual 92, 3) := by decide +kernel
theorem dX6_chosenColumn_56 : decode cX6_chosenColumn 56 = .ok (.ifCond .eq 5, 3) := by decide +kernel
theorem dX6_chosenColumn_59 : decode cX6_chosenColumn 59 = .ok (.iload_n 3, 1) := by decide +kernel
theorem dX6_chosenColumn_60 : decode cX6_chosenColumn 60 = .ok (.istore_n 2, 1) := by decide +kernel
theorem dX6_chosenColumn_61 : decode cX6_chosenColumn 61 = .ok (.iinc 3 1, 3) := by decide +kernel
theorem dX6_chosenColumn_64 : decode cX6_chosenColumn 64 = .ok (.goto (-60), 3) := by decide +kernel
theorem dX6_chosenColumn_67 : decode cX6_chosenColumn 67 = .ok (.iload_n 2, 1) := by decide +kernel
theorem dX6_chosenColumn_68 : decode cX6_chosenColumn 68 = .ok (.ireturn, 1) := by decide +kernel
theorem dX6_gainsMore_0 : decode cX6_gainsMore 0 = .ok (.aload_n 0, 1) := by decide +kernel
theorem dX6_gainsMore_1 : decode cX6_gainsMore 1 = .ok (.iload_n 1, 1) := by decide +kernel
theorem dX6_gainsMore_2 : decode cX6_gainsMore 2 = .ok (.invokevirtual 78, 3) := by decide +kernel
theorem dX6_gainsMore_5 : decode cX6_gainsMore 5 = .ok (.istore_n 3, 1) := by decide +kernel
theorem dX6_gainsMore_6 : decode cX6_gainsMore 6 = .ok (.aload_n 0, 1) := by decide +kernel
theorem dX6_gainsMore_7 : decode cX6_gainsMore 7 = .ok (.iload_n 2, 1) := by decide +kernel
theorem dX6_gainsMore_8 : decode cX6_gainsMore 8 = .ok (.invokevirtual 78, 3) := by decide +kernel
theorem dX6_gainsMore_11 : decode cX6_gainsMore 11 = .ok (.istore 4, 2) := by decide +kernel
theorem dX6_gainsMore_13 : decode cX6_gainsMore 13 = .ok (.aload_n 0, 1) := by decide +kernel
theorem dX6_gainsMore_14 : decode cX6_gainsMore 14 = .ok (.iload_n 1, 1) := by decide +kernel
theorem dX6_gainsMore_15 : decode cX6_gainsMore 15 = .ok (.invokevirtual 75, 3) := by decide +kernel
theorem dX6_gainsMore_18 : decode cX6_gainsMore 18 = .ok (.aload_n 0, 1) := by decide +kernel
theorem dX6_gainsMore_19 : decode cX6_gainsMore 19 = .ok (.iload_n 3, 1) := by decide +kernel
theorem dX6_gainsMore_20 : decode cX6_gainsMore 20 = .ok (.invokevirtual 71, 3) := by decide +kernel
theorem dX6_gainsMore_23 : decode cX6_gainsMore 23 = .ok (.lmul, 1) := by decide +kernel
theorem dX6_gainsMore_24 : decode cX6_gainsMore 24 = .ok (.aload_n 0, 1) := by decide +kernel
theorem dX6_gainsMore_25 : decode cX6_gainsMore 25 = .ok (.iload 4, 2) := by decide +kernel
theorem dX6_gainsMore_27 : decode cX6_gainsMore 27 = .ok (.iload_n 2, 1) := by decide +kernel
theorem dX6_gainsMore_28 : decode cX6_gainsMore 28 = .ok (.invokevirtual 89, 3) := by decide +kernel
theorem dX6_gainsMore_31 : decode cX6_gainsMore 31 = .ok (.lmul, 1) := by decide +kernel
theorem dX6_gainsMore_32 : decode cX6_gainsMore 32 = .ok (.lstore 5, 2) := by decide +kernel
theorem dX6_gainsMore_34 : decode cX6_gainsMore 34 = .ok (.aload_n 0, 1) := by decide +kernel
theorem dX6_gainsMore_35 : decode cX6_gainsMore 35 = .ok (.iload_n 2, 1) := by decide +kernel
theorem dX6_gainsMore_36 : decode cX6_gainsMore 36 = .ok (.invokevirtual 75, 3) := by decide +kernel
theorem dX6_gainsMore_39 : decode cX6_gainsMore 39 = .ok (.aload_n 0, 1) := by decide +kernel
theorem dX6_gainsMore_40 : decode cX6_gainsMore 40 = .ok (.iload 4, 2) := by decide +kernel
theorem dX6_gainsMore_42 : decode cX6_gainsMore 42 = .ok (.invokevirtual 71, 3) := by decide +kernel
theorem dX6_gainsMore_45 : decode cX6_gainsMore 45 = .ok (.lmul, 1) := by decide +kernel
theorem dX6_gainsMore_46 : decode cX6_gainsMore 46 = .ok (.aload_n 0, 1) := by decide +kernel
theorem dX6_gainsMore_47 : decode cX6_gainsMore 47 = .ok (.iload_n 3, 1) := by decide +kernel
theorem dX6_gainsMore_48 : decode cX6_gainsMore 48 = .ok (.iload_n 1, 1) := by decide +kernel
theorem dX6_gainsMore_49 : decode cX6_gainsMore 49 = .ok (.invokevirtual 89, 3) := by decide +kernel
theorem dX6_gainsMore_52 : decode cX6_gainsMore 52 = .ok (.lmul, 1) := by decide +kernel
theorem dX6_gainsMore_53 : decode cX6_gainsMore 53 = .ok (.lstore 7, 2) := by decide +kernel
theorem dX6_gainsMore_55 : decode cX6_gainsMore 55 = .ok (.lload 5, 2) := by decide +kernel
theorem dX6_gainsMore_57 : decode cX6_gainsMore 57 = .ok (.lload 7, 2) := by decide +kernel
theorem dX6_gainsMore_59 : decode cX6_gainsMore 59 = .ok (.lcmp, 1) := by decide +kernel
theorem dX6_gainsMore_60 : decode cX6_gainsMore 60 = .ok (.ifCond .le 7, 3) := by decide +kernel
theorem dX6_gainsMore_63 : decode cX6_gainsMore 63 = .ok (.iconst 1, 1) := by decide +kernel
theorem dX6_gainsMore_64 : decode cX6_gainsMore 64 = .ok (.goto 4, 3) := by decide +kernel
theorem dX6_gainsMore_67 : decode cX6_gainsMore 67 = .ok (.iconst 0, 1) := by decide +kernel
theorem dX6_gainsMore_68 : decode cX6_gainsMore 68 = .ok (.ireturn, 1) := by decide +kernel
theorem dX6_turn_0 : decode cX6_turn 0 = .ok (.aload_n 0, 1) := by decide +kernel
theorem dX6_turn_1 : decode cX6_turn 1 = .ok (.iload_n 1, 1) := by decide +kernel
theorem dX6_turn_2 : decode cX6_turn 2 = .ok (.iload_n 2, 1) := by decide +kernel
theorem dX6_turn_3 : decode cX6_turn 3 = .ok (.invokevirtual 89, 3) := by decide +kernel
theorem dX6_turn_6 : decode cX6_turn 6 = .ok (.lstore_n 3, 1) := by decide +kernel
theorem dX6_turn_7 : decode cX6_turn 7 = .ok (.lload_n 3, 1) := by decide +kernel
theorem dX6_turn_8 : decode cX6_turn 8 = .ok (.lconst 0, 1) := by decide +kernel
theorem dX6_turn_9 : decode cX6_turn 9 = .ok (.lcmp, 1) := by decide +kernel
theorem dX6_turn_10 : decode cX6_turn 10 = .ok (.ifCond .gt 4, 3) := by decide +kernel
theorem dX6_turn_13 : decode cX6_turn 13 = .ok (.return_, 1) := by decide +kernel
theorem dX6_turn_14 : decode cX6_turn 14 = .ok (.iconst 0, 1) := by decide +kernel
theorem dX6_turn_15 : decode cX6_turn 15 = .ok (.istore 5, 2) := by decide +kernel
theorem dX6_turn_17 : decode cX6_turn 17 = .ok (.iload 5, 2) := by decide +kernel
theorem dX6_turn_19 : decode cX6_turn 19 = .ok (.aload_n 0, 1) := by decide +kernel
theorem dX6_turn_20 : decode cX6_turn 20 = .ok (.getfield 36, 3) := by decide +kernel
theorem dX6_turn_23 : decode cX6_turn 23 = .ok (.if_icmp .gt 34, 3) := by decide +kernel
theorem dX6_turn_26 : decode cX6_turn 26 = .ok (.iload 5, 2) := by decide +kernel
theorem dX6_turn_28 : decode cX6_turn 28 = .ok (.iload_n 1, 1) := by decide +kernel
theorem dX6_turn_29 : decode cX6_turn 29 = .ok (.if_icmp .eq 22, 3) := by decide +kernel
theorem dX6_turn_32 : decode cX6_turn 32 = .ok (.aload_n 0, 1) := by decide +kernel
theorem dX6_turn_33 : decode cX6_turn 33 = .ok (.getfield 28, 3) := by decide +kernel
theorem dX6_turn_36 : decode cX6_turn 36 = .ok (.iload 5, 2) := by decide +kernel
theorem dX6_turn_38 : decode cX6_turn 38 = .ok (.iload_n 1, 1) := by decide +kernel
theorem dX6_turn_39 : decode cX6_turn 39 = .ok (.iload_n 2, 1) := by decide +kernel
theorem dX6_turn_40 : decode cX6_turn 40 = .ok (.aload_n 0, 1) := by decide +kernel
theorem dX6_turn_41 : decode cX6_turn 41 = .ok (.getfield 9, 3) := by decide +kernel
theorem dX6_turn_44 : decode cX6_turn 44 = .ok (.aload_n 0, 1) := by decide +kernel
theorem dX6_turn_45 : decode cX6_turn 45 = .ok (.getfield 15, 3) := by decide +kernel
theorem dX6_turn_48 : decode cX6_turn 48 = .ok (.invokevirtual 96, 3) := by decide +kernel
theorem dX6_turn_51 : decode cX6_turn 51 = .ok (.iinc 5 1, 3) := by decide +kernel
theorem dX6_turn_54 : decode cX6_turn 54 = .ok (.goto (-37), 3) := by decide +kernel
theorem dX6_turn_57 : decode cX6_turn 57 = .ok (.aload_n 0, 1) := by decide +kernel
theorem dX6_turn_58 : decode cX6_turn 58 = .ok (.getfield 24, 3) := by decide +kernel
theorem dX6_turn_61 : decode cX6_turn 61 = .ok (.iconst 0, 1) := by decide +kernel
theorem dX6_turn_62 : decode cX6_turn 62 = .ok (.iload_n 1, 1) := by decide +kernel
theorem dX6_turn_63 : decode cX6_turn 63 = .ok (.iload_n 2, 1) := by decide +kernel
theorem dX6_turn_64 : decode cX6_turn 64 = .ok (.i2l, 1) := by decide +kernel
theorem dX6_turn_65 : decode cX6_turn 65 = .ok (.invokevirtual 42, 3) := by decide +kernel
theorem dX6_turn_68 : decode cX6_turn 68 = .ok (.aload_n 0, 1) := by decide +kernel
theorem dX6_turn_69 : decode cX6_turn 69 = .ok (.lload_n 3, 1) := by decide +kernel
theorem dX6_turn_70 : decode cX6_turn 70 = .ok (.putfield 15, 3) := by decide +kernel
theorem dX6_turn_73 : decode cX6_turn 73 = .ok (.return_, 1) := by decide +kernel
theorem dX6_room_0 : decode cX6_room 0 = .ok (.ldc2_w 100, 3) := by decide +kernel
theorem dX6_room_3 : decode cX6_room 3 = .ok (.lstore_n 3, 1) := by decide +kernel
theorem dX6_room_4 : decode cX6_room 4 = .ok (.iconst 0, 1) := by decide +kernel
theorem dX6_room_5 : decode cX6_room 5 = .ok (.istore 5, 2) := by decide +kernel
theorem dX6_room_7 : decode cX6_room 7 = .ok (.iload 5, 2) := by decide +kernel
theorem dX6_room_9 : decode cX6_room 9 = .ok (.aload_n 0, 1) := by decide +kernel
theorem dX6_room_10 : decode cX6_room 10 = .ok (.getfield 36, 3) := by decide +kernel
theorem dX6_room_13 : decode cX6_room 13 = .ok (.if_icmp .ge 42, 3) := by decide +kernel
theorem dX6_room_16 : decode cX6_room 16 = .ok (.iload_n 2, 1) := by decide +kernel
theorem dX6_room_17 : decode cX6_room 17 = .ok (.i2l, 1) := by decide +kernel
theorem dX6_room_18 : decode cX6_room 18 = .ok (.aload_n 0, 1) := by decide +kernel
theorem dX6_room_19 : decode cX6_room 19 = .ok (.iload 5, 2) := by decide +kernel
theorem dX6_room_21 : decode cX6_room 21 = .ok (.iload_n 1, 1) := by decide +kernel
theorem dX6_room_22 : decode cX6_room 22 = .ok (.invokevirtual 89, 3) := by decide +kernel
theorem dX6_room_25 : decode cX6_room 25 = .ok (.lmul, 1) := by decide +kernel
theorem dX6_room_26 : decode cX6_room 26 = .ok (.lstore 6, 2) := by decide +kernel
theorem dX6_room_28 : decode cX6_room 28 = .ok (.lload 6, 2) := by decide +kernel
theorem dX6_room_30 : decode cX6_room 30 = .ok (.lconst 0, 1) := by decide +kernel
theorem dX6_room_31 : decode cX6_room 31 = .ok (.lcmp, 1) := by decide +kernel
theorem dX6_room_32 : decode cX6_room 32 = .ok (.ifCond .le 17, 3) := by decide +kernel
theorem dX6_room_35 : decode cX6_room 35 = .ok (.lload_n 3, 1) := by decide +kernel
theorem dX6_room_36 : decode cX6_room 36 = .ok (.aload_n 0, 1) := by decide +kernel
theorem dX6_room_37 : decode cX6_room 37 = .ok (.iload 5, 2) := by decide +kernel
theorem dX6_room_39 : decode cX6_room 39 = .ok (.invokevirtual 71, 3) := by decide +kernel
theorem dX6_room_42 : decode cX6_room 42 = .ok (.lload 6, 2) := by decide +kernel
theorem dX6_room_44 : decode cX6_room 44 = .ok (.ldiv, 1) := by decide +kernel
theorem dX6_room_45 : decode cX6_room 45 = .ok (.invokestatic 102, 3) := by decide +kernel
theorem dX6_room_48 : decode cX6_room 48 = .ok (.lstore_n 3, 1) := by decide +kernel
theorem dX6_room_49 : decode cX6_room 49 = .ok (.iinc 5 1, 3) := by decide +kernel
theorem dX6_room_52 : decode cX6_room 52 = .ok (.goto (-45), 3) := by decide +kernel
theorem dX6_room_55 : decode cX6_room 55 = .ok (.lload_n 3, 1) := by decide +kernel
theorem dX6_room_56 : decode cX6_room 56 = .ok (.l2i, 1) := by decide +kernel
theorem dX6_room_57 : decode cX6_room 57 = .ok (.ireturn, 1) := by decide +kernel
theorem dX7_init_0 : decode cX7_init 0 = .ok (.aload_n 0, 1) := by decide +kernel
theorem dX7_init_1 : decode cX7_init 1 = .ok (.invokespecial 3, 3) := by decide +kernel
theorem dX7_init_4 : decode cX7_init 4 = .ok (.aload_n 0, 1) := by decide +kernel
theorem dX7_init_5 : decode cX7_init 5 = .ok (.new 9, 3) := by decide +kernel
theorem dX7_init_8 : decode cX7_init 8 = .ok (.dup, 1) := by decide +kernel
theorem dX7_init_9 : decode cX7_init 9 = .ok (.iconst 1, 1) := by decide +kernel
theorem dX7_init_10 : decode cX7_init 10 = .ok (.bipush 80, 2) := by decide +kernel
theorem dX7_init_12 : decode cX7_init 12 = .ok (.invokespecial 11, 3) := by decide +kernel
theorem dX7_init_15 : decode cX7_init 15 = .ok (.putfield 14, 3) := by decide +kernel
theorem dX7_init_18 : decode cX7_init 18 = .ok (.return_, 1) := by decide +kernel
