theorem dX8_init_0 : decode cX8_init 0 = .ok (.aload_n 0, 1) := by decide +kernel
theorem dX8_init_1 : decode cX8_init 1 = .ok (.invokespecial 3, 3) := by decide +kernel
theorem dX8_init_4 : decode cX8_init 4 = .ok (.aload_n 0, 1) := by decide +kernel
theorem dX8_init_5 : decode cX8_init 5 = .ok (.new 9, 3) := by decide +kernel
theorem dX8_init_8 : decode cX8_init 8 = .ok (.dup, 1) := by decide +kernel
theorem dX8_init_9 : decode cX8_init 9 = .ok (.invokespecial 11, 3) := by decide +kernel
theorem dX8_init_12 : decode cX8_init 12 = .ok (.putfield 12, 3) := by decide +kernel
theorem dX8_init_15 : decode cX8_init 15 = .ok (.aload_n 0, 1) := by decide +kernel
theorem dX8_init_16 : decode cX8_init 16 = .ok (.new 9, 3) := by decide +kernel
theorem dX8_init_19 : decode cX8_init 19 = .ok (.dup, 1) := by decide +kernel
theorem dX8_init_20 : decode cX8_init 20 = .ok (.invokespecial 11, 3) := by decide +kernel
theorem dX8_init_23 : decode cX8_init 23 = .ok (.putfield 16, 3) := by decide +kernel
theorem dX8_init_26 : decode cX8_init 26 = .ok (.aload_n 0, 1) := by decide +kernel
theorem dX8_init_27 : decode cX8_init 27 = .ok (.new 9, 3) := by decide +kernel
theorem dX8_init_30 : decode cX8_init 30 = .ok (.dup, 1) := by decide +kernel
theorem dX8_init_31 : decode cX8_init 31 = .ok (.invokespecial 11, 3) := by decide +kernel
theorem dX8_init_34 : decode cX8_init 34 = .ok (.putfield 19, 3) := by decide +kernel
theorem dX8_init_37 : decode cX8_init 37 = .ok (.aload_n 0, 1) := by decide +kernel
theorem dX8_init_38 : decode cX8_init 38 = .ok (.bipush 6, 2) := by decide +kernel
theorem dX8_init_40 : decode cX8_init 40 = .ok (.anewarray 9, 3) := by decide +kernel
theorem dX8_init_43 : decode cX8_init 43 = .ok (.putfield 22, 3) := by decide +kernel
theorem dX8_init_46 : decode cX8_init 46 = .ok (.aload_n 0, 1) := by decide +kernel
theorem dX8_init_47 : decode cX8_init 47 = .ok (.new 26, 3) := by decide +kernel
theorem dX8_init_50 : decode cX8_init 50 = .ok (.dup, 1) := by decide +kernel
theorem dX8_init_51 : decode cX8_init 51 = .ok (.invokespecial 28, 3) := by decide +kernel
theorem dX8_init_54 : decode cX8_init 54 = .ok (.putfield 29, 3) := by decide +kernel
theorem dX8_init_57 : decode cX8_init 57 = .ok (.aload_n 0, 1) := by decide +kernel
theorem dX8_init_58 : decode cX8_init 58 = .ok (.new 26, 3) := by decide +kernel
theorem dX8_init_61 : decode cX8_init 61 = .ok (.dup, 1) := by decide +kernel
theorem dX8_init_62 : decode cX8_init 62 = .ok (.invokespecial 28, 3) := by decide +kernel
theorem dX8_init_65 : decode cX8_init 65 = .ok (.putfield 33, 3) := by decide +kernel
theorem dX8_init_68 : decode cX8_init 68 = .ok (.aload_n 0, 1) := by decide +kernel
theorem dX8_init_69 : decode cX8_init 69 = .ok (.new 36, 3) := by decide +kernel
theorem dX8_init_72 : decode cX8_init 72 = .ok (.dup, 1) := by decide +kernel
theorem dX8_init_73 : decode cX8_init 73 = .ok (.invokespecial 38, 3) := by decide +kernel
theorem dX8_init_76 : decode cX8_init 76 = .ok (.putfield 39, 3) := by decide +kernel
theorem dX8_init_79 : decode cX8_init 79 = .ok (.aload_n 0, 1) := by decide +kernel
theorem dX8_init_80 : decode cX8_init 80 = .ok (.new 43, 3) := by decide +kernel
theorem dX8_init_83 : decode cX8_init 83 = .ok (.dup, 1) := by decide +kernel
theorem dX8_init_84 : decode cX8_init 84 = .ok (.invokespecial 45, 3) := by decide +kernel
theorem dX8_init_87 : decode cX8_init 87 = .ok (.putfield 46, 3) := by decide +kernel
theorem dX8_init_90 : decode cX8_init 90 = .ok (.aload_n 0, 1) := by decide +kernel
theorem dX8_init_91 : decode cX8_init 91 = .ok (.new 50, 3) := by decide +kernel
theorem dX8_init_94 : decode cX8_init 94 = .ok (.dup, 1) := by decide +kernel
theorem dX8_init_95 : decode cX8_init 95 = .ok (.invokespecial 52, 3) := by decide +kernel
theorem dX8_init_98 : decode cX8_init 98 = .ok (.putfield 53, 3) := by decide +kernel
theorem dX8_init_101 : decode cX8_init 101 = .ok (.iconst 0, 1) := by decide +kernel
theorem dX8_init_102 : decode cX8_init 102 = .ok (.istore_n 1, 1) := by decide +kernel
theorem dX8_init_103 : decode cX8_init 103 = .ok (.iload_n 1, 1) := by decide +kernel
theorem dX8_init_104 : decode cX8_init 104 = .ok (.aload_n 0, 1) := by decide +kernel
theorem dX8_init_105 : decode cX8_init 105 = .ok (.getfield 22, 3) := by decide +kernel
theorem dX8_init_108 : decode cX8_init 108 = .ok (.arraylength, 1) := by decide +kernel
theorem dX8_init_109 : decode cX8_init 109 = .ok (.if_icmp .ge 22, 3) := by decide +kernel
theorem dX8_init_112 : decode cX8_init 112 = .ok (.aload_n 0, 1) := by decide +kernel
theorem dX8_init_113 : decode cX8_init 113 = .ok (.getfield 22, 3) := by decide +kernel
theorem dX8_init_116 : decode cX8_init 116 = .ok (.iload_n 1, 1) := by decide +kernel
theorem dX8_init_117 : decode cX8_init 117 = .ok (.new 9, 3) := by decide +kernel
theorem dX8_init_120 : decode cX8_init 120 = .ok (.dup, 1) := by decide +kernel
theorem dX8_init_121 : decode cX8_init 121 = .ok (.invokespecial 11, 3) := by decide +kernel
theorem dX8_init_124 : decode cX8_init 124 = .ok (.aastore, 1) := by decide +kernel
theorem dX8_init_125 : decode cX8_init 125 = .ok (.iinc 1 1, 3) := by decide +kernel
theorem dX8_init_128 : decode cX8_init 128 = .ok (.goto (-25), 3) := by decide +kernel
theorem dX8_init_131 : decode cX8_init 131 = .ok (.return_, 1) := by decide +kernel
theorem dX8_setVariables_0 : decode cX8_setVariables 0 = .ok (.iload_n 1, 1) := by decide +kernel
theorem dX8_setVariables_1 : decode cX8_setVariables 1 = .ok (.iconst 1, 1) := by decide +kernel
theorem dX8_setVariables_2 : decode cX8_setVariables 2 = .ok (.if_icmp .lt 8, 3) := by decide +kernel
theorem dX8_setVariables_5 : decode cX8_setVariables 5 = .ok (.iload_n 1, 1) := by decide +kernel
theorem dX8_setVariables_6 : decode cX8_setVariables 6 = .ok (.iconst 4, 1) := by decide +kernel
theorem dX8_setVariables_7 : decode cX8_setVariables 7 = .ok (.if_icmp .le 13, 3) := by decide +kernel
theorem dX8_setVariables_10 : decode cX8_setVariables 10 = .ok (.new 57, 3) := by decide +kernel
theorem dX8_setVariables_13 : decode cX8_setVariables 13 = .ok (.dup, 1) := by decide +kernel
theorem dX8_setVariables_14 : decode cX8_setVariables 14 = .ok (.ldc 59, 2) := by decide +kernel
theorem dX8_setVariables_16 : decode cX8_setVariables 16 = .ok (.invokespecial 61, 3) := by decide +kernel
theorem dX8_setVariables_19 : decode cX8_setVariables 19 = .ok (.athrow, 1) := by decide +kernel
theorem dX8_setVariables_20 : decode cX8_setVariables 20 = .ok (.aload_n 0, 1) := by decide +kernel
theorem dX8_setVariables_21 : decode cX8_setVariables 21 = .ok (.invokevirtual 64, 3) := by decide +kernel
theorem dX8_setVariables_24 : decode cX8_setVariables 24 = .ok (.aload_n 0, 1) := by decide +kernel
theorem dX8_setVariables_25 : decode cX8_setVariables 25 = .ok (.getfield 12, 3) := by decide +kernel
theorem dX8_setVariables_28 : decode cX8_setVariables 28 = .ok (.getfield 67, 3) := by decide +kernel
theorem dX8_setVariables_31 : decode cX8_setVariables 31 = .ok (.getfield 71, 3) := by decide +kernel
theorem dX8_setVariables_34 : decode cX8_setVariables 34 = .ok (.istore_n 2, 1) := by decide +kernel
theorem dX8_setVariables_35 : decode cX8_setVariables 35 = .ok (.aload_n 0, 1) := by decide +kernel
theorem dX8_setVariables_36 : decode cX8_setVariables 36 = .ok (.getfield 12, 3) := by decide +kernel
theorem dX8_setVariables_39 : decode cX8_setVariables 39 = .ok (.getfield 67, 3) := by decide +kernel
theorem dX8_setVariables_42 : decode cX8_setVariables 42 = .ok (.iload_n 1, 1) := by decide +kernel
theorem dX8_setVariables_43 : decode cX8_setVariables 43 = .ok (.invokevirtual 77, 3) := by decide +kernel
theorem dX8_setVariables_46 : decode cX8_setVariables 46 = .ok (.aload_n 0, 1) := by decide +kernel
theorem dX8_setVariables_47 : decode cX8_setVariables 47 = .ok (.getfield 12, 3) := by decide +kernel
theorem dX8_setVariables_50 : decode cX8_setVariables 50 = .ok (.invokevirtual 81, 3) := by decide +kernel
theorem dX8_setVariables_53 : decode cX8_setVariables 53 = .ok (.iload_n 2, 1) := by decide +kernel
theorem dX8_setVariables_54 : decode cX8_setVariables 54 = .ok (.ireturn, 1) := by decide +kernel
theorem dX8_setProfit_0 : decode cX8_setProfit 0 = .ok (.aload_n 0, 1) := by decide +kernel
theorem dX8_setProfit_1 : decode cX8_setProfit 1 = .ok (.iload_n 1, 1) := by decide +kernel
theorem dX8_setProfit_2 : decode cX8_setProfit 2 = .ok (.invokevirtual 84, 3) := by decide +kernel
theorem dX8_setProfit_5 : decode cX8_setProfit 5 = .ok (.iload_n 2, 1) := by decide +kernel
theorem dX8_setProfit_6 : decode cX8_setProfit 6 = .ok (.invokestatic 87, 3) := by decide +kernel
theorem dX8_setProfit_9 : decode cX8_setProfit 9 = .ok (.aload_n 0, 1) := by decide +kernel
theorem dX8_setProfit_10 : decode cX8_setProfit 10 = .ok (.invokevirtual 64, 3) := by decide +kernel
theorem dX8_setProfit_13 : decode cX8_setProfit 13 = .ok (.aload_n 0, 1) := by decide +kernel
theorem dX8_setProfit_14 : decode cX8_setProfit 14 = .ok (.getfield 12, 3) := by decide +kernel
theorem dX8_setProfit_17 : decode cX8_setProfit 17 = .ok (.getfield 67, 3) := by decide +kernel
theorem dX8_setProfit_20 : decode cX8_setProfit 20 = .ok (.iload_n 1, 1) := by decide +kernel
theorem dX8_setProfit_21 : decode cX8_setProfit 21 = .ok (.invokevirtual 90, 3) := by decide +kernel
theorem dX8_setProfit_24 : decode cX8_setProfit 24 = .ok (.istore_n 3, 1) := by decide +kernel
theorem dX8_setProfit_25 : decode cX8_setProfit 25 = .ok (.aload_n 0, 1) := by decide +kernel
theorem dX8_setProfit_26 : decode cX8_setProfit 26 = .ok (.getfield 12, 3) := by decide +kernel
theorem dX8_setProfit_29 : decode cX8_setProfit 29 = .ok (.getfield 67, 3) := by decide +kernel
theorem dX8_setProfit_32 : decode cX8_setProfit 32 = .ok (.iload_n 1, 1) := by decide +kernel
theorem dX8_setProfit_33 : decode cX8_setProfit 33 = .ok (.iload_n 2, 1) := by decide +kernel
theorem dX8_setProfit_34 : decode cX8_setProfit 34 = .ok (.invokevirtual 94, 3) := by decide +kernel
theorem dX8_setProfit_37 : decode cX8_setProfit 37 = .ok (.aload_n 0, 1) := by decide +kernel
theorem dX8_setProfit_38 : decode cX8_setProfit 38 = .ok (.getfield 12, 3) := by decide +kernel
theorem dX8_setProfit_41 : decode cX8_setProfit 41 = .ok (.invokevirtual 81, 3) := by decide +kernel
theorem dX8_setProfit_44 : decode cX8_setProfit 44 = .ok (.iload_n 3, 1) := by decide +kernel
theorem dX8_setProfit_45 : decode cX8_setProfit 45 = .ok (.ireturn, 1) := by decide +kernel
theorem dX8_addConstraint_0 : decode cX8_addConstraint 0 = .ok (.iload_n 1, 1) := by decide +kernel
theorem dX8_addConstraint_1 : decode cX8_addConstraint 1 = .ok (.invokestatic 98, 3) := by decide +kernel
theorem dX8_addConstraint_4 : decode cX8_addConstraint 4 = .ok (.aload_n 0, 1) := by decide +kernel
theorem dX8_addConstraint_5 : decode cX8_addConstraint 5 = .ok (.getfield 12, 3) := by decide +kernel
theorem dX8_addConstraint_8 : decode cX8_addConstraint 8 = .ok (.getfield 67, 3) := by decide +kernel
theorem dX8_addConstraint_11 : decode cX8_addConstraint 11 = .ok (.getfield 101, 3) := by decide +kernel
theorem dX8_addConstraint_14 : decode cX8_addConstraint 14 = .ok (.iconst 4, 1) := by decide +kernel
theorem dX8_addConstraint_15 : decode cX8_addConstraint 15 = .ok (.if_icmp .lt 13, 3) := by decide +kernel
theorem dX8_addConstraint_18 : decode cX8_addConstraint 18 = .ok (.new 104, 3) := by decide +kernel
theorem dX8_addConstraint_21 : decode cX8_addConstraint 21 = .ok (.dup, 1) := by decide +kernel
theorem dX8_addConstraint_22 : decode cX8_addConstraint 22 = .ok (.ldc 106, 2) := by decide +kernel
theorem dX8_addConstraint_24 : decode cX8_addConstraint 24 = .ok (.invokespecial 108, 3) := by decide +kernel
theorem dX8_addConstraint_27 : decode cX8_addConstraint 27 = .ok (.athrow, 1) := by decide +kernel
theorem dX8_addConstraint_28 : decode cX8_addConstraint 28 = .ok (.aload_n 0, 1) := by decide +kernel
theorem dX8_addConstraint_29 : decode cX8_addConstraint 29 = .ok (.invokevirtual 64, 3) := by decide +kernel
theorem dX8_addConstraint_32 : decode cX8_addConstraint 32 = .ok (.aload_n 0, 1) := by decide +kernel
theorem dX8_addConstraint_33 : decode cX8_addConstraint 33 = .ok (.getfield 12, 3) := by decide +kernel
theorem dX8_addConstraint_36 : decode cX8_addConstraint 36 = .ok (.getfield 67, 3) := by decide +kernel
theorem dX8_addConstraint_39 : decode cX8_addConstraint 39 = .ok (.iload_n 1, 1) := by decide +kernel
theorem dX8_addConstraint_40 : decode cX8_addConstraint 40 = .ok (.invokevirtual 109, 3) := by decide +kernel
theorem dX8_addConstraint_43 : decode cX8_addConstraint 43 = .ok (.istore_n 2, 1) := by decide +kernel
theorem dX8_addConstraint_44 : decode cX8_addConstraint 44 = .ok (.aload_n 0, 1) := by decide +kernel
theorem dX8_addConstraint_45 : decode cX8_addConstraint 45 = .ok (.getfield 12, 3) := by decide +kernel
theorem dX8_addConstraint_48 : decode cX8_addConstraint 48 = .ok (.invokevirtual 81, 3) := by decide +kernel
theorem dX8_addConstraint_51 : decode cX8_addConstraint 51 = .ok (.iload_n 2, 1) := by decide +kernel
theorem dX8_addConstraint_52 : decode cX8_addConstraint 52 = .ok (.ireturn, 1) := by decide +kernel
theorem dX8_setCoefficient_0 : decode cX8_setCoefficient 0 = .ok (.aload_n 0, 1) := by decide +kernel
theorem dX8_setCoefficient_1 : decode cX8_setCoefficient 1 = .ok (.iload_n 1, 1) := by decide +kernel
theorem dX8_setCoefficient_2 : decode cX8_setCoefficient 2 = .ok (.invokevirtual 112, 3) := by decide +kernel
theorem dX8_setCoefficient_5 : decode cX8_setCoefficient 5 = .ok (.aload_n 0, 1) := by decide +kernel
theorem dX8_setCoefficient_6 : decode cX8_setCoefficient 6 = .ok (.iload_n 2, 1) := by decide +kernel
theorem dX8_setCoefficient_7 : decode cX8_setCoefficient 7 = .ok (.invokevirtual 84, 3) := by decide +kernel
theorem dX8_setCoefficient_10 : decode cX8_setCoefficient 10 = .ok (.iload_n 3, 1) := by decide +kernel
theorem dX8_setCoefficient_11 : decode cX8_setCoefficient 11 = .ok (.invokestatic 87, 3) := by decide +kernel
theorem dX8_setCoefficient_14 : decode cX8_setCoefficient 14 = .ok (.aload_n 0, 1) := by decide +kernel
theorem dX8_setCoefficient_15 : decode cX8_setCoefficient 15 = .ok (.invokevirtual 64, 3) := by decide +kernel
theorem dX8_setCoefficient_18 : decode cX8_setCoefficient 18 = .ok (.aload_n 0, 1) := by decide +kernel
theorem dX8_setCoefficient_19 : decode cX8_setCoefficient 19 = .ok (.getfield 12, 3) := by decide +kernel
theorem dX8_setCoefficient_22 : decode cX8_setCoefficient 22 = .ok (.getfield 67, 3) := by decide +kernel
theorem dX8_setCoefficient_25 : decode cX8_setCoefficient 25 = .ok (.iload_n 1, 1) := by decide +kernel
theorem dX8_setCoefficient_26 : decode cX8_setCoefficient 26 = .ok (.iload_n 2, 1) := by decide +kernel
theorem dX8_setCoefficient_27 : decode cX8_setCoefficient 27 = .ok (.invokevirtual 115, 3) := by decide +kernel
theorem dX8_setCoefficient_30 : decode cX8_setCoefficient 30 = .ok (.istore 4, 2) := by decide +kernel
theorem dX8_setCoefficient_32 : decode cX8_setCoefficient 32 = .ok (.aload_n 0, 1) := by decide +kernel
theorem dX8_setCoefficient_33 : decode cX8_setCoefficient 33 = .ok (.getfield 12, 3) := by decide +kernel
theorem dX8_setCoefficient_36 : decode cX8_setCoefficient 36 = .ok (.getfield 67, 3) := by decide +kernel
theorem dX8_setCoefficient_39 : decode cX8_setCoefficient 39 = .ok (.iload_n 1, 1) := by decide +kernel
theorem dX8_setCoefficient_40 : decode cX8_setCoefficient 40 = .ok (.iload_n 2, 1) := by decide +kernel
theorem dX8_setCoefficient_41 : decode cX8_setCoefficient 41 = .ok (.iload_n 3, 1) := by decide +kernel
theorem dX8_setCoefficient_42 : decode cX8_setCoefficient 42 = .ok (.invokevirtual 119, 3) := by decide +kernel
theorem dX8_setCoefficient_45 : decode cX8_setCoefficient 45 = .ok (.aload_n 0, 1) := by decide +kernel
theorem dX8_setCoefficient_46 : decode cX8_setCoefficient 46 = .ok (.getfield 12, 3) := by decide +kernel
theorem dX8_setCoefficient_49 : decode cX8_setCoefficient 49 = .ok (.invokevirtual 81, 3) := by decide +kernel
theorem dX8_setCoefficient_52 : decode cX8_setCoefficient 52 = .ok (.iload 4, 2) := by decide +kernel
theorem dX8_setCoefficient_54 : decode cX8_setCoefficient 54 = .ok (.ireturn, 1) := by decide +kernel
theorem dX8_setBound_0 : decode cX8_setBound 0 = .ok (.aload_n 0, 1) := by decide +kernel
theorem dX8_setBound_1 : decode cX8_setBound 1 = .ok (.iload_n 1, 1) := by decide +kernel
theorem dX8_setBound_2 : decode cX8_setBound 2 = .ok (.invokevirtual 112, 3) := by decide +kernel
theorem dX8_setBound_5 : decode cX8_setBound 5 = .ok (.iload_n 2, 1) := by decide +kernel
theorem dX8_setBound_6 : decode cX8_setBound 6 = .ok (.invokestatic 98, 3) := by decide +kernel
theorem dX8_setBound_9 : decode cX8_setBound 9 = .ok (.aload_n 0, 1) := by decide +kernel
theorem dX8_setBound_10 : decode cX8_setBound 10 = .ok (.invokevirtual 64, 3) := by decide +kernel
theorem dX8_setBound_13 : decode cX8_setBound 13 = .ok (.aload_n 0, 1) := by decide +kernel
theorem dX8_setBound_14 : decode cX8_setBound 14 = .ok (.getfield 12, 3) := by decide +kernel
theorem dX8_setBound_17 : decode cX8_setBound 17 = .ok (.getfield 67, 3) := by decide +kernel
theorem dX8_setBound_20 : decode cX8_setBound 20 = .ok (.iload_n 1, 1) := by decide +kernel
theorem dX8_setBound_21 : decode cX8_setBound 21 = .ok (.invokevirtual 123, 3) := by decide +kernel
theorem dX8_setBound_24 : decode cX8_setBound 24 = .ok (.istore_n 3, 1) := by decide +kernel
theorem dX8_setBound_25 : decode cX8_setBound 25 = .ok (.aload_n 0, 1) := by decide +kernel
theorem dX8_setBound_26 : decode cX8_setBound 26 = .ok (.getfield 12, 3) := by decide +kernel
theorem dX8_setBound_29 : decode cX8_setBound 29 = .ok (.getfield 67, 3) := by decide +kernel
theorem dX8_setBound_32 : decode cX8_setBound 32 = .ok (.iload_n 1, 1) := by decide +kernel
theorem dX8_setBound_33 : decode cX8_setBound 33 = .ok (.iload_n 2, 1) := by decide +kernel
theorem dX8_setBound_34 : decode cX8_setBound 34 = .ok (.invokevirtual 126, 3) := by decide +kernel
theorem dX8_setBound_37 : decode cX8_setBound 37 = .ok (.aload_n 0, 1) := by decide +kernel
theorem dX8_setBound_38 : decode cX8_setBound 38 = .ok (.getfield 12, 3) := by decide +kernel
theorem dX8_setBound_41 : decode cX8_setBound 41 = .ok (.invokevirtual 81, 3) := by decide +kernel
theorem dX8_setBound_44 : decode cX8_setBound 44 = .ok (.iload_n 3, 1) := by decide +kernel
theorem dX8_setBound_45 : decode cX8_setBound 45 = .ok (.ireturn, 1) := by decide +kernel
theorem dX8_dropConstraint_0 : decode cX8_dropConstraint 0 = .ok (.aload_n 0, 1) := by decide +kernel
theorem dX8_dropConstraint_1 : decode cX8_dropConstraint 1 = .ok (.iload_n 1, 1) := by decide +kernel
theorem dX8_dropConstraint_2 : decode cX8_dropConstraint 2 = .ok (.invokevirtual 112, 3) := by decide +kernel
theorem dX8_dropConstraint_5 : decode cX8_dropConstraint 5 = .ok (.aload_n 0, 1) := by decide +kernel
theorem dX8_dropConstraint_6 : decode cX8_dropConstraint 6 = .ok (.invokevirtual 64, 3) := by decide +kernel
theorem dX8_dropConstraint_9 : decode cX8_dropConstraint 9 = .ok (.aload_n 0, 1) := by decide +kernel
theorem dX8_dropConstraint_10 : decode cX8_dropConstraint 10 = .ok (.getfield 12, 3) := by decide +kernel
theorem dX8_dropConstraint_13 : decode cX8_dropConstraint 13 = .ok (.getfield 67, 3) := by decide +kernel
theorem dX8_dropConstraint_16 : decode cX8_dropConstraint 16 = .ok (.iload_n 1, 1) := by decide +kernel
theorem dX8_dropConstraint_17 : decode cX8_dropConstraint 17 = .ok (.invokevirtual 129, 3) := by decide +kernel
theorem dX8_dropConstraint_20 : decode cX8_dropConstraint 20 = .ok (.aload_n 0, 1) := by decide +kernel
theorem dX8_dropConstraint_21 : decode cX8_dropConstraint 21 = .ok (.getfield 12, 3) := by decide +kernel
theorem dX8_dropConstraint_24 : decode cX8_dropConstraint 24 = .ok (.invokevirtual 81, 3) := by decide +kernel
theorem dX8_dropConstraint_27 : decode cX8_dropConstraint 27 = .ok (.aload_n 0, 1) := by decide +kernel
theorem dX8_dropConstraint_28 : decode cX8_dropConstraint 28 = .ok (.getfield 12, 3) := by decide +kernel
theorem dX8_dropConstraint_31 : decode cX8_dropConstraint 31 = .ok (.getfield 67, 3) := by decide +kernel
theorem dX8_dropConstraint_34 : decode cX8_dropConstraint 34 = .ok (.getfield 101, 3) := by decide +kernel
theorem dX8_dropConstraint_37 : decode cX8_dropConstraint 37 = .ok (.ireturn, 1) := by decide +kernel
theorem dX8_begin_0 : decode cX8_begin 0 = .ok (.aload_n 0, 1) := by decide +kernel
theorem dX8_begin_1 : decode cX8_begin 1 = .ok (.invokevirtual 64, 3) := by decide +kernel
theorem dX8_begin_4 : decode cX8_begin 4 = .ok (.aload_n 0, 1) := by decide +kernel
theorem dX8_begin_5 : decode cX8_begin 5 = .ok (.getfield 12, 3) := by decide +kernel
theorem dX8_begin_8 : decode cX8_begin 8 = .ok (.getfield 132, 3) := by decide +kernel
theorem dX8_begin_11 : decode cX8_begin 11 = .ok (.istore_n 1, 1) := by decide +kernel
theorem dX8_begin_12 : decode cX8_begin 12 = .ok (.aload_n 0, 1) := by decide +kernel
theorem dX8_begin_13 : decode cX8_begin 13 = .ok (.getfield 12, 3) := by decide +kernel
theorem dX8_begin_16 : decode cX8_begin 16 = .ok (.invokevirtual 81, 3) := by decide +kernel
theorem dX8_begin_19 : decode cX8_begin 19 = .ok (.iload_n 1, 1) := by decide +kernel
theorem dX8_begin_20 : decode cX8_begin 20 = .ok (.ireturn, 1) := by decide +kernel
theorem dX8_pivot_0 : decode cX8_pivot 0 = .ok (.aload_n 0, 1) := by decide +kernel
theorem dX8_pivot_1 : decode cX8_pivot 1 = .ok (.iload_n 1, 1) := by decide +kernel
theorem dX8_pivot_2 : decode cX8_pivot 2 = .ok (.invokevirtual 135, 3) := by decide +kernel
theorem dX8_pivot_5 : decode cX8_pivot 5 = .ok (.aload_n 0, 1) := by decide +kernel
theorem dX8_pivot_6 : decode cX8_pivot 6 = .ok (.iload_n 2, 1) := by decide +kernel
theorem dX8_pivot_7 : decode cX8_pivot 7 = .ok (.invokevirtual 138, 3) := by decide +kernel
theorem dX8_pivot_10 : decode cX8_pivot 10 = .ok (.aload_n 0, 1) := by decide +kernel
theorem dX8_pivot_11 : decode cX8_pivot 11 = .ok (.getfield 12, 3) := by decide +kernel
theorem dX8_pivot_14 : decode cX8_pivot 14 = .ok (.getfield 141, 3) := by decide +kernel
theorem dX8_pivot_17 : decode cX8_pivot 17 = .ok (.iload_n 1, 1) := by decide +kernel
theorem dX8_pivot_18 : decode cX8_pivot 18 = .ok (.iload_n 2, 1) := by decide +kernel
theorem dX8_pivot_19 : decode cX8_pivot 19 = .ok (.invokevirtual 145, 3) := by decide +kernel
theorem dX8_pivot_22 : decode cX8_pivot 22 = .ok (.ifCond .eq 13, 3) := by decide +kernel
theorem dX8_pivot_25 : decode cX8_pivot 25 = .ok (.new 104, 3) := by decide +kernel
theorem dX8_pivot_28 : decode cX8_pivot 28 = .ok (.dup, 1) := by decide +kernel
theorem dX8_pivot_29 : decode cX8_pivot 29 = .ok (.ldc 150, 2) := by decide +kernel
theorem dX8_pivot_31 : decode cX8_pivot 31 = .ok (.invokespecial 108, 3) := by decide +kernel
theorem dX8_pivot_34 : decode cX8_pivot 34 = .ok (.athrow, 1) := by decide +kernel
theorem dX8_pivot_35 : decode cX8_pivot 35 = .ok (.aload_n 0, 1) := by decide +kernel
theorem dX8_pivot_36 : decode cX8_pivot 36 = .ok (.invokevirtual 64, 3) := by decide +kernel
theorem dX8_pivot_39 : decode cX8_pivot 39 = .ok (.aload_n 0, 1) := by decide +kernel
theorem dX8_pivot_40 : decode cX8_pivot 40 = .ok (.getfield 12, 3) := by decide +kernel
theorem dX8_pivot_43 : decode cX8_pivot 43 = .ok (.getfield 141, 3) := by decide +kernel
theorem dX8_pivot_46 : decode cX8_pivot 46 = .ok (.iload_n 1, 1) := by decide +kernel
theorem dX8_pivot_47 : decode cX8_pivot 47 = .ok (.invokevirtual 152, 3) := by decide +kernel
theorem dX8_pivot_50 : decode cX8_pivot 50 = .ok (.istore_n 3, 1) := by decide +kernel
theorem dX8_pivot_51 : decode cX8_pivot 51 = .ok (.aload_n 0, 1) := by decide +kernel
theorem dX8_pivot_52 : decode cX8_pivot 52 = .ok (.getfield 12, 3) := by decide +kernel
theorem dX8_pivot_55 : decode cX8_pivot 55 = .ok (.iload_n 1, 1) := by decide +kernel
theorem dX8_pivot_56 : decode cX8_pivot 56 = .ok (.iload_n 2, 1) := by decide +kernel
theorem dX8_pivot_57 : decode cX8_pivot 57 = .ok (.invokevirtual 155, 3) := by decide +kernel
theorem dX8_pivot_60 : decode cX8_pivot 60 = .ok (.iload_n 3, 1) := by decide +kernel
theorem dX8_pivot_61 : decode cX8_pivot 61 = .ok (.ireturn, 1) := by decide +kernel
theorem dX8_step_0 : decode cX8_step 0 = .ok (.aload_n 0, 1) := by decide +kernel
theorem dX8_step_1 : decode cX8_step 1 = .ok (.invokevirtual 158, 3) := by decide +kernel
theorem dX8_step_4 : decode cX8_step 4 = .ok (.aload_n 0, 1) := by decide +kernel
theorem dX8_step_5 : decode cX8_step 5 = .ok (.invokevirtual 64, 3) := by decide +kernel
theorem dX8_step_8 : decode cX8_step 8 = .ok (.aload_n 0, 1) := by decide +kernel
theorem dX8_step_9 : decode cX8_step 9 = .ok (.getfield 12, 3) := by decide +kernel
theorem dX8_step_12 : decode cX8_step 12 = .ok (.invokevirtual 161, 3) := by decide +kernel
theorem dX8_step_15 : decode cX8_step 15 = .ok (.istore_n 1, 1) := by decide +kernel
theorem dX8_step_16 : decode cX8_step 16 = .ok (.aload_n 0, 1) := by decide +kernel
theorem dX8_step_17 : decode cX8_step 17 = .ok (.getfield 12, 3) := by decide +kernel
theorem dX8_step_20 : decode cX8_step 20 = .ok (.aload_n 0, 1) := by decide +kernel
theorem dX8_step_21 : decode cX8_step 21 = .ok (.getfield 12, 3) := by decide +kernel
theorem dX8_step_24 : decode cX8_step 24 = .ok (.getfield 141, 3) := by decide +kernel
theorem dX8_step_27 : decode cX8_step 27 = .ok (.iload_n 1, 1) := by decide +kernel
theorem dX8_step_28 : decode cX8_step 28 = .ok (.invokevirtual 165, 3) := by decide +kernel
theorem dX8_step_31 : decode cX8_step 31 = .ok (.iload_n 1, 1) := by decide +kernel
theorem dX8_step_32 : decode cX8_step 32 = .ok (.invokevirtual 155, 3) := by decide +kernel
theorem dX8_step_35 : decode cX8_step 35 = .ok (.iload_n 1, 1) := by decide +kernel
theorem dX8_step_36 : decode cX8_step 36 = .ok (.ireturn, 1) := by decide +kernel
theorem dX8_solve_0 : decode cX8_solve 0 = .ok (.aload_n 0, 1) := by decide +kernel
theorem dX8_solve_1 : decode cX8_solve 1 = .ok (.invokevirtual 64, 3) := by decide +kernel
theorem dX8_solve_4 : decode cX8_solve 4 = .ok (.aload_n 0, 1) := by decide +kernel
theorem dX8_solve_5 : decode cX8_solve 5 = .ok (.getfield 12, 3) := by decide +kernel
theorem dX8_solve_8 : decode cX8_solve 8 = .ok (.invokevirtual 168, 3) := by decide +kernel
theorem dX8_solve_11 : decode cX8_solve 11 = .ok (.ireturn, 1) := by decide +kernel
theorem dX8_setRule_0 : decode cX8_setRule 0 = .ok (.iload_n 1, 1) := by decide +kernel
theorem dX8_setRule_1 : decode cX8_setRule 1 = .ok (.ifCond .lt 8, 3) := by decide +kernel
theorem dX8_setRule_4 : decode cX8_setRule 4 = .ok (.iload_n 1, 1) := by decide +kernel
theorem dX8_setRule_5 : decode cX8_setRule 5 = .ok (.iconst 2, 1) := by decide +kernel
theorem dX8_setRule_6 : decode cX8_setRule 6 = .ok (.if_icmp .le 13, 3) := by decide +kernel
theorem dX8_setRule_9 : decode cX8_setRule 9 = .ok (.new 57, 3) := by decide +kernel
theorem dX8_setRule_12 : decode cX8_setRule 12 = .ok (.dup, 1) := by decide +kernel
theorem dX8_setRule_13 : decode cX8_setRule 13 = .ok (.ldc 171, 2) := by decide +kernel
theorem dX8_setRule_15 : decode cX8_setRule 15 = .ok (.invokespecial 61, 3) := by decide +kernel
theorem dX8_setRule_18 : decode cX8_setRule 18 = .ok (.athrow, 1) := by decide +kernel
theorem dX8_setRule_19 : decode cX8_setRule 19 = .ok (.aload_n 0, 1) := by decide +kernel
theorem dX8_setRule_20 : decode cX8_setRule 20 = .ok (.invokevirtual 64, 3) := by decide +kernel
theorem dX8_setRule_23 : decode cX8_setRule 23 = .ok (.aload_n 0, 1) := by decide +kernel
theorem dX8_setRule_24 : decode cX8_setRule 24 = .ok (.getfield 12, 3) := by decide +kernel
theorem dX8_setRule_27 : decode cX8_setRule 27 = .ok (.getfield 173, 3) := by decide +kernel
theorem dX8_setRule_30 : decode cX8_setRule 30 = .ok (.istore_n 2, 1) := by decide +kernel
theorem dX8_setRule_31 : decode cX8_setRule 31 = .ok (.aload_n 0, 1) := by decide +kernel
theorem dX8_setRule_32 : decode cX8_setRule 32 = .ok (.getfield 12, 3) := by decide +kernel
theorem dX8_setRule_35 : decode cX8_setRule 35 = .ok (.iload_n 1, 1) := by decide +kernel
theorem dX8_setRule_36 : decode cX8_setRule 36 = .ok (.putfield 173, 3) := by decide +kernel
theorem dX8_setRule_39 : decode cX8_setRule 39 = .ok (.iload_n 2, 1) := by decide +kernel
theorem dX8_setRule_40 : decode cX8_setRule 40 = .ok (.ireturn, 1) := by decide +kernel
theorem dX8_undo_0 : decode cX8_undo 0 = .ok (.aload_n 0, 1) := by decide +kernel
theorem dX8_undo_1 : decode cX8_undo 1 = .ok (.getfield 210, 3) := by decide +kernel
theorem dX8_undo_4 : decode cX8_undo 4 = .ok (.iconst 1, 1) := by decide +kernel
theorem dX8_undo_5 : decode cX8_undo 5 = .ok (.if_icmp .lt 15, 3) := by decide +kernel
theorem dX8_undo_8 : decode cX8_undo 8 = .ok (.aload_n 0, 1) := by decide +kernel
theorem dX8_undo_9 : decode cX8_undo 9 = .ok (.getfield 210, 3) := by decide +kernel
theorem dX8_undo_12 : decode cX8_undo 12 = .ok (.aload_n 0, 1) := by decide +kernel
theorem dX8_undo_13 : decode cX8_undo 13 = .ok (.getfield 22, 3) := by decide +kernel
theorem dX8_undo_16 : decode cX8_undo 16 = .ok (.arraylength, 1) := by decide +kernel
theorem dX8_undo_17 : decode cX8_undo 17 = .ok (.if_icmp .le 13, 3) := by decide +kernel
theorem dX8_undo_20 : decode cX8_undo 20 = .ok (.new 104, 3) := by decide +kernel
theorem dX8_undo_23 : decode cX8_undo 23 = .ok (.dup, 1) := by decide +kernel
theorem dX8_undo_24 : decode cX8_undo 24 = .ok (.ldc 213, 2) := by decide +kernel
theorem dX8_undo_26 : decode cX8_undo 26 = .ok (.invokespecial 108, 3) := by decide +kernel
theorem dX8_undo_29 : decode cX8_undo 29 = .ok (.athrow, 1) := by decide +kernel
theorem dX8_undo_30 : decode cX8_undo 30 = .ok (.aload_n 0, 1) := by decide +kernel
theorem dX8_undo_31 : decode cX8_undo 31 = .ok (.dup, 1) := by decide +kernel
theorem dX8_undo_32 : decode cX8_undo 32 = .ok (.getfield 210, 3) := by decide +kernel
theorem dX8_undo_35 : decode cX8_undo 35 = .ok (.iconst 1, 1) := by decide +kernel
theorem dX8_undo_36 : decode cX8_undo 36 = .ok (.isub, 1) := by decide +kernel
theorem dX8_undo_37 : decode cX8_undo 37 = .ok (.putfield 210, 3) := by decide +kernel
theorem dX8_undo_40 : decode cX8_undo 40 = .ok (.aload_n 0, 1) := by decide +kernel
theorem dX8_undo_41 : decode cX8_undo 41 = .ok (.getfield 12, 3) := by decide +kernel
theorem dX8_undo_44 : decode cX8_undo 44 = .ok (.aload_n 0, 1) := by decide +kernel
theorem dX8_undo_45 : decode cX8_undo 45 = .ok (.getfield 22, 3) := by decide +kernel
theorem dX8_undo_48 : decode cX8_undo 48 = .ok (.aload_n 0, 1) := by decide +kernel
theorem dX8_undo_49 : decode cX8_undo 49 = .ok (.getfield 210, 3) := by decide +kernel
theorem dX8_undo_52 : decode cX8_undo 52 = .ok (.aaload, 1) := by decide +kernel
theorem dX8_undo_53 : decode cX8_undo 53 = .ok (.invokevirtual 215, 3) := by decide +kernel
theorem dX8_undo_56 : decode cX8_undo 56 = .ok (.aload_n 0, 1) := by decide +kernel
theorem dX8_undo_57 : decode cX8_undo 57 = .ok (.getfield 210, 3) := by decide +kernel
theorem dX8_undo_60 : decode cX8_undo 60 = .ok (.ireturn, 1) := by decide +kernel
theorem dX8_savedStates_0 : decode cX8_savedStates 0 = .ok (.aload_n 0, 1) := by decide +kernel
theorem dX8_savedStates_1 : decode cX8_savedStates 1 = .ok (.getfield 210, 3) := by decide +kernel
theorem dX8_savedStates_4 : decode cX8_savedStates 4 = .ok (.ireturn, 1) := by decide +kernel
theorem dX8_variables_0 : decode cX8_variables 0 = .ok (.aload_n 0, 1) := by decide +kernel
theorem dX8_variables_1 : decode cX8_variables 1 = .ok (.getfield 12, 3) := by decide +kernel
theorem dX8_variables_4 : decode cX8_variables 4 = .ok (.getfield 67, 3) := by decide +kernel
theorem dX8_variables_7 : decode cX8_variables 7 = .ok (.getfield 71, 3) := by decide +kernel
theorem dX8_variables_10 : decode cX8_variables 10 = .ok (.ireturn, 1) := by decide +kernel
theorem dX8_constraints_0 : decode cX8_constraints 0 = .ok (.aload_n 0, 1) := by decide +kernel
theorem dX8_constraints_1 : decode cX8_constraints 1 = .ok (.getfield 12, 3) := by decide +kernel
theorem dX8_constraints_4 : decode cX8_constraints 4 = .ok (.getfield 67, 3) := by decide +kernel
theorem dX8_constraints_7 : decode cX8_constraints 7 = .ok (.getfield 101, 3) := by decide +kernel
theorem dX8_constraints_10 : decode cX8_constraints 10 = .ok (.ireturn, 1) := by decide +kernel
theorem dX8_profitOf_0 : decode cX8_profitOf 0 = .ok (.aload_n 0, 1) := by decide +kernel
theorem dX8_profitOf_1 : decode cX8_profitOf 1 = .ok (.iload_n 1, 1) := by decide +kernel
theorem dX8_profitOf_2 : decode cX8_profitOf 2 = .ok (.invokevirtual 84, 3) := by decide +kernel
theorem dX8_profitOf_5 : decode cX8_profitOf 5 = .ok (.aload_n 0, 1) := by decide +kernel
theorem dX8_profitOf_6 : decode cX8_profitOf 6 = .ok (.getfield 12, 3) := by decide +kernel
theorem dX8_profitOf_9 : decode cX8_profitOf 9 = .ok (.getfield 67, 3) := by decide +kernel
theorem dX8_profitOf_12 : decode cX8_profitOf 12 = .ok (.iload_n 1, 1) := by decide +kernel
theorem dX8_profitOf_13 : decode cX8_profitOf 13 = .ok (.invokevirtual 90, 3) := by decide +kernel
theorem dX8_profitOf_16 : decode cX8_profitOf 16 = .ok (.ireturn, 1) := by decide +kernel
theorem dX8_coefficientOf_0 : decode cX8_coefficientOf 0 = .ok (.aload_n 0, 1) := by decide +kernel
theorem dX8_coefficientOf_1 : decode cX8_coefficientOf 1 = .ok (.iload_n 1, 1) := by decide +kernel
theorem dX8_coefficientOf_2 : decode cX8_coefficientOf 2 = .ok (.invokevirtual 112, 3) := by decide +kernel
theorem dX8_coefficientOf_5 : decode cX8_coefficientOf 5 = .ok (.aload_n 0, 1) := by decide +kernel
theorem dX8_coefficientOf_6 : decode cX8_coefficientOf 6 = .ok (.iload_n 2, 1) := by decide +kernel
theorem dX8_coefficientOf_7 : decode cX8_coefficientOf 7 = .ok (.invokevirtual 84, 3) := by decide +kernel
theorem dX8_coefficientOf_10 : decode cX8_coefficientOf 10 = .ok (.aload_n 0, 1) := by decide +kernel
theorem dX8_coefficientOf_11 : decode cX8_coefficientOf 11 = .ok (.getfield 12, 3) := by decide +kernel
theorem dX8_coefficientOf_14 : decode cX8_coefficientOf 14 = .ok (.getfield 67, 3) := by decide +kernel
theorem dX8_coefficientOf_17 : decode cX8_coefficientOf 17 = .ok (.iload_n 1, 1) := by decide +kernel
theorem dX8_coefficientOf_18 : decode cX8_coefficientOf 18 = .ok (.iload_n 2, 1) := by decide +kernel
theorem dX8_coefficientOf_19 : decode cX8_coefficientOf 19 = .ok (.invokevirtual 115, 3) := by decide +kernel
theorem dX8_coefficientOf_22 : decode cX8_coefficientOf 22 = .ok (.ireturn, 1) := by decide +kernel
theorem dX8_boundOf_0 : decode cX8_boundOf 0 = .ok (.aload_n 0, 1) := by decide +kernel
theorem dX8_boundOf_1 : decode cX8_boundOf 1 = .ok (.iload_n 1, 1) := by decide +kernel
theorem dX8_boundOf_2 : decode cX8_boundOf 2 = .ok (.invokevirtual 112, 3) := by decide +kernel
theorem dX8_boundOf_5 : decode cX8_boundOf 5 = .ok (.aload_n 0, 1) := by decide +kernel
theorem dX8_boundOf_6 : decode cX8_boundOf 6 = .ok (.getfield 12, 3) := by decide +kernel
theorem dX8_boundOf_9 : decode cX8_boundOf 9 = .ok (.getfield 67, 3) := by decide +kernel
theorem dX8_boundOf_12 : decode cX8_boundOf 12 = .ok (.iload_n 1, 1) := by decide +kernel
theorem dX8_boundOf_13 : decode cX8_boundOf 13 = .ok (.invokevirtual 123, 3) := by decide +kernel
theorem dX8_boundOf_16 : decode cX8_boundOf 16 = .ok (.ireturn, 1) := by decide +kernel
theorem dX8_rule_0 : decode cX8_rule 0 = .ok (.aload_n 0, 1) := by decide +kernel
theorem dX8_rule_1 : decode cX8_rule 1 = .ok (.getfield 12, 3) := by decide +kernel
theorem dX8_rule_4 : decode cX8_rule 4 = .ok (.getfield 173, 3) := by decide +kernel
theorem dX8_rule_7 : decode cX8_rule 7 = .ok (.ireturn, 1) := by decide +kernel
theorem dX8_columnOf_0 : decode cX8_columnOf 0 = .ok (.aload_n 0, 1) := by decide +kernel
theorem dX8_columnOf_1 : decode cX8_columnOf 1 = .ok (.iload_n 1, 1) := by decide +kernel
theorem dX8_columnOf_2 : decode cX8_columnOf 2 = .ok (.invokevirtual 135, 3) := by decide +kernel
theorem dX8_columnOf_5 : decode cX8_columnOf 5 = .ok (.aload_n 0, 1) := by decide +kernel
theorem dX8_columnOf_6 : decode cX8_columnOf 6 = .ok (.getfield 12, 3) := by decide +kernel
theorem dX8_columnOf_9 : decode cX8_columnOf 9 = .ok (.getfield 141, 3) := by decide +kernel
theorem dX8_columnOf_12 : decode cX8_columnOf 12 = .ok (.iload_n 1, 1) := by decide +kernel
theorem dX8_columnOf_13 : decode cX8_columnOf 13 = .ok (.invokevirtual 152, 3) := by decide +kernel
theorem dX8_columnOf_16 : decode cX8_columnOf 16 = .ok (.ireturn, 1) := by decide +kernel
theorem dX8_isNamed_0 : decode cX8_isNamed 0 = .ok (.aload_n 0, 1) := by decide +kernel
theorem dX8_isNamed_1 : decode cX8_isNamed 1 = .ok (.iload_n 1, 1) := by decide +kernel
theorem dX8_isNamed_2 : decode cX8_isNamed 2 = .ok (.invokevirtual 138, 3) := by decide +kernel
theorem dX8_isNamed_5 : decode cX8_isNamed 5 = .ok (.aload_n 0, 1) := by decide +kernel
theorem dX8_isNamed_6 : decode cX8_isNamed 6 = .ok (.getfield 12, 3) := by decide +kernel
theorem dX8_isNamed_9 : decode cX8_isNamed 9 = .ok (.getfield 141, 3) := by decide +kernel
theorem dX8_isNamed_12 : decode cX8_isNamed 12 = .ok (.iload_n 1, 1) := by decide +kernel
theorem dX8_isNamed_13 : decode cX8_isNamed 13 = .ok (.invokevirtual 227, 3) := by decide +kernel
theorem dX8_isNamed_16 : decode cX8_isNamed 16 = .ok (.ifCond .lt 7, 3) := by decide +kernel
theorem dX8_isNamed_19 : decode cX8_isNamed 19 = .ok (.iconst 1, 1) := by decide +kernel
theorem dX8_isNamed_20 : decode cX8_isNamed 20 = .ok (.goto 4, 3) := by decide +kernel
theorem dX8_isNamed_23 : decode cX8_isNamed 23 = .ok (.iconst 0, 1) := by decide +kernel
theorem dX8_isNamed_24 : decode cX8_isNamed 24 = .ok (.ireturn, 1) := by decide +kernel
theorem dX8_isOptimal_0 : decode cX8_isOptimal 0 = .ok (.aload_n 0, 1) := by decide +kernel
theorem dX8_isOptimal_1 : decode cX8_isOptimal 1 = .ok (.getfield 12, 3) := by decide +kernel
theorem dX8_isOptimal_4 : decode cX8_isOptimal 4 = .ok (.getfield 141, 3) := by decide +kernel
theorem dX8_isOptimal_7 : decode cX8_isOptimal 7 = .ok (.invokevirtual 230, 3) := by decide +kernel
theorem dX8_isOptimal_10 : decode cX8_isOptimal 10 = .ok (.ireturn, 1) := by decide +kernel
theorem dX8_hasRay_0 : decode cX8_hasRay 0 = .ok (.aload_n 0, 1) := by decide +kernel
theorem dX8_hasRay_1 : decode cX8_hasRay 1 = .ok (.getfield 12, 3) := by decide +kernel
theorem dX8_hasRay_4 : decode cX8_hasRay 4 = .ok (.getfield 141, 3) := by decide +kernel
theorem dX8_hasRay_7 : decode cX8_hasRay 7 = .ok (.invokevirtual 234, 3) := by decide +kernel
theorem dX8_hasRay_10 : decode cX8_hasRay 10 = .ok (.ifCond .lt 7, 3) := by decide +kernel
theorem dX8_hasRay_13 : decode cX8_hasRay 13 = .ok (.iconst 1, 1) := by decide +kernel
theorem dX8_hasRay_14 : decode cX8_hasRay 14 = .ok (.goto 4, 3) := by decide +kernel
theorem dX8_hasRay_17 : decode cX8_hasRay 17 = .ok (.iconst 0, 1) := by decide +kernel
theorem dX8_hasRay_18 : decode cX8_hasRay 18 = .ok (.ireturn, 1) := by decide +kernel
theorem dX8_pivots_0 : decode cX8_pivots 0 = .ok (.aload_n 0, 1) := by decide +kernel
theorem dX8_pivots_1 : decode cX8_pivots 1 = .ok (.getfield 12, 3) := by decide +kernel
theorem dX8_pivots_4 : decode cX8_pivots 4 = .ok (.getfield 132, 3) := by decide +kernel
theorem dX8_pivots_7 : decode cX8_pivots 7 = .ok (.ireturn, 1) := by decide +kernel
theorem dX8_allPivots_0 : decode cX8_allPivots 0 = .ok (.aload_n 0, 1) := by decide +kernel
theorem dX8_allPivots_1 : decode cX8_allPivots 1 = .ok (.getfield 12, 3) := by decide +kernel
theorem dX8_allPivots_4 : decode cX8_allPivots 4 = .ok (.getfield 222, 3) := by decide +kernel
theorem dX8_allPivots_7 : decode cX8_allPivots 7 = .ok (.ireturn, 1) := by decide +kernel
theorem dX8_idlePivots_0 : decode cX8_idlePivots 0 = .ok (.aload_n 0, 1) := by decide +kernel
theorem dX8_idlePivots_1 : decode cX8_idlePivots 1 = .ok (.getfield 12, 3) := by decide +kernel
theorem dX8_idlePivots_4 : decode cX8_idlePivots 4 = .ok (.getfield 237, 3) := by decide +kernel
theorem dX8_idlePivots_7 : decode cX8_idlePivots 7 = .ok (.ireturn, 1) := by decide +kernel
theorem dX8_entryNumerator_0 : decode cX8_entryNumerator 0 = .ok (.aload_n 0, 1) := by decide +kernel
theorem dX8_entryNumerator_1 : decode cX8_entryNumerator 1 = .ok (.iload_n 1, 1) := by decide +kernel
theorem dX8_entryNumerator_2 : decode cX8_entryNumerator 2 = .ok (.invokevirtual 135, 3) := by decide +kernel
theorem dX8_entryNumerator_5 : decode cX8_entryNumerator 5 = .ok (.aload_n 0, 1) := by decide +kernel
theorem dX8_entryNumerator_6 : decode cX8_entryNumerator 6 = .ok (.iload_n 2, 1) := by decide +kernel
theorem dX8_entryNumerator_7 : decode cX8_entryNumerator 7 = .ok (.invokevirtual 138, 3) := by decide +kernel
theorem dX8_entryNumerator_10 : decode cX8_entryNumerator 10 = .ok (.aload_n 0, 1) := by decide +kernel
theorem dX8_entryNumerator_11 : decode cX8_entryNumerator 11 = .ok (.getfield 12, 3) := by decide +kernel
theorem dX8_entryNumerator_14 : decode cX8_entryNumerator 14 = .ok (.getfield 141, 3) := by decide +kernel
theorem dX8_entryNumerator_17 : decode cX8_entryNumerator 17 = .ok (.iload_n 1, 1) := by decide +kernel
theorem dX8_entryNumerator_18 : decode cX8_entryNumerator 18 = .ok (.iload_n 2, 1) := by decide +kernel
theorem dX8_entryNumerator_19 : decode cX8_entryNumerator 19 = .ok (.invokevirtual 240, 3) := by decide +kernel
theorem dX8_entryNumerator_22 : decode cX8_entryNumerator 22 = .ok (.aload_n 0, 1) := by decide +kernel
theorem dX8_entryNumerator_23 : decode cX8_entryNumerator 23 = .ok (.getfield 12, 3) := by decide +kernel
theorem dX8_entryNumerator_26 : decode cX8_entryNumerator 26 = .ok (.getfield 141, 3) := by decide +kernel
theorem dX8_entryNumerator_29 : decode cX8_entryNumerator 29 = .ok (.getfield 244, 3) := by decide +kernel
theorem dX8_entryNumerator_32 : decode cX8_entryNumerator 32 = .ok (.invokestatic 248, 3) := by decide +kernel
theorem dX8_entryNumerator_35 : decode cX8_entryNumerator 35 = .ok (.lreturn, 1) := by decide +kernel
theorem dX8_entryDenominator_0 : decode cX8_entryDenominator 0 = .ok (.aload_n 0, 1) := by decide +kernel
theorem dX8_entryDenominator_1 : decode cX8_entryDenominator 1 = .ok (.iload_n 1, 1) := by decide +kernel
theorem dX8_entryDenominator_2 : decode cX8_entryDenominator 2 = .ok (.invokevirtual 135, 3) := by decide +kernel
theorem dX8_entryDenominator_5 : decode cX8_entryDenominator 5 = .ok (.aload_n 0, 1) := by decide +kernel
theorem dX8_entryDenominator_6 : decode cX8_entryDenominator 6 = .ok (.iload_n 2, 1) := by decide +kernel
theorem dX8_entryDenominator_7 : decode cX8_entryDenominator 7 = .ok (.invokevirtual 138, 3) := by decide +kernel
theorem dX8_entryDenominator_10 : decode cX8_entryDenominator 10 = .ok (.aload_n 0, 1) := by decide +kernel
theorem dX8_entryDenominator_11 : decode cX8_entryDenominator 11 = .ok (.getfield 12, 3) := by decide +kernel
theorem dX8_entryDenominator_14 : decode cX8_entryDenominator 14 = .ok (.getfield 141, 3) := by decide +kernel
theorem dX8_entryDenominator_17 : decode cX8_entryDenominator 17 = .ok (.iload_n 1, 1) := by decide +kernel
theorem dX8_entryDenominator_18 : decode cX8_entryDenominator 18 = .ok (.iload_n 2, 1) := by decide +kernel
theorem dX8_entryDenominator_19 : decode cX8_entryDenominator 19 = .ok (.invokevirtual 240, 3) := by decide +kernel
theorem dX8_entryDenominator_22 : decode cX8_entryDenominator 22 = .ok (.aload_n 0, 1) := by decide +kernel
theorem dX8_entryDenominator_23 : decode cX8_entryDenominator 23 = .ok (.getfield 12, 3) := by decide +kernel
theorem dX8_entryDenominator_26 : decode cX8_entryDenominator 26 = .ok (.getfield 141, 3) := by decide +kernel
theorem dX8_entryDenominator_29 : decode cX8_entryDenominator 29 = .ok (.getfield 244, 3) := by decide +kernel
theorem dX8_entryDenominator_32 : decode cX8_entryDenominator 32 = .ok (.invokestatic 252, 3) := by decide +kernel
theorem dX8_entryDenominator_35 : decode cX8_entryDenominator 35 = .ok (.lreturn, 1) := by decide +kernel
theorem dX8_reducedNumerator_0 : decode cX8_reducedNumerator 0 = .ok (.aload_n 0, 1) := by decide +kernel
theorem dX8_reducedNumerator_1 : decode cX8_reducedNumerator 1 = .ok (.iload_n 1, 1) := by decide +kernel
theorem dX8_reducedNumerator_2 : decode cX8_reducedNumerator 2 = .ok (.invokevirtual 138, 3) := by decide +kernel
theorem dX8_reducedNumerator_5 : decode cX8_reducedNumerator 5 = .ok (.aload_n 0, 1) := by decide +kernel
theorem dX8_reducedNumerator_6 : decode cX8_reducedNumerator 6 = .ok (.getfield 12, 3) := by decide +kernel
theorem dX8_reducedNumerator_9 : decode cX8_reducedNumerator 9 = .ok (.getfield 141, 3) := by decide +kernel
theorem dX8_reducedNumerator_12 : decode cX8_reducedNumerator 12 = .ok (.iload_n 1, 1) := by decide +kernel
theorem dX8_reducedNumerator_13 : decode cX8_reducedNumerator 13 = .ok (.invokevirtual 255, 3) := by decide +kernel
theorem dX8_reducedNumerator_16 : decode cX8_reducedNumerator 16 = .ok (.aload_n 0, 1) := by decide +kernel
theorem dX8_reducedNumerator_17 : decode cX8_reducedNumerator 17 = .ok (.getfield 12, 3) := by decide +kernel
theorem dX8_reducedNumerator_20 : decode cX8_reducedNumerator 20 = .ok (.getfield 141, 3) := by decide +kernel
theorem dX8_reducedNumerator_23 : decode cX8_reducedNumerator 23 = .ok (.getfield 244, 3) := by decide +kernel
theorem dX8_reducedNumerator_26 : decode cX8_reducedNumerator 26 = .ok (.invokestatic 248, 3) := by decide +kernel
theorem dX8_reducedNumerator_29 : decode cX8_reducedNumerator 29 = .ok (.lreturn, 1) := by decide +kernel
theorem dX8_reducedDenominator_0 : decode cX8_reducedDenominator 0 = .ok (.aload_n 0, 1) := by decide +kernel
theorem dX8_reducedDenominator_1 : decode cX8_reducedDenominator 1 = .ok (.iload_n 1, 1) := by decide +kernel
theorem dX8_reducedDenominator_2 : decode cX8_reducedDenominator 2 = .ok (.invokevirtual 138, 3) := by decide +kernel
theorem dX8_reducedDenominator_5 : decode cX8_reducedDenominator 5 = .ok (.aload_n 0, 1) := by decide +kernel
theorem dX8_reducedDenominator_6 : decode cX8_reducedDenominator 6 = .ok (.getfield 12, 3) := by decide +kernel
theorem dX8_reducedDenominator_9 : decode cX8_reducedDenominator 9 = .ok (.getfield 141, 3) := by decide +kernel
theorem dX8_reducedDenominator_12 : decode cX8_reducedDenominator 12 = .ok (.iload_n 1, 1) := by decide +kernel
theorem dX8_reducedDenominator_13 : decode cX8_reducedDenominator 13 = .ok (.invokevirtual 255, 3) := by decide +kernel
theorem dX8_reducedDenominator_16 : decode cX8_reducedDenominator 16 = .ok (.aload_n 0, 1) := by decide +kernel
theorem dX8_reducedDenominator_17 : decode cX8_reducedDenominator 17 = .ok (.getfield 12, 3) := by decide +kernel
theorem dX8_reducedDenominator_20 : decode cX8_reducedDenominator 20 = .ok (.getfield 141, 3) := by decide +kernel
theorem dX8_reducedDenominator_23 : decode cX8_reducedDenominator 23 = .ok (.getfield 244, 3) := by decide +kernel
theorem dX8_reducedDenominator_26 : decode cX8_reducedDenominator 26 = .ok (.invokestatic 252, 3) := by decide +kernel
theorem dX8_reducedDenominator_29 : decode cX8_reducedDenominator 29 = .ok (.lreturn, 1) := by decide +kernel
theorem dX8_valueNumerator_0 : decode cX8_valueNumerator 0 = .ok (.aload_n 0, 1) := by decide +kernel
theorem dX8_valueNumerator_1 : decode cX8_valueNumerator 1 = .ok (.getfield 12, 3) := by decide +kernel
theorem dX8_valueNumerator_4 : decode cX8_valueNumerator 4 = .ok (.getfield 141, 3) := by decide +kernel
theorem dX8_valueNumerator_7 : decode cX8_valueNumerator 7 = .ok (.invokevirtual 259, 3) := by decide +kernel
theorem dX8_valueNumerator_10 : decode cX8_valueNumerator 10 = .ok (.aload_n 0, 1) := by decide +kernel
theorem dX8_valueNumerator_11 : decode cX8_valueNumerator 11 = .ok (.getfield 12, 3) := by decide +kernel
theorem dX8_valueNumerator_14 : decode cX8_valueNumerator 14 = .ok (.getfield 141, 3) := by decide +kernel
theorem dX8_valueNumerator_17 : decode cX8_valueNumerator 17 = .ok (.getfield 244, 3) := by decide +kernel
theorem dX8_valueNumerator_20 : decode cX8_valueNumerator 20 = .ok (.invokestatic 248, 3) := by decide +kernel
theorem dX8_valueNumerator_23 : decode cX8_valueNumerator 23 = .ok (.lreturn, 1) := by decide +kernel
theorem dX8_valueDenominator_0 : decode cX8_valueDenominator 0 = .ok (.aload_n 0, 1) := by decide +kernel
theorem dX8_valueDenominator_1 : decode cX8_valueDenominator 1 = .ok (.getfield 12, 3) := by decide +kernel
theorem dX8_valueDenominator_4 : decode cX8_valueDenominator 4 = .ok (.getfield 141, 3) := by decide +kernel
theorem dX8_valueDenominator_7 : decode cX8_valueDenominator 7 = .ok (.invokevirtual 259, 3) := by decide +kernel
theorem dX8_valueDenominator_10 : decode cX8_valueDenominator 10 = .ok (.aload_n 0, 1) := by decide +kernel
theorem dX8_valueDenominator_11 : decode cX8_valueDenominator 11 = .ok (.getfield 12, 3) := by decide +kernel
theorem dX8_valueDenominator_14 : decode cX8_valueDenominator 14 = .ok (.getfield 141, 3) := by decide +kernel
theorem dX8_valueDenominator_17 : decode cX8_valueDenominator 17 = .ok (.getfield 244, 3) := by decide +kernel
theorem dX8_valueDenominator_20 : decode cX8_valueDenominator 20 = .ok (.invokestatic 252, 3) := by decide +kernel
theorem dX8_valueDenominator_23 : decode cX8_valueDenominator 23 = .ok (.lreturn, 1) := by decide +kernel
theorem dX8_givenNumerator_0 : decode cX8_givenNumerator 0 = .ok (.aload_n 0, 1) := by decide +kernel
theorem dX8_givenNumerator_1 : decode cX8_givenNumerator 1 = .ok (.iload_n 1, 1) := by decide +kernel
theorem dX8_givenNumerator_2 : decode cX8_givenNumerator 2 = .ok (.invokevirtual 138, 3) := by decide +kernel
theorem dX8_givenNumerator_5 : decode cX8_givenNumerator 5 = .ok (.aload_n 0, 1) := by decide +kernel
theorem dX8_givenNumerator_6 : decode cX8_givenNumerator 6 = .ok (.getfield 12, 3) := by decide +kernel
theorem dX8_givenNumerator_9 : decode cX8_givenNumerator 9 = .ok (.getfield 141, 3) := by decide +kernel
theorem dX8_givenNumerator_12 : decode cX8_givenNumerator 12 = .ok (.iload_n 1, 1) := by decide +kernel
theorem dX8_givenNumerator_13 : decode cX8_givenNumerator 13 = .ok (.invokevirtual 263, 3) := by decide +kernel
theorem dX8_givenNumerator_16 : decode cX8_givenNumerator 16 = .ok (.aload_n 0, 1) := by decide +kernel
theorem dX8_givenNumerator_17 : decode cX8_givenNumerator 17 = .ok (.getfield 12, 3) := by decide +kernel
theorem dX8_givenNumerator_20 : decode cX8_givenNumerator 20 = .ok (.getfield 141, 3) := by decide +kernel
theorem dX8_givenNumerator_23 : decode cX8_givenNumerator 23 = .ok (.getfield 244, 3) := by decide +kernel
theorem dX8_givenNumerator_26 : decode cX8_givenNumerator 26 = .ok (.invokestatic 248, 3) := by decide +kernel
theorem dX8_givenNumerator_29 : decode cX8_givenNumerator 29 = .ok (.lreturn, 1) := by decide +kernel
theorem dX8_givenDenominator_0 : decode cX8_givenDenominator 0 = .ok (.aload_n 0, 1) := by decide +kernel
theorem dX8_givenDenominator_1 : decode cX8_givenDenominator 1 = .ok (.iload_n 1, 1) := by decide +kernel
theorem dX8_givenDenominator_2 : decode cX8_givenDenominator 2 = .ok (.invokevirtual 138, 3) := by decide +kernel
theorem dX8_givenDenominator_5 : decode cX8_givenDenominator 5 = .ok (.aload_n 0, 1) := by decide +kernel
theorem dX8_givenDenominator_6 : decode cX8_givenDenominator 6 = .ok (.getfield 12, 3) := by decide +kernel
theorem dX8_givenDenominator_9 : decode cX8_givenDenominator 9 = .ok (.getfield 141, 3) := by decide +kernel
theorem dX8_givenDenominator_12 : decode cX8_givenDenominator 12 = .ok (.iload_n 1, 1) := by decide +kernel
theorem dX8_givenDenominator_13 : decode cX8_givenDenominator 13 = .ok (.invokevirtual 263, 3) := by decide +kernel
theorem dX8_givenDenominator_16 : decode cX8_givenDenominator 16 = .ok (.aload_n 0, 1) := by decide +kernel
theorem dX8_givenDenominator_17 : decode cX8_givenDenominator 17 = .ok (.getfield 12, 3) := by decide +kernel
theorem dX8_givenDenominator_20 : decode cX8_givenDenominator 20 = .ok (.getfield 141, 3) := by decide +kernel
theorem dX8_givenDenominator_23 : decode cX8_givenDenominator 23 = .ok (.getfield 244, 3) := by decide +kernel
theorem dX8_givenDenominator_26 : decode cX8_givenDenominator 26 = .ok (.invokestatic 252, 3) := by decide +kernel
theorem dX8_givenDenominator_29 : decode cX8_givenDenominator 29 = .ok (.lreturn, 1) := by decide +kernel
theorem dX8_value_0 : decode cX8_value 0 = .ok (.aload_n 0, 1) := by decide +kernel
theorem dX8_value_1 : decode cX8_value 1 = .ok (.invokevirtual 266, 3) := by decide +kernel
theorem dX8_value_4 : decode cX8_value 4 = .ok (.l2d, 1) := by decide +kernel
theorem dX8_value_5 : decode cX8_value 5 = .ok (.aload_n 0, 1) := by decide +kernel
theorem dX8_value_6 : decode cX8_value 6 = .ok (.invokevirtual 269, 3) := by decide +kernel
theorem dX8_value_9 : decode cX8_value 9 = .ok (.l2d, 1) := by decide +kernel
theorem dX8_value_10 : decode cX8_value 10 = .ok (.ddiv, 1) := by decide +kernel
theorem dX8_value_11 : decode cX8_value 11 = .ok (.dreturn, 1) := by decide +kernel
theorem dX8_dualNumerator_0 : decode cX8_dualNumerator 0 = .ok (.aload_n 0, 1) := by decide +kernel
theorem dX8_dualNumerator_1 : decode cX8_dualNumerator 1 = .ok (.iload_n 1, 1) := by decide +kernel
theorem dX8_dualNumerator_2 : decode cX8_dualNumerator 2 = .ok (.invokevirtual 112, 3) := by decide +kernel
theorem dX8_dualNumerator_5 : decode cX8_dualNumerator 5 = .ok (.aload_n 0, 1) := by decide +kernel
theorem dX8_dualNumerator_6 : decode cX8_dualNumerator 6 = .ok (.getfield 12, 3) := by decide +kernel
theorem dX8_dualNumerator_9 : decode cX8_dualNumerator 9 = .ok (.iload_n 1, 1) := by decide +kernel
theorem dX8_dualNumerator_10 : decode cX8_dualNumerator 10 = .ok (.invokevirtual 272, 3) := by decide +kernel
theorem dX8_dualNumerator_13 : decode cX8_dualNumerator 13 = .ok (.aload_n 0, 1) := by decide +kernel
theorem dX8_dualNumerator_14 : decode cX8_dualNumerator 14 = .ok (.getfield 12, 3) := by decide +kernel
theorem dX8_dualNumerator_17 : decode cX8_dualNumerator 17 = .ok (.getfield 141, 3) := by decide +kernel
theorem dX8_dualNumerator_20 : decode cX8_dualNumerator 20 = .ok (.getfield 244, 3) := by decide +kernel
theorem dX8_dualNumerator_23 : decode cX8_dualNumerator 23 = .ok (.invokestatic 248, 3) := by decide +kernel
theorem dX8_dualNumerator_26 : decode cX8_dualNumerator 26 = .ok (.lreturn, 1) := by decide +kernel
theorem dX8_dualDenominator_0 : decode cX8_dualDenominator 0 = .ok (.aload_n 0, 1) := by decide +kernel
theorem dX8_dualDenominator_1 : decode cX8_dualDenominator 1 = .ok (.iload_n 1, 1) := by decide +kernel
theorem dX8_dualDenominator_2 : decode cX8_dualDenominator 2 = .ok (.invokevirtual 112, 3) := by decide +kernel
theorem dX8_dualDenominator_5 : decode cX8_dualDenominator 5 = .ok (.aload_n 0, 1) := by decide +kernel
theorem dX8_dualDenominator_6 : decode cX8_dualDenominator 6 = .ok (.getfield 12, 3) := by decide +kernel
theorem dX8_dualDenominator_9 : decode cX8_dualDenominator 9 = .ok (.iload_n 1, 1) := by decide +kernel
theorem dX8_dualDenominator_10 : decode cX8_dualDenominator 10 = .ok (.invokevirtual 272, 3) := by decide +kernel
theorem dX8_dualDenominator_13 : decode cX8_dualDenominator 13 = .ok (.aload_n 0, 1) := by decide +kernel
theorem dX8_dualDenominator_14 : decode cX8_dualDenominator 14 = .ok (.getfield 12, 3) := by decide +kernel
theorem dX8_dualDenominator_17 : decode cX8_dualDenominator 17 = .ok (.getfield 141, 3) := by decide +kernel
theorem dX8_dualDenominator_20 : decode cX8_dualDenominator 20 = .ok (.getfield 244, 3) := by decide +kernel
theorem dX8_dualDenominator_23 : decode cX8_dualDenominator 23 = .ok (.invokestatic 252, 3) := by decide +kernel
theorem dX8_dualDenominator_26 : decode cX8_dualDenominator 26 = .ok (.lreturn, 1) := by decide +kernel
theorem dX8_dualNumeratorByEquations_0 : decode cX8_dualNumeratorByEquations 0 = .ok (.aload_n 0, 1) := by decide +kernel
theorem dX8_dualNumeratorByEquations_1 : decode cX8_dualNumeratorByEquations 1 = .ok (.iload_n 1, 1) := by decide +kernel
theorem dX8_dualNumeratorByEquations_2 : decode cX8_dualNumeratorByEquations 2 = .ok (.invokevirtual 112, 3) := by decide +kernel
theorem dX8_dualNumeratorByEquations_5 : decode cX8_dualNumeratorByEquations 5 = .ok (.aload_n 0, 1) := by decide +kernel
theorem dX8_dualNumeratorByEquations_6 : decode cX8_dualNumeratorByEquations 6 = .ok (.getfield 46, 3) := by decide +kernel
theorem dX8_dualNumeratorByEquations_9 : decode cX8_dualNumeratorByEquations 9 = .ok (.aload_n 0, 1) := by decide +kernel
theorem dX8_dualNumeratorByEquations_10 : decode cX8_dualNumeratorByEquations 10 = .ok (.getfield 12, 3) := by decide +kernel
theorem dX8_dualNumeratorByEquations_13 : decode cX8_dualNumeratorByEquations 13 = .ok (.invokevirtual 275, 3) := by decide +kernel
theorem dX8_dualNumeratorByEquations_16 : decode cX8_dualNumeratorByEquations 16 = .ok (.pop, 1) := by decide +kernel
theorem dX8_dualNumeratorByEquations_17 : decode cX8_dualNumeratorByEquations 17 = .ok (.aload_n 0, 1) := by decide +kernel
theorem dX8_dualNumeratorByEquations_18 : decode cX8_dualNumeratorByEquations 18 = .ok (.getfield 46, 3) := by decide +kernel
theorem dX8_dualNumeratorByEquations_21 : decode cX8_dualNumeratorByEquations 21 = .ok (.iload_n 1, 1) := by decide +kernel
theorem dX8_dualNumeratorByEquations_22 : decode cX8_dualNumeratorByEquations 22 = .ok (.invokevirtual 279, 3) := by decide +kernel
theorem dX8_dualNumeratorByEquations_25 : decode cX8_dualNumeratorByEquations 25 = .ok (.aload_n 0, 1) := by decide +kernel
theorem dX8_dualNumeratorByEquations_26 : decode cX8_dualNumeratorByEquations 26 = .ok (.getfield 46, 3) := by decide +kernel
theorem dX8_dualNumeratorByEquations_29 : decode cX8_dualNumeratorByEquations 29 = .ok (.getfield 282, 3) := by decide +kernel
theorem dX8_dualNumeratorByEquations_32 : decode cX8_dualNumeratorByEquations 32 = .ok (.invokestatic 248, 3) := by decide +kernel
theorem dX8_dualNumeratorByEquations_35 : decode cX8_dualNumeratorByEquations 35 = .ok (.lreturn, 1) := by decide +kernel
theorem dX8_dualDenominatorByEquations_0 : decode cX8_dualDenominatorByEquations 0 = .ok (.aload_n 0, 1) := by decide +kernel
theorem dX8_dualDenominatorByEquations_1 : decode cX8_dualDenominatorByEquations 1 = .ok (.iload_n 1, 1) := by decide +kernel
theorem dX8_dualDenominatorByEquations_2 : decode cX8_dualDenominatorByEquations 2 = .ok (.invokevirtual 112, 3) := by decide +kernel
theorem dX8_dualDenominatorByEquations_5 : decode cX8_dualDenominatorByEquations 5 = .ok (.aload_n 0, 1) := by decide +kernel
theorem dX8_dualDenominatorByEquations_6 : decode cX8_dualDenominatorByEquations 6 = .ok (.getfield 46, 3) := by decide +kernel
theorem dX8_dualDenominatorByEquations_9 : decode cX8_dualDenominatorByEquations 9 = .ok (.aload_n 0, 1) := by decide +kernel
theorem dX8_dualDenominatorByEquations_10 : decode cX8_dualDenominatorByEquations 10 = .ok (.getfield 12, 3) := by decide +kernel
theorem dX8_dualDenominatorByEquations_13 : decode cX8_dualDenominatorByEquations 13 = .ok (.invokevirtual 275, 3) := by decide +kernel
theorem dX8_dualDenominatorByEquations_16 : decode cX8_dualDenominatorByEquations 16 = .ok (.pop, 1) := by decide +kernel
theorem dX8_dualDenominatorByEquations_17 : decode cX8_dualDenominatorByEquations 17 = .ok (.aload_n 0, 1) := by decide +kernel
theorem dX8_dualDenominatorByEquations_18 : decode cX8_dualDenominatorByEquations 18 = .ok (.getfield 46, 3) := by decide +kernel
theorem dX8_dualDenominatorByEquations_21 : decode cX8_dualDenominatorByEquations 21 = .ok (.iload_n 1, 1) := by decide +kernel
theorem dX8_dualDenominatorByEquations_22 : decode cX8_dualDenominatorByEquations 22 = .ok (.invokevirtual 279, 3) := by decide +kernel
theorem dX8_dualDenominatorByEquations_25 : decode cX8_dualDenominatorByEquations 25 = .ok (.aload_n 0, 1) := by decide +kernel
theorem dX8_dualDenominatorByEquations_26 : decode cX8_dualDenominatorByEquations 26 = .ok (.getfield 46, 3) := by decide +kernel
theorem dX8_dualDenominatorByEquations_29 : decode cX8_dualDenominatorByEquations 29 = .ok (.getfield 282, 3) := by decide +kernel
theorem dX8_dualDenominatorByEquations_32 : decode cX8_dualDenominatorByEquations 32 = .ok (.invokestatic 252, 3) := by decide +kernel
theorem dX8_dualDenominatorByEquations_35 : decode cX8_dualDenominatorByEquations 35 = .ok (.lreturn, 1) := by decide +kernel
theorem dX8_dualValueNumerator_0 : decode cX8_dualValueNumerator 0 = .ok (.aload_n 0, 1) := by decide +kernel
theorem dX8_dualValueNumerator_1 : decode cX8_dualValueNumerator 1 = .ok (.getfield 12, 3) := by decide +kernel
theorem dX8_dualValueNumerator_4 : decode cX8_dualValueNumerator 4 = .ok (.invokevirtual 283, 3) := by decide +kernel
theorem dX8_dualValueNumerator_7 : decode cX8_dualValueNumerator 7 = .ok (.aload_n 0, 1) := by decide +kernel
theorem dX8_dualValueNumerator_8 : decode cX8_dualValueNumerator 8 = .ok (.getfield 12, 3) := by decide +kernel
theorem dX8_dualValueNumerator_11 : decode cX8_dualValueNumerator 11 = .ok (.getfield 141, 3) := by decide +kernel
theorem dX8_dualValueNumerator_14 : decode cX8_dualValueNumerator 14 = .ok (.getfield 244, 3) := by decide +kernel
theorem dX8_dualValueNumerator_17 : decode cX8_dualValueNumerator 17 = .ok (.invokestatic 248, 3) := by decide +kernel
theorem dX8_dualValueNumerator_20 : decode cX8_dualValueNumerator 20 = .ok (.lreturn, 1) := by decide +kernel
theorem dX8_dualValueDenominator_0 : decode cX8_dualValueDenominator 0 = .ok (.aload_n 0, 1) := by decide +kernel
theorem dX8_dualValueDenominator_1 : decode cX8_dualValueDenominator 1 = .ok (.getfield 12, 3) := by decide +kernel
theorem dX8_dualValueDenominator_4 : decode cX8_dualValueDenominator 4 = .ok (.invokevirtual 283, 3) := by decide +kernel
theorem dX8_dualValueDenominator_7 : decode cX8_dualValueDenominator 7 = .ok (.aload_n 0, 1) := by decide +kernel
theorem dX8_dualValueDenominator_8 : decode cX8_dualValueDenominator 8 = .ok (.getfield 12, 3) := by decide +kernel
theorem dX8_dualValueDenominator_11 : decode cX8_dualValueDenominator 11 = .ok (.getfield 141, 3) := by decide +kernel
theorem dX8_dualValueDenominator_14 : decode cX8_dualValueDenominator 14 = .ok (.getfield 244, 3) := by decide +kernel
theorem dX8_dualValueDenominator_17 : decode cX8_dualValueDenominator 17 = .ok (.invokestatic 252, 3) := by decide +kernel
theorem dX8_dualValueDenominator_20 : decode cX8_dualValueDenominator 20 = .ok (.lreturn, 1) := by decide +kernel
theorem dX8_feasibleBases_0 : decode cX8_feasibleBases 0 = .ok (.aload_n 0, 1) := by decide +kernel
theorem dX8_feasibleBases_1 : decode cX8_feasibleBases 1 = .ok (.getfield 53, 3) := by decide +kernel
theorem dX8_feasibleBases_4 : decode cX8_feasibleBases 4 = .ok (.aload_n 0, 1) := by decide +kernel
theorem dX8_feasibleBases_5 : decode cX8_feasibleBases 5 = .ok (.getfield 12, 3) := by decide +kernel
theorem dX8_feasibleBases_8 : decode cX8_feasibleBases 8 = .ok (.getfield 67, 3) := by decide +kernel
theorem dX8_feasibleBases_11 : decode cX8_feasibleBases 11 = .ok (.invokevirtual 292, 3) := by decide +kernel
theorem dX8_feasibleBases_14 : decode cX8_feasibleBases 14 = .ok (.aload_n 0, 1) := by decide +kernel
theorem dX8_feasibleBases_15 : decode cX8_feasibleBases 15 = .ok (.getfield 53, 3) := by decide +kernel
theorem dX8_feasibleBases_18 : decode cX8_feasibleBases 18 = .ok (.getfield 295, 3) := by decide +kernel
theorem dX8_feasibleBases_21 : decode cX8_feasibleBases 21 = .ok (.ireturn, 1) := by decide +kernel
theorem dX8_unlikeValues_0 : decode cX8_unlikeValues 0 = .ok (.aload_n 0, 1) := by decide +kernel
theorem dX8_unlikeValues_1 : decode cX8_unlikeValues 1 = .ok (.getfield 53, 3) := by decide +kernel
theorem dX8_unlikeValues_4 : decode cX8_unlikeValues 4 = .ok (.aload_n 0, 1) := by decide +kernel
theorem dX8_unlikeValues_5 : decode cX8_unlikeValues 5 = .ok (.getfield 12, 3) := by decide +kernel
theorem dX8_unlikeValues_8 : decode cX8_unlikeValues 8 = .ok (.getfield 67, 3) := by decide +kernel
theorem dX8_unlikeValues_11 : decode cX8_unlikeValues 11 = .ok (.invokevirtual 292, 3) := by decide +kernel
theorem dX8_unlikeValues_14 : decode cX8_unlikeValues 14 = .ok (.aload_n 0, 1) := by decide +kernel
theorem dX8_unlikeValues_15 : decode cX8_unlikeValues 15 = .ok (.getfield 53, 3) := by decide +kernel
theorem dX8_unlikeValues_18 : decode cX8_unlikeValues 18 = .ok (.getfield 298, 3) := by decide +kernel
theorem dX8_unlikeValues_21 : decode cX8_unlikeValues 21 = .ok (.ireturn, 1) := by decide +kernel
theorem dX8_bestNumerator_0 : decode cX8_bestNumerator 0 = .ok (.aload_n 0, 1) := by decide +kernel
theorem dX8_bestNumerator_1 : decode cX8_bestNumerator 1 = .ok (.getfield 53, 3) := by decide +kernel
theorem dX8_bestNumerator_4 : decode cX8_bestNumerator 4 = .ok (.aload_n 0, 1) := by decide +kernel
theorem dX8_bestNumerator_5 : decode cX8_bestNumerator 5 = .ok (.getfield 12, 3) := by decide +kernel
theorem dX8_bestNumerator_8 : decode cX8_bestNumerator 8 = .ok (.getfield 67, 3) := by decide +kernel
theorem dX8_bestNumerator_11 : decode cX8_bestNumerator 11 = .ok (.invokevirtual 292, 3) := by decide +kernel
theorem dX8_bestNumerator_14 : decode cX8_bestNumerator 14 = .ok (.aload_n 0, 1) := by decide +kernel
theorem dX8_bestNumerator_15 : decode cX8_bestNumerator 15 = .ok (.getfield 53, 3) := by decide +kernel
theorem dX8_bestNumerator_18 : decode cX8_bestNumerator 18 = .ok (.getfield 301, 3) := by decide +kernel
theorem dX8_bestNumerator_21 : decode cX8_bestNumerator 21 = .ok (.lreturn, 1) := by decide +kernel
theorem dX8_bestDenominator_0 : decode cX8_bestDenominator 0 = .ok (.aload_n 0, 1) := by decide +kernel
theorem dX8_bestDenominator_1 : decode cX8_bestDenominator 1 = .ok (.getfield 53, 3) := by decide +kernel
theorem dX8_bestDenominator_4 : decode cX8_bestDenominator 4 = .ok (.aload_n 0, 1) := by decide +kernel
theorem dX8_bestDenominator_5 : decode cX8_bestDenominator 5 = .ok (.getfield 12, 3) := by decide +kernel
theorem dX8_bestDenominator_8 : decode cX8_bestDenominator 8 = .ok (.getfield 67, 3) := by decide +kernel
theorem dX8_bestDenominator_11 : decode cX8_bestDenominator 11 = .ok (.invokevirtual 292, 3) := by decide +kernel
theorem dX8_bestDenominator_14 : decode cX8_bestDenominator 14 = .ok (.aload_n 0, 1) := by decide +kernel
theorem dX8_bestDenominator_15 : decode cX8_bestDenominator 15 = .ok (.getfield 53, 3) := by decide +kernel
theorem dX8_bestDenominator_18 : decode cX8_bestDenominator 18 = .ok (.getfield 304, 3) := by decide +kernel
theorem dX8_bestDenominator_21 : decode cX8_bestDenominator 21 = .ok (.lreturn, 1) := by decide +kernel
theorem dX8_whyNoPivot_0 : decode cX8_whyNoPivot 0 = .ok (.aload_n 0, 1) := by decide +kernel
theorem dX8_whyNoPivot_1 : decode cX8_whyNoPivot 1 = .ok (.iload_n 1, 1) := by decide +kernel
theorem dX8_whyNoPivot_2 : decode cX8_whyNoPivot 2 = .ok (.invokevirtual 135, 3) := by decide +kernel
theorem dX8_whyNoPivot_5 : decode cX8_whyNoPivot 5 = .ok (.aload_n 0, 1) := by decide +kernel
theorem dX8_whyNoPivot_6 : decode cX8_whyNoPivot 6 = .ok (.iload_n 2, 1) := by decide +kernel
theorem dX8_whyNoPivot_7 : decode cX8_whyNoPivot 7 = .ok (.invokevirtual 138, 3) := by decide +kernel
theorem dX8_whyNoPivot_10 : decode cX8_whyNoPivot 10 = .ok (.aload_n 0, 1) := by decide +kernel
theorem dX8_whyNoPivot_11 : decode cX8_whyNoPivot 11 = .ok (.getfield 12, 3) := by decide +kernel
theorem dX8_whyNoPivot_14 : decode cX8_whyNoPivot 14 = .ok (.getfield 141, 3) := by decide +kernel
theorem dX8_whyNoPivot_17 : decode cX8_whyNoPivot 17 = .ok (.iload_n 1, 1) := by decide +kernel
theorem dX8_whyNoPivot_18 : decode cX8_whyNoPivot 18 = .ok (.iload_n 2, 1) := by decide +kernel
theorem dX8_whyNoPivot_19 : decode cX8_whyNoPivot 19 = .ok (.invokevirtual 145, 3) := by decide +kernel
theorem dX8_whyNoPivot_22 : decode cX8_whyNoPivot 22 = .ok (.ireturn, 1) := by decide +kernel
theorem dX8_nextColumn_0 : decode cX8_nextColumn 0 = .ok (.aload_n 0, 1) := by decide +kernel
theorem dX8_nextColumn_1 : decode cX8_nextColumn 1 = .ok (.invokevirtual 158, 3) := by decide +kernel
theorem dX8_nextColumn_4 : decode cX8_nextColumn 4 = .ok (.aload_n 0, 1) := by decide +kernel
theorem dX8_nextColumn_5 : decode cX8_nextColumn 5 = .ok (.getfield 12, 3) := by decide +kernel
theorem dX8_nextColumn_8 : decode cX8_nextColumn 8 = .ok (.invokevirtual 161, 3) := by decide +kernel
theorem dX8_nextColumn_11 : decode cX8_nextColumn 11 = .ok (.ireturn, 1) := by decide +kernel
theorem dX8_nextRow_0 : decode cX8_nextRow 0 = .ok (.aload_n 0, 1) := by decide +kernel
theorem dX8_nextRow_1 : decode cX8_nextRow 1 = .ok (.invokevirtual 158, 3) := by decide +kernel
theorem dX8_nextRow_4 : decode cX8_nextRow 4 = .ok (.aload_n 0, 1) := by decide +kernel
theorem dX8_nextRow_5 : decode cX8_nextRow 5 = .ok (.getfield 12, 3) := by decide +kernel
theorem dX8_nextRow_8 : decode cX8_nextRow 8 = .ok (.getfield 141, 3) := by decide +kernel
theorem dX8_nextRow_11 : decode cX8_nextRow 11 = .ok (.aload_n 0, 1) := by decide +kernel
theorem dX8_nextRow_12 : decode cX8_nextRow 12 = .ok (.getfield 12, 3) := by decide +kernel
theorem dX8_nextRow_15 : decode cX8_nextRow 15 = .ok (.invokevirtual 161, 3) := by decide +kernel
theorem dX8_nextRow_18 : decode cX8_nextRow 18 = .ok (.invokevirtual 165, 3) := by decide +kernel
theorem dX8_nextRow_21 : decode cX8_nextRow 21 = .ok (.ireturn, 1) := by decide +kernel
theorem dX8_pivotsLeft_0 : decode cX8_pivotsLeft 0 = .ok (.aload_n 0, 1) := by decide +kernel
theorem dX8_pivotsLeft_1 : decode cX8_pivotsLeft 1 = .ok (.getfield 16, 3) := by decide +kernel
theorem dX8_pivotsLeft_4 : decode cX8_pivotsLeft 4 = .ok (.aload_n 0, 1) := by decide +kernel
theorem dX8_pivotsLeft_5 : decode cX8_pivotsLeft 5 = .ok (.getfield 12, 3) := by decide +kernel
theorem dX8_pivotsLeft_8 : decode cX8_pivotsLeft 8 = .ok (.invokevirtual 215, 3) := by decide +kernel
theorem dX8_pivotsLeft_11 : decode cX8_pivotsLeft 11 = .ok (.aload_n 0, 1) := by decide +kernel
theorem dX8_pivotsLeft_12 : decode cX8_pivotsLeft 12 = .ok (.getfield 16, 3) := by decide +kernel
theorem dX8_pivotsLeft_15 : decode cX8_pivotsLeft 15 = .ok (.invokevirtual 168, 3) := by decide +kernel
theorem dX8_pivotsLeft_18 : decode cX8_pivotsLeft 18 = .ok (.ireturn, 1) := by decide +kernel
theorem dX8_leastBound_0 : decode cX8_leastBound 0 = .ok (.aload_n 0, 1) := by decide +kernel
theorem dX8_leastBound_1 : decode cX8_leastBound 1 = .ok (.iload_n 1, 1) := by decide +kernel
theorem dX8_leastBound_2 : decode cX8_leastBound 2 = .ok (.invokevirtual 112, 3) := by decide +kernel
theorem dX8_leastBound_5 : decode cX8_leastBound 5 = .ok (.aload_n 0, 1) := by decide +kernel
theorem dX8_leastBound_6 : decode cX8_leastBound 6 = .ok (.getfield 12, 3) := by decide +kernel
theorem dX8_leastBound_9 : decode cX8_leastBound 9 = .ok (.getfield 67, 3) := by decide +kernel
theorem dX8_leastBound_12 : decode cX8_leastBound 12 = .ok (.iload_n 1, 1) := by decide +kernel
theorem dX8_leastBound_13 : decode cX8_leastBound 13 = .ok (.invokevirtual 123, 3) := by decide +kernel
theorem dX8_leastBound_16 : decode cX8_leastBound 16 = .ok (.istore_n 2, 1) := by decide +kernel
theorem dX8_leastBound_17 : decode cX8_leastBound 17 = .ok (.iconst 0, 1) := by decide +kernel
theorem dX8_leastBound_18 : decode cX8_leastBound 18 = .ok (.iload_n 2, 1) := by decide +kernel
theorem dX8_leastBound_19 : decode cX8_leastBound 19 = .ok (.aload_n 0, 1) := by decide +kernel
theorem dX8_leastBound_20 : decode cX8_leastBound 20 = .ok (.getfield 12, 3) := by decide +kernel
theorem dX8_leastBound_23 : decode cX8_leastBound 23 = .ok (.iload_n 1, 1) := by decide +kernel
theorem dX8_leastBound_24 : decode cX8_leastBound 24 = .ok (.invokevirtual 307, 3) := by decide +kernel
theorem dX8_leastBound_27 : decode cX8_leastBound 27 = .ok (.isub, 1) := by decide +kernel
theorem dX8_leastBound_28 : decode cX8_leastBound 28 = .ok (.invokestatic 310, 3) := by decide +kernel
theorem dX8_leastBound_31 : decode cX8_leastBound 31 = .ok (.ireturn, 1) := by decide +kernel
theorem dX8_greatestBound_0 : decode cX8_greatestBound 0 = .ok (.aload_n 0, 1) := by decide +kernel
theorem dX8_greatestBound_1 : decode cX8_greatestBound 1 = .ok (.iload_n 1, 1) := by decide +kernel
theorem dX8_greatestBound_2 : decode cX8_greatestBound 2 = .ok (.invokevirtual 112, 3) := by decide +kernel
theorem dX8_greatestBound_5 : decode cX8_greatestBound 5 = .ok (.aload_n 0, 1) := by decide +kernel
theorem dX8_greatestBound_6 : decode cX8_greatestBound 6 = .ok (.getfield 12, 3) := by decide +kernel
theorem dX8_greatestBound_9 : decode cX8_greatestBound 9 = .ok (.getfield 67, 3) := by decide +kernel
theorem dX8_greatestBound_12 : decode cX8_greatestBound 12 = .ok (.iload_n 1, 1) := by decide +kernel
theorem dX8_greatestBound_13 : decode cX8_greatestBound 13 = .ok (.invokevirtual 123, 3) := by decide +kernel
theorem dX8_greatestBound_16 : decode cX8_greatestBound 16 = .ok (.istore_n 2, 1) := by decide +kernel
theorem dX8_greatestBound_17 : decode cX8_greatestBound 17 = .ok (.bipush 99, 2) := by decide +kernel
theorem dX8_greatestBound_19 : decode cX8_greatestBound 19 = .ok (.iload_n 2, 1) := by decide +kernel
theorem dX8_greatestBound_20 : decode cX8_greatestBound 20 = .ok (.aload_n 0, 1) := by decide +kernel
theorem dX8_greatestBound_21 : decode cX8_greatestBound 21 = .ok (.getfield 12, 3) := by decide +kernel
theorem dX8_greatestBound_24 : decode cX8_greatestBound 24 = .ok (.iload_n 1, 1) := by decide +kernel
theorem dX8_greatestBound_25 : decode cX8_greatestBound 25 = .ok (.invokevirtual 315, 3) := by decide +kernel
theorem dX8_greatestBound_28 : decode cX8_greatestBound 28 = .ok (.iadd, 1) := by decide +kernel
theorem dX8_greatestBound_29 : decode cX8_greatestBound 29 = .ok (.invokestatic 318, 3) := by decide +kernel
theorem dX8_greatestBound_32 : decode cX8_greatestBound 32 = .ok (.ireturn, 1) := by decide +kernel
theorem dX8_requireVariable_0 : decode cX8_requireVariable 0 = .ok (.iload_n 1, 1) := by decide +kernel
theorem dX8_requireVariable_1 : decode cX8_requireVariable 1 = .ok (.ifCond .lt 17, 3) := by decide +kernel
theorem dX8_requireVariable_4 : decode cX8_requireVariable 4 = .ok (.iload_n 1, 1) := by decide +kernel
theorem dX8_requireVariable_5 : decode cX8_requireVariable 5 = .ok (.aload_n 0, 1) := by decide +kernel
theorem dX8_requireVariable_6 : decode cX8_requireVariable 6 = .ok (.getfield 12, 3) := by decide +kernel
theorem dX8_requireVariable_9 : decode cX8_requireVariable 9 = .ok (.getfield 67, 3) := by decide +kernel
theorem dX8_requireVariable_12 : decode cX8_requireVariable 12 = .ok (.getfield 71, 3) := by decide +kernel
theorem dX8_requireVariable_15 : decode cX8_requireVariable 15 = .ok (.if_icmp .lt 14, 3) := by decide +kernel
theorem dX8_requireVariable_18 : decode cX8_requireVariable 18 = .ok (.new 399, 3) := by decide +kernel
theorem dX8_requireVariable_21 : decode cX8_requireVariable 21 = .ok (.dup, 1) := by decide +kernel
theorem dX8_requireVariable_22 : decode cX8_requireVariable 22 = .ok (.ldc_w 401, 3) := by decide +kernel
theorem dX8_requireVariable_25 : decode cX8_requireVariable 25 = .ok (.invokespecial 403, 3) := by decide +kernel
theorem dX8_requireVariable_28 : decode cX8_requireVariable 28 = .ok (.athrow, 1) := by decide +kernel
theorem dX8_requireVariable_29 : decode cX8_requireVariable 29 = .ok (.return_, 1) := by decide +kernel
theorem dX8_requireConstraint_0 : decode cX8_requireConstraint 0 = .ok (.iload_n 1, 1) := by decide +kernel
theorem dX8_requireConstraint_1 : decode cX8_requireConstraint 1 = .ok (.ifCond .lt 17, 3) := by decide +kernel
theorem dX8_requireConstraint_4 : decode cX8_requireConstraint 4 = .ok (.iload_n 1, 1) := by decide +kernel
theorem dX8_requireConstraint_5 : decode cX8_requireConstraint 5 = .ok (.aload_n 0, 1) := by decide +kernel
theorem dX8_requireConstraint_6 : decode cX8_requireConstraint 6 = .ok (.getfield 12, 3) := by decide +kernel
theorem dX8_requireConstraint_9 : decode cX8_requireConstraint 9 = .ok (.getfield 67, 3) := by decide +kernel
theorem dX8_requireConstraint_12 : decode cX8_requireConstraint 12 = .ok (.getfield 101, 3) := by decide +kernel
theorem dX8_requireConstraint_15 : decode cX8_requireConstraint 15 = .ok (.if_icmp .lt 14, 3) := by decide +kernel
theorem dX8_requireConstraint_18 : decode cX8_requireConstraint 18 = .ok (.new 399, 3) := by decide +kernel
theorem dX8_requireConstraint_21 : decode cX8_requireConstraint 21 = .ok (.dup, 1) := by decide +kernel
theorem dX8_requireConstraint_22 : decode cX8_requireConstraint 22 = .ok (.ldc_w 404, 3) := by decide +kernel
theorem dX8_requireConstraint_25 : decode cX8_requireConstraint 25 = .ok (.invokespecial 403, 3) := by decide +kernel
theorem dX8_requireConstraint_28 : decode cX8_requireConstraint 28 = .ok (.athrow, 1) := by decide +kernel
theorem dX8_requireConstraint_29 : decode cX8_requireConstraint 29 = .ok (.return_, 1) := by decide +kernel
theorem dX8_requireRow_0 : decode cX8_requireRow 0 = .ok (.iload_n 1, 1) := by decide +kernel
theorem dX8_requireRow_1 : decode cX8_requireRow 1 = .ok (.ifCond .lt 17, 3) := by decide +kernel
theorem dX8_requireRow_4 : decode cX8_requireRow 4 = .ok (.iload_n 1, 1) := by decide +kernel
theorem dX8_requireRow_5 : decode cX8_requireRow 5 = .ok (.aload_n 0, 1) := by decide +kernel
theorem dX8_requireRow_6 : decode cX8_requireRow 6 = .ok (.getfield 12, 3) := by decide +kernel
theorem dX8_requireRow_9 : decode cX8_requireRow 9 = .ok (.getfield 141, 3) := by decide +kernel
theorem dX8_requireRow_12 : decode cX8_requireRow 12 = .ok (.getfield 387, 3) := by decide +kernel
theorem dX8_requireRow_15 : decode cX8_requireRow 15 = .ok (.if_icmp .lt 14, 3) := by decide +kernel
theorem dX8_requireRow_18 : decode cX8_requireRow 18 = .ok (.new 399, 3) := by decide +kernel
theorem dX8_requireRow_21 : decode cX8_requireRow 21 = .ok (.dup, 1) := by decide +kernel
theorem dX8_requireRow_22 : decode cX8_requireRow 22 = .ok (.ldc_w 406, 3) := by decide +kernel
theorem dX8_requireRow_25 : decode cX8_requireRow 25 = .ok (.invokespecial 403, 3) := by decide +kernel
theorem dX8_requireRow_28 : decode cX8_requireRow 28 = .ok (.athrow, 1) := by decide +kernel
theorem dX8_requireRow_29 : decode cX8_requireRow 29 = .ok (.return_, 1) := by decide +kernel
theorem dX8_requireColumn_0 : decode cX8_requireColumn 0 = .ok (.iload_n 1, 1) := by decide +kernel
theorem dX8_requireColumn_1 : decode cX8_requireColumn 1 = .ok (.ifCond .lt 17, 3) := by decide +kernel
theorem dX8_requireColumn_4 : decode cX8_requireColumn 4 = .ok (.iload_n 1, 1) := by decide +kernel
theorem dX8_requireColumn_5 : decode cX8_requireColumn 5 = .ok (.aload_n 0, 1) := by decide +kernel
theorem dX8_requireColumn_6 : decode cX8_requireColumn 6 = .ok (.getfield 12, 3) := by decide +kernel
theorem dX8_requireColumn_9 : decode cX8_requireColumn 9 = .ok (.getfield 141, 3) := by decide +kernel
theorem dX8_requireColumn_12 : decode cX8_requireColumn 12 = .ok (.getfield 384, 3) := by decide +kernel
theorem dX8_requireColumn_15 : decode cX8_requireColumn 15 = .ok (.if_icmp .lt 14, 3) := by decide +kernel
theorem dX8_requireColumn_18 : decode cX8_requireColumn 18 = .ok (.new 399, 3) := by decide +kernel
theorem dX8_requireColumn_21 : decode cX8_requireColumn 21 = .ok (.dup, 1) := by decide +kernel
theorem dX8_requireColumn_22 : decode cX8_requireColumn 22 = .ok (.ldc_w 408, 3) := by decide +kernel
theorem dX8_requireColumn_25 : decode cX8_requireColumn 25 = .ok (.invokespecial 403, 3) := by decide +kernel
theorem dX8_requireColumn_28 : decode cX8_requireColumn 28 = .ok (.athrow, 1) := by decide +kernel
theorem dX8_requireColumn_29 : decode cX8_requireColumn 29 = .ok (.return_, 1) := by decide +kernel
theorem dX8_requireFactor_0 : decode cX8_requireFactor 0 = .ok (.iload_n 0, 1) := by decide +kernel
theorem dX8_requireFactor_1 : decode cX8_requireFactor 1 = .ok (.bipush (-9), 2) := by decide +kernel
theorem dX8_requireFactor_3 : decode cX8_requireFactor 3 = .ok (.if_icmp .lt 9, 3) := by decide +kernel
theorem dX8_requireFactor_6 : decode cX8_requireFactor 6 = .ok (.iload_n 0, 1) := by decide +kernel
theorem dX8_requireFactor_7 : decode cX8_requireFactor 7 = .ok (.bipush 9, 2) := by decide +kernel
theorem dX8_requireFactor_9 : decode cX8_requireFactor 9 = .ok (.if_icmp .le 14, 3) := by decide +kernel
theorem dX8_requireFactor_12 : decode cX8_requireFactor 12 = .ok (.new 57, 3) := by decide +kernel
theorem dX8_requireFactor_15 : decode cX8_requireFactor 15 = .ok (.dup, 1) := by decide +kernel
theorem dX8_requireFactor_16 : decode cX8_requireFactor 16 = .ok (.ldc_w 410, 3) := by decide +kernel
theorem dX8_requireFactor_19 : decode cX8_requireFactor 19 = .ok (.invokespecial 61, 3) := by decide +kernel
theorem dX8_requireFactor_22 : decode cX8_requireFactor 22 = .ok (.athrow, 1) := by decide +kernel
theorem dX8_requireFactor_23 : decode cX8_requireFactor 23 = .ok (.return_, 1) := by decide +kernel
theorem dX8_requireBound_0 : decode cX8_requireBound 0 = .ok (.iload_n 0, 1) := by decide +kernel
theorem dX8_requireBound_1 : decode cX8_requireBound 1 = .ok (.ifCond .lt 9, 3) := by decide +kernel
theorem dX8_requireBound_4 : decode cX8_requireBound 4 = .ok (.iload_n 0, 1) := by decide +kernel
theorem dX8_requireBound_5 : decode cX8_requireBound 5 = .ok (.bipush 99, 2) := by decide +kernel
theorem dX8_requireBound_7 : decode cX8_requireBound 7 = .ok (.if_icmp .le 14, 3) := by decide +kernel
theorem dX8_requireBound_10 : decode cX8_requireBound 10 = .ok (.new 57, 3) := by decide +kernel
theorem dX8_requireBound_13 : decode cX8_requireBound 13 = .ok (.dup, 1) := by decide +kernel
theorem dX8_requireBound_14 : decode cX8_requireBound 14 = .ok (.ldc_w 412, 3) := by decide +kernel
theorem dX8_requireBound_17 : decode cX8_requireBound 17 = .ok (.invokespecial 61, 3) := by decide +kernel
theorem dX8_requireBound_20 : decode cX8_requireBound 20 = .ok (.athrow, 1) := by decide +kernel
theorem dX8_requireBound_21 : decode cX8_requireBound 21 = .ok (.return_, 1) := by decide +kernel
theorem dX8_requireOpen_0 : decode cX8_requireOpen 0 = .ok (.aload_n 0, 1) := by decide +kernel
theorem dX8_requireOpen_1 : decode cX8_requireOpen 1 = .ok (.getfield 12, 3) := by decide +kernel
theorem dX8_requireOpen_4 : decode cX8_requireOpen 4 = .ok (.getfield 141, 3) := by decide +kernel
theorem dX8_requireOpen_7 : decode cX8_requireOpen 7 = .ok (.invokevirtual 414, 3) := by decide +kernel
theorem dX8_requireOpen_10 : decode cX8_requireOpen 10 = .ok (.ifCond .ne 14, 3) := by decide +kernel
theorem dX8_requireOpen_13 : decode cX8_requireOpen 13 = .ok (.new 104, 3) := by decide +kernel
theorem dX8_requireOpen_16 : decode cX8_requireOpen 16 = .ok (.dup, 1) := by decide +kernel
theorem dX8_requireOpen_17 : decode cX8_requireOpen 17 = .ok (.ldc_w 417, 3) := by decide +kernel
theorem dX8_requireOpen_20 : decode cX8_requireOpen 20 = .ok (.invokespecial 108, 3) := by decide +kernel
theorem dX8_requireOpen_23 : decode cX8_requireOpen 23 = .ok (.athrow, 1) := by decide +kernel
theorem dX8_requireOpen_24 : decode cX8_requireOpen 24 = .ok (.return_, 1) := by decide +kernel
theorem dX8_saveState_0 : decode cX8_saveState 0 = .ok (.aload_n 0, 1) := by decide +kernel
theorem dX8_saveState_1 : decode cX8_saveState 1 = .ok (.getfield 210, 3) := by decide +kernel
theorem dX8_saveState_4 : decode cX8_saveState 4 = .ok (.aload_n 0, 1) := by decide +kernel
theorem dX8_saveState_5 : decode cX8_saveState 5 = .ok (.getfield 22, 3) := by decide +kernel
theorem dX8_saveState_8 : decode cX8_saveState 8 = .ok (.arraylength, 1) := by decide +kernel
theorem dX8_saveState_9 : decode cX8_saveState 9 = .ok (.if_icmp .lt 7, 3) := by decide +kernel
theorem dX8_saveState_12 : decode cX8_saveState 12 = .ok (.aload_n 0, 1) := by decide +kernel
theorem dX8_saveState_13 : decode cX8_saveState 13 = .ok (.invokevirtual 421, 3) := by decide +kernel
theorem dX8_saveState_16 : decode cX8_saveState 16 = .ok (.aload_n 0, 1) := by decide +kernel
theorem dX8_saveState_17 : decode cX8_saveState 17 = .ok (.getfield 210, 3) := by decide +kernel
theorem dX8_saveState_20 : decode cX8_saveState 20 = .ok (.ifCond .lt 47, 3) := by decide +kernel
theorem dX8_saveState_23 : decode cX8_saveState 23 = .ok (.aload_n 0, 1) := by decide +kernel
theorem dX8_saveState_24 : decode cX8_saveState 24 = .ok (.getfield 210, 3) := by decide +kernel
theorem dX8_saveState_27 : decode cX8_saveState 27 = .ok (.aload_n 0, 1) := by decide +kernel
theorem dX8_saveState_28 : decode cX8_saveState 28 = .ok (.getfield 22, 3) := by decide +kernel
theorem dX8_saveState_31 : decode cX8_saveState 31 = .ok (.arraylength, 1) := by decide +kernel
theorem dX8_saveState_32 : decode cX8_saveState 32 = .ok (.if_icmp .ge 35, 3) := by decide +kernel
theorem dX8_saveState_35 : decode cX8_saveState 35 = .ok (.aload_n 0, 1) := by decide +kernel
theorem dX8_saveState_36 : decode cX8_saveState 36 = .ok (.getfield 22, 3) := by decide +kernel
theorem dX8_saveState_39 : decode cX8_saveState 39 = .ok (.aload_n 0, 1) := by decide +kernel
theorem dX8_saveState_40 : decode cX8_saveState 40 = .ok (.getfield 210, 3) := by decide +kernel
theorem dX8_saveState_43 : decode cX8_saveState 43 = .ok (.aaload, 1) := by decide +kernel
theorem dX8_saveState_44 : decode cX8_saveState 44 = .ok (.astore_n 1, 1) := by decide +kernel
theorem dX8_saveState_45 : decode cX8_saveState 45 = .ok (.aload_n 1, 1) := by decide +kernel
theorem dX8_saveState_46 : decode cX8_saveState 46 = .ok (.ifnull 21, 3) := by decide +kernel
theorem dX8_saveState_49 : decode cX8_saveState 49 = .ok (.aload_n 1, 1) := by decide +kernel
theorem dX8_saveState_50 : decode cX8_saveState 50 = .ok (.aload_n 0, 1) := by decide +kernel
theorem dX8_saveState_51 : decode cX8_saveState 51 = .ok (.getfield 12, 3) := by decide +kernel
theorem dX8_saveState_54 : decode cX8_saveState 54 = .ok (.invokevirtual 215, 3) := by decide +kernel
theorem dX8_saveState_57 : decode cX8_saveState 57 = .ok (.aload_n 0, 1) := by decide +kernel
theorem dX8_saveState_58 : decode cX8_saveState 58 = .ok (.dup, 1) := by decide +kernel
theorem dX8_saveState_59 : decode cX8_saveState 59 = .ok (.getfield 210, 3) := by decide +kernel
theorem dX8_saveState_62 : decode cX8_saveState 62 = .ok (.iconst 1, 1) := by decide +kernel
theorem dX8_saveState_63 : decode cX8_saveState 63 = .ok (.iadd, 1) := by decide +kernel
theorem dX8_saveState_64 : decode cX8_saveState 64 = .ok (.putfield 210, 3) := by decide +kernel
theorem dX8_saveState_67 : decode cX8_saveState 67 = .ok (.return_, 1) := by decide +kernel
theorem dX8_dropOldest_0 : decode cX8_dropOldest 0 = .ok (.iconst 0, 1) := by decide +kernel
theorem dX8_dropOldest_1 : decode cX8_dropOldest 1 = .ok (.istore_n 1, 1) := by decide +kernel
theorem dX8_dropOldest_2 : decode cX8_dropOldest 2 = .ok (.iload_n 1, 1) := by decide +kernel
theorem dX8_dropOldest_3 : decode cX8_dropOldest 3 = .ok (.iconst 1, 1) := by decide +kernel
theorem dX8_dropOldest_4 : decode cX8_dropOldest 4 = .ok (.iadd, 1) := by decide +kernel
theorem dX8_dropOldest_5 : decode cX8_dropOldest 5 = .ok (.aload_n 0, 1) := by decide +kernel
theorem dX8_dropOldest_6 : decode cX8_dropOldest 6 = .ok (.getfield 22, 3) := by decide +kernel
theorem dX8_dropOldest_9 : decode cX8_dropOldest 9 = .ok (.arraylength, 1) := by decide +kernel
theorem dX8_dropOldest_10 : decode cX8_dropOldest 10 = .ok (.if_icmp .ge 39, 3) := by decide +kernel
theorem dX8_dropOldest_13 : decode cX8_dropOldest 13 = .ok (.aload_n 0, 1) := by decide +kernel
theorem dX8_dropOldest_14 : decode cX8_dropOldest 14 = .ok (.getfield 22, 3) := by decide +kernel
theorem dX8_dropOldest_17 : decode cX8_dropOldest 17 = .ok (.iload_n 1, 1) := by decide +kernel
theorem dX8_dropOldest_18 : decode cX8_dropOldest 18 = .ok (.iconst 1, 1) := by decide +kernel
theorem dX8_dropOldest_19 : decode cX8_dropOldest 19 = .ok (.iadd, 1) := by decide +kernel
theorem dX8_dropOldest_20 : decode cX8_dropOldest 20 = .ok (.aaload, 1) := by decide +kernel
theorem dX8_dropOldest_21 : decode cX8_dropOldest 21 = .ok (.astore_n 2, 1) := by decide +kernel
theorem dX8_dropOldest_22 : decode cX8_dropOldest 22 = .ok (.aload_n 0, 1) := by decide +kernel
theorem dX8_dropOldest_23 : decode cX8_dropOldest 23 = .ok (.getfield 22, 3) := by decide +kernel
theorem dX8_dropOldest_26 : decode cX8_dropOldest 26 = .ok (.iload_n 1, 1) := by decide +kernel
theorem dX8_dropOldest_27 : decode cX8_dropOldest 27 = .ok (.iconst 1, 1) := by decide +kernel
theorem dX8_dropOldest_28 : decode cX8_dropOldest 28 = .ok (.iadd, 1) := by decide +kernel
theorem dX8_dropOldest_29 : decode cX8_dropOldest 29 = .ok (.aload_n 0, 1) := by decide +kernel
theorem dX8_dropOldest_30 : decode cX8_dropOldest 30 = .ok (.getfield 22, 3) := by decide +kernel
theorem dX8_dropOldest_33 : decode cX8_dropOldest 33 = .ok (.iload_n 1, 1) := by decide +kernel
theorem dX8_dropOldest_34 : decode cX8_dropOldest 34 = .ok (.aaload, 1) := by decide +kernel
theorem dX8_dropOldest_35 : decode cX8_dropOldest 35 = .ok (.aastore, 1) := by decide +kernel
theorem dX8_dropOldest_36 : decode cX8_dropOldest 36 = .ok (.aload_n 0, 1) := by decide +kernel
theorem dX8_dropOldest_37 : decode cX8_dropOldest 37 = .ok (.getfield 22, 3) := by decide +kernel
theorem dX8_dropOldest_40 : decode cX8_dropOldest 40 = .ok (.iload_n 1, 1) := by decide +kernel
theorem dX8_dropOldest_41 : decode cX8_dropOldest 41 = .ok (.aload_n 2, 1) := by decide +kernel
theorem dX8_dropOldest_42 : decode cX8_dropOldest 42 = .ok (.aastore, 1) := by decide +kernel
theorem dX8_dropOldest_43 : decode cX8_dropOldest 43 = .ok (.iinc 1 1, 3) := by decide +kernel
theorem dX8_dropOldest_46 : decode cX8_dropOldest 46 = .ok (.goto (-44), 3) := by decide +kernel
theorem dX8_dropOldest_49 : decode cX8_dropOldest 49 = .ok (.aload_n 0, 1) := by decide +kernel
theorem dX8_dropOldest_50 : decode cX8_dropOldest 50 = .ok (.dup, 1) := by decide +kernel
theorem dX8_dropOldest_51 : decode cX8_dropOldest 51 = .ok (.getfield 210, 3) := by decide +kernel
theorem dX8_dropOldest_54 : decode cX8_dropOldest 54 = .ok (.iconst 1, 1) := by decide +kernel
theorem dX8_dropOldest_55 : decode cX8_dropOldest 55 = .ok (.isub, 1) := by decide +kernel
theorem dX8_dropOldest_56 : decode cX8_dropOldest 56 = .ok (.putfield 210, 3) := by decide +kernel
theorem dX8_dropOldest_59 : decode cX8_dropOldest 59 = .ok (.return_, 1) := by decide +kernel
theorem dX8_lowNumerator_0 : decode cX8_lowNumerator 0 = .ok (.lload_n 0, 1) := by decide +kernel
theorem dX8_lowNumerator_1 : decode cX8_lowNumerator 1 = .ok (.lload_n 2, 1) := by decide +kernel
theorem dX8_lowNumerator_2 : decode cX8_lowNumerator 2 = .ok (.invokestatic 426, 3) := by decide +kernel
theorem dX8_lowNumerator_5 : decode cX8_lowNumerator 5 = .ok (.lstore 4, 2) := by decide +kernel
theorem dX8_lowNumerator_7 : decode cX8_lowNumerator 7 = .ok (.lload 4, 2) := by decide +kernel
theorem dX8_lowNumerator_9 : decode cX8_lowNumerator 9 = .ok (.lconst 0, 1) := by decide +kernel
theorem dX8_lowNumerator_10 : decode cX8_lowNumerator 10 = .ok (.lcmp, 1) := by decide +kernel
theorem dX8_lowNumerator_11 : decode cX8_lowNumerator 11 = .ok (.ifCond .ne 5, 3) := by decide +kernel
theorem dX8_lowNumerator_14 : decode cX8_lowNumerator 14 = .ok (.lconst 0, 1) := by decide +kernel
theorem dX8_lowNumerator_15 : decode cX8_lowNumerator 15 = .ok (.lreturn, 1) := by decide +kernel
theorem dX8_lowNumerator_16 : decode cX8_lowNumerator 16 = .ok (.lload_n 2, 1) := by decide +kernel
theorem dX8_lowNumerator_17 : decode cX8_lowNumerator 17 = .ok (.lconst 0, 1) := by decide +kernel
theorem dX8_lowNumerator_18 : decode cX8_lowNumerator 18 = .ok (.lcmp, 1) := by decide +kernel
theorem dX8_lowNumerator_19 : decode cX8_lowNumerator 19 = .ok (.ifCond .ge 11, 3) := by decide +kernel
theorem dX8_lowNumerator_22 : decode cX8_lowNumerator 22 = .ok (.lload_n 0, 1) := by decide +kernel
theorem dX8_lowNumerator_23 : decode cX8_lowNumerator 23 = .ok (.lload 4, 2) := by decide +kernel
theorem dX8_lowNumerator_25 : decode cX8_lowNumerator 25 = .ok (.ldiv, 1) := by decide +kernel
theorem dX8_lowNumerator_26 : decode cX8_lowNumerator 26 = .ok (.lneg, 1) := by decide +kernel
theorem dX8_lowNumerator_27 : decode cX8_lowNumerator 27 = .ok (.goto 7, 3) := by decide +kernel
theorem dX8_lowNumerator_30 : decode cX8_lowNumerator 30 = .ok (.lload_n 0, 1) := by decide +kernel
theorem dX8_lowNumerator_31 : decode cX8_lowNumerator 31 = .ok (.lload 4, 2) := by decide +kernel
theorem dX8_lowNumerator_33 : decode cX8_lowNumerator 33 = .ok (.ldiv, 1) := by decide +kernel
theorem dX8_lowNumerator_34 : decode cX8_lowNumerator 34 = .ok (.lreturn, 1) := by decide +kernel
theorem dX8_lowDenominator_0 : decode cX8_lowDenominator 0 = .ok (.lload_n 0, 1) := by decide +kernel
theorem dX8_lowDenominator_1 : decode cX8_lowDenominator 1 = .ok (.lload_n 2, 1) := by decide +kernel
theorem dX8_lowDenominator_2 : decode cX8_lowDenominator 2 = .ok (.invokestatic 426, 3) := by decide +kernel
theorem dX8_lowDenominator_5 : decode cX8_lowDenominator 5 = .ok (.lstore 4, 2) := by decide +kernel
theorem dX8_lowDenominator_7 : decode cX8_lowDenominator 7 = .ok (.lload 4, 2) := by decide +kernel
theorem dX8_lowDenominator_9 : decode cX8_lowDenominator 9 = .ok (.lconst 0, 1) := by decide +kernel
theorem dX8_lowDenominator_10 : decode cX8_lowDenominator 10 = .ok (.lcmp, 1) := by decide +kernel
theorem dX8_lowDenominator_11 : decode cX8_lowDenominator 11 = .ok (.ifCond .ne 5, 3) := by decide +kernel
theorem dX8_lowDenominator_14 : decode cX8_lowDenominator 14 = .ok (.lconst 1, 1) := by decide +kernel
theorem dX8_lowDenominator_15 : decode cX8_lowDenominator 15 = .ok (.lreturn, 1) := by decide +kernel
theorem dX8_lowDenominator_16 : decode cX8_lowDenominator 16 = .ok (.lload_n 2, 1) := by decide +kernel
theorem dX8_lowDenominator_17 : decode cX8_lowDenominator 17 = .ok (.invokestatic 429, 3) := by decide +kernel
theorem dX8_lowDenominator_20 : decode cX8_lowDenominator 20 = .ok (.lload 4, 2) := by decide +kernel
theorem dX8_lowDenominator_22 : decode cX8_lowDenominator 22 = .ok (.ldiv, 1) := by decide +kernel
theorem dX8_lowDenominator_23 : decode cX8_lowDenominator 23 = .ok (.lreturn, 1) := by decide +kernel
theorem dX8_commonDivisor_0 : decode cX8_commonDivisor 0 = .ok (.lload_n 0, 1) := by decide +kernel
theorem dX8_commonDivisor_1 : decode cX8_commonDivisor 1 = .ok (.invokestatic 429, 3) := by decide +kernel
theorem dX8_commonDivisor_4 : decode cX8_commonDivisor 4 = .ok (.lstore 4, 2) := by decide +kernel
theorem dX8_commonDivisor_6 : decode cX8_commonDivisor 6 = .ok (.lload_n 2, 1) := by decide +kernel
theorem dX8_commonDivisor_7 : decode cX8_commonDivisor 7 = .ok (.invokestatic 429, 3) := by decide +kernel
theorem dX8_commonDivisor_10 : decode cX8_commonDivisor 10 = .ok (.lstore 6, 2) := by decide +kernel
theorem dX8_commonDivisor_12 : decode cX8_commonDivisor 12 = .ok (.iconst 0, 1) := by decide +kernel
theorem dX8_commonDivisor_13 : decode cX8_commonDivisor 13 = .ok (.istore 8, 2) := by decide +kernel
theorem dX8_commonDivisor_15 : decode cX8_commonDivisor 15 = .ok (.iload 8, 2) := by decide +kernel
theorem dX8_commonDivisor_17 : decode cX8_commonDivisor 17 = .ok (.bipush 100, 2) := by decide +kernel
theorem dX8_commonDivisor_19 : decode cX8_commonDivisor 19 = .ok (.if_icmp .ge 31, 3) := by decide +kernel
theorem dX8_commonDivisor_22 : decode cX8_commonDivisor 22 = .ok (.lload 6, 2) := by decide +kernel
theorem dX8_commonDivisor_24 : decode cX8_commonDivisor 24 = .ok (.lconst 0, 1) := by decide +kernel
theorem dX8_commonDivisor_25 : decode cX8_commonDivisor 25 = .ok (.lcmp, 1) := by decide +kernel
theorem dX8_commonDivisor_26 : decode cX8_commonDivisor 26 = .ok (.ifCond .eq 24, 3) := by decide +kernel
theorem dX8_commonDivisor_29 : decode cX8_commonDivisor 29 = .ok (.lload 4, 2) := by decide +kernel
theorem dX8_commonDivisor_31 : decode cX8_commonDivisor 31 = .ok (.lload 6, 2) := by decide +kernel
theorem dX8_commonDivisor_33 : decode cX8_commonDivisor 33 = .ok (.lrem, 1) := by decide +kernel
theorem dX8_commonDivisor_34 : decode cX8_commonDivisor 34 = .ok (.lstore 9, 2) := by decide +kernel
theorem dX8_commonDivisor_36 : decode cX8_commonDivisor 36 = .ok (.lload 6, 2) := by decide +kernel
theorem dX8_commonDivisor_38 : decode cX8_commonDivisor 38 = .ok (.lstore 4, 2) := by decide +kernel
theorem dX8_commonDivisor_40 : decode cX8_commonDivisor 40 = .ok (.lload 9, 2) := by decide +kernel
theorem dX8_commonDivisor_42 : decode cX8_commonDivisor 42 = .ok (.lstore 6, 2) := by decide +kernel
theorem dX8_commonDivisor_44 : decode cX8_commonDivisor 44 = .ok (.iinc 8 1, 3) := by decide +kernel
theorem dX8_commonDivisor_47 : decode cX8_commonDivisor 47 = .ok (.goto (-32), 3) := by decide +kernel
theorem dX8_commonDivisor_50 : decode cX8_commonDivisor 50 = .ok (.lload 4, 2) := by decide +kernel
theorem dX8_commonDivisor_52 : decode cX8_commonDivisor 52 = .ok (.lreturn, 1) := by decide +kernel
