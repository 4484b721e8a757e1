theorem dX9_init_0 : decode cX9_init 0 = .ok (.aload_n 0, 1) := by decide +kernel
theorem dX9_init_1 : decode cX9_init 1 = .ok (.invokespecial 1, 3) := by decide +kernel
theorem dX9_init_4 : decode cX9_init 4 = .ok (.aload_n 0, 1) := by decide +kernel
theorem dX9_init_5 : decode cX9_init 5 = .ok (.bipush 34, 2) := by decide +kernel
theorem dX9_init_7 : decode cX9_init 7 = .ok (.newarray .int, 2) := by decide +kernel
theorem dX9_init_9 : decode cX9_init 9 = .ok (.putfield 7, 3) := by decide +kernel
theorem dX9_init_12 : decode cX9_init 12 = .ok (.aload_n 0, 1) := by decide +kernel
theorem dX9_init_13 : decode cX9_init 13 = .ok (.bipush 34, 2) := by decide +kernel
theorem dX9_init_15 : decode cX9_init 15 = .ok (.newarray .int, 2) := by decide +kernel
theorem dX9_init_17 : decode cX9_init 17 = .ok (.putfield 13, 3) := by decide +kernel
theorem dX9_init_20 : decode cX9_init 20 = .ok (.aload_n 0, 1) := by decide +kernel
theorem dX9_init_21 : decode cX9_init 21 = .ok (.sipush 204, 3) := by decide +kernel
theorem dX9_init_24 : decode cX9_init 24 = .ok (.newarray .int, 2) := by decide +kernel
theorem dX9_init_26 : decode cX9_init 26 = .ok (.putfield 16, 3) := by decide +kernel
theorem dX9_init_29 : decode cX9_init 29 = .ok (.aload_n 0, 1) := by decide +kernel
theorem dX9_init_30 : decode cX9_init 30 = .ok (.bipush 34, 2) := by decide +kernel
theorem dX9_init_32 : decode cX9_init 32 = .ok (.newarray .int, 2) := by decide +kernel
theorem dX9_init_34 : decode cX9_init 34 = .ok (.putfield 19, 3) := by decide +kernel
theorem dX9_init_37 : decode cX9_init 37 = .ok (.aload_n 0, 1) := by decide +kernel
theorem dX9_init_38 : decode cX9_init 38 = .ok (.bipush 60, 2) := by decide +kernel
theorem dX9_init_40 : decode cX9_init 40 = .ok (.newarray .int, 2) := by decide +kernel
theorem dX9_init_42 : decode cX9_init 42 = .ok (.putfield 22, 3) := by decide +kernel
theorem dX9_init_45 : decode cX9_init 45 = .ok (.aload_n 0, 1) := by decide +kernel
theorem dX9_init_46 : decode cX9_init 46 = .ok (.bipush 36, 2) := by decide +kernel
theorem dX9_init_48 : decode cX9_init 48 = .ok (.newarray .long, 2) := by decide +kernel
theorem dX9_init_50 : decode cX9_init 50 = .ok (.putfield 25, 3) := by decide +kernel
theorem dX9_init_53 : decode cX9_init 53 = .ok (.aload_n 0, 1) := by decide +kernel
theorem dX9_init_54 : decode cX9_init 54 = .ok (.bipush 36, 2) := by decide +kernel
theorem dX9_init_56 : decode cX9_init 56 = .ok (.newarray .long, 2) := by decide +kernel
theorem dX9_init_58 : decode cX9_init 58 = .ok (.putfield 29, 3) := by decide +kernel
theorem dX9_init_61 : decode cX9_init 61 = .ok (.aload_n 0, 1) := by decide +kernel
theorem dX9_init_62 : decode cX9_init 62 = .ok (.iconst 4, 1) := by decide +kernel
theorem dX9_init_63 : decode cX9_init 63 = .ok (.newarray .int, 2) := by decide +kernel
theorem dX9_init_65 : decode cX9_init 65 = .ok (.putfield 32, 3) := by decide +kernel
theorem dX9_init_68 : decode cX9_init 68 = .ok (.aload_n 0, 1) := by decide +kernel
theorem dX9_init_69 : decode cX9_init 69 = .ok (.iconst 4, 1) := by decide +kernel
theorem dX9_init_70 : decode cX9_init 70 = .ok (.newarray .int, 2) := by decide +kernel
theorem dX9_init_72 : decode cX9_init 72 = .ok (.putfield 35, 3) := by decide +kernel
theorem dX9_init_75 : decode cX9_init 75 = .ok (.aload_n 0, 1) := by decide +kernel
theorem dX9_init_76 : decode cX9_init 76 = .ok (.bipush 36, 2) := by decide +kernel
theorem dX9_init_78 : decode cX9_init 78 = .ok (.newarray .long, 2) := by decide +kernel
theorem dX9_init_80 : decode cX9_init 80 = .ok (.putfield 38, 3) := by decide +kernel
theorem dX9_init_83 : decode cX9_init 83 = .ok (.aload_n 0, 1) := by decide +kernel
theorem dX9_init_84 : decode cX9_init 84 = .ok (.bipush 36, 2) := by decide +kernel
theorem dX9_init_86 : decode cX9_init 86 = .ok (.newarray .long, 2) := by decide +kernel
theorem dX9_init_88 : decode cX9_init 88 = .ok (.putfield 41, 3) := by decide +kernel
theorem dX9_init_91 : decode cX9_init 91 = .ok (.aload_n 0, 1) := by decide +kernel
theorem dX9_init_92 : decode cX9_init 92 = .ok (.sipush 140, 3) := by decide +kernel
theorem dX9_init_95 : decode cX9_init 95 = .ok (.newarray .long, 2) := by decide +kernel
theorem dX9_init_97 : decode cX9_init 97 = .ok (.putfield 44, 3) := by decide +kernel
theorem dX9_init_100 : decode cX9_init 100 = .ok (.aload_n 0, 1) := by decide +kernel
theorem dX9_init_101 : decode cX9_init 101 = .ok (.bipush 26, 2) := by decide +kernel
theorem dX9_init_103 : decode cX9_init 103 = .ok (.newarray .int, 2) := by decide +kernel
theorem dX9_init_105 : decode cX9_init 105 = .ok (.putfield 47, 3) := by decide +kernel
theorem dX9_init_108 : decode cX9_init 108 = .ok (.aload_n 0, 1) := by decide +kernel
theorem dX9_init_109 : decode cX9_init 109 = .ok (.bipush 80, 2) := by decide +kernel
theorem dX9_init_111 : decode cX9_init 111 = .ok (.newarray .int, 2) := by decide +kernel
theorem dX9_init_113 : decode cX9_init 113 = .ok (.putfield 50, 3) := by decide +kernel
theorem dX9_init_116 : decode cX9_init 116 = .ok (.aload_n 0, 1) := by decide +kernel
theorem dX9_init_117 : decode cX9_init 117 = .ok (.getfield 7, 3) := by decide +kernel
theorem dX9_init_120 : decode cX9_init 120 = .ok (.iconst 0, 1) := by decide +kernel
theorem dX9_init_121 : decode cX9_init 121 = .ok (.iconst 2, 1) := by decide +kernel
theorem dX9_init_122 : decode cX9_init 122 = .ok (.iastore, 1) := by decide +kernel
theorem dX9_init_123 : decode cX9_init 123 = .ok (.return_, 1) := by decide +kernel
theorem dX9_thrown_0 : decode cX9_thrown 0 = .ok (.aload_n 0, 1) := by decide +kernel
theorem dX9_thrown_1 : decode cX9_thrown 1 = .ok (.getfield 53, 3) := by decide +kernel
theorem dX9_thrown_4 : decode cX9_thrown 4 = .ok (.ireturn, 1) := by decide +kernel
theorem dX9_in_0 : decode cX9_in 0 = .ok (.iload_n 0, 1) := by decide +kernel
theorem dX9_in_1 : decode cX9_in 1 = .ok (.iload_n 1, 1) := by decide +kernel
theorem dX9_in_2 : decode cX9_in 2 = .ok (.if_icmp .lt 12, 3) := by decide +kernel
theorem dX9_in_5 : decode cX9_in 5 = .ok (.iload_n 0, 1) := by decide +kernel
theorem dX9_in_6 : decode cX9_in 6 = .ok (.iload_n 2, 1) := by decide +kernel
theorem dX9_in_7 : decode cX9_in 7 = .ok (.if_icmp .gt 7, 3) := by decide +kernel
theorem dX9_in_10 : decode cX9_in 10 = .ok (.iconst 1, 1) := by decide +kernel
theorem dX9_in_11 : decode cX9_in 11 = .ok (.goto 4, 3) := by decide +kernel
theorem dX9_in_14 : decode cX9_in 14 = .ok (.iconst 0, 1) := by decide +kernel
theorem dX9_in_15 : decode cX9_in 15 = .ok (.ireturn, 1) := by decide +kernel
theorem dX9_holds_0 : decode cX9_holds 0 = .ok (.aload_n 0, 1) := by decide +kernel
theorem dX9_holds_1 : decode cX9_holds 1 = .ok (.iload_n 1, 1) := by decide +kernel
theorem dX9_holds_2 : decode cX9_holds 2 = .ok (.putfield 53, 3) := by decide +kernel
theorem dX9_holds_5 : decode cX9_holds 5 = .ok (.iload_n 1, 1) := by decide +kernel
theorem dX9_holds_6 : decode cX9_holds 6 = .ok (.ifCond .ne 7, 3) := by decide +kernel
theorem dX9_holds_9 : decode cX9_holds 9 = .ok (.iconst 1, 1) := by decide +kernel
theorem dX9_holds_10 : decode cX9_holds 10 = .ok (.goto 4, 3) := by decide +kernel
theorem dX9_holds_13 : decode cX9_holds 13 = .ok (.iconst 0, 1) := by decide +kernel
theorem dX9_holds_14 : decode cX9_holds 14 = .ok (.ireturn, 1) := by decide +kernel
theorem dX9_isVariable_0 : decode cX9_isVariable 0 = .ok (.iload_n 1, 1) := by decide +kernel
theorem dX9_isVariable_1 : decode cX9_isVariable 1 = .ok (.iconst 0, 1) := by decide +kernel
theorem dX9_isVariable_2 : decode cX9_isVariable 2 = .ok (.aload_n 0, 1) := by decide +kernel
theorem dX9_isVariable_3 : decode cX9_isVariable 3 = .ok (.getfield 7, 3) := by decide +kernel
theorem dX9_isVariable_6 : decode cX9_isVariable 6 = .ok (.iconst 0, 1) := by decide +kernel
theorem dX9_isVariable_7 : decode cX9_isVariable 7 = .ok (.iaload, 1) := by decide +kernel
theorem dX9_isVariable_8 : decode cX9_isVariable 8 = .ok (.iconst 1, 1) := by decide +kernel
theorem dX9_isVariable_9 : decode cX9_isVariable 9 = .ok (.isub, 1) := by decide +kernel
theorem dX9_isVariable_10 : decode cX9_isVariable 10 = .ok (.invokestatic 57, 3) := by decide +kernel
theorem dX9_isVariable_13 : decode cX9_isVariable 13 = .ok (.ireturn, 1) := by decide +kernel
theorem dX9_isConstraint_0 : decode cX9_isConstraint 0 = .ok (.iload_n 1, 1) := by decide +kernel
theorem dX9_isConstraint_1 : decode cX9_isConstraint 1 = .ok (.iconst 0, 1) := by decide +kernel
theorem dX9_isConstraint_2 : decode cX9_isConstraint 2 = .ok (.aload_n 0, 1) := by decide +kernel
theorem dX9_isConstraint_3 : decode cX9_isConstraint 3 = .ok (.getfield 7, 3) := by decide +kernel
theorem dX9_isConstraint_6 : decode cX9_isConstraint 6 = .ok (.iconst 1, 1) := by decide +kernel
theorem dX9_isConstraint_7 : decode cX9_isConstraint 7 = .ok (.iaload, 1) := by decide +kernel
theorem dX9_isConstraint_8 : decode cX9_isConstraint 8 = .ok (.iconst 1, 1) := by decide +kernel
theorem dX9_isConstraint_9 : decode cX9_isConstraint 9 = .ok (.isub, 1) := by decide +kernel
theorem dX9_isConstraint_10 : decode cX9_isConstraint 10 = .ok (.invokestatic 57, 3) := by decide +kernel
theorem dX9_isConstraint_13 : decode cX9_isConstraint 13 = .ok (.ireturn, 1) := by decide +kernel
theorem dX9_columns_0 : decode cX9_columns 0 = .ok (.aload_n 0, 1) := by decide +kernel
theorem dX9_columns_1 : decode cX9_columns 1 = .ok (.getfield 7, 3) := by decide +kernel
theorem dX9_columns_4 : decode cX9_columns 4 = .ok (.iconst 0, 1) := by decide +kernel
theorem dX9_columns_5 : decode cX9_columns 5 = .ok (.iaload, 1) := by decide +kernel
theorem dX9_columns_6 : decode cX9_columns 6 = .ok (.aload_n 0, 1) := by decide +kernel
theorem dX9_columns_7 : decode cX9_columns 7 = .ok (.getfield 7, 3) := by decide +kernel
theorem dX9_columns_10 : decode cX9_columns 10 = .ok (.iconst 1, 1) := by decide +kernel
theorem dX9_columns_11 : decode cX9_columns 11 = .ok (.iaload, 1) := by decide +kernel
theorem dX9_columns_12 : decode cX9_columns 12 = .ok (.iadd, 1) := by decide +kernel
theorem dX9_columns_13 : decode cX9_columns 13 = .ok (.ireturn, 1) := by decide +kernel
theorem dX9_isColumn_0 : decode cX9_isColumn 0 = .ok (.iload_n 1, 1) := by decide +kernel
theorem dX9_isColumn_1 : decode cX9_isColumn 1 = .ok (.iconst 0, 1) := by decide +kernel
theorem dX9_isColumn_2 : decode cX9_isColumn 2 = .ok (.aload_n 0, 1) := by decide +kernel
theorem dX9_isColumn_3 : decode cX9_isColumn 3 = .ok (.invokevirtual 61, 3) := by decide +kernel
theorem dX9_isColumn_6 : decode cX9_isColumn 6 = .ok (.iconst 1, 1) := by decide +kernel
theorem dX9_isColumn_7 : decode cX9_isColumn 7 = .ok (.isub, 1) := by decide +kernel
theorem dX9_isColumn_8 : decode cX9_isColumn 8 = .ok (.invokestatic 57, 3) := by decide +kernel
theorem dX9_isColumn_11 : decode cX9_isColumn 11 = .ok (.ireturn, 1) := by decide +kernel
theorem dX9_save_0 : decode cX9_save 0 = .ok (.aload_n 0, 1) := by decide +kernel
theorem dX9_save_1 : decode cX9_save 1 = .ok (.getfield 65, 3) := by decide +kernel
theorem dX9_save_4 : decode cX9_save 4 = .ok (.bipush 6, 2) := by decide +kernel
theorem dX9_save_6 : decode cX9_save 6 = .ok (.if_icmp .ne 43, 3) := by decide +kernel
theorem dX9_save_9 : decode cX9_save 9 = .ok (.iconst 0, 1) := by decide +kernel
theorem dX9_save_10 : decode cX9_save 10 = .ok (.istore_n 1, 1) := by decide +kernel
theorem dX9_save_11 : decode cX9_save 11 = .ok (.iload_n 1, 1) := by decide +kernel
theorem dX9_save_12 : decode cX9_save 12 = .ok (.sipush 170, 3) := by decide +kernel
theorem dX9_save_15 : decode cX9_save 15 = .ok (.if_icmp .ge 24, 3) := by decide +kernel
theorem dX9_save_18 : decode cX9_save 18 = .ok (.aload_n 0, 1) := by decide +kernel
theorem dX9_save_19 : decode cX9_save 19 = .ok (.getfield 16, 3) := by decide +kernel
theorem dX9_save_22 : decode cX9_save 22 = .ok (.iload_n 1, 1) := by decide +kernel
theorem dX9_save_23 : decode cX9_save 23 = .ok (.aload_n 0, 1) := by decide +kernel
theorem dX9_save_24 : decode cX9_save 24 = .ok (.getfield 16, 3) := by decide +kernel
theorem dX9_save_27 : decode cX9_save 27 = .ok (.iload_n 1, 1) := by decide +kernel
theorem dX9_save_28 : decode cX9_save 28 = .ok (.bipush 34, 2) := by decide +kernel
theorem dX9_save_30 : decode cX9_save 30 = .ok (.iadd, 1) := by decide +kernel
theorem dX9_save_31 : decode cX9_save 31 = .ok (.iaload, 1) := by decide +kernel
theorem dX9_save_32 : decode cX9_save 32 = .ok (.iastore, 1) := by decide +kernel
theorem dX9_save_33 : decode cX9_save 33 = .ok (.iinc 1 1, 3) := by decide +kernel
theorem dX9_save_36 : decode cX9_save 36 = .ok (.goto (-25), 3) := by decide +kernel
theorem dX9_save_39 : decode cX9_save 39 = .ok (.aload_n 0, 1) := by decide +kernel
theorem dX9_save_40 : decode cX9_save 40 = .ok (.dup, 1) := by decide +kernel
theorem dX9_save_41 : decode cX9_save 41 = .ok (.getfield 65, 3) := by decide +kernel
theorem dX9_save_44 : decode cX9_save 44 = .ok (.iconst 1, 1) := by decide +kernel
theorem dX9_save_45 : decode cX9_save 45 = .ok (.isub, 1) := by decide +kernel
theorem dX9_save_46 : decode cX9_save 46 = .ok (.putfield 65, 3) := by decide +kernel
theorem dX9_save_49 : decode cX9_save 49 = .ok (.iconst 0, 1) := by decide +kernel
theorem dX9_save_50 : decode cX9_save 50 = .ok (.istore_n 1, 1) := by decide +kernel
theorem dX9_save_51 : decode cX9_save 51 = .ok (.iload_n 1, 1) := by decide +kernel
theorem dX9_save_52 : decode cX9_save 52 = .ok (.bipush 34, 2) := by decide +kernel
theorem dX9_save_54 : decode cX9_save 54 = .ok (.if_icmp .ge 29, 3) := by decide +kernel
theorem dX9_save_57 : decode cX9_save 57 = .ok (.aload_n 0, 1) := by decide +kernel
theorem dX9_save_58 : decode cX9_save 58 = .ok (.getfield 16, 3) := by decide +kernel
theorem dX9_save_61 : decode cX9_save 61 = .ok (.bipush 34, 2) := by decide +kernel
theorem dX9_save_63 : decode cX9_save 63 = .ok (.aload_n 0, 1) := by decide +kernel
theorem dX9_save_64 : decode cX9_save 64 = .ok (.getfield 65, 3) := by decide +kernel
theorem dX9_save_67 : decode cX9_save 67 = .ok (.imul, 1) := by decide +kernel
theorem dX9_save_68 : decode cX9_save 68 = .ok (.iload_n 1, 1) := by decide +kernel
theorem dX9_save_69 : decode cX9_save 69 = .ok (.iadd, 1) := by decide +kernel
theorem dX9_save_70 : decode cX9_save 70 = .ok (.aload_n 0, 1) := by decide +kernel
theorem dX9_save_71 : decode cX9_save 71 = .ok (.getfield 7, 3) := by decide +kernel
theorem dX9_save_74 : decode cX9_save 74 = .ok (.iload_n 1, 1) := by decide +kernel
theorem dX9_save_75 : decode cX9_save 75 = .ok (.iaload, 1) := by decide +kernel
theorem dX9_save_76 : decode cX9_save 76 = .ok (.iastore, 1) := by decide +kernel
theorem dX9_save_77 : decode cX9_save 77 = .ok (.iinc 1 1, 3) := by decide +kernel
theorem dX9_save_80 : decode cX9_save 80 = .ok (.goto (-29), 3) := by decide +kernel
theorem dX9_save_83 : decode cX9_save 83 = .ok (.aload_n 0, 1) := by decide +kernel
theorem dX9_save_84 : decode cX9_save 84 = .ok (.dup, 1) := by decide +kernel
theorem dX9_save_85 : decode cX9_save 85 = .ok (.getfield 65, 3) := by decide +kernel
theorem dX9_save_88 : decode cX9_save 88 = .ok (.iconst 1, 1) := by decide +kernel
theorem dX9_save_89 : decode cX9_save 89 = .ok (.iadd, 1) := by decide +kernel
theorem dX9_save_90 : decode cX9_save 90 = .ok (.putfield 65, 3) := by decide +kernel
theorem dX9_save_93 : decode cX9_save 93 = .ok (.return_, 1) := by decide +kernel
theorem dX9_putAside_0 : decode cX9_putAside 0 = .ok (.iconst 0, 1) := by decide +kernel
theorem dX9_putAside_1 : decode cX9_putAside 1 = .ok (.istore_n 1, 1) := by decide +kernel
theorem dX9_putAside_2 : decode cX9_putAside 2 = .ok (.iload_n 1, 1) := by decide +kernel
theorem dX9_putAside_3 : decode cX9_putAside 3 = .ok (.bipush 34, 2) := by decide +kernel
theorem dX9_putAside_5 : decode cX9_putAside 5 = .ok (.if_icmp .ge 21, 3) := by decide +kernel
theorem dX9_putAside_8 : decode cX9_putAside 8 = .ok (.aload_n 0, 1) := by decide +kernel
theorem dX9_putAside_9 : decode cX9_putAside 9 = .ok (.getfield 13, 3) := by decide +kernel
theorem dX9_putAside_12 : decode cX9_putAside 12 = .ok (.iload_n 1, 1) := by decide +kernel
theorem dX9_putAside_13 : decode cX9_putAside 13 = .ok (.aload_n 0, 1) := by decide +kernel
theorem dX9_putAside_14 : decode cX9_putAside 14 = .ok (.getfield 7, 3) := by decide +kernel
theorem dX9_putAside_17 : decode cX9_putAside 17 = .ok (.iload_n 1, 1) := by decide +kernel
theorem dX9_putAside_18 : decode cX9_putAside 18 = .ok (.iaload, 1) := by decide +kernel
theorem dX9_putAside_19 : decode cX9_putAside 19 = .ok (.iastore, 1) := by decide +kernel
theorem dX9_putAside_20 : decode cX9_putAside 20 = .ok (.iinc 1 1, 3) := by decide +kernel
theorem dX9_putAside_23 : decode cX9_putAside 23 = .ok (.goto (-21), 3) := by decide +kernel
theorem dX9_putAside_26 : decode cX9_putAside 26 = .ok (.return_, 1) := by decide +kernel
theorem dX9_putBack_0 : decode cX9_putBack 0 = .ok (.iconst 0, 1) := by decide +kernel
theorem dX9_putBack_1 : decode cX9_putBack 1 = .ok (.istore_n 1, 1) := by decide +kernel
theorem dX9_putBack_2 : decode cX9_putBack 2 = .ok (.iload_n 1, 1) := by decide +kernel
theorem dX9_putBack_3 : decode cX9_putBack 3 = .ok (.bipush 34, 2) := by decide +kernel
theorem dX9_putBack_5 : decode cX9_putBack 5 = .ok (.if_icmp .ge 21, 3) := by decide +kernel
theorem dX9_putBack_8 : decode cX9_putBack 8 = .ok (.aload_n 0, 1) := by decide +kernel
theorem dX9_putBack_9 : decode cX9_putBack 9 = .ok (.getfield 7, 3) := by decide +kernel
theorem dX9_putBack_12 : decode cX9_putBack 12 = .ok (.iload_n 1, 1) := by decide +kernel
theorem dX9_putBack_13 : decode cX9_putBack 13 = .ok (.aload_n 0, 1) := by decide +kernel
theorem dX9_putBack_14 : decode cX9_putBack 14 = .ok (.getfield 13, 3) := by decide +kernel
theorem dX9_putBack_17 : decode cX9_putBack 17 = .ok (.iload_n 1, 1) := by decide +kernel
theorem dX9_putBack_18 : decode cX9_putBack 18 = .ok (.iaload, 1) := by decide +kernel
theorem dX9_putBack_19 : decode cX9_putBack 19 = .ok (.iastore, 1) := by decide +kernel
theorem dX9_putBack_20 : decode cX9_putBack 20 = .ok (.iinc 1 1, 3) := by decide +kernel
theorem dX9_putBack_23 : decode cX9_putBack 23 = .ok (.goto (-21), 3) := by decide +kernel
theorem dX9_putBack_26 : decode cX9_putBack 26 = .ok (.return_, 1) := by decide +kernel
theorem dX9_begins_0 : decode cX9_begins 0 = .ok (.iconst 0, 1) := by decide +kernel
theorem dX9_begins_1 : decode cX9_begins 1 = .ok (.istore_n 1, 1) := by decide +kernel
theorem dX9_begins_2 : decode cX9_begins 2 = .ok (.iload_n 1, 1) := by decide +kernel
theorem dX9_begins_3 : decode cX9_begins 3 = .ok (.iconst 4, 1) := by decide +kernel
theorem dX9_begins_4 : decode cX9_begins 4 = .ok (.if_icmp .ge 40, 3) := by decide +kernel
theorem dX9_begins_7 : decode cX9_begins 7 = .ok (.aload_n 0, 1) := by decide +kernel
theorem dX9_begins_8 : decode cX9_begins 8 = .ok (.getfield 7, 3) := by decide +kernel
theorem dX9_begins_11 : decode cX9_begins 11 = .ok (.bipush 27, 2) := by decide +kernel
theorem dX9_begins_13 : decode cX9_begins 13 = .ok (.iload_n 1, 1) := by decide +kernel
theorem dX9_begins_14 : decode cX9_begins 14 = .ok (.iadd, 1) := by decide +kernel
theorem dX9_begins_15 : decode cX9_begins 15 = .ok (.iload_n 1, 1) := by decide +kernel
theorem dX9_begins_16 : decode cX9_begins 16 = .ok (.aload_n 0, 1) := by decide +kernel
theorem dX9_begins_17 : decode cX9_begins 17 = .ok (.getfield 7, 3) := by decide +kernel
theorem dX9_begins_20 : decode cX9_begins 20 = .ok (.iconst 1, 1) := by decide +kernel
theorem dX9_begins_21 : decode cX9_begins 21 = .ok (.iaload, 1) := by decide +kernel
theorem dX9_begins_22 : decode cX9_begins 22 = .ok (.if_icmp .ge 14, 3) := by decide +kernel
theorem dX9_begins_25 : decode cX9_begins 25 = .ok (.aload_n 0, 1) := by decide +kernel
theorem dX9_begins_26 : decode cX9_begins 26 = .ok (.getfield 7, 3) := by decide +kernel
theorem dX9_begins_29 : decode cX9_begins 29 = .ok (.iconst 0, 1) := by decide +kernel
theorem dX9_begins_30 : decode cX9_begins 30 = .ok (.iaload, 1) := by decide +kernel
theorem dX9_begins_31 : decode cX9_begins 31 = .ok (.iload_n 1, 1) := by decide +kernel
theorem dX9_begins_32 : decode cX9_begins 32 = .ok (.iadd, 1) := by decide +kernel
theorem dX9_begins_33 : decode cX9_begins 33 = .ok (.goto 4, 3) := by decide +kernel
theorem dX9_begins_36 : decode cX9_begins 36 = .ok (.iconst 0, 1) := by decide +kernel
theorem dX9_begins_37 : decode cX9_begins 37 = .ok (.iastore, 1) := by decide +kernel
theorem dX9_begins_38 : decode cX9_begins 38 = .ok (.iinc 1 1, 3) := by decide +kernel
theorem dX9_begins_41 : decode cX9_begins 41 = .ok (.goto (-39), 3) := by decide +kernel
theorem dX9_begins_44 : decode cX9_begins 44 = .ok (.aload_n 0, 1) := by decide +kernel
theorem dX9_begins_45 : decode cX9_begins 45 = .ok (.getfield 7, 3) := by decide +kernel
theorem dX9_begins_48 : decode cX9_begins 48 = .ok (.bipush 31, 2) := by decide +kernel
theorem dX9_begins_50 : decode cX9_begins 50 = .ok (.iconst 0, 1) := by decide +kernel
theorem dX9_begins_51 : decode cX9_begins 51 = .ok (.iastore, 1) := by decide +kernel
theorem dX9_begins_52 : decode cX9_begins 52 = .ok (.return_, 1) := by decide +kernel
theorem dX9_divisor_0 : decode cX9_divisor 0 = .ok (.lload_n 0, 1) := by decide +kernel
theorem dX9_divisor_1 : decode cX9_divisor 1 = .ok (.lconst 0, 1) := by decide +kernel
theorem dX9_divisor_2 : decode cX9_divisor 2 = .ok (.lcmp, 1) := by decide +kernel
theorem dX9_divisor_3 : decode cX9_divisor 3 = .ok (.ifCond .ge 8, 3) := by decide +kernel
theorem dX9_divisor_6 : decode cX9_divisor 6 = .ok (.lload_n 0, 1) := by decide +kernel
theorem dX9_divisor_7 : decode cX9_divisor 7 = .ok (.lneg, 1) := by decide +kernel
theorem dX9_divisor_8 : decode cX9_divisor 8 = .ok (.goto 4, 3) := by decide +kernel
theorem dX9_divisor_11 : decode cX9_divisor 11 = .ok (.lload_n 0, 1) := by decide +kernel
theorem dX9_divisor_12 : decode cX9_divisor 12 = .ok (.lstore 4, 2) := by decide +kernel
theorem dX9_divisor_14 : decode cX9_divisor 14 = .ok (.lload_n 2, 1) := by decide +kernel
theorem dX9_divisor_15 : decode cX9_divisor 15 = .ok (.lconst 0, 1) := by decide +kernel
theorem dX9_divisor_16 : decode cX9_divisor 16 = .ok (.lcmp, 1) := by decide +kernel
theorem dX9_divisor_17 : decode cX9_divisor 17 = .ok (.ifCond .ge 8, 3) := by decide +kernel
theorem dX9_divisor_20 : decode cX9_divisor 20 = .ok (.lload_n 2, 1) := by decide +kernel
theorem dX9_divisor_21 : decode cX9_divisor 21 = .ok (.lneg, 1) := by decide +kernel
theorem dX9_divisor_22 : decode cX9_divisor 22 = .ok (.goto 4, 3) := by decide +kernel
theorem dX9_divisor_25 : decode cX9_divisor 25 = .ok (.lload_n 2, 1) := by decide +kernel
theorem dX9_divisor_26 : decode cX9_divisor 26 = .ok (.lstore 6, 2) := by decide +kernel
theorem dX9_divisor_28 : decode cX9_divisor 28 = .ok (.lload 6, 2) := by decide +kernel
theorem dX9_divisor_30 : decode cX9_divisor 30 = .ok (.lconst 0, 1) := by decide +kernel
theorem dX9_divisor_31 : decode cX9_divisor 31 = .ok (.lcmp, 1) := by decide +kernel
theorem dX9_divisor_32 : decode cX9_divisor 32 = .ok (.ifCond .eq 21, 3) := by decide +kernel
theorem dX9_divisor_35 : decode cX9_divisor 35 = .ok (.lload 4, 2) := by decide +kernel
theorem dX9_divisor_37 : decode cX9_divisor 37 = .ok (.lload 6, 2) := by decide +kernel
theorem dX9_divisor_39 : decode cX9_divisor 39 = .ok (.lrem, 1) := by decide +kernel
theorem dX9_divisor_40 : decode cX9_divisor 40 = .ok (.lstore 8, 2) := by decide +kernel
theorem dX9_divisor_42 : decode cX9_divisor 42 = .ok (.lload 6, 2) := by decide +kernel
theorem dX9_divisor_44 : decode cX9_divisor 44 = .ok (.lstore 4, 2) := by decide +kernel
theorem dX9_divisor_46 : decode cX9_divisor 46 = .ok (.lload 8, 2) := by decide +kernel
theorem dX9_divisor_48 : decode cX9_divisor 48 = .ok (.lstore 6, 2) := by decide +kernel
theorem dX9_divisor_50 : decode cX9_divisor 50 = .ok (.goto (-22), 3) := by decide +kernel
theorem dX9_divisor_53 : decode cX9_divisor 53 = .ok (.lload 4, 2) := by decide +kernel
theorem dX9_divisor_55 : decode cX9_divisor 55 = .ok (.lreturn, 1) := by decide +kernel
theorem dX9_becomes_0 : decode cX9_becomes 0 = .ok (.lload_n 1, 1) := by decide +kernel
theorem dX9_becomes_1 : decode cX9_becomes 1 = .ok (.lload_n 3, 1) := by decide +kernel
theorem dX9_becomes_2 : decode cX9_becomes 2 = .ok (.invokestatic 68, 3) := by decide +kernel
theorem dX9_becomes_5 : decode cX9_becomes 5 = .ok (.lstore 5, 2) := by decide +kernel
theorem dX9_becomes_7 : decode cX9_becomes 7 = .ok (.lload_n 3, 1) := by decide +kernel
theorem dX9_becomes_8 : decode cX9_becomes 8 = .ok (.lconst 0, 1) := by decide +kernel
theorem dX9_becomes_9 : decode cX9_becomes 9 = .ok (.lcmp, 1) := by decide +kernel
theorem dX9_becomes_10 : decode cX9_becomes 10 = .ok (.ifCond .ge 9, 3) := by decide +kernel
theorem dX9_becomes_13 : decode cX9_becomes 13 = .ok (.lload 5, 2) := by decide +kernel
theorem dX9_becomes_15 : decode cX9_becomes 15 = .ok (.lneg, 1) := by decide +kernel
theorem dX9_becomes_16 : decode cX9_becomes 16 = .ok (.goto 5, 3) := by decide +kernel
theorem dX9_becomes_19 : decode cX9_becomes 19 = .ok (.lload 5, 2) := by decide +kernel
theorem dX9_becomes_21 : decode cX9_becomes 21 = .ok (.lstore 5, 2) := by decide +kernel
theorem dX9_becomes_23 : decode cX9_becomes 23 = .ok (.aload_n 0, 1) := by decide +kernel
theorem dX9_becomes_24 : decode cX9_becomes 24 = .ok (.lload_n 1, 1) := by decide +kernel
theorem dX9_becomes_25 : decode cX9_becomes 25 = .ok (.lload 5, 2) := by decide +kernel
theorem dX9_becomes_27 : decode cX9_becomes 27 = .ok (.ldiv, 1) := by decide +kernel
theorem dX9_becomes_28 : decode cX9_becomes 28 = .ok (.putfield 72, 3) := by decide +kernel
theorem dX9_becomes_31 : decode cX9_becomes 31 = .ok (.aload_n 0, 1) := by decide +kernel
theorem dX9_becomes_32 : decode cX9_becomes 32 = .ok (.lload_n 3, 1) := by decide +kernel
theorem dX9_becomes_33 : decode cX9_becomes 33 = .ok (.lload 5, 2) := by decide +kernel
theorem dX9_becomes_35 : decode cX9_becomes 35 = .ok (.ldiv, 1) := by decide +kernel
theorem dX9_becomes_36 : decode cX9_becomes 36 = .ok (.putfield 76, 3) := by decide +kernel
theorem dX9_becomes_39 : decode cX9_becomes 39 = .ok (.return_, 1) := by decide +kernel
theorem dX9_adds_0 : decode cX9_adds 0 = .ok (.aload_n 0, 1) := by decide +kernel
theorem dX9_adds_1 : decode cX9_adds 1 = .ok (.aload_n 0, 1) := by decide +kernel
theorem dX9_adds_2 : decode cX9_adds 2 = .ok (.getfield 72, 3) := by decide +kernel
theorem dX9_adds_5 : decode cX9_adds 5 = .ok (.lload 5, 2) := by decide +kernel
theorem dX9_adds_7 : decode cX9_adds 7 = .ok (.lmul, 1) := by decide +kernel
theorem dX9_adds_8 : decode cX9_adds 8 = .ok (.lload_n 1, 1) := by decide +kernel
theorem dX9_adds_9 : decode cX9_adds 9 = .ok (.lload_n 3, 1) := by decide +kernel
theorem dX9_adds_10 : decode cX9_adds 10 = .ok (.lmul, 1) := by decide +kernel
theorem dX9_adds_11 : decode cX9_adds 11 = .ok (.aload_n 0, 1) := by decide +kernel
theorem dX9_adds_12 : decode cX9_adds 12 = .ok (.getfield 76, 3) := by decide +kernel
theorem dX9_adds_15 : decode cX9_adds 15 = .ok (.lmul, 1) := by decide +kernel
theorem dX9_adds_16 : decode cX9_adds 16 = .ok (.ladd, 1) := by decide +kernel
theorem dX9_adds_17 : decode cX9_adds 17 = .ok (.aload_n 0, 1) := by decide +kernel
theorem dX9_adds_18 : decode cX9_adds 18 = .ok (.getfield 76, 3) := by decide +kernel
theorem dX9_adds_21 : decode cX9_adds 21 = .ok (.lload 5, 2) := by decide +kernel
theorem dX9_adds_23 : decode cX9_adds 23 = .ok (.lmul, 1) := by decide +kernel
theorem dX9_adds_24 : decode cX9_adds 24 = .ok (.invokevirtual 79, 3) := by decide +kernel
theorem dX9_adds_27 : decode cX9_adds 27 = .ok (.return_, 1) := by decide +kernel
theorem dX9_firstFactor_0 : decode cX9_firstFactor 0 = .ok (.iload_n 2, 1) := by decide +kernel
theorem dX9_firstFactor_1 : decode cX9_firstFactor 1 = .ok (.bipush 8, 2) := by decide +kernel
theorem dX9_firstFactor_3 : decode cX9_firstFactor 3 = .ok (.if_icmp .ne 15, 3) := by decide +kernel
theorem dX9_firstFactor_6 : decode cX9_firstFactor 6 = .ok (.aload_n 0, 1) := by decide +kernel
theorem dX9_firstFactor_7 : decode cX9_firstFactor 7 = .ok (.getfield 7, 3) := by decide +kernel
theorem dX9_firstFactor_10 : decode cX9_firstFactor 10 = .ok (.bipush 22, 2) := by decide +kernel
theorem dX9_firstFactor_12 : decode cX9_firstFactor 12 = .ok (.iload_n 1, 1) := by decide +kernel
theorem dX9_firstFactor_13 : decode cX9_firstFactor 13 = .ok (.iadd, 1) := by decide +kernel
theorem dX9_firstFactor_14 : decode cX9_firstFactor 14 = .ok (.iaload, 1) := by decide +kernel
theorem dX9_firstFactor_15 : decode cX9_firstFactor 15 = .ok (.goto 46, 3) := by decide +kernel
theorem dX9_firstFactor_18 : decode cX9_firstFactor 18 = .ok (.iload_n 2, 1) := by decide +kernel
theorem dX9_firstFactor_19 : decode cX9_firstFactor 19 = .ok (.aload_n 0, 1) := by decide +kernel
theorem dX9_firstFactor_20 : decode cX9_firstFactor 20 = .ok (.getfield 7, 3) := by decide +kernel
theorem dX9_firstFactor_23 : decode cX9_firstFactor 23 = .ok (.iconst 0, 1) := by decide +kernel
theorem dX9_firstFactor_24 : decode cX9_firstFactor 24 = .ok (.iaload, 1) := by decide +kernel
theorem dX9_firstFactor_25 : decode cX9_firstFactor 25 = .ok (.if_icmp .ge 19, 3) := by decide +kernel
theorem dX9_firstFactor_28 : decode cX9_firstFactor 28 = .ok (.aload_n 0, 1) := by decide +kernel
theorem dX9_firstFactor_29 : decode cX9_firstFactor 29 = .ok (.getfield 7, 3) := by decide +kernel
theorem dX9_firstFactor_32 : decode cX9_firstFactor 32 = .ok (.bipush 6, 2) := by decide +kernel
theorem dX9_firstFactor_34 : decode cX9_firstFactor 34 = .ok (.iconst 4, 1) := by decide +kernel
theorem dX9_firstFactor_35 : decode cX9_firstFactor 35 = .ok (.iload_n 1, 1) := by decide +kernel
theorem dX9_firstFactor_36 : decode cX9_firstFactor 36 = .ok (.imul, 1) := by decide +kernel
theorem dX9_firstFactor_37 : decode cX9_firstFactor 37 = .ok (.iadd, 1) := by decide +kernel
theorem dX9_firstFactor_38 : decode cX9_firstFactor 38 = .ok (.iload_n 2, 1) := by decide +kernel
theorem dX9_firstFactor_39 : decode cX9_firstFactor 39 = .ok (.iadd, 1) := by decide +kernel
theorem dX9_firstFactor_40 : decode cX9_firstFactor 40 = .ok (.iaload, 1) := by decide +kernel
theorem dX9_firstFactor_41 : decode cX9_firstFactor 41 = .ok (.goto 20, 3) := by decide +kernel
theorem dX9_firstFactor_44 : decode cX9_firstFactor 44 = .ok (.iload_n 2, 1) := by decide +kernel
theorem dX9_firstFactor_45 : decode cX9_firstFactor 45 = .ok (.aload_n 0, 1) := by decide +kernel
theorem dX9_firstFactor_46 : decode cX9_firstFactor 46 = .ok (.getfield 7, 3) := by decide +kernel
theorem dX9_firstFactor_49 : decode cX9_firstFactor 49 = .ok (.iconst 0, 1) := by decide +kernel
theorem dX9_firstFactor_50 : decode cX9_firstFactor 50 = .ok (.iaload, 1) := by decide +kernel
theorem dX9_firstFactor_51 : decode cX9_firstFactor 51 = .ok (.isub, 1) := by decide +kernel
theorem dX9_firstFactor_52 : decode cX9_firstFactor 52 = .ok (.iload_n 1, 1) := by decide +kernel
theorem dX9_firstFactor_53 : decode cX9_firstFactor 53 = .ok (.if_icmp .ne 7, 3) := by decide +kernel
theorem dX9_firstFactor_56 : decode cX9_firstFactor 56 = .ok (.iconst 1, 1) := by decide +kernel
theorem dX9_firstFactor_57 : decode cX9_firstFactor 57 = .ok (.goto 4, 3) := by decide +kernel
theorem dX9_firstFactor_60 : decode cX9_firstFactor 60 = .ok (.iconst 0, 1) := by decide +kernel
theorem dX9_firstFactor_61 : decode cX9_firstFactor 61 = .ok (.ireturn, 1) := by decide +kernel
theorem dX9_lessens_0 : decode cX9_lessens 0 = .ok (.iconst 0, 1) := by decide +kernel
theorem dX9_lessens_1 : decode cX9_lessens 1 = .ok (.istore 7, 2) := by decide +kernel
theorem dX9_lessens_3 : decode cX9_lessens 3 = .ok (.iload 7, 2) := by decide +kernel
theorem dX9_lessens_5 : decode cX9_lessens 5 = .ok (.bipush 9, 2) := by decide +kernel
theorem dX9_lessens_7 : decode cX9_lessens 7 = .ok (.if_icmp .ge 129, 3) := by decide +kernel
theorem dX9_lessens_10 : decode cX9_lessens 10 = .ok (.aload_n 0, 1) := by decide +kernel
theorem dX9_lessens_11 : decode cX9_lessens 11 = .ok (.aload_n 0, 1) := by decide +kernel
theorem dX9_lessens_12 : decode cX9_lessens 12 = .ok (.getfield 38, 3) := by decide +kernel
theorem dX9_lessens_15 : decode cX9_lessens 15 = .ok (.bipush 9, 2) := by decide +kernel
theorem dX9_lessens_17 : decode cX9_lessens 17 = .ok (.iload_n 1, 1) := by decide +kernel
theorem dX9_lessens_18 : decode cX9_lessens 18 = .ok (.imul, 1) := by decide +kernel
theorem dX9_lessens_19 : decode cX9_lessens 19 = .ok (.iload 7, 2) := by decide +kernel
theorem dX9_lessens_21 : decode cX9_lessens 21 = .ok (.iadd, 1) := by decide +kernel
theorem dX9_lessens_22 : decode cX9_lessens 22 = .ok (.laload, 1) := by decide +kernel
theorem dX9_lessens_23 : decode cX9_lessens 23 = .ok (.lload 5, 2) := by decide +kernel
theorem dX9_lessens_25 : decode cX9_lessens 25 = .ok (.lmul, 1) := by decide +kernel
theorem dX9_lessens_26 : decode cX9_lessens 26 = .ok (.aload_n 0, 1) := by decide +kernel
theorem dX9_lessens_27 : decode cX9_lessens 27 = .ok (.getfield 41, 3) := by decide +kernel
theorem dX9_lessens_30 : decode cX9_lessens 30 = .ok (.bipush 9, 2) := by decide +kernel
theorem dX9_lessens_32 : decode cX9_lessens 32 = .ok (.iload_n 2, 1) := by decide +kernel
theorem dX9_lessens_33 : decode cX9_lessens 33 = .ok (.imul, 1) := by decide +kernel
theorem dX9_lessens_34 : decode cX9_lessens 34 = .ok (.iload 7, 2) := by decide +kernel
theorem dX9_lessens_36 : decode cX9_lessens 36 = .ok (.iadd, 1) := by decide +kernel
theorem dX9_lessens_37 : decode cX9_lessens 37 = .ok (.laload, 1) := by decide +kernel
theorem dX9_lessens_38 : decode cX9_lessens 38 = .ok (.lmul, 1) := by decide +kernel
theorem dX9_lessens_39 : decode cX9_lessens 39 = .ok (.lload_n 3, 1) := by decide +kernel
theorem dX9_lessens_40 : decode cX9_lessens 40 = .ok (.aload_n 0, 1) := by decide +kernel
theorem dX9_lessens_41 : decode cX9_lessens 41 = .ok (.getfield 38, 3) := by decide +kernel
theorem dX9_lessens_44 : decode cX9_lessens 44 = .ok (.bipush 9, 2) := by decide +kernel
theorem dX9_lessens_46 : decode cX9_lessens 46 = .ok (.iload_n 2, 1) := by decide +kernel
theorem dX9_lessens_47 : decode cX9_lessens 47 = .ok (.imul, 1) := by decide +kernel
theorem dX9_lessens_48 : decode cX9_lessens 48 = .ok (.iload 7, 2) := by decide +kernel
theorem dX9_lessens_50 : decode cX9_lessens 50 = .ok (.iadd, 1) := by decide +kernel
theorem dX9_lessens_51 : decode cX9_lessens 51 = .ok (.laload, 1) := by decide +kernel
theorem dX9_lessens_52 : decode cX9_lessens 52 = .ok (.lmul, 1) := by decide +kernel
theorem dX9_lessens_53 : decode cX9_lessens 53 = .ok (.aload_n 0, 1) := by decide +kernel
theorem dX9_lessens_54 : decode cX9_lessens 54 = .ok (.getfield 41, 3) := by decide +kernel
theorem dX9_lessens_57 : decode cX9_lessens 57 = .ok (.bipush 9, 2) := by decide +kernel
theorem dX9_lessens_59 : decode cX9_lessens 59 = .ok (.iload_n 1, 1) := by decide +kernel
theorem dX9_lessens_60 : decode cX9_lessens 60 = .ok (.imul, 1) := by decide +kernel
theorem dX9_lessens_61 : decode cX9_lessens 61 = .ok (.iload 7, 2) := by decide +kernel
theorem dX9_lessens_63 : decode cX9_lessens 63 = .ok (.iadd, 1) := by decide +kernel
theorem dX9_lessens_64 : decode cX9_lessens 64 = .ok (.laload, 1) := by decide +kernel
theorem dX9_lessens_65 : decode cX9_lessens 65 = .ok (.lmul, 1) := by decide +kernel
theorem dX9_lessens_66 : decode cX9_lessens 66 = .ok (.lsub, 1) := by decide +kernel
theorem dX9_lessens_67 : decode cX9_lessens 67 = .ok (.aload_n 0, 1) := by decide +kernel
theorem dX9_lessens_68 : decode cX9_lessens 68 = .ok (.getfield 41, 3) := by decide +kernel
theorem dX9_lessens_71 : decode cX9_lessens 71 = .ok (.bipush 9, 2) := by decide +kernel
theorem dX9_lessens_73 : decode cX9_lessens 73 = .ok (.iload_n 1, 1) := by decide +kernel
theorem dX9_lessens_74 : decode cX9_lessens 74 = .ok (.imul, 1) := by decide +kernel
theorem dX9_lessens_75 : decode cX9_lessens 75 = .ok (.iload 7, 2) := by decide +kernel
theorem dX9_lessens_77 : decode cX9_lessens 77 = .ok (.iadd, 1) := by decide +kernel
theorem dX9_lessens_78 : decode cX9_lessens 78 = .ok (.laload, 1) := by decide +kernel
theorem dX9_lessens_79 : decode cX9_lessens 79 = .ok (.lload 5, 2) := by decide +kernel
theorem dX9_lessens_81 : decode cX9_lessens 81 = .ok (.lmul, 1) := by decide +kernel
theorem dX9_lessens_82 : decode cX9_lessens 82 = .ok (.aload_n 0, 1) := by decide +kernel
theorem dX9_lessens_83 : decode cX9_lessens 83 = .ok (.getfield 41, 3) := by decide +kernel
theorem dX9_lessens_86 : decode cX9_lessens 86 = .ok (.bipush 9, 2) := by decide +kernel
theorem dX9_lessens_88 : decode cX9_lessens 88 = .ok (.iload_n 2, 1) := by decide +kernel
theorem dX9_lessens_89 : decode cX9_lessens 89 = .ok (.imul, 1) := by decide +kernel
theorem dX9_lessens_90 : decode cX9_lessens 90 = .ok (.iload 7, 2) := by decide +kernel
theorem dX9_lessens_92 : decode cX9_lessens 92 = .ok (.iadd, 1) := by decide +kernel
theorem dX9_lessens_93 : decode cX9_lessens 93 = .ok (.laload, 1) := by decide +kernel
theorem dX9_lessens_94 : decode cX9_lessens 94 = .ok (.lmul, 1) := by decide +kernel
theorem dX9_lessens_95 : decode cX9_lessens 95 = .ok (.invokevirtual 79, 3) := by decide +kernel
theorem dX9_lessens_98 : decode cX9_lessens 98 = .ok (.aload_n 0, 1) := by decide +kernel
theorem dX9_lessens_99 : decode cX9_lessens 99 = .ok (.getfield 38, 3) := by decide +kernel
theorem dX9_lessens_102 : decode cX9_lessens 102 = .ok (.bipush 9, 2) := by decide +kernel
theorem dX9_lessens_104 : decode cX9_lessens 104 = .ok (.iload_n 1, 1) := by decide +kernel
theorem dX9_lessens_105 : decode cX9_lessens 105 = .ok (.imul, 1) := by decide +kernel
theorem dX9_lessens_106 : decode cX9_lessens 106 = .ok (.iload 7, 2) := by decide +kernel
theorem dX9_lessens_108 : decode cX9_lessens 108 = .ok (.iadd, 1) := by decide +kernel
theorem dX9_lessens_109 : decode cX9_lessens 109 = .ok (.aload_n 0, 1) := by decide +kernel
theorem dX9_lessens_110 : decode cX9_lessens 110 = .ok (.getfield 72, 3) := by decide +kernel
theorem dX9_lessens_113 : decode cX9_lessens 113 = .ok (.lastore, 1) := by decide +kernel
theorem dX9_lessens_114 : decode cX9_lessens 114 = .ok (.aload_n 0, 1) := by decide +kernel
theorem dX9_lessens_115 : decode cX9_lessens 115 = .ok (.getfield 41, 3) := by decide +kernel
theorem dX9_lessens_118 : decode cX9_lessens 118 = .ok (.bipush 9, 2) := by decide +kernel
theorem dX9_lessens_120 : decode cX9_lessens 120 = .ok (.iload_n 1, 1) := by decide +kernel
theorem dX9_lessens_121 : decode cX9_lessens 121 = .ok (.imul, 1) := by decide +kernel
theorem dX9_lessens_122 : decode cX9_lessens 122 = .ok (.iload 7, 2) := by decide +kernel
theorem dX9_lessens_124 : decode cX9_lessens 124 = .ok (.iadd, 1) := by decide +kernel
theorem dX9_lessens_125 : decode cX9_lessens 125 = .ok (.aload_n 0, 1) := by decide +kernel
theorem dX9_lessens_126 : decode cX9_lessens 126 = .ok (.getfield 76, 3) := by decide +kernel
theorem dX9_lessens_129 : decode cX9_lessens 129 = .ok (.lastore, 1) := by decide +kernel
theorem dX9_lessens_130 : decode cX9_lessens 130 = .ok (.iinc 7 1, 3) := by decide +kernel
theorem dX9_lessens_133 : decode cX9_lessens 133 = .ok (.goto (-130), 3) := by decide +kernel
theorem dX9_lessens_136 : decode cX9_lessens 136 = .ok (.return_, 1) := by decide +kernel
theorem dX9_divides_0 : decode cX9_divides 0 = .ok (.iconst 0, 1) := by decide +kernel
theorem dX9_divides_1 : decode cX9_divides 1 = .ok (.istore 6, 2) := by decide +kernel
theorem dX9_divides_3 : decode cX9_divides 3 = .ok (.iload 6, 2) := by decide +kernel
theorem dX9_divides_5 : decode cX9_divides 5 = .ok (.bipush 9, 2) := by decide +kernel
theorem dX9_divides_7 : decode cX9_divides 7 = .ok (.if_icmp .ge 74, 3) := by decide +kernel
theorem dX9_divides_10 : decode cX9_divides 10 = .ok (.aload_n 0, 1) := by decide +kernel
theorem dX9_divides_11 : decode cX9_divides 11 = .ok (.aload_n 0, 1) := by decide +kernel
theorem dX9_divides_12 : decode cX9_divides 12 = .ok (.getfield 38, 3) := by decide +kernel
theorem dX9_divides_15 : decode cX9_divides 15 = .ok (.bipush 9, 2) := by decide +kernel
theorem dX9_divides_17 : decode cX9_divides 17 = .ok (.iload_n 1, 1) := by decide +kernel
theorem dX9_divides_18 : decode cX9_divides 18 = .ok (.imul, 1) := by decide +kernel
theorem dX9_divides_19 : decode cX9_divides 19 = .ok (.iload 6, 2) := by decide +kernel
theorem dX9_divides_21 : decode cX9_divides 21 = .ok (.iadd, 1) := by decide +kernel
theorem dX9_divides_22 : decode cX9_divides 22 = .ok (.laload, 1) := by decide +kernel
theorem dX9_divides_23 : decode cX9_divides 23 = .ok (.lload 4, 2) := by decide +kernel
theorem dX9_divides_25 : decode cX9_divides 25 = .ok (.lmul, 1) := by decide +kernel
theorem dX9_divides_26 : decode cX9_divides 26 = .ok (.aload_n 0, 1) := by decide +kernel
theorem dX9_divides_27 : decode cX9_divides 27 = .ok (.getfield 41, 3) := by decide +kernel
theorem dX9_divides_30 : decode cX9_divides 30 = .ok (.bipush 9, 2) := by decide +kernel
theorem dX9_divides_32 : decode cX9_divides 32 = .ok (.iload_n 1, 1) := by decide +kernel
theorem dX9_divides_33 : decode cX9_divides 33 = .ok (.imul, 1) := by decide +kernel
theorem dX9_divides_34 : decode cX9_divides 34 = .ok (.iload 6, 2) := by decide +kernel
theorem dX9_divides_36 : decode cX9_divides 36 = .ok (.iadd, 1) := by decide +kernel
theorem dX9_divides_37 : decode cX9_divides 37 = .ok (.laload, 1) := by decide +kernel
theorem dX9_divides_38 : decode cX9_divides 38 = .ok (.lload_n 2, 1) := by decide +kernel
theorem dX9_divides_39 : decode cX9_divides 39 = .ok (.lmul, 1) := by decide +kernel
theorem dX9_divides_40 : decode cX9_divides 40 = .ok (.invokevirtual 79, 3) := by decide +kernel
theorem dX9_divides_43 : decode cX9_divides 43 = .ok (.aload_n 0, 1) := by decide +kernel
theorem dX9_divides_44 : decode cX9_divides 44 = .ok (.getfield 38, 3) := by decide +kernel
theorem dX9_divides_47 : decode cX9_divides 47 = .ok (.bipush 9, 2) := by decide +kernel
theorem dX9_divides_49 : decode cX9_divides 49 = .ok (.iload_n 1, 1) := by decide +kernel
theorem dX9_divides_50 : decode cX9_divides 50 = .ok (.imul, 1) := by decide +kernel
theorem dX9_divides_51 : decode cX9_divides 51 = .ok (.iload 6, 2) := by decide +kernel
theorem dX9_divides_53 : decode cX9_divides 53 = .ok (.iadd, 1) := by decide +kernel
theorem dX9_divides_54 : decode cX9_divides 54 = .ok (.aload_n 0, 1) := by decide +kernel
theorem dX9_divides_55 : decode cX9_divides 55 = .ok (.getfield 72, 3) := by decide +kernel
theorem dX9_divides_58 : decode cX9_divides 58 = .ok (.lastore, 1) := by decide +kernel
theorem dX9_divides_59 : decode cX9_divides 59 = .ok (.aload_n 0, 1) := by decide +kernel
theorem dX9_divides_60 : decode cX9_divides 60 = .ok (.getfield 41, 3) := by decide +kernel
theorem dX9_divides_63 : decode cX9_divides 63 = .ok (.bipush 9, 2) := by decide +kernel
theorem dX9_divides_65 : decode cX9_divides 65 = .ok (.iload_n 1, 1) := by decide +kernel
theorem dX9_divides_66 : decode cX9_divides 66 = .ok (.imul, 1) := by decide +kernel
theorem dX9_divides_67 : decode cX9_divides 67 = .ok (.iload 6, 2) := by decide +kernel
theorem dX9_divides_69 : decode cX9_divides 69 = .ok (.iadd, 1) := by decide +kernel
theorem dX9_divides_70 : decode cX9_divides 70 = .ok (.aload_n 0, 1) := by decide +kernel
theorem dX9_divides_71 : decode cX9_divides 71 = .ok (.getfield 76, 3) := by decide +kernel
theorem dX9_divides_74 : decode cX9_divides 74 = .ok (.lastore, 1) := by decide +kernel
theorem dX9_divides_75 : decode cX9_divides 75 = .ok (.iinc 6 1, 3) := by decide +kernel
theorem dX9_divides_78 : decode cX9_divides 78 = .ok (.goto (-75), 3) := by decide +kernel
theorem dX9_divides_81 : decode cX9_divides 81 = .ok (.return_, 1) := by decide +kernel
theorem dX9_freeRow_0 : decode cX9_freeRow 0 = .ok (.iconst (-1), 1) := by decide +kernel
theorem dX9_freeRow_1 : decode cX9_freeRow 1 = .ok (.istore_n 3, 1) := by decide +kernel
theorem dX9_freeRow_2 : decode cX9_freeRow 2 = .ok (.aload_n 0, 1) := by decide +kernel
theorem dX9_freeRow_3 : decode cX9_freeRow 3 = .ok (.getfield 7, 3) := by decide +kernel
theorem dX9_freeRow_6 : decode cX9_freeRow 6 = .ok (.iconst 1, 1) := by decide +kernel
theorem dX9_freeRow_7 : decode cX9_freeRow 7 = .ok (.iaload, 1) := by decide +kernel
theorem dX9_freeRow_8 : decode cX9_freeRow 8 = .ok (.iconst 1, 1) := by decide +kernel
theorem dX9_freeRow_9 : decode cX9_freeRow 9 = .ok (.isub, 1) := by decide +kernel
theorem dX9_freeRow_10 : decode cX9_freeRow 10 = .ok (.istore 4, 2) := by decide +kernel
theorem dX9_freeRow_12 : decode cX9_freeRow 12 = .ok (.iload 4, 2) := by decide +kernel
theorem dX9_freeRow_14 : decode cX9_freeRow 14 = .ok (.ifCond .lt 42, 3) := by decide +kernel
theorem dX9_freeRow_17 : decode cX9_freeRow 17 = .ok (.iload_n 2, 1) := by decide +kernel
theorem dX9_freeRow_18 : decode cX9_freeRow 18 = .ok (.iload 4, 2) := by decide +kernel
theorem dX9_freeRow_20 : decode cX9_freeRow 20 = .ok (.ishr, 1) := by decide +kernel
theorem dX9_freeRow_21 : decode cX9_freeRow 21 = .ok (.iconst 1, 1) := by decide +kernel
theorem dX9_freeRow_22 : decode cX9_freeRow 22 = .ok (.iand, 1) := by decide +kernel
theorem dX9_freeRow_23 : decode cX9_freeRow 23 = .ok (.ifCond .ne 25, 3) := by decide +kernel
theorem dX9_freeRow_26 : decode cX9_freeRow 26 = .ok (.aload_n 0, 1) := by decide +kernel
theorem dX9_freeRow_27 : decode cX9_freeRow 27 = .ok (.getfield 38, 3) := by decide +kernel
theorem dX9_freeRow_30 : decode cX9_freeRow 30 = .ok (.bipush 9, 2) := by decide +kernel
theorem dX9_freeRow_32 : decode cX9_freeRow 32 = .ok (.iload 4, 2) := by decide +kernel
theorem dX9_freeRow_34 : decode cX9_freeRow 34 = .ok (.imul, 1) := by decide +kernel
theorem dX9_freeRow_35 : decode cX9_freeRow 35 = .ok (.iload_n 1, 1) := by decide +kernel
theorem dX9_freeRow_36 : decode cX9_freeRow 36 = .ok (.iadd, 1) := by decide +kernel
theorem dX9_freeRow_37 : decode cX9_freeRow 37 = .ok (.laload, 1) := by decide +kernel
theorem dX9_freeRow_38 : decode cX9_freeRow 38 = .ok (.lconst 0, 1) := by decide +kernel
theorem dX9_freeRow_39 : decode cX9_freeRow 39 = .ok (.lcmp, 1) := by decide +kernel
theorem dX9_freeRow_40 : decode cX9_freeRow 40 = .ok (.ifCond .eq 8, 3) := by decide +kernel
theorem dX9_freeRow_43 : decode cX9_freeRow 43 = .ok (.iload 4, 2) := by decide +kernel
theorem dX9_freeRow_45 : decode cX9_freeRow 45 = .ok (.goto 4, 3) := by decide +kernel
theorem dX9_freeRow_48 : decode cX9_freeRow 48 = .ok (.iload_n 3, 1) := by decide +kernel
theorem dX9_freeRow_49 : decode cX9_freeRow 49 = .ok (.istore_n 3, 1) := by decide +kernel
theorem dX9_freeRow_50 : decode cX9_freeRow 50 = .ok (.iinc 4 (-1), 3) := by decide +kernel
theorem dX9_freeRow_53 : decode cX9_freeRow 53 = .ok (.goto (-41), 3) := by decide +kernel
theorem dX9_freeRow_56 : decode cX9_freeRow 56 = .ok (.iload_n 3, 1) := by decide +kernel
theorem dX9_freeRow_57 : decode cX9_freeRow 57 = .ok (.ireturn, 1) := by decide +kernel
theorem dX9_lays_0 : decode cX9_lays 0 = .ok (.iconst 0, 1) := by decide +kernel
theorem dX9_lays_1 : decode cX9_lays 1 = .ok (.istore_n 1, 1) := by decide +kernel
theorem dX9_lays_2 : decode cX9_lays 2 = .ok (.iload_n 1, 1) := by decide +kernel
theorem dX9_lays_3 : decode cX9_lays 3 = .ok (.bipush 9, 2) := by decide +kernel
theorem dX9_lays_5 : decode cX9_lays 5 = .ok (.aload_n 0, 1) := by decide +kernel
theorem dX9_lays_6 : decode cX9_lays 6 = .ok (.getfield 7, 3) := by decide +kernel
theorem dX9_lays_9 : decode cX9_lays 9 = .ok (.iconst 1, 1) := by decide +kernel
theorem dX9_lays_10 : decode cX9_lays 10 = .ok (.iaload, 1) := by decide +kernel
theorem dX9_lays_11 : decode cX9_lays 11 = .ok (.imul, 1) := by decide +kernel
theorem dX9_lays_12 : decode cX9_lays 12 = .ok (.if_icmp .ge 55, 3) := by decide +kernel
theorem dX9_lays_15 : decode cX9_lays 15 = .ok (.iload_n 1, 1) := by decide +kernel
theorem dX9_lays_16 : decode cX9_lays 16 = .ok (.bipush 9, 2) := by decide +kernel
theorem dX9_lays_18 : decode cX9_lays 18 = .ok (.irem, 1) := by decide +kernel
theorem dX9_lays_19 : decode cX9_lays 19 = .ok (.istore_n 2, 1) := by decide +kernel
theorem dX9_lays_20 : decode cX9_lays 20 = .ok (.aload_n 0, 1) := by decide +kernel
theorem dX9_lays_21 : decode cX9_lays 21 = .ok (.getfield 38, 3) := by decide +kernel
theorem dX9_lays_24 : decode cX9_lays 24 = .ok (.iload_n 1, 1) := by decide +kernel
theorem dX9_lays_25 : decode cX9_lays 25 = .ok (.iload_n 2, 1) := by decide +kernel
theorem dX9_lays_26 : decode cX9_lays 26 = .ok (.aload_n 0, 1) := by decide +kernel
theorem dX9_lays_27 : decode cX9_lays 27 = .ok (.invokevirtual 61, 3) := by decide +kernel
theorem dX9_lays_30 : decode cX9_lays 30 = .ok (.if_icmp .lt 9, 3) := by decide +kernel
theorem dX9_lays_33 : decode cX9_lays 33 = .ok (.iload_n 2, 1) := by decide +kernel
theorem dX9_lays_34 : decode cX9_lays 34 = .ok (.bipush 8, 2) := by decide +kernel
theorem dX9_lays_36 : decode cX9_lays 36 = .ok (.if_icmp .ne 16, 3) := by decide +kernel
theorem dX9_lays_39 : decode cX9_lays 39 = .ok (.aload_n 0, 1) := by decide +kernel
theorem dX9_lays_40 : decode cX9_lays 40 = .ok (.iload_n 1, 1) := by decide +kernel
theorem dX9_lays_41 : decode cX9_lays 41 = .ok (.bipush 9, 2) := by decide +kernel
theorem dX9_lays_43 : decode cX9_lays 43 = .ok (.idiv, 1) := by decide +kernel
theorem dX9_lays_44 : decode cX9_lays 44 = .ok (.iload_n 2, 1) := by decide +kernel
theorem dX9_lays_45 : decode cX9_lays 45 = .ok (.invokevirtual 83, 3) := by decide +kernel
theorem dX9_lays_48 : decode cX9_lays 48 = .ok (.i2l, 1) := by decide +kernel
theorem dX9_lays_49 : decode cX9_lays 49 = .ok (.goto 4, 3) := by decide +kernel
theorem dX9_lays_52 : decode cX9_lays 52 = .ok (.lconst 0, 1) := by decide +kernel
theorem dX9_lays_53 : decode cX9_lays 53 = .ok (.lastore, 1) := by decide +kernel
theorem dX9_lays_54 : decode cX9_lays 54 = .ok (.aload_n 0, 1) := by decide +kernel
theorem dX9_lays_55 : decode cX9_lays 55 = .ok (.getfield 41, 3) := by decide +kernel
theorem dX9_lays_58 : decode cX9_lays 58 = .ok (.iload_n 1, 1) := by decide +kernel
theorem dX9_lays_59 : decode cX9_lays 59 = .ok (.lconst 1, 1) := by decide +kernel
theorem dX9_lays_60 : decode cX9_lays 60 = .ok (.lastore, 1) := by decide +kernel
theorem dX9_lays_61 : decode cX9_lays 61 = .ok (.iinc 1 1, 3) := by decide +kernel
theorem dX9_lays_64 : decode cX9_lays 64 = .ok (.goto (-62), 3) := by decide +kernel
theorem dX9_lays_67 : decode cX9_lays 67 = .ok (.iconst 0, 1) := by decide +kernel
theorem dX9_lays_68 : decode cX9_lays 68 = .ok (.istore_n 1, 1) := by decide +kernel
theorem dX9_lays_69 : decode cX9_lays 69 = .ok (.iconst 0, 1) := by decide +kernel
theorem dX9_lays_70 : decode cX9_lays 70 = .ok (.istore_n 2, 1) := by decide +kernel
theorem dX9_lays_71 : decode cX9_lays 71 = .ok (.iload_n 2, 1) := by decide +kernel
theorem dX9_lays_72 : decode cX9_lays 72 = .ok (.aload_n 0, 1) := by decide +kernel
theorem dX9_lays_73 : decode cX9_lays 73 = .ok (.getfield 7, 3) := by decide +kernel
theorem dX9_lays_76 : decode cX9_lays 76 = .ok (.iconst 1, 1) := by decide +kernel
theorem dX9_lays_77 : decode cX9_lays 77 = .ok (.iaload, 1) := by decide +kernel
theorem dX9_lays_78 : decode cX9_lays 78 = .ok (.if_icmp .ge 144, 3) := by decide +kernel
theorem dX9_lays_81 : decode cX9_lays 81 = .ok (.aload_n 0, 1) := by decide +kernel
theorem dX9_lays_82 : decode cX9_lays 82 = .ok (.aload_n 0, 1) := by decide +kernel
theorem dX9_lays_83 : decode cX9_lays 83 = .ok (.getfield 32, 3) := by decide +kernel
theorem dX9_lays_86 : decode cX9_lays 86 = .ok (.iload_n 2, 1) := by decide +kernel
theorem dX9_lays_87 : decode cX9_lays 87 = .ok (.iaload, 1) := by decide +kernel
theorem dX9_lays_88 : decode cX9_lays 88 = .ok (.iload_n 1, 1) := by decide +kernel
theorem dX9_lays_89 : decode cX9_lays 89 = .ok (.invokevirtual 87, 3) := by decide +kernel
theorem dX9_lays_92 : decode cX9_lays 92 = .ok (.istore_n 3, 1) := by decide +kernel
theorem dX9_lays_93 : decode cX9_lays 93 = .ok (.iload_n 3, 1) := by decide +kernel
theorem dX9_lays_94 : decode cX9_lays 94 = .ok (.ifCond .ge 5, 3) := by decide +kernel
theorem dX9_lays_97 : decode cX9_lays 97 = .ok (.iconst 0, 1) := by decide +kernel
theorem dX9_lays_98 : decode cX9_lays 98 = .ok (.ireturn, 1) := by decide +kernel
theorem dX9_lays_99 : decode cX9_lays 99 = .ok (.iload_n 1, 1) := by decide +kernel
theorem dX9_lays_100 : decode cX9_lays 100 = .ok (.iconst 1, 1) := by decide +kernel
theorem dX9_lays_101 : decode cX9_lays 101 = .ok (.iload_n 3, 1) := by decide +kernel
theorem dX9_lays_102 : decode cX9_lays 102 = .ok (.ishl, 1) := by decide +kernel
theorem dX9_lays_103 : decode cX9_lays 103 = .ok (.ior, 1) := by decide +kernel
theorem dX9_lays_104 : decode cX9_lays 104 = .ok (.istore_n 1, 1) := by decide +kernel
theorem dX9_lays_105 : decode cX9_lays 105 = .ok (.aload_n 0, 1) := by decide +kernel
theorem dX9_lays_106 : decode cX9_lays 106 = .ok (.getfield 35, 3) := by decide +kernel
theorem dX9_lays_109 : decode cX9_lays 109 = .ok (.iload_n 2, 1) := by decide +kernel
theorem dX9_lays_110 : decode cX9_lays 110 = .ok (.iload_n 3, 1) := by decide +kernel
theorem dX9_lays_111 : decode cX9_lays 111 = .ok (.iastore, 1) := by decide +kernel
theorem dX9_lays_112 : decode cX9_lays 112 = .ok (.aload_n 0, 1) := by decide +kernel
theorem dX9_lays_113 : decode cX9_lays 113 = .ok (.iload_n 3, 1) := by decide +kernel
theorem dX9_lays_114 : decode cX9_lays 114 = .ok (.aload_n 0, 1) := by decide +kernel
theorem dX9_lays_115 : decode cX9_lays 115 = .ok (.getfield 38, 3) := by decide +kernel
theorem dX9_lays_118 : decode cX9_lays 118 = .ok (.bipush 9, 2) := by decide +kernel
theorem dX9_lays_120 : decode cX9_lays 120 = .ok (.iload_n 3, 1) := by decide +kernel
theorem dX9_lays_121 : decode cX9_lays 121 = .ok (.imul, 1) := by decide +kernel
theorem dX9_lays_122 : decode cX9_lays 122 = .ok (.aload_n 0, 1) := by decide +kernel
theorem dX9_lays_123 : decode cX9_lays 123 = .ok (.getfield 32, 3) := by decide +kernel
theorem dX9_lays_126 : decode cX9_lays 126 = .ok (.iload_n 2, 1) := by decide +kernel
theorem dX9_lays_127 : decode cX9_lays 127 = .ok (.iaload, 1) := by decide +kernel
theorem dX9_lays_128 : decode cX9_lays 128 = .ok (.iadd, 1) := by decide +kernel
theorem dX9_lays_129 : decode cX9_lays 129 = .ok (.laload, 1) := by decide +kernel
theorem dX9_lays_130 : decode cX9_lays 130 = .ok (.aload_n 0, 1) := by decide +kernel
theorem dX9_lays_131 : decode cX9_lays 131 = .ok (.getfield 41, 3) := by decide +kernel
theorem dX9_lays_134 : decode cX9_lays 134 = .ok (.bipush 9, 2) := by decide +kernel
theorem dX9_lays_136 : decode cX9_lays 136 = .ok (.iload_n 3, 1) := by decide +kernel
theorem dX9_lays_137 : decode cX9_lays 137 = .ok (.imul, 1) := by decide +kernel
theorem dX9_lays_138 : decode cX9_lays 138 = .ok (.aload_n 0, 1) := by decide +kernel
theorem dX9_lays_139 : decode cX9_lays 139 = .ok (.getfield 32, 3) := by decide +kernel
theorem dX9_lays_142 : decode cX9_lays 142 = .ok (.iload_n 2, 1) := by decide +kernel
theorem dX9_lays_143 : decode cX9_lays 143 = .ok (.iaload, 1) := by decide +kernel
theorem dX9_lays_144 : decode cX9_lays 144 = .ok (.iadd, 1) := by decide +kernel
theorem dX9_lays_145 : decode cX9_lays 145 = .ok (.laload, 1) := by decide +kernel
theorem dX9_lays_146 : decode cX9_lays 146 = .ok (.invokevirtual 90, 3) := by decide +kernel
theorem dX9_lays_149 : decode cX9_lays 149 = .ok (.iconst 0, 1) := by decide +kernel
theorem dX9_lays_150 : decode cX9_lays 150 = .ok (.istore 4, 2) := by decide +kernel
theorem dX9_lays_152 : decode cX9_lays 152 = .ok (.iload 4, 2) := by decide +kernel
theorem dX9_lays_154 : decode cX9_lays 154 = .ok (.aload_n 0, 1) := by decide +kernel
theorem dX9_lays_155 : decode cX9_lays 155 = .ok (.getfield 7, 3) := by decide +kernel
theorem dX9_lays_158 : decode cX9_lays 158 = .ok (.iconst 1, 1) := by decide +kernel
theorem dX9_lays_159 : decode cX9_lays 159 = .ok (.iaload, 1) := by decide +kernel
theorem dX9_lays_160 : decode cX9_lays 160 = .ok (.if_icmp .ge 56, 3) := by decide +kernel
theorem dX9_lays_163 : decode cX9_lays 163 = .ok (.iload 4, 2) := by decide +kernel
theorem dX9_lays_165 : decode cX9_lays 165 = .ok (.iload_n 3, 1) := by decide +kernel
theorem dX9_lays_166 : decode cX9_lays 166 = .ok (.if_icmp .eq 44, 3) := by decide +kernel
theorem dX9_lays_169 : decode cX9_lays 169 = .ok (.aload_n 0, 1) := by decide +kernel
theorem dX9_lays_170 : decode cX9_lays 170 = .ok (.iload 4, 2) := by decide +kernel
theorem dX9_lays_172 : decode cX9_lays 172 = .ok (.iload_n 3, 1) := by decide +kernel
theorem dX9_lays_173 : decode cX9_lays 173 = .ok (.aload_n 0, 1) := by decide +kernel
theorem dX9_lays_174 : decode cX9_lays 174 = .ok (.getfield 38, 3) := by decide +kernel
theorem dX9_lays_177 : decode cX9_lays 177 = .ok (.bipush 9, 2) := by decide +kernel
theorem dX9_lays_179 : decode cX9_lays 179 = .ok (.iload 4, 2) := by decide +kernel
theorem dX9_lays_181 : decode cX9_lays 181 = .ok (.imul, 1) := by decide +kernel
theorem dX9_lays_182 : decode cX9_lays 182 = .ok (.aload_n 0, 1) := by decide +kernel
theorem dX9_lays_183 : decode cX9_lays 183 = .ok (.getfield 32, 3) := by decide +kernel
theorem dX9_lays_186 : decode cX9_lays 186 = .ok (.iload_n 2, 1) := by decide +kernel
theorem dX9_lays_187 : decode cX9_lays 187 = .ok (.iaload, 1) := by decide +kernel
theorem dX9_lays_188 : decode cX9_lays 188 = .ok (.iadd, 1) := by decide +kernel
theorem dX9_lays_189 : decode cX9_lays 189 = .ok (.laload, 1) := by decide +kernel
theorem dX9_lays_190 : decode cX9_lays 190 = .ok (.aload_n 0, 1) := by decide +kernel
theorem dX9_lays_191 : decode cX9_lays 191 = .ok (.getfield 41, 3) := by decide +kernel
theorem dX9_lays_194 : decode cX9_lays 194 = .ok (.bipush 9, 2) := by decide +kernel
theorem dX9_lays_196 : decode cX9_lays 196 = .ok (.iload 4, 2) := by decide +kernel
theorem dX9_lays_198 : decode cX9_lays 198 = .ok (.imul, 1) := by decide +kernel
theorem dX9_lays_199 : decode cX9_lays 199 = .ok (.aload_n 0, 1) := by decide +kernel
theorem dX9_lays_200 : decode cX9_lays 200 = .ok (.getfield 32, 3) := by decide +kernel
theorem dX9_lays_203 : decode cX9_lays 203 = .ok (.iload_n 2, 1) := by decide +kernel
theorem dX9_lays_204 : decode cX9_lays 204 = .ok (.iaload, 1) := by decide +kernel
theorem dX9_lays_205 : decode cX9_lays 205 = .ok (.iadd, 1) := by decide +kernel
theorem dX9_lays_206 : decode cX9_lays 206 = .ok (.laload, 1) := by decide +kernel
theorem dX9_lays_207 : decode cX9_lays 207 = .ok (.invokevirtual 94, 3) := by decide +kernel
theorem dX9_lays_210 : decode cX9_lays 210 = .ok (.iinc 4 1, 3) := by decide +kernel
theorem dX9_lays_213 : decode cX9_lays 213 = .ok (.goto (-61), 3) := by decide +kernel
theorem dX9_lays_216 : decode cX9_lays 216 = .ok (.iinc 2 1, 3) := by decide +kernel
theorem dX9_lays_219 : decode cX9_lays 219 = .ok (.goto (-148), 3) := by decide +kernel
theorem dX9_lays_222 : decode cX9_lays 222 = .ok (.iconst 0, 1) := by decide +kernel
theorem dX9_lays_223 : decode cX9_lays 223 = .ok (.istore_n 2, 1) := by decide +kernel
theorem dX9_lays_224 : decode cX9_lays 224 = .ok (.iload_n 2, 1) := by decide +kernel
theorem dX9_lays_225 : decode cX9_lays 225 = .ok (.bipush 9, 2) := by decide +kernel
theorem dX9_lays_227 : decode cX9_lays 227 = .ok (.aload_n 0, 1) := by decide +kernel
theorem dX9_lays_228 : decode cX9_lays 228 = .ok (.getfield 7, 3) := by decide +kernel
theorem dX9_lays_231 : decode cX9_lays 231 = .ok (.iconst 1, 1) := by decide +kernel
theorem dX9_lays_232 : decode cX9_lays 232 = .ok (.iaload, 1) := by decide +kernel
theorem dX9_lays_233 : decode cX9_lays 233 = .ok (.imul, 1) := by decide +kernel
theorem dX9_lays_234 : decode cX9_lays 234 = .ok (.if_icmp .ge 65, 3) := by decide +kernel
theorem dX9_lays_237 : decode cX9_lays 237 = .ok (.aload_n 0, 1) := by decide +kernel
theorem dX9_lays_238 : decode cX9_lays 238 = .ok (.getfield 25, 3) := by decide +kernel
theorem dX9_lays_241 : decode cX9_lays 241 = .ok (.iload_n 2, 1) := by decide +kernel
theorem dX9_lays_242 : decode cX9_lays 242 = .ok (.aload_n 0, 1) := by decide +kernel
theorem dX9_lays_243 : decode cX9_lays 243 = .ok (.getfield 38, 3) := by decide +kernel
theorem dX9_lays_246 : decode cX9_lays 246 = .ok (.bipush 9, 2) := by decide +kernel
theorem dX9_lays_248 : decode cX9_lays 248 = .ok (.aload_n 0, 1) := by decide +kernel
theorem dX9_lays_249 : decode cX9_lays 249 = .ok (.getfield 35, 3) := by decide +kernel
theorem dX9_lays_252 : decode cX9_lays 252 = .ok (.iload_n 2, 1) := by decide +kernel
theorem dX9_lays_253 : decode cX9_lays 253 = .ok (.bipush 9, 2) := by decide +kernel
theorem dX9_lays_255 : decode cX9_lays 255 = .ok (.idiv, 1) := by decide +kernel
theorem dX9_lays_256 : decode cX9_lays 256 = .ok (.iaload, 1) := by decide +kernel
theorem dX9_lays_257 : decode cX9_lays 257 = .ok (.imul, 1) := by decide +kernel
theorem dX9_lays_258 : decode cX9_lays 258 = .ok (.iload_n 2, 1) := by decide +kernel
theorem dX9_lays_259 : decode cX9_lays 259 = .ok (.bipush 9, 2) := by decide +kernel
theorem dX9_lays_261 : decode cX9_lays 261 = .ok (.irem, 1) := by decide +kernel
theorem dX9_lays_262 : decode cX9_lays 262 = .ok (.iadd, 1) := by decide +kernel
theorem dX9_lays_263 : decode cX9_lays 263 = .ok (.laload, 1) := by decide +kernel
theorem dX9_lays_264 : decode cX9_lays 264 = .ok (.lastore, 1) := by decide +kernel
theorem dX9_lays_265 : decode cX9_lays 265 = .ok (.aload_n 0, 1) := by decide +kernel
theorem dX9_lays_266 : decode cX9_lays 266 = .ok (.getfield 29, 3) := by decide +kernel
theorem dX9_lays_269 : decode cX9_lays 269 = .ok (.iload_n 2, 1) := by decide +kernel
theorem dX9_lays_270 : decode cX9_lays 270 = .ok (.aload_n 0, 1) := by decide +kernel
theorem dX9_lays_271 : decode cX9_lays 271 = .ok (.getfield 41, 3) := by decide +kernel
theorem dX9_lays_274 : decode cX9_lays 274 = .ok (.bipush 9, 2) := by decide +kernel
theorem dX9_lays_276 : decode cX9_lays 276 = .ok (.aload_n 0, 1) := by decide +kernel
theorem dX9_lays_277 : decode cX9_lays 277 = .ok (.getfield 35, 3) := by decide +kernel
theorem dX9_lays_280 : decode cX9_lays 280 = .ok (.iload_n 2, 1) := by decide +kernel
theorem dX9_lays_281 : decode cX9_lays 281 = .ok (.bipush 9, 2) := by decide +kernel
theorem dX9_lays_283 : decode cX9_lays 283 = .ok (.idiv, 1) := by decide +kernel
theorem dX9_lays_284 : decode cX9_lays 284 = .ok (.iaload, 1) := by decide +kernel
theorem dX9_lays_285 : decode cX9_lays 285 = .ok (.imul, 1) := by decide +kernel
theorem dX9_lays_286 : decode cX9_lays 286 = .ok (.iload_n 2, 1) := by decide +kernel
theorem dX9_lays_287 : decode cX9_lays 287 = .ok (.bipush 9, 2) := by decide +kernel
theorem dX9_lays_289 : decode cX9_lays 289 = .ok (.irem, 1) := by decide +kernel
theorem dX9_lays_290 : decode cX9_lays 290 = .ok (.iadd, 1) := by decide +kernel
theorem dX9_lays_291 : decode cX9_lays 291 = .ok (.laload, 1) := by decide +kernel
theorem dX9_lays_292 : decode cX9_lays 292 = .ok (.lastore, 1) := by decide +kernel
theorem dX9_lays_293 : decode cX9_lays 293 = .ok (.iinc 2 1, 3) := by decide +kernel
theorem dX9_lays_296 : decode cX9_lays 296 = .ok (.goto (-72), 3) := by decide +kernel
theorem dX9_lays_299 : decode cX9_lays 299 = .ok (.iconst 1, 1) := by decide +kernel
theorem dX9_lays_300 : decode cX9_lays 300 = .ok (.ireturn, 1) := by decide +kernel
theorem dX9_laysNow_0 : decode cX9_laysNow 0 = .ok (.iconst 0, 1) := by decide +kernel
theorem dX9_laysNow_1 : decode cX9_laysNow 1 = .ok (.istore_n 1, 1) := by decide +kernel
theorem dX9_laysNow_2 : decode cX9_laysNow 2 = .ok (.iload_n 1, 1) := by decide +kernel
theorem dX9_laysNow_3 : decode cX9_laysNow 3 = .ok (.aload_n 0, 1) := by decide +kernel
theorem dX9_laysNow_4 : decode cX9_laysNow 4 = .ok (.getfield 7, 3) := by decide +kernel
theorem dX9_laysNow_7 : decode cX9_laysNow 7 = .ok (.iconst 1, 1) := by decide +kernel
theorem dX9_laysNow_8 : decode cX9_laysNow 8 = .ok (.iaload, 1) := by decide +kernel
theorem dX9_laysNow_9 : decode cX9_laysNow 9 = .ok (.if_icmp .ge 24, 3) := by decide +kernel
theorem dX9_laysNow_12 : decode cX9_laysNow 12 = .ok (.aload_n 0, 1) := by decide +kernel
theorem dX9_laysNow_13 : decode cX9_laysNow 13 = .ok (.getfield 32, 3) := by decide +kernel
theorem dX9_laysNow_16 : decode cX9_laysNow 16 = .ok (.iload_n 1, 1) := by decide +kernel
theorem dX9_laysNow_17 : decode cX9_laysNow 17 = .ok (.aload_n 0, 1) := by decide +kernel
theorem dX9_laysNow_18 : decode cX9_laysNow 18 = .ok (.getfield 7, 3) := by decide +kernel
theorem dX9_laysNow_21 : decode cX9_laysNow 21 = .ok (.bipush 27, 2) := by decide +kernel
theorem dX9_laysNow_23 : decode cX9_laysNow 23 = .ok (.iload_n 1, 1) := by decide +kernel
theorem dX9_laysNow_24 : decode cX9_laysNow 24 = .ok (.iadd, 1) := by decide +kernel
theorem dX9_laysNow_25 : decode cX9_laysNow 25 = .ok (.iaload, 1) := by decide +kernel
theorem dX9_laysNow_26 : decode cX9_laysNow 26 = .ok (.iastore, 1) := by decide +kernel
theorem dX9_laysNow_27 : decode cX9_laysNow 27 = .ok (.iinc 1 1, 3) := by decide +kernel
theorem dX9_laysNow_30 : decode cX9_laysNow 30 = .ok (.goto (-28), 3) := by decide +kernel
theorem dX9_laysNow_33 : decode cX9_laysNow 33 = .ok (.aload_n 0, 1) := by decide +kernel
theorem dX9_laysNow_34 : decode cX9_laysNow 34 = .ok (.invokevirtual 98, 3) := by decide +kernel
theorem dX9_laysNow_37 : decode cX9_laysNow 37 = .ok (.istore_n 1, 1) := by decide +kernel
theorem dX9_laysNow_38 : decode cX9_laysNow 38 = .ok (.return_, 1) := by decide +kernel
theorem dX9_profit_0 : decode cX9_profit 0 = .ok (.iload_n 1, 1) := by decide +kernel
theorem dX9_profit_1 : decode cX9_profit 1 = .ok (.aload_n 0, 1) := by decide +kernel
theorem dX9_profit_2 : decode cX9_profit 2 = .ok (.getfield 7, 3) := by decide +kernel
theorem dX9_profit_5 : decode cX9_profit 5 = .ok (.iconst 0, 1) := by decide +kernel
theorem dX9_profit_6 : decode cX9_profit 6 = .ok (.iaload, 1) := by decide +kernel
theorem dX9_profit_7 : decode cX9_profit 7 = .ok (.if_icmp .ge 14, 3) := by decide +kernel
theorem dX9_profit_10 : decode cX9_profit 10 = .ok (.aload_n 0, 1) := by decide +kernel
theorem dX9_profit_11 : decode cX9_profit 11 = .ok (.getfield 7, 3) := by decide +kernel
theorem dX9_profit_14 : decode cX9_profit 14 = .ok (.iconst 2, 1) := by decide +kernel
theorem dX9_profit_15 : decode cX9_profit 15 = .ok (.iload_n 1, 1) := by decide +kernel
theorem dX9_profit_16 : decode cX9_profit 16 = .ok (.iadd, 1) := by decide +kernel
theorem dX9_profit_17 : decode cX9_profit 17 = .ok (.iaload, 1) := by decide +kernel
theorem dX9_profit_18 : decode cX9_profit 18 = .ok (.goto 4, 3) := by decide +kernel
theorem dX9_profit_21 : decode cX9_profit 21 = .ok (.iconst 0, 1) := by decide +kernel
theorem dX9_profit_22 : decode cX9_profit 22 = .ok (.ireturn, 1) := by decide +kernel
theorem dX9_entry_0 : decode cX9_entry 0 = .ok (.aload_n 0, 1) := by decide +kernel
theorem dX9_entry_1 : decode cX9_entry 1 = .ok (.getfield 25, 3) := by decide +kernel
theorem dX9_entry_4 : decode cX9_entry 4 = .ok (.bipush 9, 2) := by decide +kernel
theorem dX9_entry_6 : decode cX9_entry 6 = .ok (.iload_n 1, 1) := by decide +kernel
theorem dX9_entry_7 : decode cX9_entry 7 = .ok (.imul, 1) := by decide +kernel
theorem dX9_entry_8 : decode cX9_entry 8 = .ok (.iload_n 2, 1) := by decide +kernel
theorem dX9_entry_9 : decode cX9_entry 9 = .ok (.iadd, 1) := by decide +kernel
theorem dX9_entry_10 : decode cX9_entry 10 = .ok (.laload, 1) := by decide +kernel
theorem dX9_entry_11 : decode cX9_entry 11 = .ok (.lreturn, 1) := by decide +kernel
theorem dX9_isFeasible_0 : decode cX9_isFeasible 0 = .ok (.iconst 1, 1) := by decide +kernel
theorem dX9_isFeasible_1 : decode cX9_isFeasible 1 = .ok (.istore_n 1, 1) := by decide +kernel
theorem dX9_isFeasible_2 : decode cX9_isFeasible 2 = .ok (.iconst 0, 1) := by decide +kernel
theorem dX9_isFeasible_3 : decode cX9_isFeasible 3 = .ok (.istore_n 2, 1) := by decide +kernel
theorem dX9_isFeasible_4 : decode cX9_isFeasible 4 = .ok (.iload_n 2, 1) := by decide +kernel
theorem dX9_isFeasible_5 : decode cX9_isFeasible 5 = .ok (.aload_n 0, 1) := by decide +kernel
theorem dX9_isFeasible_6 : decode cX9_isFeasible 6 = .ok (.getfield 7, 3) := by decide +kernel
theorem dX9_isFeasible_9 : decode cX9_isFeasible 9 = .ok (.iconst 1, 1) := by decide +kernel
theorem dX9_isFeasible_10 : decode cX9_isFeasible 10 = .ok (.iaload, 1) := by decide +kernel
theorem dX9_isFeasible_11 : decode cX9_isFeasible 11 = .ok (.if_icmp .ge 31, 3) := by decide +kernel
theorem dX9_isFeasible_14 : decode cX9_isFeasible 14 = .ok (.iload_n 1, 1) := by decide +kernel
theorem dX9_isFeasible_15 : decode cX9_isFeasible 15 = .ok (.ifCond .eq 19, 3) := by decide +kernel
theorem dX9_isFeasible_18 : decode cX9_isFeasible 18 = .ok (.aload_n 0, 1) := by decide +kernel
theorem dX9_isFeasible_19 : decode cX9_isFeasible 19 = .ok (.iload_n 2, 1) := by decide +kernel
theorem dX9_isFeasible_20 : decode cX9_isFeasible 20 = .ok (.bipush 8, 2) := by decide +kernel
theorem dX9_isFeasible_22 : decode cX9_isFeasible 22 = .ok (.invokevirtual 102, 3) := by decide +kernel
theorem dX9_isFeasible_25 : decode cX9_isFeasible 25 = .ok (.lconst 0, 1) := by decide +kernel
theorem dX9_isFeasible_26 : decode cX9_isFeasible 26 = .ok (.lcmp, 1) := by decide +kernel
theorem dX9_isFeasible_27 : decode cX9_isFeasible 27 = .ok (.ifCond .lt 7, 3) := by decide +kernel
theorem dX9_isFeasible_30 : decode cX9_isFeasible 30 = .ok (.iconst 1, 1) := by decide +kernel
theorem dX9_isFeasible_31 : decode cX9_isFeasible 31 = .ok (.goto 4, 3) := by decide +kernel
theorem dX9_isFeasible_34 : decode cX9_isFeasible 34 = .ok (.iconst 0, 1) := by decide +kernel
theorem dX9_isFeasible_35 : decode cX9_isFeasible 35 = .ok (.istore_n 1, 1) := by decide +kernel
theorem dX9_isFeasible_36 : decode cX9_isFeasible 36 = .ok (.iinc 2 1, 3) := by decide +kernel
theorem dX9_isFeasible_39 : decode cX9_isFeasible 39 = .ok (.goto (-35), 3) := by decide +kernel
theorem dX9_isFeasible_42 : decode cX9_isFeasible 42 = .ok (.iload_n 1, 1) := by decide +kernel
theorem dX9_isFeasible_43 : decode cX9_isFeasible 43 = .ok (.ireturn, 1) := by decide +kernel
theorem dX9_values_0 : decode cX9_values 0 = .ok (.aload_n 0, 1) := by decide +kernel
theorem dX9_values_1 : decode cX9_values 1 = .ok (.lconst 0, 1) := by decide +kernel
theorem dX9_values_2 : decode cX9_values 2 = .ok (.lconst 1, 1) := by decide +kernel
theorem dX9_values_3 : decode cX9_values 3 = .ok (.invokevirtual 79, 3) := by decide +kernel
theorem dX9_values_6 : decode cX9_values 6 = .ok (.iconst 0, 1) := by decide +kernel
theorem dX9_values_7 : decode cX9_values 7 = .ok (.istore_n 1, 1) := by decide +kernel
theorem dX9_values_8 : decode cX9_values 8 = .ok (.iload_n 1, 1) := by decide +kernel
theorem dX9_values_9 : decode cX9_values 9 = .ok (.aload_n 0, 1) := by decide +kernel
theorem dX9_values_10 : decode cX9_values 10 = .ok (.getfield 7, 3) := by decide +kernel
theorem dX9_values_13 : decode cX9_values 13 = .ok (.iconst 1, 1) := by decide +kernel
theorem dX9_values_14 : decode cX9_values 14 = .ok (.iaload, 1) := by decide +kernel
theorem dX9_values_15 : decode cX9_values 15 = .ok (.if_icmp .ge 45, 3) := by decide +kernel
theorem dX9_values_18 : decode cX9_values 18 = .ok (.aload_n 0, 1) := by decide +kernel
theorem dX9_values_19 : decode cX9_values 19 = .ok (.aload_n 0, 1) := by decide +kernel
theorem dX9_values_20 : decode cX9_values 20 = .ok (.aload_n 0, 1) := by decide +kernel
theorem dX9_values_21 : decode cX9_values 21 = .ok (.getfield 32, 3) := by decide +kernel
theorem dX9_values_24 : decode cX9_values 24 = .ok (.iload_n 1, 1) := by decide +kernel
theorem dX9_values_25 : decode cX9_values 25 = .ok (.iaload, 1) := by decide +kernel
theorem dX9_values_26 : decode cX9_values 26 = .ok (.invokevirtual 106, 3) := by decide +kernel
theorem dX9_values_29 : decode cX9_values 29 = .ok (.i2l, 1) := by decide +kernel
theorem dX9_values_30 : decode cX9_values 30 = .ok (.aload_n 0, 1) := by decide +kernel
theorem dX9_values_31 : decode cX9_values 31 = .ok (.iload_n 1, 1) := by decide +kernel
theorem dX9_values_32 : decode cX9_values 32 = .ok (.bipush 8, 2) := by decide +kernel
theorem dX9_values_34 : decode cX9_values 34 = .ok (.invokevirtual 102, 3) := by decide +kernel
theorem dX9_values_37 : decode cX9_values 37 = .ok (.aload_n 0, 1) := by decide +kernel
theorem dX9_values_38 : decode cX9_values 38 = .ok (.getfield 29, 3) := by decide +kernel
theorem dX9_values_41 : decode cX9_values 41 = .ok (.bipush 9, 2) := by decide +kernel
theorem dX9_values_43 : decode cX9_values 43 = .ok (.iload_n 1, 1) := by decide +kernel
theorem dX9_values_44 : decode cX9_values 44 = .ok (.imul, 1) := by decide +kernel
theorem dX9_values_45 : decode cX9_values 45 = .ok (.bipush 9, 2) := by decide +kernel
theorem dX9_values_47 : decode cX9_values 47 = .ok (.iadd, 1) := by decide +kernel
theorem dX9_values_48 : decode cX9_values 48 = .ok (.iconst 1, 1) := by decide +kernel
theorem dX9_values_49 : decode cX9_values 49 = .ok (.isub, 1) := by decide +kernel
theorem dX9_values_50 : decode cX9_values 50 = .ok (.laload, 1) := by decide +kernel
theorem dX9_values_51 : decode cX9_values 51 = .ok (.invokevirtual 110, 3) := by decide +kernel
theorem dX9_values_54 : decode cX9_values 54 = .ok (.iinc 1 1, 3) := by decide +kernel
theorem dX9_values_57 : decode cX9_values 57 = .ok (.goto (-49), 3) := by decide +kernel
theorem dX9_values_60 : decode cX9_values 60 = .ok (.return_, 1) := by decide +kernel
theorem dX9_reduces_0 : decode cX9_reduces 0 = .ok (.aload_n 0, 1) := by decide +kernel
theorem dX9_reduces_1 : decode cX9_reduces 1 = .ok (.aload_n 0, 1) := by decide +kernel
theorem dX9_reduces_2 : decode cX9_reduces 2 = .ok (.iload_n 1, 1) := by decide +kernel
theorem dX9_reduces_3 : decode cX9_reduces 3 = .ok (.invokevirtual 106, 3) := by decide +kernel
theorem dX9_reduces_6 : decode cX9_reduces 6 = .ok (.i2l, 1) := by decide +kernel
theorem dX9_reduces_7 : decode cX9_reduces 7 = .ok (.lconst 1, 1) := by decide +kernel
theorem dX9_reduces_8 : decode cX9_reduces 8 = .ok (.invokevirtual 79, 3) := by decide +kernel
theorem dX9_reduces_11 : decode cX9_reduces 11 = .ok (.iconst 0, 1) := by decide +kernel
theorem dX9_reduces_12 : decode cX9_reduces 12 = .ok (.istore_n 2, 1) := by decide +kernel
theorem dX9_reduces_13 : decode cX9_reduces 13 = .ok (.iload_n 2, 1) := by decide +kernel
theorem dX9_reduces_14 : decode cX9_reduces 14 = .ok (.aload_n 0, 1) := by decide +kernel
theorem dX9_reduces_15 : decode cX9_reduces 15 = .ok (.getfield 7, 3) := by decide +kernel
theorem dX9_reduces_18 : decode cX9_reduces 18 = .ok (.iconst 1, 1) := by decide +kernel
theorem dX9_reduces_19 : decode cX9_reduces 19 = .ok (.iaload, 1) := by decide +kernel
theorem dX9_reduces_20 : decode cX9_reduces 20 = .ok (.if_icmp .ge 42, 3) := by decide +kernel
theorem dX9_reduces_23 : decode cX9_reduces 23 = .ok (.aload_n 0, 1) := by decide +kernel
theorem dX9_reduces_24 : decode cX9_reduces 24 = .ok (.aload_n 0, 1) := by decide +kernel
theorem dX9_reduces_25 : decode cX9_reduces 25 = .ok (.aload_n 0, 1) := by decide +kernel
theorem dX9_reduces_26 : decode cX9_reduces 26 = .ok (.getfield 32, 3) := by decide +kernel
theorem dX9_reduces_29 : decode cX9_reduces 29 = .ok (.iload_n 2, 1) := by decide +kernel
theorem dX9_reduces_30 : decode cX9_reduces 30 = .ok (.iaload, 1) := by decide +kernel
theorem dX9_reduces_31 : decode cX9_reduces 31 = .ok (.invokevirtual 106, 3) := by decide +kernel
theorem dX9_reduces_34 : decode cX9_reduces 34 = .ok (.ineg, 1) := by decide +kernel
theorem dX9_reduces_35 : decode cX9_reduces 35 = .ok (.i2l, 1) := by decide +kernel
theorem dX9_reduces_36 : decode cX9_reduces 36 = .ok (.aload_n 0, 1) := by decide +kernel
theorem dX9_reduces_37 : decode cX9_reduces 37 = .ok (.iload_n 2, 1) := by decide +kernel
theorem dX9_reduces_38 : decode cX9_reduces 38 = .ok (.iload_n 1, 1) := by decide +kernel
theorem dX9_reduces_39 : decode cX9_reduces 39 = .ok (.invokevirtual 102, 3) := by decide +kernel
theorem dX9_reduces_42 : decode cX9_reduces 42 = .ok (.aload_n 0, 1) := by decide +kernel
theorem dX9_reduces_43 : decode cX9_reduces 43 = .ok (.getfield 29, 3) := by decide +kernel
theorem dX9_reduces_46 : decode cX9_reduces 46 = .ok (.bipush 9, 2) := by decide +kernel
theorem dX9_reduces_48 : decode cX9_reduces 48 = .ok (.iload_n 2, 1) := by decide +kernel
theorem dX9_reduces_49 : decode cX9_reduces 49 = .ok (.imul, 1) := by decide +kernel
theorem dX9_reduces_50 : decode cX9_reduces 50 = .ok (.iload_n 1, 1) := by decide +kernel
theorem dX9_reduces_51 : decode cX9_reduces 51 = .ok (.iadd, 1) := by decide +kernel
theorem dX9_reduces_52 : decode cX9_reduces 52 = .ok (.laload, 1) := by decide +kernel
theorem dX9_reduces_53 : decode cX9_reduces 53 = .ok (.invokevirtual 110, 3) := by decide +kernel
theorem dX9_reduces_56 : decode cX9_reduces 56 = .ok (.iinc 2 1, 3) := by decide +kernel
theorem dX9_reduces_59 : decode cX9_reduces 59 = .ok (.goto (-46), 3) := by decide +kernel
theorem dX9_reduces_62 : decode cX9_reduces 62 = .ok (.return_, 1) := by decide +kernel
theorem dX9_isRising_0 : decode cX9_isRising 0 = .ok (.aload_n 0, 1) := by decide +kernel
theorem dX9_isRising_1 : decode cX9_isRising 1 = .ok (.iload_n 1, 1) := by decide +kernel
theorem dX9_isRising_2 : decode cX9_isRising 2 = .ok (.invokevirtual 114, 3) := by decide +kernel
theorem dX9_isRising_5 : decode cX9_isRising 5 = .ok (.aload_n 0, 1) := by decide +kernel
theorem dX9_isRising_6 : decode cX9_isRising 6 = .ok (.getfield 72, 3) := by decide +kernel
theorem dX9_isRising_9 : decode cX9_isRising 9 = .ok (.lconst 0, 1) := by decide +kernel
theorem dX9_isRising_10 : decode cX9_isRising 10 = .ok (.lcmp, 1) := by decide +kernel
theorem dX9_isRising_11 : decode cX9_isRising 11 = .ok (.ifCond .le 7, 3) := by decide +kernel
theorem dX9_isRising_14 : decode cX9_isRising 14 = .ok (.iconst 1, 1) := by decide +kernel
theorem dX9_isRising_15 : decode cX9_isRising 15 = .ok (.goto 4, 3) := by decide +kernel
theorem dX9_isRising_18 : decode cX9_isRising 18 = .ok (.iconst 0, 1) := by decide +kernel
theorem dX9_isRising_19 : decode cX9_isRising 19 = .ok (.ireturn, 1) := by decide +kernel
theorem dX9_hasEntry_0 : decode cX9_hasEntry 0 = .ok (.iconst 0, 1) := by decide +kernel
theorem dX9_hasEntry_1 : decode cX9_hasEntry 1 = .ok (.istore_n 2, 1) := by decide +kernel
theorem dX9_hasEntry_2 : decode cX9_hasEntry 2 = .ok (.iconst 0, 1) := by decide +kernel
theorem dX9_hasEntry_3 : decode cX9_hasEntry 3 = .ok (.istore_n 3, 1) := by decide +kernel
theorem dX9_hasEntry_4 : decode cX9_hasEntry 4 = .ok (.iload_n 3, 1) := by decide +kernel
theorem dX9_hasEntry_5 : decode cX9_hasEntry 5 = .ok (.aload_n 0, 1) := by decide +kernel
theorem dX9_hasEntry_6 : decode cX9_hasEntry 6 = .ok (.getfield 7, 3) := by decide +kernel
theorem dX9_hasEntry_9 : decode cX9_hasEntry 9 = .ok (.iconst 1, 1) := by decide +kernel
theorem dX9_hasEntry_10 : decode cX9_hasEntry 10 = .ok (.iaload, 1) := by decide +kernel
theorem dX9_hasEntry_11 : decode cX9_hasEntry 11 = .ok (.if_icmp .ge 30, 3) := by decide +kernel
theorem dX9_hasEntry_14 : decode cX9_hasEntry 14 = .ok (.iload_n 2, 1) := by decide +kernel
theorem dX9_hasEntry_15 : decode cX9_hasEntry 15 = .ok (.ifCond .ne 14, 3) := by decide +kernel
theorem dX9_hasEntry_18 : decode cX9_hasEntry 18 = .ok (.aload_n 0, 1) := by decide +kernel
theorem dX9_hasEntry_19 : decode cX9_hasEntry 19 = .ok (.iload_n 3, 1) := by decide +kernel
theorem dX9_hasEntry_20 : decode cX9_hasEntry 20 = .ok (.iload_n 1, 1) := by decide +kernel
theorem dX9_hasEntry_21 : decode cX9_hasEntry 21 = .ok (.invokevirtual 102, 3) := by decide +kernel
theorem dX9_hasEntry_24 : decode cX9_hasEntry 24 = .ok (.lconst 0, 1) := by decide +kernel
theorem dX9_hasEntry_25 : decode cX9_hasEntry 25 = .ok (.lcmp, 1) := by decide +kernel
theorem dX9_hasEntry_26 : decode cX9_hasEntry 26 = .ok (.ifCond .le 7, 3) := by decide +kernel
theorem dX9_hasEntry_29 : decode cX9_hasEntry 29 = .ok (.iconst 1, 1) := by decide +kernel
theorem dX9_hasEntry_30 : decode cX9_hasEntry 30 = .ok (.goto 4, 3) := by decide +kernel
theorem dX9_hasEntry_33 : decode cX9_hasEntry 33 = .ok (.iconst 0, 1) := by decide +kernel
theorem dX9_hasEntry_34 : decode cX9_hasEntry 34 = .ok (.istore_n 2, 1) := by decide +kernel
theorem dX9_hasEntry_35 : decode cX9_hasEntry 35 = .ok (.iinc 3 1, 3) := by decide +kernel
theorem dX9_hasEntry_38 : decode cX9_hasEntry 38 = .ok (.goto (-34), 3) := by decide +kernel
theorem dX9_hasEntry_41 : decode cX9_hasEntry 41 = .ok (.iload_n 2, 1) := by decide +kernel
theorem dX9_hasEntry_42 : decode cX9_hasEntry 42 = .ok (.ireturn, 1) := by decide +kernel
theorem dX9_isBest_0 : decode cX9_isBest 0 = .ok (.iconst 1, 1) := by decide +kernel
theorem dX9_isBest_1 : decode cX9_isBest 1 = .ok (.istore_n 1, 1) := by decide +kernel
theorem dX9_isBest_2 : decode cX9_isBest 2 = .ok (.iconst 0, 1) := by decide +kernel
theorem dX9_isBest_3 : decode cX9_isBest 3 = .ok (.istore_n 2, 1) := by decide +kernel
theorem dX9_isBest_4 : decode cX9_isBest 4 = .ok (.iload_n 2, 1) := by decide +kernel
theorem dX9_isBest_5 : decode cX9_isBest 5 = .ok (.aload_n 0, 1) := by decide +kernel
theorem dX9_isBest_6 : decode cX9_isBest 6 = .ok (.invokevirtual 61, 3) := by decide +kernel
theorem dX9_isBest_9 : decode cX9_isBest 9 = .ok (.if_icmp .ge 27, 3) := by decide +kernel
theorem dX9_isBest_12 : decode cX9_isBest 12 = .ok (.iload_n 1, 1) := by decide +kernel
theorem dX9_isBest_13 : decode cX9_isBest 13 = .ok (.ifCond .eq 15, 3) := by decide +kernel
theorem dX9_isBest_16 : decode cX9_isBest 16 = .ok (.aload_n 0, 1) := by decide +kernel
theorem dX9_isBest_17 : decode cX9_isBest 17 = .ok (.iload_n 2, 1) := by decide +kernel
theorem dX9_isBest_18 : decode cX9_isBest 18 = .ok (.invokevirtual 118, 3) := by decide +kernel
theorem dX9_isBest_21 : decode cX9_isBest 21 = .ok (.ifCond .ne 7, 3) := by decide +kernel
theorem dX9_isBest_24 : decode cX9_isBest 24 = .ok (.iconst 1, 1) := by decide +kernel
theorem dX9_isBest_25 : decode cX9_isBest 25 = .ok (.goto 4, 3) := by decide +kernel
theorem dX9_isBest_28 : decode cX9_isBest 28 = .ok (.iconst 0, 1) := by decide +kernel
theorem dX9_isBest_29 : decode cX9_isBest 29 = .ok (.istore_n 1, 1) := by decide +kernel
theorem dX9_isBest_30 : decode cX9_isBest 30 = .ok (.iinc 2 1, 3) := by decide +kernel
theorem dX9_isBest_33 : decode cX9_isBest 33 = .ok (.goto (-29), 3) := by decide +kernel
theorem dX9_isBest_36 : decode cX9_isBest 36 = .ok (.iload_n 1, 1) := by decide +kernel
theorem dX9_isBest_37 : decode cX9_isBest 37 = .ok (.ireturn, 1) := by decide +kernel
theorem dX9_endless_0 : decode cX9_endless 0 = .ok (.iconst (-1), 1) := by decide +kernel
theorem dX9_endless_1 : decode cX9_endless 1 = .ok (.istore_n 1, 1) := by decide +kernel
theorem dX9_endless_2 : decode cX9_endless 2 = .ok (.aload_n 0, 1) := by decide +kernel
theorem dX9_endless_3 : decode cX9_endless 3 = .ok (.invokevirtual 61, 3) := by decide +kernel
theorem dX9_endless_6 : decode cX9_endless 6 = .ok (.iconst 1, 1) := by decide +kernel
theorem dX9_endless_7 : decode cX9_endless 7 = .ok (.isub, 1) := by decide +kernel
theorem dX9_endless_8 : decode cX9_endless 8 = .ok (.istore_n 2, 1) := by decide +kernel
theorem dX9_endless_9 : decode cX9_endless 9 = .ok (.iload_n 2, 1) := by decide +kernel
theorem dX9_endless_10 : decode cX9_endless 10 = .ok (.ifCond .lt 31, 3) := by decide +kernel
theorem dX9_endless_13 : decode cX9_endless 13 = .ok (.aload_n 0, 1) := by decide +kernel
theorem dX9_endless_14 : decode cX9_endless 14 = .ok (.iload_n 2, 1) := by decide +kernel
theorem dX9_endless_15 : decode cX9_endless 15 = .ok (.invokevirtual 118, 3) := by decide +kernel
theorem dX9_endless_18 : decode cX9_endless 18 = .ok (.ifCond .eq 15, 3) := by decide +kernel
theorem dX9_endless_21 : decode cX9_endless 21 = .ok (.aload_n 0, 1) := by decide +kernel
theorem dX9_endless_22 : decode cX9_endless 22 = .ok (.iload_n 2, 1) := by decide +kernel
theorem dX9_endless_23 : decode cX9_endless 23 = .ok (.invokevirtual 122, 3) := by decide +kernel
theorem dX9_endless_26 : decode cX9_endless 26 = .ok (.ifCond .ne 7, 3) := by decide +kernel
theorem dX9_endless_29 : decode cX9_endless 29 = .ok (.iload_n 2, 1) := by decide +kernel
theorem dX9_endless_30 : decode cX9_endless 30 = .ok (.goto 4, 3) := by decide +kernel
theorem dX9_endless_33 : decode cX9_endless 33 = .ok (.iload_n 1, 1) := by decide +kernel
theorem dX9_endless_34 : decode cX9_endless 34 = .ok (.istore_n 1, 1) := by decide +kernel
theorem dX9_endless_35 : decode cX9_endless 35 = .ok (.iinc 2 (-1), 3) := by decide +kernel
theorem dX9_endless_38 : decode cX9_endless 38 = .ok (.goto (-29), 3) := by decide +kernel
theorem dX9_endless_41 : decode cX9_endless 41 = .ok (.iload_n 1, 1) := by decide +kernel
theorem dX9_endless_42 : decode cX9_endless 42 = .ok (.ireturn, 1) := by decide +kernel
theorem dX9_against_0 : decode cX9_against 0 = .ok (.aload_n 0, 1) := by decide +kernel
theorem dX9_against_1 : decode cX9_against 1 = .ok (.iload_n 1, 1) := by decide +kernel
theorem dX9_against_2 : decode cX9_against 2 = .ok (.bipush 8, 2) := by decide +kernel
theorem dX9_against_4 : decode cX9_against 4 = .ok (.invokevirtual 102, 3) := by decide +kernel
theorem dX9_against_7 : decode cX9_against 7 = .ok (.aload_n 0, 1) := by decide +kernel
theorem dX9_against_8 : decode cX9_against 8 = .ok (.getfield 29, 3) := by decide +kernel
theorem dX9_against_11 : decode cX9_against 11 = .ok (.bipush 9, 2) := by decide +kernel
theorem dX9_against_13 : decode cX9_against 13 = .ok (.iload_n 1, 1) := by decide +kernel
theorem dX9_against_14 : decode cX9_against 14 = .ok (.imul, 1) := by decide +kernel
theorem dX9_against_15 : decode cX9_against 15 = .ok (.iload_n 3, 1) := by decide +kernel
theorem dX9_against_16 : decode cX9_against 16 = .ok (.iadd, 1) := by decide +kernel
theorem dX9_against_17 : decode cX9_against 17 = .ok (.laload, 1) := by decide +kernel
theorem dX9_against_18 : decode cX9_against 18 = .ok (.lmul, 1) := by decide +kernel
theorem dX9_against_19 : decode cX9_against 19 = .ok (.lstore 4, 2) := by decide +kernel
theorem dX9_against_21 : decode cX9_against 21 = .ok (.aload_n 0, 1) := by decide +kernel
theorem dX9_against_22 : decode cX9_against 22 = .ok (.getfield 29, 3) := by decide +kernel
theorem dX9_against_25 : decode cX9_against 25 = .ok (.bipush 9, 2) := by decide +kernel
theorem dX9_against_27 : decode cX9_against 27 = .ok (.iload_n 1, 1) := by decide +kernel
theorem dX9_against_28 : decode cX9_against 28 = .ok (.imul, 1) := by decide +kernel
theorem dX9_against_29 : decode cX9_against 29 = .ok (.bipush 9, 2) := by decide +kernel
theorem dX9_against_31 : decode cX9_against 31 = .ok (.iadd, 1) := by decide +kernel
theorem dX9_against_32 : decode cX9_against 32 = .ok (.iconst 1, 1) := by decide +kernel
theorem dX9_against_33 : decode cX9_against 33 = .ok (.isub, 1) := by decide +kernel
theorem dX9_against_34 : decode cX9_against 34 = .ok (.laload, 1) := by decide +kernel
theorem dX9_against_35 : decode cX9_against 35 = .ok (.aload_n 0, 1) := by decide +kernel
theorem dX9_against_36 : decode cX9_against 36 = .ok (.iload_n 1, 1) := by decide +kernel
theorem dX9_against_37 : decode cX9_against 37 = .ok (.iload_n 3, 1) := by decide +kernel
theorem dX9_against_38 : decode cX9_against 38 = .ok (.invokevirtual 102, 3) := by decide +kernel
theorem dX9_against_41 : decode cX9_against 41 = .ok (.lmul, 1) := by decide +kernel
theorem dX9_against_42 : decode cX9_against 42 = .ok (.lstore 6, 2) := by decide +kernel
theorem dX9_against_44 : decode cX9_against 44 = .ok (.aload_n 0, 1) := by decide +kernel
theorem dX9_against_45 : decode cX9_against 45 = .ok (.iload_n 2, 1) := by decide +kernel
theorem dX9_against_46 : decode cX9_against 46 = .ok (.bipush 8, 2) := by decide +kernel
theorem dX9_against_48 : decode cX9_against 48 = .ok (.invokevirtual 102, 3) := by decide +kernel
theorem dX9_against_51 : decode cX9_against 51 = .ok (.aload_n 0, 1) := by decide +kernel
theorem dX9_against_52 : decode cX9_against 52 = .ok (.getfield 29, 3) := by decide +kernel
theorem dX9_against_55 : decode cX9_against 55 = .ok (.bipush 9, 2) := by decide +kernel
theorem dX9_against_57 : decode cX9_against 57 = .ok (.iload_n 2, 1) := by decide +kernel
theorem dX9_against_58 : decode cX9_against 58 = .ok (.imul, 1) := by decide +kernel
theorem dX9_against_59 : decode cX9_against 59 = .ok (.iload_n 3, 1) := by decide +kernel
theorem dX9_against_60 : decode cX9_against 60 = .ok (.iadd, 1) := by decide +kernel
theorem dX9_against_61 : decode cX9_against 61 = .ok (.laload, 1) := by decide +kernel
theorem dX9_against_62 : decode cX9_against 62 = .ok (.lmul, 1) := by decide +kernel
theorem dX9_against_63 : decode cX9_against 63 = .ok (.lstore 8, 2) := by decide +kernel
theorem dX9_against_65 : decode cX9_against 65 = .ok (.aload_n 0, 1) := by decide +kernel
theorem dX9_against_66 : decode cX9_against 66 = .ok (.getfield 29, 3) := by decide +kernel
theorem dX9_against_69 : decode cX9_against 69 = .ok (.bipush 9, 2) := by decide +kernel
theorem dX9_against_71 : decode cX9_against 71 = .ok (.iload_n 2, 1) := by decide +kernel
theorem dX9_against_72 : decode cX9_against 72 = .ok (.imul, 1) := by decide +kernel
theorem dX9_against_73 : decode cX9_against 73 = .ok (.bipush 9, 2) := by decide +kernel
theorem dX9_against_75 : decode cX9_against 75 = .ok (.iadd, 1) := by decide +kernel
theorem dX9_against_76 : decode cX9_against 76 = .ok (.iconst 1, 1) := by decide +kernel
theorem dX9_against_77 : decode cX9_against 77 = .ok (.isub, 1) := by decide +kernel
theorem dX9_against_78 : decode cX9_against 78 = .ok (.laload, 1) := by decide +kernel
theorem dX9_against_79 : decode cX9_against 79 = .ok (.aload_n 0, 1) := by decide +kernel
theorem dX9_against_80 : decode cX9_against 80 = .ok (.iload_n 2, 1) := by decide +kernel
theorem dX9_against_81 : decode cX9_against 81 = .ok (.iload_n 3, 1) := by decide +kernel
theorem dX9_against_82 : decode cX9_against 82 = .ok (.invokevirtual 102, 3) := by decide +kernel
theorem dX9_against_85 : decode cX9_against 85 = .ok (.lmul, 1) := by decide +kernel
theorem dX9_against_86 : decode cX9_against 86 = .ok (.lstore 10, 2) := by decide +kernel
theorem dX9_against_88 : decode cX9_against 88 = .ok (.lload 4, 2) := by decide +kernel
theorem dX9_against_90 : decode cX9_against 90 = .ok (.lload 6, 2) := by decide +kernel
theorem dX9_against_92 : decode cX9_against 92 = .ok (.invokestatic 68, 3) := by decide +kernel
theorem dX9_against_95 : decode cX9_against 95 = .ok (.lstore 12, 2) := by decide +kernel
theorem dX9_against_97 : decode cX9_against 97 = .ok (.lload 8, 2) := by decide +kernel
theorem dX9_against_99 : decode cX9_against 99 = .ok (.lload 10, 2) := by decide +kernel
theorem dX9_against_101 : decode cX9_against 101 = .ok (.invokestatic 68, 3) := by decide +kernel
theorem dX9_against_104 : decode cX9_against 104 = .ok (.lstore 14, 2) := by decide +kernel
theorem dX9_against_106 : decode cX9_against 106 = .ok (.lload 4, 2) := by decide +kernel
theorem dX9_against_108 : decode cX9_against 108 = .ok (.lload 12, 2) := by decide +kernel
theorem dX9_against_110 : decode cX9_against 110 = .ok (.ldiv, 1) := by decide +kernel
theorem dX9_against_111 : decode cX9_against 111 = .ok (.lload 10, 2) := by decide +kernel
theorem dX9_against_113 : decode cX9_against 113 = .ok (.lload 14, 2) := by decide +kernel
theorem dX9_against_115 : decode cX9_against 115 = .ok (.ldiv, 1) := by decide +kernel
theorem dX9_against_116 : decode cX9_against 116 = .ok (.lmul, 1) := by decide +kernel
theorem dX9_against_117 : decode cX9_against 117 = .ok (.lload 8, 2) := by decide +kernel
theorem dX9_against_119 : decode cX9_against 119 = .ok (.lload 14, 2) := by decide +kernel
theorem dX9_against_121 : decode cX9_against 121 = .ok (.ldiv, 1) := by decide +kernel
theorem dX9_against_122 : decode cX9_against 122 = .ok (.lload 6, 2) := by decide +kernel
theorem dX9_against_124 : decode cX9_against 124 = .ok (.lload 12, 2) := by decide +kernel
theorem dX9_against_126 : decode cX9_against 126 = .ok (.ldiv, 1) := by decide +kernel
theorem dX9_against_127 : decode cX9_against 127 = .ok (.lmul, 1) := by decide +kernel
theorem dX9_against_128 : decode cX9_against 128 = .ok (.lsub, 1) := by decide +kernel
theorem dX9_against_129 : decode cX9_against 129 = .ok (.lreturn, 1) := by decide +kernel
theorem dX9_leastRow_0 : decode cX9_leastRow 0 = .ok (.iconst (-1), 1) := by decide +kernel
theorem dX9_leastRow_1 : decode cX9_leastRow 1 = .ok (.istore_n 2, 1) := by decide +kernel
theorem dX9_leastRow_2 : decode cX9_leastRow 2 = .ok (.iconst 0, 1) := by decide +kernel
theorem dX9_leastRow_3 : decode cX9_leastRow 3 = .ok (.istore_n 3, 1) := by decide +kernel
theorem dX9_leastRow_4 : decode cX9_leastRow 4 = .ok (.iload_n 3, 1) := by decide +kernel
theorem dX9_leastRow_5 : decode cX9_leastRow 5 = .ok (.aload_n 0, 1) := by decide +kernel
theorem dX9_leastRow_6 : decode cX9_leastRow 6 = .ok (.getfield 7, 3) := by decide +kernel
theorem dX9_leastRow_9 : decode cX9_leastRow 9 = .ok (.iconst 1, 1) := by decide +kernel
theorem dX9_leastRow_10 : decode cX9_leastRow 10 = .ok (.iaload, 1) := by decide +kernel
theorem dX9_leastRow_11 : decode cX9_leastRow 11 = .ok (.if_icmp .ge 91, 3) := by decide +kernel
theorem dX9_leastRow_14 : decode cX9_leastRow 14 = .ok (.aload_n 0, 1) := by decide +kernel
theorem dX9_leastRow_15 : decode cX9_leastRow 15 = .ok (.iload_n 3, 1) := by decide +kernel
theorem dX9_leastRow_16 : decode cX9_leastRow 16 = .ok (.iload_n 1, 1) := by decide +kernel
theorem dX9_leastRow_17 : decode cX9_leastRow 17 = .ok (.invokevirtual 102, 3) := by decide +kernel
theorem dX9_leastRow_20 : decode cX9_leastRow 20 = .ok (.lconst 0, 1) := by decide +kernel
theorem dX9_leastRow_21 : decode cX9_leastRow 21 = .ok (.lcmp, 1) := by decide +kernel
theorem dX9_leastRow_22 : decode cX9_leastRow 22 = .ok (.ifCond .le 7, 3) := by decide +kernel
theorem dX9_leastRow_25 : decode cX9_leastRow 25 = .ok (.iconst 1, 1) := by decide +kernel
theorem dX9_leastRow_26 : decode cX9_leastRow 26 = .ok (.goto 4, 3) := by decide +kernel
theorem dX9_leastRow_29 : decode cX9_leastRow 29 = .ok (.iconst 0, 1) := by decide +kernel
theorem dX9_leastRow_30 : decode cX9_leastRow 30 = .ok (.istore 4, 2) := by decide +kernel
theorem dX9_leastRow_32 : decode cX9_leastRow 32 = .ok (.iload 4, 2) := by decide +kernel
theorem dX9_leastRow_34 : decode cX9_leastRow 34 = .ok (.ifCond .eq 17, 3) := by decide +kernel
theorem dX9_leastRow_37 : decode cX9_leastRow 37 = .ok (.iload_n 2, 1) := by decide +kernel
theorem dX9_leastRow_38 : decode cX9_leastRow 38 = .ok (.ifCond .lt 13, 3) := by decide +kernel
theorem dX9_leastRow_41 : decode cX9_leastRow 41 = .ok (.aload_n 0, 1) := by decide +kernel
theorem dX9_leastRow_42 : decode cX9_leastRow 42 = .ok (.iload_n 3, 1) := by decide +kernel
theorem dX9_leastRow_43 : decode cX9_leastRow 43 = .ok (.iload_n 2, 1) := by decide +kernel
theorem dX9_leastRow_44 : decode cX9_leastRow 44 = .ok (.iload_n 1, 1) := by decide +kernel
theorem dX9_leastRow_45 : decode cX9_leastRow 45 = .ok (.invokevirtual 125, 3) := by decide +kernel
theorem dX9_leastRow_48 : decode cX9_leastRow 48 = .ok (.goto 6, 3) := by decide +kernel
theorem dX9_leastRow_51 : decode cX9_leastRow 51 = .ok (.ldc2_w 129, 3) := by decide +kernel
theorem dX9_leastRow_54 : decode cX9_leastRow 54 = .ok (.lstore 5, 2) := by decide +kernel
theorem dX9_leastRow_56 : decode cX9_leastRow 56 = .ok (.iload 4, 2) := by decide +kernel
theorem dX9_leastRow_58 : decode cX9_leastRow 58 = .ok (.ifCond .eq 36, 3) := by decide +kernel
theorem dX9_leastRow_61 : decode cX9_leastRow 61 = .ok (.lload 5, 2) := by decide +kernel
theorem dX9_leastRow_63 : decode cX9_leastRow 63 = .ok (.lconst 0, 1) := by decide +kernel
theorem dX9_leastRow_64 : decode cX9_leastRow 64 = .ok (.lcmp, 1) := by decide +kernel
theorem dX9_leastRow_65 : decode cX9_leastRow 65 = .ok (.ifCond .lt 25, 3) := by decide +kernel
theorem dX9_leastRow_68 : decode cX9_leastRow 68 = .ok (.lload 5, 2) := by decide +kernel
theorem dX9_leastRow_70 : decode cX9_leastRow 70 = .ok (.lconst 0, 1) := by decide +kernel
theorem dX9_leastRow_71 : decode cX9_leastRow 71 = .ok (.lcmp, 1) := by decide +kernel
theorem dX9_leastRow_72 : decode cX9_leastRow 72 = .ok (.ifCond .ne 22, 3) := by decide +kernel
theorem dX9_leastRow_75 : decode cX9_leastRow 75 = .ok (.aload_n 0, 1) := by decide +kernel
theorem dX9_leastRow_76 : decode cX9_leastRow 76 = .ok (.getfield 32, 3) := by decide +kernel
theorem dX9_leastRow_79 : decode cX9_leastRow 79 = .ok (.iload_n 3, 1) := by decide +kernel
theorem dX9_leastRow_80 : decode cX9_leastRow 80 = .ok (.iaload, 1) := by decide +kernel
theorem dX9_leastRow_81 : decode cX9_leastRow 81 = .ok (.aload_n 0, 1) := by decide +kernel
theorem dX9_leastRow_82 : decode cX9_leastRow 82 = .ok (.getfield 32, 3) := by decide +kernel
theorem dX9_leastRow_85 : decode cX9_leastRow 85 = .ok (.iload_n 2, 1) := by decide +kernel
theorem dX9_leastRow_86 : decode cX9_leastRow 86 = .ok (.iaload, 1) := by decide +kernel
theorem dX9_leastRow_87 : decode cX9_leastRow 87 = .ok (.if_icmp .ge 7, 3) := by decide +kernel
theorem dX9_leastRow_90 : decode cX9_leastRow 90 = .ok (.iload_n 3, 1) := by decide +kernel
theorem dX9_leastRow_91 : decode cX9_leastRow 91 = .ok (.goto 4, 3) := by decide +kernel
theorem dX9_leastRow_94 : decode cX9_leastRow 94 = .ok (.iload_n 2, 1) := by decide +kernel
theorem dX9_leastRow_95 : decode cX9_leastRow 95 = .ok (.istore_n 2, 1) := by decide +kernel
theorem dX9_leastRow_96 : decode cX9_leastRow 96 = .ok (.iinc 3 1, 3) := by decide +kernel
theorem dX9_leastRow_99 : decode cX9_leastRow 99 = .ok (.goto (-95), 3) := by decide +kernel
theorem dX9_leastRow_102 : decode cX9_leastRow 102 = .ok (.iload_n 2, 1) := by decide +kernel
theorem dX9_leastRow_103 : decode cX9_leastRow 103 = .ok (.ireturn, 1) := by decide +kernel
theorem dX9_weighs_0 : decode cX9_weighs 0 = .ok (.aload_n 0, 1) := by decide +kernel
theorem dX9_weighs_1 : decode cX9_weighs 1 = .ok (.iload_n 1, 1) := by decide +kernel
theorem dX9_weighs_2 : decode cX9_weighs 2 = .ok (.invokevirtual 114, 3) := by decide +kernel
theorem dX9_weighs_5 : decode cX9_weighs 5 = .ok (.aload_n 0, 1) := by decide +kernel
theorem dX9_weighs_6 : decode cX9_weighs 6 = .ok (.getfield 7, 3) := by decide +kernel
theorem dX9_weighs_9 : decode cX9_weighs 9 = .ok (.bipush 26, 2) := by decide +kernel
theorem dX9_weighs_11 : decode cX9_weighs 11 = .ok (.iaload, 1) := by decide +kernel
theorem dX9_weighs_12 : decode cX9_weighs 12 = .ok (.iconst 2, 1) := by decide +kernel
theorem dX9_weighs_13 : decode cX9_weighs 13 = .ok (.if_icmp .ne 75, 3) := by decide +kernel
theorem dX9_weighs_16 : decode cX9_weighs 16 = .ok (.aload_n 0, 1) := by decide +kernel
theorem dX9_weighs_17 : decode cX9_weighs 17 = .ok (.iload_n 1, 1) := by decide +kernel
theorem dX9_weighs_18 : decode cX9_weighs 18 = .ok (.invokevirtual 131, 3) := by decide +kernel
theorem dX9_weighs_21 : decode cX9_weighs 21 = .ok (.istore_n 2, 1) := by decide +kernel
theorem dX9_weighs_22 : decode cX9_weighs 22 = .ok (.aload_n 0, 1) := by decide +kernel
theorem dX9_weighs_23 : decode cX9_weighs 23 = .ok (.aload_n 0, 1) := by decide +kernel
theorem dX9_weighs_24 : decode cX9_weighs 24 = .ok (.getfield 72, 3) := by decide +kernel
theorem dX9_weighs_27 : decode cX9_weighs 27 = .ok (.aload_n 0, 1) := by decide +kernel
theorem dX9_weighs_28 : decode cX9_weighs 28 = .ok (.iload_n 2, 1) := by decide +kernel
theorem dX9_weighs_29 : decode cX9_weighs 29 = .ok (.bipush 8, 2) := by decide +kernel
theorem dX9_weighs_31 : decode cX9_weighs 31 = .ok (.invokevirtual 102, 3) := by decide +kernel
theorem dX9_weighs_34 : decode cX9_weighs 34 = .ok (.lmul, 1) := by decide +kernel
theorem dX9_weighs_35 : decode cX9_weighs 35 = .ok (.aload_n 0, 1) := by decide +kernel
theorem dX9_weighs_36 : decode cX9_weighs 36 = .ok (.getfield 76, 3) := by decide +kernel
theorem dX9_weighs_39 : decode cX9_weighs 39 = .ok (.aload_n 0, 1) := by decide +kernel
theorem dX9_weighs_40 : decode cX9_weighs 40 = .ok (.getfield 29, 3) := by decide +kernel
theorem dX9_weighs_43 : decode cX9_weighs 43 = .ok (.bipush 9, 2) := by decide +kernel
theorem dX9_weighs_45 : decode cX9_weighs 45 = .ok (.iload_n 2, 1) := by decide +kernel
theorem dX9_weighs_46 : decode cX9_weighs 46 = .ok (.imul, 1) := by decide +kernel
theorem dX9_weighs_47 : decode cX9_weighs 47 = .ok (.bipush 9, 2) := by decide +kernel
theorem dX9_weighs_49 : decode cX9_weighs 49 = .ok (.iadd, 1) := by decide +kernel
theorem dX9_weighs_50 : decode cX9_weighs 50 = .ok (.iconst 1, 1) := by decide +kernel
theorem dX9_weighs_51 : decode cX9_weighs 51 = .ok (.isub, 1) := by decide +kernel
theorem dX9_weighs_52 : decode cX9_weighs 52 = .ok (.laload, 1) := by decide +kernel
theorem dX9_weighs_53 : decode cX9_weighs 53 = .ok (.lmul, 1) := by decide +kernel
theorem dX9_weighs_54 : decode cX9_weighs 54 = .ok (.invokevirtual 79, 3) := by decide +kernel
theorem dX9_weighs_57 : decode cX9_weighs 57 = .ok (.aload_n 0, 1) := by decide +kernel
theorem dX9_weighs_58 : decode cX9_weighs 58 = .ok (.aload_n 0, 1) := by decide +kernel
theorem dX9_weighs_59 : decode cX9_weighs 59 = .ok (.getfield 72, 3) := by decide +kernel
theorem dX9_weighs_62 : decode cX9_weighs 62 = .ok (.aload_n 0, 1) := by decide +kernel
theorem dX9_weighs_63 : decode cX9_weighs 63 = .ok (.getfield 29, 3) := by decide +kernel
theorem dX9_weighs_66 : decode cX9_weighs 66 = .ok (.bipush 9, 2) := by decide +kernel
theorem dX9_weighs_68 : decode cX9_weighs 68 = .ok (.iload_n 2, 1) := by decide +kernel
theorem dX9_weighs_69 : decode cX9_weighs 69 = .ok (.imul, 1) := by decide +kernel
theorem dX9_weighs_70 : decode cX9_weighs 70 = .ok (.iload_n 1, 1) := by decide +kernel
theorem dX9_weighs_71 : decode cX9_weighs 71 = .ok (.iadd, 1) := by decide +kernel
theorem dX9_weighs_72 : decode cX9_weighs 72 = .ok (.laload, 1) := by decide +kernel
theorem dX9_weighs_73 : decode cX9_weighs 73 = .ok (.lmul, 1) := by decide +kernel
theorem dX9_weighs_74 : decode cX9_weighs 74 = .ok (.aload_n 0, 1) := by decide +kernel
theorem dX9_weighs_75 : decode cX9_weighs 75 = .ok (.getfield 76, 3) := by decide +kernel
theorem dX9_weighs_78 : decode cX9_weighs 78 = .ok (.aload_n 0, 1) := by decide +kernel
theorem dX9_weighs_79 : decode cX9_weighs 79 = .ok (.iload_n 2, 1) := by decide +kernel
theorem dX9_weighs_80 : decode cX9_weighs 80 = .ok (.iload_n 1, 1) := by decide +kernel
theorem dX9_weighs_81 : decode cX9_weighs 81 = .ok (.invokevirtual 102, 3) := by decide +kernel
theorem dX9_weighs_84 : decode cX9_weighs 84 = .ok (.lmul, 1) := by decide +kernel
theorem dX9_weighs_85 : decode cX9_weighs 85 = .ok (.invokevirtual 79, 3) := by decide +kernel
theorem dX9_weighs_88 : decode cX9_weighs 88 = .ok (.return_, 1) := by decide +kernel
theorem dX9_isMore_0 : decode cX9_isMore 0 = .ok (.lload_n 0, 1) := by decide +kernel
theorem dX9_isMore_1 : decode cX9_isMore 1 = .ok (.lstore 8, 2) := by decide +kernel
theorem dX9_isMore_3 : decode cX9_isMore 3 = .ok (.lload_n 2, 1) := by decide +kernel
theorem dX9_isMore_4 : decode cX9_isMore 4 = .ok (.lstore 10, 2) := by decide +kernel
theorem dX9_isMore_6 : decode cX9_isMore 6 = .ok (.lload 4, 2) := by decide +kernel
theorem dX9_isMore_8 : decode cX9_isMore 8 = .ok (.lstore 12, 2) := by decide +kernel
theorem dX9_isMore_10 : decode cX9_isMore 10 = .ok (.lload 6, 2) := by decide +kernel
theorem dX9_isMore_12 : decode cX9_isMore 12 = .ok (.lstore 14, 2) := by decide +kernel
theorem dX9_isMore_14 : decode cX9_isMore 14 = .ok (.lload 8, 2) := by decide +kernel
theorem dX9_isMore_16 : decode cX9_isMore 16 = .ok (.lload 10, 2) := by decide +kernel
theorem dX9_isMore_18 : decode cX9_isMore 18 = .ok (.ldiv, 1) := by decide +kernel
theorem dX9_isMore_19 : decode cX9_isMore 19 = .ok (.lload 12, 2) := by decide +kernel
theorem dX9_isMore_21 : decode cX9_isMore 21 = .ok (.lload 14, 2) := by decide +kernel
theorem dX9_isMore_23 : decode cX9_isMore 23 = .ok (.ldiv, 1) := by decide +kernel
theorem dX9_isMore_24 : decode cX9_isMore 24 = .ok (.lcmp, 1) := by decide +kernel
theorem dX9_isMore_25 : decode cX9_isMore 25 = .ok (.ifCond .ne 56, 3) := by decide +kernel
theorem dX9_isMore_28 : decode cX9_isMore 28 = .ok (.lload 8, 2) := by decide +kernel
theorem dX9_isMore_30 : decode cX9_isMore 30 = .ok (.lload 10, 2) := by decide +kernel
theorem dX9_isMore_32 : decode cX9_isMore 32 = .ok (.lrem, 1) := by decide +kernel
theorem dX9_isMore_33 : decode cX9_isMore 33 = .ok (.lconst 0, 1) := by decide +kernel
theorem dX9_isMore_34 : decode cX9_isMore 34 = .ok (.lcmp, 1) := by decide +kernel
theorem dX9_isMore_35 : decode cX9_isMore 35 = .ok (.ifCond .eq 46, 3) := by decide +kernel
theorem dX9_isMore_38 : decode cX9_isMore 38 = .ok (.lload 12, 2) := by decide +kernel
theorem dX9_isMore_40 : decode cX9_isMore 40 = .ok (.lload 14, 2) := by decide +kernel
theorem dX9_isMore_42 : decode cX9_isMore 42 = .ok (.lrem, 1) := by decide +kernel
theorem dX9_isMore_43 : decode cX9_isMore 43 = .ok (.lconst 0, 1) := by decide +kernel
theorem dX9_isMore_44 : decode cX9_isMore 44 = .ok (.lcmp, 1) := by decide +kernel
theorem dX9_isMore_45 : decode cX9_isMore 45 = .ok (.ifCond .eq 36, 3) := by decide +kernel
theorem dX9_isMore_48 : decode cX9_isMore 48 = .ok (.lload 8, 2) := by decide +kernel
theorem dX9_isMore_50 : decode cX9_isMore 50 = .ok (.lload 10, 2) := by decide +kernel
theorem dX9_isMore_52 : decode cX9_isMore 52 = .ok (.lrem, 1) := by decide +kernel
theorem dX9_isMore_53 : decode cX9_isMore 53 = .ok (.lstore 16, 2) := by decide +kernel
theorem dX9_isMore_55 : decode cX9_isMore 55 = .ok (.lload 12, 2) := by decide +kernel
theorem dX9_isMore_57 : decode cX9_isMore 57 = .ok (.lload 14, 2) := by decide +kernel
theorem dX9_isMore_59 : decode cX9_isMore 59 = .ok (.lrem, 1) := by decide +kernel
theorem dX9_isMore_60 : decode cX9_isMore 60 = .ok (.lstore 18, 2) := by decide +kernel
theorem dX9_isMore_62 : decode cX9_isMore 62 = .ok (.lload 14, 2) := by decide +kernel
theorem dX9_isMore_64 : decode cX9_isMore 64 = .ok (.lstore 8, 2) := by decide +kernel
theorem dX9_isMore_66 : decode cX9_isMore 66 = .ok (.lload 10, 2) := by decide +kernel
theorem dX9_isMore_68 : decode cX9_isMore 68 = .ok (.lstore 12, 2) := by decide +kernel
theorem dX9_isMore_70 : decode cX9_isMore 70 = .ok (.lload 18, 2) := by decide +kernel
theorem dX9_isMore_72 : decode cX9_isMore 72 = .ok (.lstore 10, 2) := by decide +kernel
theorem dX9_isMore_74 : decode cX9_isMore 74 = .ok (.lload 16, 2) := by decide +kernel
theorem dX9_isMore_76 : decode cX9_isMore 76 = .ok (.lstore 14, 2) := by decide +kernel
theorem dX9_isMore_78 : decode cX9_isMore 78 = .ok (.goto (-64), 3) := by decide +kernel
theorem dX9_isMore_81 : decode cX9_isMore 81 = .ok (.lload 8, 2) := by decide +kernel
theorem dX9_isMore_83 : decode cX9_isMore 83 = .ok (.lload 10, 2) := by decide +kernel
theorem dX9_isMore_85 : decode cX9_isMore 85 = .ok (.ldiv, 1) := by decide +kernel
theorem dX9_isMore_86 : decode cX9_isMore 86 = .ok (.lload 12, 2) := by decide +kernel
theorem dX9_isMore_88 : decode cX9_isMore 88 = .ok (.lload 14, 2) := by decide +kernel
theorem dX9_isMore_90 : decode cX9_isMore 90 = .ok (.ldiv, 1) := by decide +kernel
theorem dX9_isMore_91 : decode cX9_isMore 91 = .ok (.lcmp, 1) := by decide +kernel
theorem dX9_isMore_92 : decode cX9_isMore 92 = .ok (.ifCond .eq 25, 3) := by decide +kernel
theorem dX9_isMore_95 : decode cX9_isMore 95 = .ok (.lload 8, 2) := by decide +kernel
theorem dX9_isMore_97 : decode cX9_isMore 97 = .ok (.lload 10, 2) := by decide +kernel
theorem dX9_isMore_99 : decode cX9_isMore 99 = .ok (.ldiv, 1) := by decide +kernel
theorem dX9_isMore_100 : decode cX9_isMore 100 = .ok (.lload 12, 2) := by decide +kernel
theorem dX9_isMore_102 : decode cX9_isMore 102 = .ok (.lload 14, 2) := by decide +kernel
theorem dX9_isMore_104 : decode cX9_isMore 104 = .ok (.ldiv, 1) := by decide +kernel
theorem dX9_isMore_105 : decode cX9_isMore 105 = .ok (.lcmp, 1) := by decide +kernel
theorem dX9_isMore_106 : decode cX9_isMore 106 = .ok (.ifCond .le 7, 3) := by decide +kernel
theorem dX9_isMore_109 : decode cX9_isMore 109 = .ok (.iconst 1, 1) := by decide +kernel
theorem dX9_isMore_110 : decode cX9_isMore 110 = .ok (.goto 32, 3) := by decide +kernel
theorem dX9_isMore_113 : decode cX9_isMore 113 = .ok (.iconst 0, 1) := by decide +kernel
theorem dX9_isMore_114 : decode cX9_isMore 114 = .ok (.goto 28, 3) := by decide +kernel
theorem dX9_isMore_117 : decode cX9_isMore 117 = .ok (.lload 8, 2) := by decide +kernel
theorem dX9_isMore_119 : decode cX9_isMore 119 = .ok (.lload 10, 2) := by decide +kernel
theorem dX9_isMore_121 : decode cX9_isMore 121 = .ok (.lrem, 1) := by decide +kernel
theorem dX9_isMore_122 : decode cX9_isMore 122 = .ok (.lconst 0, 1) := by decide +kernel
theorem dX9_isMore_123 : decode cX9_isMore 123 = .ok (.lcmp, 1) := by decide +kernel
theorem dX9_isMore_124 : decode cX9_isMore 124 = .ok (.ifCond .eq 17, 3) := by decide +kernel
theorem dX9_isMore_127 : decode cX9_isMore 127 = .ok (.lload 12, 2) := by decide +kernel
theorem dX9_isMore_129 : decode cX9_isMore 129 = .ok (.lload 14, 2) := by decide +kernel
theorem dX9_isMore_131 : decode cX9_isMore 131 = .ok (.lrem, 1) := by decide +kernel
theorem dX9_isMore_132 : decode cX9_isMore 132 = .ok (.lconst 0, 1) := by decide +kernel
theorem dX9_isMore_133 : decode cX9_isMore 133 = .ok (.lcmp, 1) := by decide +kernel
theorem dX9_isMore_134 : decode cX9_isMore 134 = .ok (.ifCond .ne 7, 3) := by decide +kernel
theorem dX9_isMore_137 : decode cX9_isMore 137 = .ok (.iconst 1, 1) := by decide +kernel
theorem dX9_isMore_138 : decode cX9_isMore 138 = .ok (.goto 4, 3) := by decide +kernel
theorem dX9_isMore_141 : decode cX9_isMore 141 = .ok (.iconst 0, 1) := by decide +kernel
theorem dX9_isMore_142 : decode cX9_isMore 142 = .ok (.ireturn, 1) := by decide +kernel
theorem dX9_bestColumn_0 : decode cX9_bestColumn 0 = .ok (.iconst (-1), 1) := by decide +kernel
theorem dX9_bestColumn_1 : decode cX9_bestColumn 1 = .ok (.istore_n 1, 1) := by decide +kernel
theorem dX9_bestColumn_2 : decode cX9_bestColumn 2 = .ok (.lconst 0, 1) := by decide +kernel
theorem dX9_bestColumn_3 : decode cX9_bestColumn 3 = .ok (.lstore_n 2, 1) := by decide +kernel
theorem dX9_bestColumn_4 : decode cX9_bestColumn 4 = .ok (.lconst 1, 1) := by decide +kernel
theorem dX9_bestColumn_5 : decode cX9_bestColumn 5 = .ok (.lstore 4, 2) := by decide +kernel
theorem dX9_bestColumn_7 : decode cX9_bestColumn 7 = .ok (.iconst 0, 1) := by decide +kernel
theorem dX9_bestColumn_8 : decode cX9_bestColumn 8 = .ok (.istore 6, 2) := by decide +kernel
theorem dX9_bestColumn_10 : decode cX9_bestColumn 10 = .ok (.iload 6, 2) := by decide +kernel
theorem dX9_bestColumn_12 : decode cX9_bestColumn 12 = .ok (.aload_n 0, 1) := by decide +kernel
theorem dX9_bestColumn_13 : decode cX9_bestColumn 13 = .ok (.invokevirtual 61, 3) := by decide +kernel
theorem dX9_bestColumn_16 : decode cX9_bestColumn 16 = .ok (.if_icmp .ge 104, 3) := by decide +kernel
theorem dX9_bestColumn_19 : decode cX9_bestColumn 19 = .ok (.aload_n 0, 1) := by decide +kernel
theorem dX9_bestColumn_20 : decode cX9_bestColumn 20 = .ok (.iload 6, 2) := by decide +kernel
theorem dX9_bestColumn_22 : decode cX9_bestColumn 22 = .ok (.invokevirtual 118, 3) := by decide +kernel
theorem dX9_bestColumn_25 : decode cX9_bestColumn 25 = .ok (.ifCond .eq 89, 3) := by decide +kernel
theorem dX9_bestColumn_28 : decode cX9_bestColumn 28 = .ok (.aload_n 0, 1) := by decide +kernel
theorem dX9_bestColumn_29 : decode cX9_bestColumn 29 = .ok (.iload 6, 2) := by decide +kernel
theorem dX9_bestColumn_31 : decode cX9_bestColumn 31 = .ok (.invokevirtual 134, 3) := by decide +kernel
theorem dX9_bestColumn_34 : decode cX9_bestColumn 34 = .ok (.iload_n 1, 1) := by decide +kernel
theorem dX9_bestColumn_35 : decode cX9_bestColumn 35 = .ok (.ifCond .lt 30, 3) := by decide +kernel
theorem dX9_bestColumn_38 : decode cX9_bestColumn 38 = .ok (.aload_n 0, 1) := by decide +kernel
theorem dX9_bestColumn_39 : decode cX9_bestColumn 39 = .ok (.getfield 7, 3) := by decide +kernel
theorem dX9_bestColumn_42 : decode cX9_bestColumn 42 = .ok (.bipush 26, 2) := by decide +kernel
theorem dX9_bestColumn_44 : decode cX9_bestColumn 44 = .ok (.iaload, 1) := by decide +kernel
theorem dX9_bestColumn_45 : decode cX9_bestColumn 45 = .ok (.ifCond .le 24, 3) := by decide +kernel
theorem dX9_bestColumn_48 : decode cX9_bestColumn 48 = .ok (.aload_n 0, 1) := by decide +kernel
theorem dX9_bestColumn_49 : decode cX9_bestColumn 49 = .ok (.getfield 72, 3) := by decide +kernel
theorem dX9_bestColumn_52 : decode cX9_bestColumn 52 = .ok (.aload_n 0, 1) := by decide +kernel
theorem dX9_bestColumn_53 : decode cX9_bestColumn 53 = .ok (.getfield 76, 3) := by decide +kernel
theorem dX9_bestColumn_56 : decode cX9_bestColumn 56 = .ok (.lload_n 2, 1) := by decide +kernel
theorem dX9_bestColumn_57 : decode cX9_bestColumn 57 = .ok (.lload 4, 2) := by decide +kernel
theorem dX9_bestColumn_59 : decode cX9_bestColumn 59 = .ok (.invokestatic 137, 3) := by decide +kernel
theorem dX9_bestColumn_62 : decode cX9_bestColumn 62 = .ok (.ifCond .eq 7, 3) := by decide +kernel
theorem dX9_bestColumn_65 : decode cX9_bestColumn 65 = .ok (.iconst 1, 1) := by decide +kernel
theorem dX9_bestColumn_66 : decode cX9_bestColumn 66 = .ok (.goto 4, 3) := by decide +kernel
theorem dX9_bestColumn_69 : decode cX9_bestColumn 69 = .ok (.iconst 0, 1) := by decide +kernel
theorem dX9_bestColumn_70 : decode cX9_bestColumn 70 = .ok (.istore 7, 2) := by decide +kernel
theorem dX9_bestColumn_72 : decode cX9_bestColumn 72 = .ok (.iload 7, 2) := by decide +kernel
theorem dX9_bestColumn_74 : decode cX9_bestColumn 74 = .ok (.ifCond .eq 8, 3) := by decide +kernel
theorem dX9_bestColumn_77 : decode cX9_bestColumn 77 = .ok (.iload 6, 2) := by decide +kernel
theorem dX9_bestColumn_79 : decode cX9_bestColumn 79 = .ok (.goto 4, 3) := by decide +kernel
theorem dX9_bestColumn_82 : decode cX9_bestColumn 82 = .ok (.iload_n 1, 1) := by decide +kernel
theorem dX9_bestColumn_83 : decode cX9_bestColumn 83 = .ok (.istore_n 1, 1) := by decide +kernel
theorem dX9_bestColumn_84 : decode cX9_bestColumn 84 = .ok (.iload 7, 2) := by decide +kernel
theorem dX9_bestColumn_86 : decode cX9_bestColumn 86 = .ok (.ifCond .eq 10, 3) := by decide +kernel
theorem dX9_bestColumn_89 : decode cX9_bestColumn 89 = .ok (.aload_n 0, 1) := by decide +kernel
theorem dX9_bestColumn_90 : decode cX9_bestColumn 90 = .ok (.getfield 72, 3) := by decide +kernel
theorem dX9_bestColumn_93 : decode cX9_bestColumn 93 = .ok (.goto 4, 3) := by decide +kernel
theorem dX9_bestColumn_96 : decode cX9_bestColumn 96 = .ok (.lload_n 2, 1) := by decide +kernel
theorem dX9_bestColumn_97 : decode cX9_bestColumn 97 = .ok (.lstore_n 2, 1) := by decide +kernel
theorem dX9_bestColumn_98 : decode cX9_bestColumn 98 = .ok (.iload 7, 2) := by decide +kernel
theorem dX9_bestColumn_100 : decode cX9_bestColumn 100 = .ok (.ifCond .eq 10, 3) := by decide +kernel
theorem dX9_bestColumn_103 : decode cX9_bestColumn 103 = .ok (.aload_n 0, 1) := by decide +kernel
theorem dX9_bestColumn_104 : decode cX9_bestColumn 104 = .ok (.getfield 76, 3) := by decide +kernel
theorem dX9_bestColumn_107 : decode cX9_bestColumn 107 = .ok (.goto 5, 3) := by decide +kernel
theorem dX9_bestColumn_110 : decode cX9_bestColumn 110 = .ok (.lload 4, 2) := by decide +kernel
theorem dX9_bestColumn_112 : decode cX9_bestColumn 112 = .ok (.lstore 4, 2) := by decide +kernel
theorem dX9_bestColumn_114 : decode cX9_bestColumn 114 = .ok (.iinc 6 1, 3) := by decide +kernel
theorem dX9_bestColumn_117 : decode cX9_bestColumn 117 = .ok (.goto (-107), 3) := by decide +kernel
theorem dX9_bestColumn_120 : decode cX9_bestColumn 120 = .ok (.iload_n 1, 1) := by decide +kernel
theorem dX9_bestColumn_121 : decode cX9_bestColumn 121 = .ok (.ireturn, 1) := by decide +kernel
theorem dX9_turns_0 : decode cX9_turns 0 = .ok (.aload_n 0, 1) := by decide +kernel
theorem dX9_turns_1 : decode cX9_turns 1 = .ok (.getfield 7, 3) := by decide +kernel
theorem dX9_turns_4 : decode cX9_turns 4 = .ok (.bipush 33, 2) := by decide +kernel
theorem dX9_turns_6 : decode cX9_turns 6 = .ok (.dup2, 1) := by decide +kernel
theorem dX9_turns_7 : decode cX9_turns 7 = .ok (.iaload, 1) := by decide +kernel
theorem dX9_turns_8 : decode cX9_turns 8 = .ok (.aload_n 0, 1) := by decide +kernel
theorem dX9_turns_9 : decode cX9_turns 9 = .ok (.iload_n 1, 1) := by decide +kernel
theorem dX9_turns_10 : decode cX9_turns 10 = .ok (.bipush 8, 2) := by decide +kernel
theorem dX9_turns_12 : decode cX9_turns 12 = .ok (.invokevirtual 102, 3) := by decide +kernel
theorem dX9_turns_15 : decode cX9_turns 15 = .ok (.lconst 0, 1) := by decide +kernel
theorem dX9_turns_16 : decode cX9_turns 16 = .ok (.lcmp, 1) := by decide +kernel
theorem dX9_turns_17 : decode cX9_turns 17 = .ok (.ifCond .ne 7, 3) := by decide +kernel
theorem dX9_turns_20 : decode cX9_turns 20 = .ok (.iconst 1, 1) := by decide +kernel
theorem dX9_turns_21 : decode cX9_turns 21 = .ok (.goto 4, 3) := by decide +kernel
theorem dX9_turns_24 : decode cX9_turns 24 = .ok (.iconst 0, 1) := by decide +kernel
theorem dX9_turns_25 : decode cX9_turns 25 = .ok (.iadd, 1) := by decide +kernel
theorem dX9_turns_26 : decode cX9_turns 26 = .ok (.iastore, 1) := by decide +kernel
theorem dX9_turns_27 : decode cX9_turns 27 = .ok (.aload_n 0, 1) := by decide +kernel
theorem dX9_turns_28 : decode cX9_turns 28 = .ok (.getfield 7, 3) := by decide +kernel
theorem dX9_turns_31 : decode cX9_turns 31 = .ok (.bipush 27, 2) := by decide +kernel
theorem dX9_turns_33 : decode cX9_turns 33 = .ok (.iload_n 1, 1) := by decide +kernel
theorem dX9_turns_34 : decode cX9_turns 34 = .ok (.iadd, 1) := by decide +kernel
theorem dX9_turns_35 : decode cX9_turns 35 = .ok (.iload_n 2, 1) := by decide +kernel
theorem dX9_turns_36 : decode cX9_turns 36 = .ok (.iastore, 1) := by decide +kernel
theorem dX9_turns_37 : decode cX9_turns 37 = .ok (.aload_n 0, 1) := by decide +kernel
theorem dX9_turns_38 : decode cX9_turns 38 = .ok (.getfield 7, 3) := by decide +kernel
theorem dX9_turns_41 : decode cX9_turns 41 = .ok (.bipush 31, 2) := by decide +kernel
theorem dX9_turns_43 : decode cX9_turns 43 = .ok (.dup2, 1) := by decide +kernel
theorem dX9_turns_44 : decode cX9_turns 44 = .ok (.iaload, 1) := by decide +kernel
theorem dX9_turns_45 : decode cX9_turns 45 = .ok (.iconst 1, 1) := by decide +kernel
theorem dX9_turns_46 : decode cX9_turns 46 = .ok (.iadd, 1) := by decide +kernel
theorem dX9_turns_47 : decode cX9_turns 47 = .ok (.iastore, 1) := by decide +kernel
theorem dX9_turns_48 : decode cX9_turns 48 = .ok (.aload_n 0, 1) := by decide +kernel
theorem dX9_turns_49 : decode cX9_turns 49 = .ok (.getfield 7, 3) := by decide +kernel
theorem dX9_turns_52 : decode cX9_turns 52 = .ok (.bipush 32, 2) := by decide +kernel
theorem dX9_turns_54 : decode cX9_turns 54 = .ok (.dup2, 1) := by decide +kernel
theorem dX9_turns_55 : decode cX9_turns 55 = .ok (.iaload, 1) := by decide +kernel
theorem dX9_turns_56 : decode cX9_turns 56 = .ok (.iconst 1, 1) := by decide +kernel
theorem dX9_turns_57 : decode cX9_turns 57 = .ok (.iadd, 1) := by decide +kernel
theorem dX9_turns_58 : decode cX9_turns 58 = .ok (.iastore, 1) := by decide +kernel
theorem dX9_turns_59 : decode cX9_turns 59 = .ok (.aload_n 0, 1) := by decide +kernel
theorem dX9_turns_60 : decode cX9_turns 60 = .ok (.invokevirtual 141, 3) := by decide +kernel
theorem dX9_turns_63 : decode cX9_turns 63 = .ok (.return_, 1) := by decide +kernel
theorem dX9_isOver_0 : decode cX9_isOver 0 = .ok (.aload_n 0, 1) := by decide +kernel
theorem dX9_isOver_1 : decode cX9_isOver 1 = .ok (.invokevirtual 144, 3) := by decide +kernel
theorem dX9_isOver_4 : decode cX9_isOver 4 = .ok (.ifCond .ne 10, 3) := by decide +kernel
theorem dX9_isOver_7 : decode cX9_isOver 7 = .ok (.aload_n 0, 1) := by decide +kernel
theorem dX9_isOver_8 : decode cX9_isOver 8 = .ok (.invokevirtual 147, 3) := by decide +kernel
theorem dX9_isOver_11 : decode cX9_isOver 11 = .ok (.ifCond .lt 7, 3) := by decide +kernel
theorem dX9_isOver_14 : decode cX9_isOver 14 = .ok (.iconst 1, 1) := by decide +kernel
theorem dX9_isOver_15 : decode cX9_isOver 15 = .ok (.goto 4, 3) := by decide +kernel
theorem dX9_isOver_18 : decode cX9_isOver 18 = .ok (.iconst 0, 1) := by decide +kernel
theorem dX9_isOver_19 : decode cX9_isOver 19 = .ok (.ireturn, 1) := by decide +kernel
theorem dX9_solves_0 : decode cX9_solves 0 = .ok (.aload_n 0, 1) := by decide +kernel
theorem dX9_solves_1 : decode cX9_solves 1 = .ok (.invokevirtual 141, 3) := by decide +kernel
theorem dX9_solves_4 : decode cX9_solves 4 = .ok (.iconst 0, 1) := by decide +kernel
theorem dX9_solves_5 : decode cX9_solves 5 = .ok (.istore_n 1, 1) := by decide +kernel
theorem dX9_solves_6 : decode cX9_solves 6 = .ok (.iload_n 1, 1) := by decide +kernel
theorem dX9_solves_7 : decode cX9_solves 7 = .ok (.bipush 40, 2) := by decide +kernel
theorem dX9_solves_9 : decode cX9_solves 9 = .ok (.if_icmp .ge 31, 3) := by decide +kernel
theorem dX9_solves_12 : decode cX9_solves 12 = .ok (.aload_n 0, 1) := by decide +kernel
theorem dX9_solves_13 : decode cX9_solves 13 = .ok (.invokevirtual 150, 3) := by decide +kernel
theorem dX9_solves_16 : decode cX9_solves 16 = .ok (.ifCond .ne 24, 3) := by decide +kernel
theorem dX9_solves_19 : decode cX9_solves 19 = .ok (.aload_n 0, 1) := by decide +kernel
theorem dX9_solves_20 : decode cX9_solves 20 = .ok (.invokevirtual 153, 3) := by decide +kernel
theorem dX9_solves_23 : decode cX9_solves 23 = .ok (.istore_n 2, 1) := by decide +kernel
theorem dX9_solves_24 : decode cX9_solves 24 = .ok (.aload_n 0, 1) := by decide +kernel
theorem dX9_solves_25 : decode cX9_solves 25 = .ok (.aload_n 0, 1) := by decide +kernel
theorem dX9_solves_26 : decode cX9_solves 26 = .ok (.iload_n 2, 1) := by decide +kernel
theorem dX9_solves_27 : decode cX9_solves 27 = .ok (.invokevirtual 131, 3) := by decide +kernel
theorem dX9_solves_30 : decode cX9_solves 30 = .ok (.iload_n 2, 1) := by decide +kernel
theorem dX9_solves_31 : decode cX9_solves 31 = .ok (.invokevirtual 156, 3) := by decide +kernel
theorem dX9_solves_34 : decode cX9_solves 34 = .ok (.iinc 1 1, 3) := by decide +kernel
theorem dX9_solves_37 : decode cX9_solves 37 = .ok (.goto (-31), 3) := by decide +kernel
theorem dX9_solves_40 : decode cX9_solves 40 = .ok (.iload_n 1, 1) := by decide +kernel
theorem dX9_solves_41 : decode cX9_solves 41 = .ok (.ireturn, 1) := by decide +kernel
theorem dX9_setVariables_0 : decode cX9_setVariables 0 = .ok (.aload_n 0, 1) := by decide +kernel
theorem dX9_setVariables_1 : decode cX9_setVariables 1 = .ok (.iload_n 1, 1) := by decide +kernel
theorem dX9_setVariables_2 : decode cX9_setVariables 2 = .ok (.iconst 1, 1) := by decide +kernel
theorem dX9_setVariables_3 : decode cX9_setVariables 3 = .ok (.iconst 4, 1) := by decide +kernel
theorem dX9_setVariables_4 : decode cX9_setVariables 4 = .ok (.invokestatic 57, 3) := by decide +kernel
theorem dX9_setVariables_7 : decode cX9_setVariables 7 = .ok (.ifCond .eq 7, 3) := by decide +kernel
theorem dX9_setVariables_10 : decode cX9_setVariables 10 = .ok (.iconst 0, 1) := by decide +kernel
theorem dX9_setVariables_11 : decode cX9_setVariables 11 = .ok (.goto 4, 3) := by decide +kernel
theorem dX9_setVariables_14 : decode cX9_setVariables 14 = .ok (.iconst 1, 1) := by decide +kernel
theorem dX9_setVariables_15 : decode cX9_setVariables 15 = .ok (.invokevirtual 160, 3) := by decide +kernel
theorem dX9_setVariables_18 : decode cX9_setVariables 18 = .ok (.ifCond .ne 5, 3) := by decide +kernel
theorem dX9_setVariables_21 : decode cX9_setVariables 21 = .ok (.iconst 0, 1) := by decide +kernel
theorem dX9_setVariables_22 : decode cX9_setVariables 22 = .ok (.ireturn, 1) := by decide +kernel
theorem dX9_setVariables_23 : decode cX9_setVariables 23 = .ok (.aload_n 0, 1) := by decide +kernel
theorem dX9_setVariables_24 : decode cX9_setVariables 24 = .ok (.invokevirtual 163, 3) := by decide +kernel
theorem dX9_setVariables_27 : decode cX9_setVariables 27 = .ok (.aload_n 0, 1) := by decide +kernel
theorem dX9_setVariables_28 : decode cX9_setVariables 28 = .ok (.getfield 7, 3) := by decide +kernel
theorem dX9_setVariables_31 : decode cX9_setVariables 31 = .ok (.iconst 0, 1) := by decide +kernel
theorem dX9_setVariables_32 : decode cX9_setVariables 32 = .ok (.iaload, 1) := by decide +kernel
theorem dX9_setVariables_33 : decode cX9_setVariables 33 = .ok (.istore_n 2, 1) := by decide +kernel
theorem dX9_setVariables_34 : decode cX9_setVariables 34 = .ok (.aload_n 0, 1) := by decide +kernel
theorem dX9_setVariables_35 : decode cX9_setVariables 35 = .ok (.getfield 7, 3) := by decide +kernel
theorem dX9_setVariables_38 : decode cX9_setVariables 38 = .ok (.iconst 0, 1) := by decide +kernel
theorem dX9_setVariables_39 : decode cX9_setVariables 39 = .ok (.iload_n 1, 1) := by decide +kernel
theorem dX9_setVariables_40 : decode cX9_setVariables 40 = .ok (.iastore, 1) := by decide +kernel
theorem dX9_setVariables_41 : decode cX9_setVariables 41 = .ok (.iload_n 1, 1) := by decide +kernel
theorem dX9_setVariables_42 : decode cX9_setVariables 42 = .ok (.istore_n 3, 1) := by decide +kernel
theorem dX9_setVariables_43 : decode cX9_setVariables 43 = .ok (.iload_n 3, 1) := by decide +kernel
theorem dX9_setVariables_44 : decode cX9_setVariables 44 = .ok (.iconst 4, 1) := by decide +kernel
theorem dX9_setVariables_45 : decode cX9_setVariables 45 = .ok (.if_icmp .ge 48, 3) := by decide +kernel
theorem dX9_setVariables_48 : decode cX9_setVariables 48 = .ok (.aload_n 0, 1) := by decide +kernel
theorem dX9_setVariables_49 : decode cX9_setVariables 49 = .ok (.getfield 7, 3) := by decide +kernel
theorem dX9_setVariables_52 : decode cX9_setVariables 52 = .ok (.iconst 2, 1) := by decide +kernel
theorem dX9_setVariables_53 : decode cX9_setVariables 53 = .ok (.iload_n 3, 1) := by decide +kernel
theorem dX9_setVariables_54 : decode cX9_setVariables 54 = .ok (.iadd, 1) := by decide +kernel
theorem dX9_setVariables_55 : decode cX9_setVariables 55 = .ok (.iconst 0, 1) := by decide +kernel
theorem dX9_setVariables_56 : decode cX9_setVariables 56 = .ok (.iastore, 1) := by decide +kernel
theorem dX9_setVariables_57 : decode cX9_setVariables 57 = .ok (.iconst 0, 1) := by decide +kernel
theorem dX9_setVariables_58 : decode cX9_setVariables 58 = .ok (.istore 4, 2) := by decide +kernel
theorem dX9_setVariables_60 : decode cX9_setVariables 60 = .ok (.iload 4, 2) := by decide +kernel
theorem dX9_setVariables_62 : decode cX9_setVariables 62 = .ok (.iconst 4, 1) := by decide +kernel
theorem dX9_setVariables_63 : decode cX9_setVariables 63 = .ok (.if_icmp .ge 24, 3) := by decide +kernel
theorem dX9_setVariables_66 : decode cX9_setVariables 66 = .ok (.aload_n 0, 1) := by decide +kernel
theorem dX9_setVariables_67 : decode cX9_setVariables 67 = .ok (.getfield 7, 3) := by decide +kernel
theorem dX9_setVariables_70 : decode cX9_setVariables 70 = .ok (.bipush 6, 2) := by decide +kernel
theorem dX9_setVariables_72 : decode cX9_setVariables 72 = .ok (.iconst 4, 1) := by decide +kernel
theorem dX9_setVariables_73 : decode cX9_setVariables 73 = .ok (.iload 4, 2) := by decide +kernel
theorem dX9_setVariables_75 : decode cX9_setVariables 75 = .ok (.imul, 1) := by decide +kernel
theorem dX9_setVariables_76 : decode cX9_setVariables 76 = .ok (.iadd, 1) := by decide +kernel
theorem dX9_setVariables_77 : decode cX9_setVariables 77 = .ok (.iload_n 3, 1) := by decide +kernel
theorem dX9_setVariables_78 : decode cX9_setVariables 78 = .ok (.iadd, 1) := by decide +kernel
theorem dX9_setVariables_79 : decode cX9_setVariables 79 = .ok (.iconst 0, 1) := by decide +kernel
theorem dX9_setVariables_80 : decode cX9_setVariables 80 = .ok (.iastore, 1) := by decide +kernel
theorem dX9_setVariables_81 : decode cX9_setVariables 81 = .ok (.iinc 4 1, 3) := by decide +kernel
theorem dX9_setVariables_84 : decode cX9_setVariables 84 = .ok (.goto (-24), 3) := by decide +kernel
theorem dX9_setVariables_87 : decode cX9_setVariables 87 = .ok (.iinc 3 1, 3) := by decide +kernel
theorem dX9_setVariables_90 : decode cX9_setVariables 90 = .ok (.goto (-47), 3) := by decide +kernel
theorem dX9_setVariables_93 : decode cX9_setVariables 93 = .ok (.aload_n 0, 1) := by decide +kernel
theorem dX9_setVariables_94 : decode cX9_setVariables 94 = .ok (.invokevirtual 166, 3) := by decide +kernel
theorem dX9_setVariables_97 : decode cX9_setVariables 97 = .ok (.iload_n 2, 1) := by decide +kernel
theorem dX9_setVariables_98 : decode cX9_setVariables 98 = .ok (.ireturn, 1) := by decide +kernel
theorem dX9_changes_0 : decode cX9_changes 0 = .ok (.aload_n 0, 1) := by decide +kernel
theorem dX9_changes_1 : decode cX9_changes 1 = .ok (.invokevirtual 163, 3) := by decide +kernel
theorem dX9_changes_4 : decode cX9_changes 4 = .ok (.aload_n 0, 1) := by decide +kernel
theorem dX9_changes_5 : decode cX9_changes 5 = .ok (.getfield 7, 3) := by decide +kernel
theorem dX9_changes_8 : decode cX9_changes 8 = .ok (.iload_n 1, 1) := by decide +kernel
theorem dX9_changes_9 : decode cX9_changes 9 = .ok (.iaload, 1) := by decide +kernel
theorem dX9_changes_10 : decode cX9_changes 10 = .ok (.istore_n 3, 1) := by decide +kernel
theorem dX9_changes_11 : decode cX9_changes 11 = .ok (.aload_n 0, 1) := by decide +kernel
theorem dX9_changes_12 : decode cX9_changes 12 = .ok (.getfield 7, 3) := by decide +kernel
theorem dX9_changes_15 : decode cX9_changes 15 = .ok (.iload_n 1, 1) := by decide +kernel
theorem dX9_changes_16 : decode cX9_changes 16 = .ok (.iload_n 2, 1) := by decide +kernel
theorem dX9_changes_17 : decode cX9_changes 17 = .ok (.iastore, 1) := by decide +kernel
theorem dX9_changes_18 : decode cX9_changes 18 = .ok (.aload_n 0, 1) := by decide +kernel
theorem dX9_changes_19 : decode cX9_changes 19 = .ok (.invokevirtual 166, 3) := by decide +kernel
theorem dX9_changes_22 : decode cX9_changes 22 = .ok (.iload_n 3, 1) := by decide +kernel
theorem dX9_changes_23 : decode cX9_changes 23 = .ok (.ireturn, 1) := by decide +kernel
theorem dX9_setProfit_0 : decode cX9_setProfit 0 = .ok (.aload_n 0, 1) := by decide +kernel
theorem dX9_setProfit_1 : decode cX9_setProfit 1 = .ok (.aload_n 0, 1) := by decide +kernel
theorem dX9_setProfit_2 : decode cX9_setProfit 2 = .ok (.iload_n 1, 1) := by decide +kernel
theorem dX9_setProfit_3 : decode cX9_setProfit 3 = .ok (.invokevirtual 169, 3) := by decide +kernel
theorem dX9_setProfit_6 : decode cX9_setProfit 6 = .ok (.ifCond .ne 7, 3) := by decide +kernel
theorem dX9_setProfit_9 : decode cX9_setProfit 9 = .ok (.iconst 1, 1) := by decide +kernel
theorem dX9_setProfit_10 : decode cX9_setProfit 10 = .ok (.goto 19, 3) := by decide +kernel
theorem dX9_setProfit_13 : decode cX9_setProfit 13 = .ok (.iload_n 2, 1) := by decide +kernel
theorem dX9_setProfit_14 : decode cX9_setProfit 14 = .ok (.bipush (-9), 2) := by decide +kernel
theorem dX9_setProfit_16 : decode cX9_setProfit 16 = .ok (.bipush 9, 2) := by decide +kernel
theorem dX9_setProfit_18 : decode cX9_setProfit 18 = .ok (.invokestatic 57, 3) := by decide +kernel
theorem dX9_setProfit_21 : decode cX9_setProfit 21 = .ok (.ifCond .eq 7, 3) := by decide +kernel
theorem dX9_setProfit_24 : decode cX9_setProfit 24 = .ok (.iconst 0, 1) := by decide +kernel
theorem dX9_setProfit_25 : decode cX9_setProfit 25 = .ok (.goto 4, 3) := by decide +kernel
theorem dX9_setProfit_28 : decode cX9_setProfit 28 = .ok (.iconst 2, 1) := by decide +kernel
theorem dX9_setProfit_29 : decode cX9_setProfit 29 = .ok (.invokevirtual 160, 3) := by decide +kernel
theorem dX9_setProfit_32 : decode cX9_setProfit 32 = .ok (.ifCond .eq 14, 3) := by decide +kernel
theorem dX9_setProfit_35 : decode cX9_setProfit 35 = .ok (.aload_n 0, 1) := by decide +kernel
theorem dX9_setProfit_36 : decode cX9_setProfit 36 = .ok (.iconst 2, 1) := by decide +kernel
theorem dX9_setProfit_37 : decode cX9_setProfit 37 = .ok (.iload_n 1, 1) := by decide +kernel
theorem dX9_setProfit_38 : decode cX9_setProfit 38 = .ok (.iadd, 1) := by decide +kernel
theorem dX9_setProfit_39 : decode cX9_setProfit 39 = .ok (.iload_n 2, 1) := by decide +kernel
theorem dX9_setProfit_40 : decode cX9_setProfit 40 = .ok (.invokevirtual 172, 3) := by decide +kernel
theorem dX9_setProfit_43 : decode cX9_setProfit 43 = .ok (.goto 4, 3) := by decide +kernel
theorem dX9_setProfit_46 : decode cX9_setProfit 46 = .ok (.iconst 0, 1) := by decide +kernel
theorem dX9_setProfit_47 : decode cX9_setProfit 47 = .ok (.ireturn, 1) := by decide +kernel
theorem dX9_addConstraint_0 : decode cX9_addConstraint 0 = .ok (.aload_n 0, 1) := by decide +kernel
theorem dX9_addConstraint_1 : decode cX9_addConstraint 1 = .ok (.iload_n 1, 1) := by decide +kernel
theorem dX9_addConstraint_2 : decode cX9_addConstraint 2 = .ok (.iconst 0, 1) := by decide +kernel
theorem dX9_addConstraint_3 : decode cX9_addConstraint 3 = .ok (.bipush 99, 2) := by decide +kernel
theorem dX9_addConstraint_5 : decode cX9_addConstraint 5 = .ok (.invokestatic 57, 3) := by decide +kernel
theorem dX9_addConstraint_8 : decode cX9_addConstraint 8 = .ok (.ifCond .ne 7, 3) := by decide +kernel
theorem dX9_addConstraint_11 : decode cX9_addConstraint 11 = .ok (.iconst 1, 1) := by decide +kernel
theorem dX9_addConstraint_12 : decode cX9_addConstraint 12 = .ok (.goto 18, 3) := by decide +kernel
theorem dX9_addConstraint_15 : decode cX9_addConstraint 15 = .ok (.aload_n 0, 1) := by decide +kernel
theorem dX9_addConstraint_16 : decode cX9_addConstraint 16 = .ok (.getfield 7, 3) := by decide +kernel
theorem dX9_addConstraint_19 : decode cX9_addConstraint 19 = .ok (.iconst 1, 1) := by decide +kernel
theorem dX9_addConstraint_20 : decode cX9_addConstraint 20 = .ok (.iaload, 1) := by decide +kernel
theorem dX9_addConstraint_21 : decode cX9_addConstraint 21 = .ok (.iconst 4, 1) := by decide +kernel
theorem dX9_addConstraint_22 : decode cX9_addConstraint 22 = .ok (.if_icmp .ne 7, 3) := by decide +kernel
theorem dX9_addConstraint_25 : decode cX9_addConstraint 25 = .ok (.iconst 2, 1) := by decide +kernel
theorem dX9_addConstraint_26 : decode cX9_addConstraint 26 = .ok (.goto 4, 3) := by decide +kernel
theorem dX9_addConstraint_29 : decode cX9_addConstraint 29 = .ok (.iconst 0, 1) := by decide +kernel
theorem dX9_addConstraint_30 : decode cX9_addConstraint 30 = .ok (.invokevirtual 160, 3) := by decide +kernel
theorem dX9_addConstraint_33 : decode cX9_addConstraint 33 = .ok (.ifCond .ne 5, 3) := by decide +kernel
theorem dX9_addConstraint_36 : decode cX9_addConstraint 36 = .ok (.iconst 0, 1) := by decide +kernel
theorem dX9_addConstraint_37 : decode cX9_addConstraint 37 = .ok (.ireturn, 1) := by decide +kernel
theorem dX9_addConstraint_38 : decode cX9_addConstraint 38 = .ok (.aload_n 0, 1) := by decide +kernel
theorem dX9_addConstraint_39 : decode cX9_addConstraint 39 = .ok (.invokevirtual 163, 3) := by decide +kernel
theorem dX9_addConstraint_42 : decode cX9_addConstraint 42 = .ok (.aload_n 0, 1) := by decide +kernel
theorem dX9_addConstraint_43 : decode cX9_addConstraint 43 = .ok (.getfield 7, 3) := by decide +kernel
theorem dX9_addConstraint_46 : decode cX9_addConstraint 46 = .ok (.iconst 1, 1) := by decide +kernel
theorem dX9_addConstraint_47 : decode cX9_addConstraint 47 = .ok (.iaload, 1) := by decide +kernel
theorem dX9_addConstraint_48 : decode cX9_addConstraint 48 = .ok (.istore_n 2, 1) := by decide +kernel
theorem dX9_addConstraint_49 : decode cX9_addConstraint 49 = .ok (.aload_n 0, 1) := by decide +kernel
theorem dX9_addConstraint_50 : decode cX9_addConstraint 50 = .ok (.getfield 7, 3) := by decide +kernel
theorem dX9_addConstraint_53 : decode cX9_addConstraint 53 = .ok (.iconst 1, 1) := by decide +kernel
theorem dX9_addConstraint_54 : decode cX9_addConstraint 54 = .ok (.dup2, 1) := by decide +kernel
theorem dX9_addConstraint_55 : decode cX9_addConstraint 55 = .ok (.iaload, 1) := by decide +kernel
theorem dX9_addConstraint_56 : decode cX9_addConstraint 56 = .ok (.iconst 1, 1) := by decide +kernel
theorem dX9_addConstraint_57 : decode cX9_addConstraint 57 = .ok (.iadd, 1) := by decide +kernel
theorem dX9_addConstraint_58 : decode cX9_addConstraint 58 = .ok (.iastore, 1) := by decide +kernel
theorem dX9_addConstraint_59 : decode cX9_addConstraint 59 = .ok (.iconst 0, 1) := by decide +kernel
theorem dX9_addConstraint_60 : decode cX9_addConstraint 60 = .ok (.istore_n 3, 1) := by decide +kernel
theorem dX9_addConstraint_61 : decode cX9_addConstraint 61 = .ok (.iload_n 3, 1) := by decide +kernel
theorem dX9_addConstraint_62 : decode cX9_addConstraint 62 = .ok (.iconst 4, 1) := by decide +kernel
theorem dX9_addConstraint_63 : decode cX9_addConstraint 63 = .ok (.if_icmp .ge 23, 3) := by decide +kernel
theorem dX9_addConstraint_66 : decode cX9_addConstraint 66 = .ok (.aload_n 0, 1) := by decide +kernel
theorem dX9_addConstraint_67 : decode cX9_addConstraint 67 = .ok (.getfield 7, 3) := by decide +kernel
theorem dX9_addConstraint_70 : decode cX9_addConstraint 70 = .ok (.bipush 6, 2) := by decide +kernel
theorem dX9_addConstraint_72 : decode cX9_addConstraint 72 = .ok (.iconst 4, 1) := by decide +kernel
theorem dX9_addConstraint_73 : decode cX9_addConstraint 73 = .ok (.iload_n 2, 1) := by decide +kernel
theorem dX9_addConstraint_74 : decode cX9_addConstraint 74 = .ok (.imul, 1) := by decide +kernel
theorem dX9_addConstraint_75 : decode cX9_addConstraint 75 = .ok (.iadd, 1) := by decide +kernel
theorem dX9_addConstraint_76 : decode cX9_addConstraint 76 = .ok (.iload_n 3, 1) := by decide +kernel
theorem dX9_addConstraint_77 : decode cX9_addConstraint 77 = .ok (.iadd, 1) := by decide +kernel
theorem dX9_addConstraint_78 : decode cX9_addConstraint 78 = .ok (.iconst 0, 1) := by decide +kernel
theorem dX9_addConstraint_79 : decode cX9_addConstraint 79 = .ok (.iastore, 1) := by decide +kernel
theorem dX9_addConstraint_80 : decode cX9_addConstraint 80 = .ok (.iinc 3 1, 3) := by decide +kernel
theorem dX9_addConstraint_83 : decode cX9_addConstraint 83 = .ok (.goto (-22), 3) := by decide +kernel
theorem dX9_addConstraint_86 : decode cX9_addConstraint 86 = .ok (.aload_n 0, 1) := by decide +kernel
theorem dX9_addConstraint_87 : decode cX9_addConstraint 87 = .ok (.getfield 7, 3) := by decide +kernel
theorem dX9_addConstraint_90 : decode cX9_addConstraint 90 = .ok (.bipush 22, 2) := by decide +kernel
theorem dX9_addConstraint_92 : decode cX9_addConstraint 92 = .ok (.iload_n 2, 1) := by decide +kernel
theorem dX9_addConstraint_93 : decode cX9_addConstraint 93 = .ok (.iadd, 1) := by decide +kernel
theorem dX9_addConstraint_94 : decode cX9_addConstraint 94 = .ok (.iload_n 1, 1) := by decide +kernel
theorem dX9_addConstraint_95 : decode cX9_addConstraint 95 = .ok (.iastore, 1) := by decide +kernel
theorem dX9_addConstraint_96 : decode cX9_addConstraint 96 = .ok (.aload_n 0, 1) := by decide +kernel
theorem dX9_addConstraint_97 : decode cX9_addConstraint 97 = .ok (.invokevirtual 166, 3) := by decide +kernel
theorem dX9_addConstraint_100 : decode cX9_addConstraint 100 = .ok (.iload_n 2, 1) := by decide +kernel
theorem dX9_addConstraint_101 : decode cX9_addConstraint 101 = .ok (.ireturn, 1) := by decide +kernel
theorem dX9_setCoefficient_0 : decode cX9_setCoefficient 0 = .ok (.aload_n 0, 1) := by decide +kernel
theorem dX9_setCoefficient_1 : decode cX9_setCoefficient 1 = .ok (.aload_n 0, 1) := by decide +kernel
theorem dX9_setCoefficient_2 : decode cX9_setCoefficient 2 = .ok (.iload_n 1, 1) := by decide +kernel
theorem dX9_setCoefficient_3 : decode cX9_setCoefficient 3 = .ok (.invokevirtual 175, 3) := by decide +kernel
theorem dX9_setCoefficient_6 : decode cX9_setCoefficient 6 = .ok (.ifCond .eq 11, 3) := by decide +kernel
theorem dX9_setCoefficient_9 : decode cX9_setCoefficient 9 = .ok (.aload_n 0, 1) := by decide +kernel
theorem dX9_setCoefficient_10 : decode cX9_setCoefficient 10 = .ok (.iload_n 2, 1) := by decide +kernel
theorem dX9_setCoefficient_11 : decode cX9_setCoefficient 11 = .ok (.invokevirtual 169, 3) := by decide +kernel
theorem dX9_setCoefficient_14 : decode cX9_setCoefficient 14 = .ok (.ifCond .ne 7, 3) := by decide +kernel
theorem dX9_setCoefficient_17 : decode cX9_setCoefficient 17 = .ok (.iconst 1, 1) := by decide +kernel
theorem dX9_setCoefficient_18 : decode cX9_setCoefficient 18 = .ok (.goto 19, 3) := by decide +kernel
theorem dX9_setCoefficient_21 : decode cX9_setCoefficient 21 = .ok (.iload_n 3, 1) := by decide +kernel
theorem dX9_setCoefficient_22 : decode cX9_setCoefficient 22 = .ok (.bipush (-9), 2) := by decide +kernel
theorem dX9_setCoefficient_24 : decode cX9_setCoefficient 24 = .ok (.bipush 9, 2) := by decide +kernel
theorem dX9_setCoefficient_26 : decode cX9_setCoefficient 26 = .ok (.invokestatic 57, 3) := by decide +kernel
theorem dX9_setCoefficient_29 : decode cX9_setCoefficient 29 = .ok (.ifCond .eq 7, 3) := by decide +kernel
theorem dX9_setCoefficient_32 : decode cX9_setCoefficient 32 = .ok (.iconst 0, 1) := by decide +kernel
theorem dX9_setCoefficient_33 : decode cX9_setCoefficient 33 = .ok (.goto 4, 3) := by decide +kernel
theorem dX9_setCoefficient_36 : decode cX9_setCoefficient 36 = .ok (.iconst 2, 1) := by decide +kernel
theorem dX9_setCoefficient_37 : decode cX9_setCoefficient 37 = .ok (.invokevirtual 160, 3) := by decide +kernel
theorem dX9_setCoefficient_40 : decode cX9_setCoefficient 40 = .ok (.ifCond .eq 19, 3) := by decide +kernel
theorem dX9_setCoefficient_43 : decode cX9_setCoefficient 43 = .ok (.aload_n 0, 1) := by decide +kernel
theorem dX9_setCoefficient_44 : decode cX9_setCoefficient 44 = .ok (.bipush 6, 2) := by decide +kernel
theorem dX9_setCoefficient_46 : decode cX9_setCoefficient 46 = .ok (.iconst 4, 1) := by decide +kernel
theorem dX9_setCoefficient_47 : decode cX9_setCoefficient 47 = .ok (.iload_n 1, 1) := by decide +kernel
theorem dX9_setCoefficient_48 : decode cX9_setCoefficient 48 = .ok (.imul, 1) := by decide +kernel
theorem dX9_setCoefficient_49 : decode cX9_setCoefficient 49 = .ok (.iadd, 1) := by decide +kernel
theorem dX9_setCoefficient_50 : decode cX9_setCoefficient 50 = .ok (.iload_n 2, 1) := by decide +kernel
theorem dX9_setCoefficient_51 : decode cX9_setCoefficient 51 = .ok (.iadd, 1) := by decide +kernel
theorem dX9_setCoefficient_52 : decode cX9_setCoefficient 52 = .ok (.iload_n 3, 1) := by decide +kernel
theorem dX9_setCoefficient_53 : decode cX9_setCoefficient 53 = .ok (.invokevirtual 172, 3) := by decide +kernel
theorem dX9_setCoefficient_56 : decode cX9_setCoefficient 56 = .ok (.goto 4, 3) := by decide +kernel
theorem dX9_setCoefficient_59 : decode cX9_setCoefficient 59 = .ok (.iconst 0, 1) := by decide +kernel
theorem dX9_setCoefficient_60 : decode cX9_setCoefficient 60 = .ok (.ireturn, 1) := by decide +kernel
theorem dX9_setBound_0 : decode cX9_setBound 0 = .ok (.aload_n 0, 1) := by decide +kernel
theorem dX9_setBound_1 : decode cX9_setBound 1 = .ok (.aload_n 0, 1) := by decide +kernel
theorem dX9_setBound_2 : decode cX9_setBound 2 = .ok (.iload_n 1, 1) := by decide +kernel
theorem dX9_setBound_3 : decode cX9_setBound 3 = .ok (.invokevirtual 175, 3) := by decide +kernel
theorem dX9_setBound_6 : decode cX9_setBound 6 = .ok (.ifCond .ne 7, 3) := by decide +kernel
theorem dX9_setBound_9 : decode cX9_setBound 9 = .ok (.iconst 1, 1) := by decide +kernel
theorem dX9_setBound_10 : decode cX9_setBound 10 = .ok (.goto 18, 3) := by decide +kernel
theorem dX9_setBound_13 : decode cX9_setBound 13 = .ok (.iload_n 2, 1) := by decide +kernel
theorem dX9_setBound_14 : decode cX9_setBound 14 = .ok (.iconst 0, 1) := by decide +kernel
theorem dX9_setBound_15 : decode cX9_setBound 15 = .ok (.bipush 99, 2) := by decide +kernel
theorem dX9_setBound_17 : decode cX9_setBound 17 = .ok (.invokestatic 57, 3) := by decide +kernel
theorem dX9_setBound_20 : decode cX9_setBound 20 = .ok (.ifCond .eq 7, 3) := by decide +kernel
theorem dX9_setBound_23 : decode cX9_setBound 23 = .ok (.iconst 0, 1) := by decide +kernel
theorem dX9_setBound_24 : decode cX9_setBound 24 = .ok (.goto 4, 3) := by decide +kernel
theorem dX9_setBound_27 : decode cX9_setBound 27 = .ok (.iconst 2, 1) := by decide +kernel
theorem dX9_setBound_28 : decode cX9_setBound 28 = .ok (.invokevirtual 160, 3) := by decide +kernel
theorem dX9_setBound_31 : decode cX9_setBound 31 = .ok (.ifCond .eq 15, 3) := by decide +kernel
theorem dX9_setBound_34 : decode cX9_setBound 34 = .ok (.aload_n 0, 1) := by decide +kernel
theorem dX9_setBound_35 : decode cX9_setBound 35 = .ok (.bipush 22, 2) := by decide +kernel
theorem dX9_setBound_37 : decode cX9_setBound 37 = .ok (.iload_n 1, 1) := by decide +kernel
theorem dX9_setBound_38 : decode cX9_setBound 38 = .ok (.iadd, 1) := by decide +kernel
theorem dX9_setBound_39 : decode cX9_setBound 39 = .ok (.iload_n 2, 1) := by decide +kernel
theorem dX9_setBound_40 : decode cX9_setBound 40 = .ok (.invokevirtual 172, 3) := by decide +kernel
theorem dX9_setBound_43 : decode cX9_setBound 43 = .ok (.goto 4, 3) := by decide +kernel
theorem dX9_setBound_46 : decode cX9_setBound 46 = .ok (.iconst 0, 1) := by decide +kernel
theorem dX9_setBound_47 : decode cX9_setBound 47 = .ok (.ireturn, 1) := by decide +kernel
theorem dX9_dropConstraint_0 : decode cX9_dropConstraint 0 = .ok (.aload_n 0, 1) := by decide +kernel
theorem dX9_dropConstraint_1 : decode cX9_dropConstraint 1 = .ok (.aload_n 0, 1) := by decide +kernel
theorem dX9_dropConstraint_2 : decode cX9_dropConstraint 2 = .ok (.iload_n 1, 1) := by decide +kernel
theorem dX9_dropConstraint_3 : decode cX9_dropConstraint 3 = .ok (.invokevirtual 175, 3) := by decide +kernel
theorem dX9_dropConstraint_6 : decode cX9_dropConstraint 6 = .ok (.ifCond .eq 7, 3) := by decide +kernel
theorem dX9_dropConstraint_9 : decode cX9_dropConstraint 9 = .ok (.iconst 0, 1) := by decide +kernel
theorem dX9_dropConstraint_10 : decode cX9_dropConstraint 10 = .ok (.goto 4, 3) := by decide +kernel
theorem dX9_dropConstraint_13 : decode cX9_dropConstraint 13 = .ok (.iconst 1, 1) := by decide +kernel
theorem dX9_dropConstraint_14 : decode cX9_dropConstraint 14 = .ok (.invokevirtual 160, 3) := by decide +kernel
theorem dX9_dropConstraint_17 : decode cX9_dropConstraint 17 = .ok (.ifCond .ne 5, 3) := by decide +kernel
theorem dX9_dropConstraint_20 : decode cX9_dropConstraint 20 = .ok (.iconst 0, 1) := by decide +kernel
theorem dX9_dropConstraint_21 : decode cX9_dropConstraint 21 = .ok (.ireturn, 1) := by decide +kernel
theorem dX9_dropConstraint_22 : decode cX9_dropConstraint 22 = .ok (.aload_n 0, 1) := by decide +kernel
theorem dX9_dropConstraint_23 : decode cX9_dropConstraint 23 = .ok (.invokevirtual 163, 3) := by decide +kernel
theorem dX9_dropConstraint_26 : decode cX9_dropConstraint 26 = .ok (.aload_n 0, 1) := by decide +kernel
theorem dX9_dropConstraint_27 : decode cX9_dropConstraint 27 = .ok (.getfield 7, 3) := by decide +kernel
theorem dX9_dropConstraint_30 : decode cX9_dropConstraint 30 = .ok (.iconst 1, 1) := by decide +kernel
theorem dX9_dropConstraint_31 : decode cX9_dropConstraint 31 = .ok (.dup2, 1) := by decide +kernel
theorem dX9_dropConstraint_32 : decode cX9_dropConstraint 32 = .ok (.iaload, 1) := by decide +kernel
theorem dX9_dropConstraint_33 : decode cX9_dropConstraint 33 = .ok (.iconst 1, 1) := by decide +kernel
theorem dX9_dropConstraint_34 : decode cX9_dropConstraint 34 = .ok (.isub, 1) := by decide +kernel
theorem dX9_dropConstraint_35 : decode cX9_dropConstraint 35 = .ok (.iastore, 1) := by decide +kernel
theorem dX9_dropConstraint_36 : decode cX9_dropConstraint 36 = .ok (.iload_n 1, 1) := by decide +kernel
theorem dX9_dropConstraint_37 : decode cX9_dropConstraint 37 = .ok (.istore_n 2, 1) := by decide +kernel
theorem dX9_dropConstraint_38 : decode cX9_dropConstraint 38 = .ok (.iload_n 2, 1) := by decide +kernel
theorem dX9_dropConstraint_39 : decode cX9_dropConstraint 39 = .ok (.aload_n 0, 1) := by decide +kernel
theorem dX9_dropConstraint_40 : decode cX9_dropConstraint 40 = .ok (.getfield 7, 3) := by decide +kernel
theorem dX9_dropConstraint_43 : decode cX9_dropConstraint 43 = .ok (.iconst 1, 1) := by decide +kernel
theorem dX9_dropConstraint_44 : decode cX9_dropConstraint 44 = .ok (.iaload, 1) := by decide +kernel
theorem dX9_dropConstraint_45 : decode cX9_dropConstraint 45 = .ok (.if_icmp .ge 70, 3) := by decide +kernel
theorem dX9_dropConstraint_48 : decode cX9_dropConstraint 48 = .ok (.aload_n 0, 1) := by decide +kernel
theorem dX9_dropConstraint_49 : decode cX9_dropConstraint 49 = .ok (.getfield 7, 3) := by decide +kernel
theorem dX9_dropConstraint_52 : decode cX9_dropConstraint 52 = .ok (.bipush 22, 2) := by decide +kernel
theorem dX9_dropConstraint_54 : decode cX9_dropConstraint 54 = .ok (.iload_n 2, 1) := by decide +kernel
theorem dX9_dropConstraint_55 : decode cX9_dropConstraint 55 = .ok (.iadd, 1) := by decide +kernel
theorem dX9_dropConstraint_56 : decode cX9_dropConstraint 56 = .ok (.aload_n 0, 1) := by decide +kernel
theorem dX9_dropConstraint_57 : decode cX9_dropConstraint 57 = .ok (.getfield 7, 3) := by decide +kernel
theorem dX9_dropConstraint_60 : decode cX9_dropConstraint 60 = .ok (.bipush 22, 2) := by decide +kernel
theorem dX9_dropConstraint_62 : decode cX9_dropConstraint 62 = .ok (.iload_n 2, 1) := by decide +kernel
theorem dX9_dropConstraint_63 : decode cX9_dropConstraint 63 = .ok (.iadd, 1) := by decide +kernel
theorem dX9_dropConstraint_64 : decode cX9_dropConstraint 64 = .ok (.iconst 1, 1) := by decide +kernel
theorem dX9_dropConstraint_65 : decode cX9_dropConstraint 65 = .ok (.iadd, 1) := by decide +kernel
theorem dX9_dropConstraint_66 : decode cX9_dropConstraint 66 = .ok (.iaload, 1) := by decide +kernel
theorem dX9_dropConstraint_67 : decode cX9_dropConstraint 67 = .ok (.iastore, 1) := by decide +kernel
theorem dX9_dropConstraint_68 : decode cX9_dropConstraint 68 = .ok (.iconst 0, 1) := by decide +kernel
theorem dX9_dropConstraint_69 : decode cX9_dropConstraint 69 = .ok (.istore_n 3, 1) := by decide +kernel
theorem dX9_dropConstraint_70 : decode cX9_dropConstraint 70 = .ok (.iload_n 3, 1) := by decide +kernel
theorem dX9_dropConstraint_71 : decode cX9_dropConstraint 71 = .ok (.iconst 4, 1) := by decide +kernel
theorem dX9_dropConstraint_72 : decode cX9_dropConstraint 72 = .ok (.if_icmp .ge 37, 3) := by decide +kernel
theorem dX9_dropConstraint_75 : decode cX9_dropConstraint 75 = .ok (.aload_n 0, 1) := by decide +kernel
theorem dX9_dropConstraint_76 : decode cX9_dropConstraint 76 = .ok (.getfield 7, 3) := by decide +kernel
theorem dX9_dropConstraint_79 : decode cX9_dropConstraint 79 = .ok (.bipush 6, 2) := by decide +kernel
theorem dX9_dropConstraint_81 : decode cX9_dropConstraint 81 = .ok (.iconst 4, 1) := by decide +kernel
theorem dX9_dropConstraint_82 : decode cX9_dropConstraint 82 = .ok (.iload_n 2, 1) := by decide +kernel
theorem dX9_dropConstraint_83 : decode cX9_dropConstraint 83 = .ok (.imul, 1) := by decide +kernel
theorem dX9_dropConstraint_84 : decode cX9_dropConstraint 84 = .ok (.iadd, 1) := by decide +kernel
theorem dX9_dropConstraint_85 : decode cX9_dropConstraint 85 = .ok (.iload_n 3, 1) := by decide +kernel
theorem dX9_dropConstraint_86 : decode cX9_dropConstraint 86 = .ok (.iadd, 1) := by decide +kernel
theorem dX9_dropConstraint_87 : decode cX9_dropConstraint 87 = .ok (.aload_n 0, 1) := by decide +kernel
theorem dX9_dropConstraint_88 : decode cX9_dropConstraint 88 = .ok (.getfield 7, 3) := by decide +kernel
theorem dX9_dropConstraint_91 : decode cX9_dropConstraint 91 = .ok (.bipush 6, 2) := by decide +kernel
theorem dX9_dropConstraint_93 : decode cX9_dropConstraint 93 = .ok (.iconst 4, 1) := by decide +kernel
theorem dX9_dropConstraint_94 : decode cX9_dropConstraint 94 = .ok (.iload_n 2, 1) := by decide +kernel
theorem dX9_dropConstraint_95 : decode cX9_dropConstraint 95 = .ok (.imul, 1) := by decide +kernel
theorem dX9_dropConstraint_96 : decode cX9_dropConstraint 96 = .ok (.iadd, 1) := by decide +kernel
theorem dX9_dropConstraint_97 : decode cX9_dropConstraint 97 = .ok (.iconst 4, 1) := by decide +kernel
theorem dX9_dropConstraint_98 : decode cX9_dropConstraint 98 = .ok (.iadd, 1) := by decide +kernel
theorem dX9_dropConstraint_99 : decode cX9_dropConstraint 99 = .ok (.iload_n 3, 1) := by decide +kernel
theorem dX9_dropConstraint_100 : decode cX9_dropConstraint 100 = .ok (.iadd, 1) := by decide +kernel
theorem dX9_dropConstraint_101 : decode cX9_dropConstraint 101 = .ok (.iaload, 1) := by decide +kernel
theorem dX9_dropConstraint_102 : decode cX9_dropConstraint 102 = .ok (.iastore, 1) := by decide +kernel
theorem dX9_dropConstraint_103 : decode cX9_dropConstraint 103 = .ok (.iinc 3 1, 3) := by decide +kernel
theorem dX9_dropConstraint_106 : decode cX9_dropConstraint 106 = .ok (.goto (-36), 3) := by decide +kernel
theorem dX9_dropConstraint_109 : decode cX9_dropConstraint 109 = .ok (.iinc 2 1, 3) := by decide +kernel
theorem dX9_dropConstraint_112 : decode cX9_dropConstraint 112 = .ok (.goto (-74), 3) := by decide +kernel
theorem dX9_dropConstraint_115 : decode cX9_dropConstraint 115 = .ok (.aload_n 0, 1) := by decide +kernel
theorem dX9_dropConstraint_116 : decode cX9_dropConstraint 116 = .ok (.invokevirtual 166, 3) := by decide +kernel
theorem dX9_dropConstraint_119 : decode cX9_dropConstraint 119 = .ok (.aload_n 0, 1) := by decide +kernel
theorem dX9_dropConstraint_120 : decode cX9_dropConstraint 120 = .ok (.getfield 7, 3) := by decide +kernel
theorem dX9_dropConstraint_123 : decode cX9_dropConstraint 123 = .ok (.iconst 1, 1) := by decide +kernel
theorem dX9_dropConstraint_124 : decode cX9_dropConstraint 124 = .ok (.iaload, 1) := by decide +kernel
theorem dX9_dropConstraint_125 : decode cX9_dropConstraint 125 = .ok (.ireturn, 1) := by decide +kernel
theorem dX9_begin_0 : decode cX9_begin 0 = .ok (.aload_n 0, 1) := by decide +kernel
theorem dX9_begin_1 : decode cX9_begin 1 = .ok (.iconst 0, 1) := by decide +kernel
theorem dX9_begin_2 : decode cX9_begin 2 = .ok (.putfield 53, 3) := by decide +kernel
theorem dX9_begin_5 : decode cX9_begin 5 = .ok (.aload_n 0, 1) := by decide +kernel
theorem dX9_begin_6 : decode cX9_begin 6 = .ok (.invokevirtual 163, 3) := by decide +kernel
theorem dX9_begin_9 : decode cX9_begin 9 = .ok (.aload_n 0, 1) := by decide +kernel
theorem dX9_begin_10 : decode cX9_begin 10 = .ok (.getfield 7, 3) := by decide +kernel
theorem dX9_begin_13 : decode cX9_begin 13 = .ok (.bipush 31, 2) := by decide +kernel
theorem dX9_begin_15 : decode cX9_begin 15 = .ok (.iaload, 1) := by decide +kernel
theorem dX9_begin_16 : decode cX9_begin 16 = .ok (.istore_n 1, 1) := by decide +kernel
theorem dX9_begin_17 : decode cX9_begin 17 = .ok (.aload_n 0, 1) := by decide +kernel
theorem dX9_begin_18 : decode cX9_begin 18 = .ok (.invokevirtual 166, 3) := by decide +kernel
theorem dX9_begin_21 : decode cX9_begin 21 = .ok (.iload_n 1, 1) := by decide +kernel
theorem dX9_begin_22 : decode cX9_begin 22 = .ok (.ireturn, 1) := by decide +kernel
theorem dX9_isPlace_0 : decode cX9_isPlace 0 = .ok (.aload_n 0, 1) := by decide +kernel
theorem dX9_isPlace_1 : decode cX9_isPlace 1 = .ok (.iload_n 1, 1) := by decide +kernel
theorem dX9_isPlace_2 : decode cX9_isPlace 2 = .ok (.invokevirtual 175, 3) := by decide +kernel
theorem dX9_isPlace_5 : decode cX9_isPlace 5 = .ok (.ifCond .eq 15, 3) := by decide +kernel
theorem dX9_isPlace_8 : decode cX9_isPlace 8 = .ok (.aload_n 0, 1) := by decide +kernel
theorem dX9_isPlace_9 : decode cX9_isPlace 9 = .ok (.iload_n 2, 1) := by decide +kernel
theorem dX9_isPlace_10 : decode cX9_isPlace 10 = .ok (.invokevirtual 178, 3) := by decide +kernel
theorem dX9_isPlace_13 : decode cX9_isPlace 13 = .ok (.ifCond .eq 7, 3) := by decide +kernel
theorem dX9_isPlace_16 : decode cX9_isPlace 16 = .ok (.iconst 1, 1) := by decide +kernel
theorem dX9_isPlace_17 : decode cX9_isPlace 17 = .ok (.goto 4, 3) := by decide +kernel
theorem dX9_isPlace_20 : decode cX9_isPlace 20 = .ok (.iconst 0, 1) := by decide +kernel
theorem dX9_isPlace_21 : decode cX9_isPlace 21 = .ok (.ireturn, 1) := by decide +kernel
theorem dX9_isIn_0 : decode cX9_isIn 0 = .ok (.iconst 0, 1) := by decide +kernel
theorem dX9_isIn_1 : decode cX9_isIn 1 = .ok (.istore_n 2, 1) := by decide +kernel
theorem dX9_isIn_2 : decode cX9_isIn 2 = .ok (.iconst 0, 1) := by decide +kernel
theorem dX9_isIn_3 : decode cX9_isIn 3 = .ok (.istore_n 3, 1) := by decide +kernel
theorem dX9_isIn_4 : decode cX9_isIn 4 = .ok (.iload_n 3, 1) := by decide +kernel
theorem dX9_isIn_5 : decode cX9_isIn 5 = .ok (.aload_n 0, 1) := by decide +kernel
theorem dX9_isIn_6 : decode cX9_isIn 6 = .ok (.getfield 7, 3) := by decide +kernel
theorem dX9_isIn_9 : decode cX9_isIn 9 = .ok (.iconst 1, 1) := by decide +kernel
theorem dX9_isIn_10 : decode cX9_isIn 10 = .ok (.iaload, 1) := by decide +kernel
theorem dX9_isIn_11 : decode cX9_isIn 11 = .ok (.if_icmp .ge 32, 3) := by decide +kernel
theorem dX9_isIn_14 : decode cX9_isIn 14 = .ok (.iload_n 2, 1) := by decide +kernel
theorem dX9_isIn_15 : decode cX9_isIn 15 = .ok (.ifCond .ne 16, 3) := by decide +kernel
theorem dX9_isIn_18 : decode cX9_isIn 18 = .ok (.aload_n 0, 1) := by decide +kernel
theorem dX9_isIn_19 : decode cX9_isIn 19 = .ok (.getfield 7, 3) := by decide +kernel
theorem dX9_isIn_22 : decode cX9_isIn 22 = .ok (.bipush 27, 2) := by decide +kernel
theorem dX9_isIn_24 : decode cX9_isIn 24 = .ok (.iload_n 3, 1) := by decide +kernel
theorem dX9_isIn_25 : decode cX9_isIn 25 = .ok (.iadd, 1) := by decide +kernel
theorem dX9_isIn_26 : decode cX9_isIn 26 = .ok (.iaload, 1) := by decide +kernel
theorem dX9_isIn_27 : decode cX9_isIn 27 = .ok (.iload_n 1, 1) := by decide +kernel
theorem dX9_isIn_28 : decode cX9_isIn 28 = .ok (.if_icmp .ne 7, 3) := by decide +kernel
theorem dX9_isIn_31 : decode cX9_isIn 31 = .ok (.iconst 1, 1) := by decide +kernel
theorem dX9_isIn_32 : decode cX9_isIn 32 = .ok (.goto 4, 3) := by decide +kernel
theorem dX9_isIn_35 : decode cX9_isIn 35 = .ok (.iconst 0, 1) := by decide +kernel
theorem dX9_isIn_36 : decode cX9_isIn 36 = .ok (.istore_n 2, 1) := by decide +kernel
theorem dX9_isIn_37 : decode cX9_isIn 37 = .ok (.iinc 3 1, 3) := by decide +kernel
theorem dX9_isIn_40 : decode cX9_isIn 40 = .ok (.goto (-36), 3) := by decide +kernel
theorem dX9_isIn_43 : decode cX9_isIn 43 = .ok (.iload_n 2, 1) := by decide +kernel
theorem dX9_isIn_44 : decode cX9_isIn 44 = .ok (.ireturn, 1) := by decide +kernel
theorem dX9_hindrance_0 : decode cX9_hindrance 0 = .ok (.aload_n 0, 1) := by decide +kernel
theorem dX9_hindrance_1 : decode cX9_hindrance 1 = .ok (.invokevirtual 141, 3) := by decide +kernel
theorem dX9_hindrance_4 : decode cX9_hindrance 4 = .ok (.aload_n 0, 1) := by decide +kernel
theorem dX9_hindrance_5 : decode cX9_hindrance 5 = .ok (.iload_n 2, 1) := by decide +kernel
theorem dX9_hindrance_6 : decode cX9_hindrance 6 = .ok (.invokevirtual 181, 3) := by decide +kernel
theorem dX9_hindrance_9 : decode cX9_hindrance 9 = .ok (.ifCond .ne 11, 3) := by decide +kernel
theorem dX9_hindrance_12 : decode cX9_hindrance 12 = .ok (.aload_n 0, 1) := by decide +kernel
theorem dX9_hindrance_13 : decode cX9_hindrance 13 = .ok (.iload_n 2, 1) := by decide +kernel
theorem dX9_hindrance_14 : decode cX9_hindrance 14 = .ok (.invokevirtual 118, 3) := by decide +kernel
theorem dX9_hindrance_17 : decode cX9_hindrance 17 = .ok (.ifCond .ne 17, 3) := by decide +kernel
theorem dX9_hindrance_20 : decode cX9_hindrance 20 = .ok (.aload_n 0, 1) := by decide +kernel
theorem dX9_hindrance_21 : decode cX9_hindrance 21 = .ok (.iload_n 2, 1) := by decide +kernel
theorem dX9_hindrance_22 : decode cX9_hindrance 22 = .ok (.invokevirtual 181, 3) := by decide +kernel
theorem dX9_hindrance_25 : decode cX9_hindrance 25 = .ok (.ifCond .eq 7, 3) := by decide +kernel
theorem dX9_hindrance_28 : decode cX9_hindrance 28 = .ok (.iconst 1, 1) := by decide +kernel
theorem dX9_hindrance_29 : decode cX9_hindrance 29 = .ok (.goto 4, 3) := by decide +kernel
theorem dX9_hindrance_32 : decode cX9_hindrance 32 = .ok (.iconst 2, 1) := by decide +kernel
theorem dX9_hindrance_33 : decode cX9_hindrance 33 = .ok (.ireturn, 1) := by decide +kernel
theorem dX9_hindrance_34 : decode cX9_hindrance 34 = .ok (.aload_n 0, 1) := by decide +kernel
theorem dX9_hindrance_35 : decode cX9_hindrance 35 = .ok (.iload_n 1, 1) := by decide +kernel
theorem dX9_hindrance_36 : decode cX9_hindrance 36 = .ok (.iload_n 2, 1) := by decide +kernel
theorem dX9_hindrance_37 : decode cX9_hindrance 37 = .ok (.invokevirtual 102, 3) := by decide +kernel
theorem dX9_hindrance_40 : decode cX9_hindrance 40 = .ok (.lconst 0, 1) := by decide +kernel
theorem dX9_hindrance_41 : decode cX9_hindrance 41 = .ok (.lcmp, 1) := by decide +kernel
theorem dX9_hindrance_42 : decode cX9_hindrance 42 = .ok (.ifCond .gt 5, 3) := by decide +kernel
theorem dX9_hindrance_45 : decode cX9_hindrance 45 = .ok (.iconst 3, 1) := by decide +kernel
theorem dX9_hindrance_46 : decode cX9_hindrance 46 = .ok (.ireturn, 1) := by decide +kernel
theorem dX9_hindrance_47 : decode cX9_hindrance 47 = .ok (.iconst 0, 1) := by decide +kernel
theorem dX9_hindrance_48 : decode cX9_hindrance 48 = .ok (.istore_n 3, 1) := by decide +kernel
theorem dX9_hindrance_49 : decode cX9_hindrance 49 = .ok (.iconst 0, 1) := by decide +kernel
theorem dX9_hindrance_50 : decode cX9_hindrance 50 = .ok (.istore 4, 2) := by decide +kernel
theorem dX9_hindrance_52 : decode cX9_hindrance 52 = .ok (.iload 4, 2) := by decide +kernel
theorem dX9_hindrance_54 : decode cX9_hindrance 54 = .ok (.aload_n 0, 1) := by decide +kernel
theorem dX9_hindrance_55 : decode cX9_hindrance 55 = .ok (.getfield 7, 3) := by decide +kernel
theorem dX9_hindrance_58 : decode cX9_hindrance 58 = .ok (.iconst 1, 1) := by decide +kernel
theorem dX9_hindrance_59 : decode cX9_hindrance 59 = .ok (.iaload, 1) := by decide +kernel
theorem dX9_hindrance_60 : decode cX9_hindrance 60 = .ok (.if_icmp .ge 44, 3) := by decide +kernel
theorem dX9_hindrance_63 : decode cX9_hindrance 63 = .ok (.iload_n 3, 1) := by decide +kernel
theorem dX9_hindrance_64 : decode cX9_hindrance 64 = .ok (.ifCond .ne 28, 3) := by decide +kernel
theorem dX9_hindrance_67 : decode cX9_hindrance 67 = .ok (.aload_n 0, 1) := by decide +kernel
theorem dX9_hindrance_68 : decode cX9_hindrance 68 = .ok (.iload 4, 2) := by decide +kernel
theorem dX9_hindrance_70 : decode cX9_hindrance 70 = .ok (.iload_n 2, 1) := by decide +kernel
theorem dX9_hindrance_71 : decode cX9_hindrance 71 = .ok (.invokevirtual 102, 3) := by decide +kernel
theorem dX9_hindrance_74 : decode cX9_hindrance 74 = .ok (.lconst 0, 1) := by decide +kernel
theorem dX9_hindrance_75 : decode cX9_hindrance 75 = .ok (.lcmp, 1) := by decide +kernel
theorem dX9_hindrance_76 : decode cX9_hindrance 76 = .ok (.ifCond .le 20, 3) := by decide +kernel
theorem dX9_hindrance_79 : decode cX9_hindrance 79 = .ok (.aload_n 0, 1) := by decide +kernel
theorem dX9_hindrance_80 : decode cX9_hindrance 80 = .ok (.iload 4, 2) := by decide +kernel
theorem dX9_hindrance_82 : decode cX9_hindrance 82 = .ok (.iload_n 1, 1) := by decide +kernel
theorem dX9_hindrance_83 : decode cX9_hindrance 83 = .ok (.iload_n 2, 1) := by decide +kernel
theorem dX9_hindrance_84 : decode cX9_hindrance 84 = .ok (.invokevirtual 125, 3) := by decide +kernel
theorem dX9_hindrance_87 : decode cX9_hindrance 87 = .ok (.lconst 0, 1) := by decide +kernel
theorem dX9_hindrance_88 : decode cX9_hindrance 88 = .ok (.lcmp, 1) := by decide +kernel
theorem dX9_hindrance_89 : decode cX9_hindrance 89 = .ok (.ifCond .ge 7, 3) := by decide +kernel
theorem dX9_hindrance_92 : decode cX9_hindrance 92 = .ok (.iconst 1, 1) := by decide +kernel
theorem dX9_hindrance_93 : decode cX9_hindrance 93 = .ok (.goto 4, 3) := by decide +kernel
theorem dX9_hindrance_96 : decode cX9_hindrance 96 = .ok (.iconst 0, 1) := by decide +kernel
theorem dX9_hindrance_97 : decode cX9_hindrance 97 = .ok (.istore_n 3, 1) := by decide +kernel
theorem dX9_hindrance_98 : decode cX9_hindrance 98 = .ok (.iinc 4 1, 3) := by decide +kernel
theorem dX9_hindrance_101 : decode cX9_hindrance 101 = .ok (.goto (-49), 3) := by decide +kernel
theorem dX9_hindrance_104 : decode cX9_hindrance 104 = .ok (.iload_n 3, 1) := by decide +kernel
theorem dX9_hindrance_105 : decode cX9_hindrance 105 = .ok (.ifCond .eq 7, 3) := by decide +kernel
theorem dX9_hindrance_108 : decode cX9_hindrance 108 = .ok (.iconst 4, 1) := by decide +kernel
theorem dX9_hindrance_109 : decode cX9_hindrance 109 = .ok (.goto 4, 3) := by decide +kernel
theorem dX9_hindrance_112 : decode cX9_hindrance 112 = .ok (.iconst 0, 1) := by decide +kernel
theorem dX9_hindrance_113 : decode cX9_hindrance 113 = .ok (.ireturn, 1) := by decide +kernel
theorem dX9_pivot_0 : decode cX9_pivot 0 = .ok (.aload_n 0, 1) := by decide +kernel
theorem dX9_pivot_1 : decode cX9_pivot 1 = .ok (.aload_n 0, 1) := by decide +kernel
theorem dX9_pivot_2 : decode cX9_pivot 2 = .ok (.iload_n 1, 1) := by decide +kernel
theorem dX9_pivot_3 : decode cX9_pivot 3 = .ok (.iload_n 2, 1) := by decide +kernel
theorem dX9_pivot_4 : decode cX9_pivot 4 = .ok (.invokevirtual 184, 3) := by decide +kernel
theorem dX9_pivot_7 : decode cX9_pivot 7 = .ok (.ifCond .ne 7, 3) := by decide +kernel
theorem dX9_pivot_10 : decode cX9_pivot 10 = .ok (.iconst 1, 1) := by decide +kernel
theorem dX9_pivot_11 : decode cX9_pivot 11 = .ok (.goto 17, 3) := by decide +kernel
theorem dX9_pivot_14 : decode cX9_pivot 14 = .ok (.aload_n 0, 1) := by decide +kernel
theorem dX9_pivot_15 : decode cX9_pivot 15 = .ok (.iload_n 1, 1) := by decide +kernel
theorem dX9_pivot_16 : decode cX9_pivot 16 = .ok (.iload_n 2, 1) := by decide +kernel
theorem dX9_pivot_17 : decode cX9_pivot 17 = .ok (.invokevirtual 188, 3) := by decide +kernel
theorem dX9_pivot_20 : decode cX9_pivot 20 = .ok (.ifCond .ne 7, 3) := by decide +kernel
theorem dX9_pivot_23 : decode cX9_pivot 23 = .ok (.iconst 0, 1) := by decide +kernel
theorem dX9_pivot_24 : decode cX9_pivot 24 = .ok (.goto 4, 3) := by decide +kernel
theorem dX9_pivot_27 : decode cX9_pivot 27 = .ok (.iconst 2, 1) := by decide +kernel
theorem dX9_pivot_28 : decode cX9_pivot 28 = .ok (.invokevirtual 160, 3) := by decide +kernel
theorem dX9_pivot_31 : decode cX9_pivot 31 = .ok (.ifCond .ne 5, 3) := by decide +kernel
theorem dX9_pivot_34 : decode cX9_pivot 34 = .ok (.iconst 0, 1) := by decide +kernel
theorem dX9_pivot_35 : decode cX9_pivot 35 = .ok (.ireturn, 1) := by decide +kernel
theorem dX9_pivot_36 : decode cX9_pivot 36 = .ok (.aload_n 0, 1) := by decide +kernel
theorem dX9_pivot_37 : decode cX9_pivot 37 = .ok (.invokevirtual 163, 3) := by decide +kernel
theorem dX9_pivot_40 : decode cX9_pivot 40 = .ok (.aload_n 0, 1) := by decide +kernel
theorem dX9_pivot_41 : decode cX9_pivot 41 = .ok (.getfield 7, 3) := by decide +kernel
theorem dX9_pivot_44 : decode cX9_pivot 44 = .ok (.bipush 27, 2) := by decide +kernel
theorem dX9_pivot_46 : decode cX9_pivot 46 = .ok (.iload_n 1, 1) := by decide +kernel
theorem dX9_pivot_47 : decode cX9_pivot 47 = .ok (.iadd, 1) := by decide +kernel
theorem dX9_pivot_48 : decode cX9_pivot 48 = .ok (.iaload, 1) := by decide +kernel
theorem dX9_pivot_49 : decode cX9_pivot 49 = .ok (.istore_n 3, 1) := by decide +kernel
theorem dX9_pivot_50 : decode cX9_pivot 50 = .ok (.aload_n 0, 1) := by decide +kernel
theorem dX9_pivot_51 : decode cX9_pivot 51 = .ok (.iload_n 1, 1) := by decide +kernel
theorem dX9_pivot_52 : decode cX9_pivot 52 = .ok (.iload_n 2, 1) := by decide +kernel
theorem dX9_pivot_53 : decode cX9_pivot 53 = .ok (.invokevirtual 156, 3) := by decide +kernel
theorem dX9_pivot_56 : decode cX9_pivot 56 = .ok (.iload_n 3, 1) := by decide +kernel
theorem dX9_pivot_57 : decode cX9_pivot 57 = .ok (.ireturn, 1) := by decide +kernel
theorem dX9_isAtEnd_0 : decode cX9_isAtEnd 0 = .ok (.aload_n 0, 1) := by decide +kernel
theorem dX9_isAtEnd_1 : decode cX9_isAtEnd 1 = .ok (.invokevirtual 141, 3) := by decide +kernel
theorem dX9_isAtEnd_4 : decode cX9_isAtEnd 4 = .ok (.aload_n 0, 1) := by decide +kernel
theorem dX9_isAtEnd_5 : decode cX9_isAtEnd 5 = .ok (.invokevirtual 150, 3) := by decide +kernel
theorem dX9_isAtEnd_8 : decode cX9_isAtEnd 8 = .ok (.ireturn, 1) := by decide +kernel
theorem dX9_step_0 : decode cX9_step 0 = .ok (.aload_n 0, 1) := by decide +kernel
theorem dX9_step_1 : decode cX9_step 1 = .ok (.aload_n 0, 1) := by decide +kernel
theorem dX9_step_2 : decode cX9_step 2 = .ok (.invokevirtual 191, 3) := by decide +kernel
theorem dX9_step_5 : decode cX9_step 5 = .ok (.ifCond .eq 7, 3) := by decide +kernel
theorem dX9_step_8 : decode cX9_step 8 = .ok (.iconst 1, 1) := by decide +kernel
theorem dX9_step_9 : decode cX9_step 9 = .ok (.goto 4, 3) := by decide +kernel
theorem dX9_step_12 : decode cX9_step 12 = .ok (.iconst 0, 1) := by decide +kernel
theorem dX9_step_13 : decode cX9_step 13 = .ok (.invokevirtual 160, 3) := by decide +kernel
theorem dX9_step_16 : decode cX9_step 16 = .ok (.ifCond .ne 5, 3) := by decide +kernel
theorem dX9_step_19 : decode cX9_step 19 = .ok (.iconst 0, 1) := by decide +kernel
theorem dX9_step_20 : decode cX9_step 20 = .ok (.ireturn, 1) := by decide +kernel
theorem dX9_step_21 : decode cX9_step 21 = .ok (.aload_n 0, 1) := by decide +kernel
theorem dX9_step_22 : decode cX9_step 22 = .ok (.invokevirtual 163, 3) := by decide +kernel
theorem dX9_step_25 : decode cX9_step 25 = .ok (.aload_n 0, 1) := by decide +kernel
theorem dX9_step_26 : decode cX9_step 26 = .ok (.invokevirtual 153, 3) := by decide +kernel
theorem dX9_step_29 : decode cX9_step 29 = .ok (.istore_n 1, 1) := by decide +kernel
theorem dX9_step_30 : decode cX9_step 30 = .ok (.aload_n 0, 1) := by decide +kernel
theorem dX9_step_31 : decode cX9_step 31 = .ok (.aload_n 0, 1) := by decide +kernel
theorem dX9_step_32 : decode cX9_step 32 = .ok (.iload_n 1, 1) := by decide +kernel
theorem dX9_step_33 : decode cX9_step 33 = .ok (.invokevirtual 131, 3) := by decide +kernel
theorem dX9_step_36 : decode cX9_step 36 = .ok (.iload_n 1, 1) := by decide +kernel
theorem dX9_step_37 : decode cX9_step 37 = .ok (.invokevirtual 156, 3) := by decide +kernel
theorem dX9_step_40 : decode cX9_step 40 = .ok (.iload_n 1, 1) := by decide +kernel
theorem dX9_step_41 : decode cX9_step 41 = .ok (.ireturn, 1) := by decide +kernel
theorem dX9_solve_0 : decode cX9_solve 0 = .ok (.aload_n 0, 1) := by decide +kernel
theorem dX9_solve_1 : decode cX9_solve 1 = .ok (.iconst 0, 1) := by decide +kernel
theorem dX9_solve_2 : decode cX9_solve 2 = .ok (.putfield 53, 3) := by decide +kernel
theorem dX9_solve_5 : decode cX9_solve 5 = .ok (.aload_n 0, 1) := by decide +kernel
theorem dX9_solve_6 : decode cX9_solve 6 = .ok (.invokevirtual 163, 3) := by decide +kernel
theorem dX9_solve_9 : decode cX9_solve 9 = .ok (.aload_n 0, 1) := by decide +kernel
theorem dX9_solve_10 : decode cX9_solve 10 = .ok (.invokevirtual 194, 3) := by decide +kernel
theorem dX9_solve_13 : decode cX9_solve 13 = .ok (.ireturn, 1) := by decide +kernel
theorem dX9_setRule_0 : decode cX9_setRule 0 = .ok (.aload_n 0, 1) := by decide +kernel
theorem dX9_setRule_1 : decode cX9_setRule 1 = .ok (.iload_n 1, 1) := by decide +kernel
theorem dX9_setRule_2 : decode cX9_setRule 2 = .ok (.iconst 0, 1) := by decide +kernel
theorem dX9_setRule_3 : decode cX9_setRule 3 = .ok (.iconst 2, 1) := by decide +kernel
theorem dX9_setRule_4 : decode cX9_setRule 4 = .ok (.invokestatic 57, 3) := by decide +kernel
theorem dX9_setRule_7 : decode cX9_setRule 7 = .ok (.ifCond .eq 7, 3) := by decide +kernel
theorem dX9_setRule_10 : decode cX9_setRule 10 = .ok (.iconst 0, 1) := by decide +kernel
theorem dX9_setRule_11 : decode cX9_setRule 11 = .ok (.goto 4, 3) := by decide +kernel
theorem dX9_setRule_14 : decode cX9_setRule 14 = .ok (.iconst 1, 1) := by decide +kernel
theorem dX9_setRule_15 : decode cX9_setRule 15 = .ok (.invokevirtual 160, 3) := by decide +kernel
theorem dX9_setRule_18 : decode cX9_setRule 18 = .ok (.ifCond .ne 5, 3) := by decide +kernel
theorem dX9_setRule_21 : decode cX9_setRule 21 = .ok (.iconst 0, 1) := by decide +kernel
theorem dX9_setRule_22 : decode cX9_setRule 22 = .ok (.ireturn, 1) := by decide +kernel
theorem dX9_setRule_23 : decode cX9_setRule 23 = .ok (.aload_n 0, 1) := by decide +kernel
theorem dX9_setRule_24 : decode cX9_setRule 24 = .ok (.invokevirtual 163, 3) := by decide +kernel
theorem dX9_setRule_27 : decode cX9_setRule 27 = .ok (.aload_n 0, 1) := by decide +kernel
theorem dX9_setRule_28 : decode cX9_setRule 28 = .ok (.getfield 7, 3) := by decide +kernel
theorem dX9_setRule_31 : decode cX9_setRule 31 = .ok (.bipush 26, 2) := by decide +kernel
theorem dX9_setRule_33 : decode cX9_setRule 33 = .ok (.iaload, 1) := by decide +kernel
theorem dX9_setRule_34 : decode cX9_setRule 34 = .ok (.istore_n 2, 1) := by decide +kernel
theorem dX9_setRule_35 : decode cX9_setRule 35 = .ok (.aload_n 0, 1) := by decide +kernel
theorem dX9_setRule_36 : decode cX9_setRule 36 = .ok (.getfield 7, 3) := by decide +kernel
theorem dX9_setRule_39 : decode cX9_setRule 39 = .ok (.bipush 26, 2) := by decide +kernel
theorem dX9_setRule_41 : decode cX9_setRule 41 = .ok (.iload_n 1, 1) := by decide +kernel
theorem dX9_setRule_42 : decode cX9_setRule 42 = .ok (.iastore, 1) := by decide +kernel
theorem dX9_setRule_43 : decode cX9_setRule 43 = .ok (.iload_n 2, 1) := by decide +kernel
theorem dX9_setRule_44 : decode cX9_setRule 44 = .ok (.ireturn, 1) := by decide +kernel
theorem dX9_append_0 : decode cX9_append 0 = .ok (.aload_n 0, 1) := by decide +kernel
theorem dX9_append_1 : decode cX9_append 1 = .ok (.iload_n 1, 1) := by decide +kernel
theorem dX9_append_2 : decode cX9_append 2 = .ok (.bipush 33, 2) := by decide +kernel
theorem dX9_append_4 : decode cX9_append 4 = .ok (.bipush 126, 2) := by decide +kernel
theorem dX9_append_6 : decode cX9_append 6 = .ok (.invokestatic 57, 3) := by decide +kernel
theorem dX9_append_9 : decode cX9_append 9 = .ok (.ifCond .ne 7, 3) := by decide +kernel
theorem dX9_append_12 : decode cX9_append 12 = .ok (.iconst 1, 1) := by decide +kernel
theorem dX9_append_13 : decode cX9_append 13 = .ok (.goto 17, 3) := by decide +kernel
theorem dX9_append_16 : decode cX9_append 16 = .ok (.aload_n 0, 1) := by decide +kernel
theorem dX9_append_17 : decode cX9_append 17 = .ok (.getfield 197, 3) := by decide +kernel
theorem dX9_append_20 : decode cX9_append 20 = .ok (.bipush 60, 2) := by decide +kernel
theorem dX9_append_22 : decode cX9_append 22 = .ok (.if_icmp .ne 7, 3) := by decide +kernel
theorem dX9_append_25 : decode cX9_append 25 = .ok (.iconst 2, 1) := by decide +kernel
theorem dX9_append_26 : decode cX9_append 26 = .ok (.goto 4, 3) := by decide +kernel
theorem dX9_append_29 : decode cX9_append 29 = .ok (.iconst 0, 1) := by decide +kernel
theorem dX9_append_30 : decode cX9_append 30 = .ok (.invokevirtual 160, 3) := by decide +kernel
theorem dX9_append_33 : decode cX9_append 33 = .ok (.ifCond .ne 5, 3) := by decide +kernel
theorem dX9_append_36 : decode cX9_append 36 = .ok (.iconst 0, 1) := by decide +kernel
theorem dX9_append_37 : decode cX9_append 37 = .ok (.ireturn, 1) := by decide +kernel
theorem dX9_append_38 : decode cX9_append 38 = .ok (.aload_n 0, 1) := by decide +kernel
theorem dX9_append_39 : decode cX9_append 39 = .ok (.getfield 22, 3) := by decide +kernel
theorem dX9_append_42 : decode cX9_append 42 = .ok (.aload_n 0, 1) := by decide +kernel
theorem dX9_append_43 : decode cX9_append 43 = .ok (.getfield 197, 3) := by decide +kernel
theorem dX9_append_46 : decode cX9_append 46 = .ok (.iload_n 1, 1) := by decide +kernel
theorem dX9_append_47 : decode cX9_append 47 = .ok (.iastore, 1) := by decide +kernel
theorem dX9_append_48 : decode cX9_append 48 = .ok (.aload_n 0, 1) := by decide +kernel
theorem dX9_append_49 : decode cX9_append 49 = .ok (.dup, 1) := by decide +kernel
theorem dX9_append_50 : decode cX9_append 50 = .ok (.getfield 197, 3) := by decide +kernel
theorem dX9_append_53 : decode cX9_append 53 = .ok (.iconst 1, 1) := by decide +kernel
theorem dX9_append_54 : decode cX9_append 54 = .ok (.iadd, 1) := by decide +kernel
theorem dX9_append_55 : decode cX9_append 55 = .ok (.putfield 197, 3) := by decide +kernel
theorem dX9_append_58 : decode cX9_append 58 = .ok (.aload_n 0, 1) := by decide +kernel
theorem dX9_append_59 : decode cX9_append 59 = .ok (.getfield 197, 3) := by decide +kernel
theorem dX9_append_62 : decode cX9_append 62 = .ok (.ireturn, 1) := by decide +kernel
theorem dX9_clearBuffer_0 : decode cX9_clearBuffer 0 = .ok (.aload_n 0, 1) := by decide +kernel
theorem dX9_clearBuffer_1 : decode cX9_clearBuffer 1 = .ok (.iconst 0, 1) := by decide +kernel
theorem dX9_clearBuffer_2 : decode cX9_clearBuffer 2 = .ok (.putfield 53, 3) := by decide +kernel
theorem dX9_clearBuffer_5 : decode cX9_clearBuffer 5 = .ok (.aload_n 0, 1) := by decide +kernel
theorem dX9_clearBuffer_6 : decode cX9_clearBuffer 6 = .ok (.getfield 197, 3) := by decide +kernel
theorem dX9_clearBuffer_9 : decode cX9_clearBuffer 9 = .ok (.istore_n 1, 1) := by decide +kernel
theorem dX9_clearBuffer_10 : decode cX9_clearBuffer 10 = .ok (.aload_n 0, 1) := by decide +kernel
theorem dX9_clearBuffer_11 : decode cX9_clearBuffer 11 = .ok (.iconst 0, 1) := by decide +kernel
theorem dX9_clearBuffer_12 : decode cX9_clearBuffer 12 = .ok (.putfield 197, 3) := by decide +kernel
theorem dX9_clearBuffer_15 : decode cX9_clearBuffer 15 = .ok (.iload_n 1, 1) := by decide +kernel
theorem dX9_clearBuffer_16 : decode cX9_clearBuffer 16 = .ok (.ireturn, 1) := by decide +kernel
theorem dX9_isNext_0 : decode cX9_isNext 0 = .ok (.aload_n 0, 1) := by decide +kernel
theorem dX9_isNext_1 : decode cX9_isNext 1 = .ok (.getfield 200, 3) := by decide +kernel
theorem dX9_isNext_4 : decode cX9_isNext 4 = .ok (.ifCond .ne 35, 3) := by decide +kernel
theorem dX9_isNext_7 : decode cX9_isNext 7 = .ok (.aload_n 0, 1) := by decide +kernel
theorem dX9_isNext_8 : decode cX9_isNext 8 = .ok (.getfield 204, 3) := by decide +kernel
theorem dX9_isNext_11 : decode cX9_isNext 11 = .ok (.aload_n 0, 1) := by decide +kernel
theorem dX9_isNext_12 : decode cX9_isNext 12 = .ok (.getfield 197, 3) := by decide +kernel
theorem dX9_isNext_15 : decode cX9_isNext 15 = .ok (.if_icmp .ge 24, 3) := by decide +kernel
theorem dX9_isNext_18 : decode cX9_isNext 18 = .ok (.aload_n 0, 1) := by decide +kernel
theorem dX9_isNext_19 : decode cX9_isNext 19 = .ok (.getfield 22, 3) := by decide +kernel
theorem dX9_isNext_22 : decode cX9_isNext 22 = .ok (.aload_n 0, 1) := by decide +kernel
theorem dX9_isNext_23 : decode cX9_isNext 23 = .ok (.getfield 204, 3) := by decide +kernel
theorem dX9_isNext_26 : decode cX9_isNext 26 = .ok (.iaload, 1) := by decide +kernel
theorem dX9_isNext_27 : decode cX9_isNext 27 = .ok (.iload_n 1, 1) := by decide +kernel
theorem dX9_isNext_28 : decode cX9_isNext 28 = .ok (.iload_n 2, 1) := by decide +kernel
theorem dX9_isNext_29 : decode cX9_isNext 29 = .ok (.invokestatic 57, 3) := by decide +kernel
theorem dX9_isNext_32 : decode cX9_isNext 32 = .ok (.ifCond .eq 7, 3) := by decide +kernel
theorem dX9_isNext_35 : decode cX9_isNext 35 = .ok (.iconst 1, 1) := by decide +kernel
theorem dX9_isNext_36 : decode cX9_isNext 36 = .ok (.goto 4, 3) := by decide +kernel
theorem dX9_isNext_39 : decode cX9_isNext 39 = .ok (.iconst 0, 1) := by decide +kernel
theorem dX9_isNext_40 : decode cX9_isNext 40 = .ok (.ireturn, 1) := by decide +kernel
theorem dX9_takes_0 : decode cX9_takes 0 = .ok (.aload_n 0, 1) := by decide +kernel
theorem dX9_takes_1 : decode cX9_takes 1 = .ok (.iload_n 1, 1) := by decide +kernel
theorem dX9_takes_2 : decode cX9_takes 2 = .ok (.iload_n 2, 1) := by decide +kernel
theorem dX9_takes_3 : decode cX9_takes 3 = .ok (.invokevirtual 207, 3) := by decide +kernel
theorem dX9_takes_6 : decode cX9_takes 6 = .ok (.istore_n 3, 1) := by decide +kernel
theorem dX9_takes_7 : decode cX9_takes 7 = .ok (.iload_n 3, 1) := by decide +kernel
theorem dX9_takes_8 : decode cX9_takes 8 = .ok (.ifCond .eq 15, 3) := by decide +kernel
theorem dX9_takes_11 : decode cX9_takes 11 = .ok (.aload_n 0, 1) := by decide +kernel
theorem dX9_takes_12 : decode cX9_takes 12 = .ok (.getfield 22, 3) := by decide +kernel
theorem dX9_takes_15 : decode cX9_takes 15 = .ok (.aload_n 0, 1) := by decide +kernel
theorem dX9_takes_16 : decode cX9_takes 16 = .ok (.getfield 204, 3) := by decide +kernel
theorem dX9_takes_19 : decode cX9_takes 19 = .ok (.iaload, 1) := by decide +kernel
theorem dX9_takes_20 : decode cX9_takes 20 = .ok (.goto 5, 3) := by decide +kernel
theorem dX9_takes_23 : decode cX9_takes 23 = .ok (.bipush 48, 2) := by decide +kernel
theorem dX9_takes_25 : decode cX9_takes 25 = .ok (.istore 4, 2) := by decide +kernel
theorem dX9_takes_27 : decode cX9_takes 27 = .ok (.aload_n 0, 1) := by decide +kernel
theorem dX9_takes_28 : decode cX9_takes 28 = .ok (.dup, 1) := by decide +kernel
theorem dX9_takes_29 : decode cX9_takes 29 = .ok (.getfield 204, 3) := by decide +kernel
theorem dX9_takes_32 : decode cX9_takes 32 = .ok (.iload_n 3, 1) := by decide +kernel
theorem dX9_takes_33 : decode cX9_takes 33 = .ok (.ifCond .eq 7, 3) := by decide +kernel
theorem dX9_takes_36 : decode cX9_takes 36 = .ok (.iconst 1, 1) := by decide +kernel
theorem dX9_takes_37 : decode cX9_takes 37 = .ok (.goto 4, 3) := by decide +kernel
theorem dX9_takes_40 : decode cX9_takes 40 = .ok (.iconst 0, 1) := by decide +kernel
theorem dX9_takes_41 : decode cX9_takes 41 = .ok (.iadd, 1) := by decide +kernel
theorem dX9_takes_42 : decode cX9_takes 42 = .ok (.putfield 204, 3) := by decide +kernel
theorem dX9_takes_45 : decode cX9_takes 45 = .ok (.aload_n 0, 1) := by decide +kernel
theorem dX9_takes_46 : decode cX9_takes 46 = .ok (.aload_n 0, 1) := by decide +kernel
theorem dX9_takes_47 : decode cX9_takes 47 = .ok (.getfield 200, 3) := by decide +kernel
theorem dX9_takes_50 : decode cX9_takes 50 = .ok (.ifCond .ne 7, 3) := by decide +kernel
theorem dX9_takes_53 : decode cX9_takes 53 = .ok (.iload_n 3, 1) := by decide +kernel
theorem dX9_takes_54 : decode cX9_takes 54 = .ok (.ifCond .ne 7, 3) := by decide +kernel
theorem dX9_takes_57 : decode cX9_takes 57 = .ok (.iconst 1, 1) := by decide +kernel
theorem dX9_takes_58 : decode cX9_takes 58 = .ok (.goto 4, 3) := by decide +kernel
theorem dX9_takes_61 : decode cX9_takes 61 = .ok (.iconst 0, 1) := by decide +kernel
theorem dX9_takes_62 : decode cX9_takes 62 = .ok (.putfield 200, 3) := by decide +kernel
theorem dX9_takes_65 : decode cX9_takes 65 = .ok (.iload 4, 2) := by decide +kernel
theorem dX9_takes_67 : decode cX9_takes 67 = .ok (.bipush 48, 2) := by decide +kernel
theorem dX9_takes_69 : decode cX9_takes 69 = .ok (.isub, 1) := by decide +kernel
theorem dX9_takes_70 : decode cX9_takes 70 = .ok (.ireturn, 1) := by decide +kernel
theorem dX9_factor_0 : decode cX9_factor 0 = .ok (.aload_n 0, 1) := by decide +kernel
theorem dX9_factor_1 : decode cX9_factor 1 = .ok (.bipush 45, 2) := by decide +kernel
theorem dX9_factor_3 : decode cX9_factor 3 = .ok (.bipush 45, 2) := by decide +kernel
theorem dX9_factor_5 : decode cX9_factor 5 = .ok (.invokevirtual 207, 3) := by decide +kernel
theorem dX9_factor_8 : decode cX9_factor 8 = .ok (.ifCond .eq 23, 3) := by decide +kernel
theorem dX9_factor_11 : decode cX9_factor 11 = .ok (.aload_n 0, 1) := by decide +kernel
theorem dX9_factor_12 : decode cX9_factor 12 = .ok (.dup, 1) := by decide +kernel
theorem dX9_factor_13 : decode cX9_factor 13 = .ok (.getfield 204, 3) := by decide +kernel
theorem dX9_factor_16 : decode cX9_factor 16 = .ok (.iconst 1, 1) := by decide +kernel
theorem dX9_factor_17 : decode cX9_factor 17 = .ok (.iadd, 1) := by decide +kernel
theorem dX9_factor_18 : decode cX9_factor 18 = .ok (.putfield 204, 3) := by decide +kernel
theorem dX9_factor_21 : decode cX9_factor 21 = .ok (.aload_n 0, 1) := by decide +kernel
theorem dX9_factor_22 : decode cX9_factor 22 = .ok (.bipush 49, 2) := by decide +kernel
theorem dX9_factor_24 : decode cX9_factor 24 = .ok (.bipush 57, 2) := by decide +kernel
theorem dX9_factor_26 : decode cX9_factor 26 = .ok (.invokevirtual 210, 3) := by decide +kernel
theorem dX9_factor_29 : decode cX9_factor 29 = .ok (.ineg, 1) := by decide +kernel
theorem dX9_factor_30 : decode cX9_factor 30 = .ok (.ireturn, 1) := by decide +kernel
theorem dX9_factor_31 : decode cX9_factor 31 = .ok (.aload_n 0, 1) := by decide +kernel
theorem dX9_factor_32 : decode cX9_factor 32 = .ok (.bipush 48, 2) := by decide +kernel
theorem dX9_factor_34 : decode cX9_factor 34 = .ok (.bipush 57, 2) := by decide +kernel
theorem dX9_factor_36 : decode cX9_factor 36 = .ok (.invokevirtual 210, 3) := by decide +kernel
theorem dX9_factor_39 : decode cX9_factor 39 = .ok (.ireturn, 1) := by decide +kernel
theorem dX9_readFactors_0 : decode cX9_readFactors 0 = .ok (.iconst 0, 1) := by decide +kernel
theorem dX9_readFactors_1 : decode cX9_readFactors 1 = .ok (.istore_n 2, 1) := by decide +kernel
theorem dX9_readFactors_2 : decode cX9_readFactors 2 = .ok (.iload_n 2, 1) := by decide +kernel
theorem dX9_readFactors_3 : decode cX9_readFactors 3 = .ok (.aload_n 0, 1) := by decide +kernel
theorem dX9_readFactors_4 : decode cX9_readFactors 4 = .ok (.getfield 47, 3) := by decide +kernel
theorem dX9_readFactors_7 : decode cX9_readFactors 7 = .ok (.iconst 0, 1) := by decide +kernel
theorem dX9_readFactors_8 : decode cX9_readFactors 8 = .ok (.iaload, 1) := by decide +kernel
theorem dX9_readFactors_9 : decode cX9_readFactors 9 = .ok (.if_icmp .ge 38, 3) := by decide +kernel
theorem dX9_readFactors_12 : decode cX9_readFactors 12 = .ok (.iload_n 2, 1) := by decide +kernel
theorem dX9_readFactors_13 : decode cX9_readFactors 13 = .ok (.ifCond .le 14, 3) := by decide +kernel
theorem dX9_readFactors_16 : decode cX9_readFactors 16 = .ok (.aload_n 0, 1) := by decide +kernel
theorem dX9_readFactors_17 : decode cX9_readFactors 17 = .ok (.bipush 44, 2) := by decide +kernel
theorem dX9_readFactors_19 : decode cX9_readFactors 19 = .ok (.bipush 44, 2) := by decide +kernel
theorem dX9_readFactors_21 : decode cX9_readFactors 21 = .ok (.invokevirtual 210, 3) := by decide +kernel
theorem dX9_readFactors_24 : decode cX9_readFactors 24 = .ok (.goto 4, 3) := by decide +kernel
theorem dX9_readFactors_27 : decode cX9_readFactors 27 = .ok (.iconst 0, 1) := by decide +kernel
theorem dX9_readFactors_28 : decode cX9_readFactors 28 = .ok (.istore_n 3, 1) := by decide +kernel
theorem dX9_readFactors_29 : decode cX9_readFactors 29 = .ok (.aload_n 0, 1) := by decide +kernel
theorem dX9_readFactors_30 : decode cX9_readFactors 30 = .ok (.getfield 47, 3) := by decide +kernel
theorem dX9_readFactors_33 : decode cX9_readFactors 33 = .ok (.iload_n 1, 1) := by decide +kernel
theorem dX9_readFactors_34 : decode cX9_readFactors 34 = .ok (.iload_n 2, 1) := by decide +kernel
theorem dX9_readFactors_35 : decode cX9_readFactors 35 = .ok (.iadd, 1) := by decide +kernel
theorem dX9_readFactors_36 : decode cX9_readFactors 36 = .ok (.aload_n 0, 1) := by decide +kernel
theorem dX9_readFactors_37 : decode cX9_readFactors 37 = .ok (.invokevirtual 213, 3) := by decide +kernel
theorem dX9_readFactors_40 : decode cX9_readFactors 40 = .ok (.iastore, 1) := by decide +kernel
theorem dX9_readFactors_41 : decode cX9_readFactors 41 = .ok (.iinc 2 1, 3) := by decide +kernel
theorem dX9_readFactors_44 : decode cX9_readFactors 44 = .ok (.goto (-42), 3) := by decide +kernel
theorem dX9_readFactors_47 : decode cX9_readFactors 47 = .ok (.return_, 1) := by decide +kernel
theorem dX9_bound_0 : decode cX9_bound 0 = .ok (.aload_n 0, 1) := by decide +kernel
theorem dX9_bound_1 : decode cX9_bound 1 = .ok (.bipush 48, 2) := by decide +kernel
theorem dX9_bound_3 : decode cX9_bound 3 = .ok (.bipush 57, 2) := by decide +kernel
theorem dX9_bound_5 : decode cX9_bound 5 = .ok (.invokevirtual 210, 3) := by decide +kernel
theorem dX9_bound_8 : decode cX9_bound 8 = .ok (.istore_n 1, 1) := by decide +kernel
theorem dX9_bound_9 : decode cX9_bound 9 = .ok (.iload_n 1, 1) := by decide +kernel
theorem dX9_bound_10 : decode cX9_bound 10 = .ok (.ifCond .le 30, 3) := by decide +kernel
theorem dX9_bound_13 : decode cX9_bound 13 = .ok (.aload_n 0, 1) := by decide +kernel
theorem dX9_bound_14 : decode cX9_bound 14 = .ok (.bipush 48, 2) := by decide +kernel
theorem dX9_bound_16 : decode cX9_bound 16 = .ok (.bipush 57, 2) := by decide +kernel
theorem dX9_bound_18 : decode cX9_bound 18 = .ok (.invokevirtual 207, 3) := by decide +kernel
theorem dX9_bound_21 : decode cX9_bound 21 = .ok (.ifCond .eq 19, 3) := by decide +kernel
theorem dX9_bound_24 : decode cX9_bound 24 = .ok (.bipush 10, 2) := by decide +kernel
theorem dX9_bound_26 : decode cX9_bound 26 = .ok (.iload_n 1, 1) := by decide +kernel
theorem dX9_bound_27 : decode cX9_bound 27 = .ok (.imul, 1) := by decide +kernel
theorem dX9_bound_28 : decode cX9_bound 28 = .ok (.aload_n 0, 1) := by decide +kernel
theorem dX9_bound_29 : decode cX9_bound 29 = .ok (.bipush 48, 2) := by decide +kernel
theorem dX9_bound_31 : decode cX9_bound 31 = .ok (.bipush 57, 2) := by decide +kernel
theorem dX9_bound_33 : decode cX9_bound 33 = .ok (.invokevirtual 210, 3) := by decide +kernel
theorem dX9_bound_36 : decode cX9_bound 36 = .ok (.iadd, 1) := by decide +kernel
theorem dX9_bound_37 : decode cX9_bound 37 = .ok (.goto 4, 3) := by decide +kernel
theorem dX9_bound_40 : decode cX9_bound 40 = .ok (.iload_n 1, 1) := by decide +kernel
theorem dX9_bound_41 : decode cX9_bound 41 = .ok (.ireturn, 1) := by decide +kernel
theorem dX9_readProblem_0 : decode cX9_readProblem 0 = .ok (.iconst 0, 1) := by decide +kernel
theorem dX9_readProblem_1 : decode cX9_readProblem 1 = .ok (.istore_n 1, 1) := by decide +kernel
theorem dX9_readProblem_2 : decode cX9_readProblem 2 = .ok (.iload_n 1, 1) := by decide +kernel
theorem dX9_readProblem_3 : decode cX9_readProblem 3 = .ok (.bipush 26, 2) := by decide +kernel
theorem dX9_readProblem_5 : decode cX9_readProblem 5 = .ok (.if_icmp .ge 16, 3) := by decide +kernel
theorem dX9_readProblem_8 : decode cX9_readProblem 8 = .ok (.aload_n 0, 1) := by decide +kernel
theorem dX9_readProblem_9 : decode cX9_readProblem 9 = .ok (.getfield 47, 3) := by decide +kernel
theorem dX9_readProblem_12 : decode cX9_readProblem 12 = .ok (.iload_n 1, 1) := by decide +kernel
theorem dX9_readProblem_13 : decode cX9_readProblem 13 = .ok (.iconst 0, 1) := by decide +kernel
theorem dX9_readProblem_14 : decode cX9_readProblem 14 = .ok (.iastore, 1) := by decide +kernel
theorem dX9_readProblem_15 : decode cX9_readProblem 15 = .ok (.iinc 1 1, 3) := by decide +kernel
theorem dX9_readProblem_18 : decode cX9_readProblem 18 = .ok (.goto (-16), 3) := by decide +kernel
