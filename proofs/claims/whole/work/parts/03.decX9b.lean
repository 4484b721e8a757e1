theorem dX9_readProblem_21 : decode cX9_readProblem 21 = .ok (.aload_n 0, 1) := by decide +kernel
theorem dX9_readProblem_22 : decode cX9_readProblem 22 = .ok (.iconst 0, 1) := by decide +kernel
theorem dX9_readProblem_23 : decode cX9_readProblem 23 = .ok (.putfield 204, 3) := by decide +kernel
theorem dX9_readProblem_26 : decode cX9_readProblem 26 = .ok (.aload_n 0, 1) := by decide +kernel
theorem dX9_readProblem_27 : decode cX9_readProblem 27 = .ok (.iconst 0, 1) := by decide +kernel
theorem dX9_readProblem_28 : decode cX9_readProblem 28 = .ok (.putfield 200, 3) := by decide +kernel
theorem dX9_readProblem_31 : decode cX9_readProblem 31 = .ok (.aload_n 0, 1) := by decide +kernel
theorem dX9_readProblem_32 : decode cX9_readProblem 32 = .ok (.bipush 118, 2) := by decide +kernel
theorem dX9_readProblem_34 : decode cX9_readProblem 34 = .ok (.bipush 118, 2) := by decide +kernel
theorem dX9_readProblem_36 : decode cX9_readProblem 36 = .ok (.invokevirtual 210, 3) := by decide +kernel
theorem dX9_readProblem_39 : decode cX9_readProblem 39 = .ok (.istore_n 1, 1) := by decide +kernel
theorem dX9_readProblem_40 : decode cX9_readProblem 40 = .ok (.aload_n 0, 1) := by decide +kernel
theorem dX9_readProblem_41 : decode cX9_readProblem 41 = .ok (.getfield 47, 3) := by decide +kernel
theorem dX9_readProblem_44 : decode cX9_readProblem 44 = .ok (.iconst 0, 1) := by decide +kernel
theorem dX9_readProblem_45 : decode cX9_readProblem 45 = .ok (.aload_n 0, 1) := by decide +kernel
theorem dX9_readProblem_46 : decode cX9_readProblem 46 = .ok (.bipush 49, 2) := by decide +kernel
theorem dX9_readProblem_48 : decode cX9_readProblem 48 = .ok (.bipush 52, 2) := by decide +kernel
theorem dX9_readProblem_50 : decode cX9_readProblem 50 = .ok (.invokevirtual 210, 3) := by decide +kernel
theorem dX9_readProblem_53 : decode cX9_readProblem 53 = .ok (.iastore, 1) := by decide +kernel
theorem dX9_readProblem_54 : decode cX9_readProblem 54 = .ok (.aload_n 0, 1) := by decide +kernel
theorem dX9_readProblem_55 : decode cX9_readProblem 55 = .ok (.bipush 59, 2) := by decide +kernel
theorem dX9_readProblem_57 : decode cX9_readProblem 57 = .ok (.bipush 59, 2) := by decide +kernel
theorem dX9_readProblem_59 : decode cX9_readProblem 59 = .ok (.invokevirtual 210, 3) := by decide +kernel
theorem dX9_readProblem_62 : decode cX9_readProblem 62 = .ok (.istore_n 1, 1) := by decide +kernel
theorem dX9_readProblem_63 : decode cX9_readProblem 63 = .ok (.aload_n 0, 1) := by decide +kernel
theorem dX9_readProblem_64 : decode cX9_readProblem 64 = .ok (.bipush 109, 2) := by decide +kernel
theorem dX9_readProblem_66 : decode cX9_readProblem 66 = .ok (.bipush 109, 2) := by decide +kernel
theorem dX9_readProblem_68 : decode cX9_readProblem 68 = .ok (.invokevirtual 210, 3) := by decide +kernel
theorem dX9_readProblem_71 : decode cX9_readProblem 71 = .ok (.istore_n 1, 1) := by decide +kernel
theorem dX9_readProblem_72 : decode cX9_readProblem 72 = .ok (.aload_n 0, 1) := by decide +kernel
theorem dX9_readProblem_73 : decode cX9_readProblem 73 = .ok (.iconst 2, 1) := by decide +kernel
theorem dX9_readProblem_74 : decode cX9_readProblem 74 = .ok (.invokevirtual 216, 3) := by decide +kernel
theorem dX9_readProblem_77 : decode cX9_readProblem 77 = .ok (.aload_n 0, 1) := by decide +kernel
theorem dX9_readProblem_78 : decode cX9_readProblem 78 = .ok (.getfield 200, 3) := by decide +kernel
theorem dX9_readProblem_81 : decode cX9_readProblem 81 = .ok (.ifCond .ne 97, 3) := by decide +kernel
theorem dX9_readProblem_84 : decode cX9_readProblem 84 = .ok (.aload_n 0, 1) := by decide +kernel
theorem dX9_readProblem_85 : decode cX9_readProblem 85 = .ok (.getfield 204, 3) := by decide +kernel
theorem dX9_readProblem_88 : decode cX9_readProblem 88 = .ok (.aload_n 0, 1) := by decide +kernel
theorem dX9_readProblem_89 : decode cX9_readProblem 89 = .ok (.getfield 197, 3) := by decide +kernel
theorem dX9_readProblem_92 : decode cX9_readProblem 92 = .ok (.if_icmp .ge 86, 3) := by decide +kernel
theorem dX9_readProblem_95 : decode cX9_readProblem 95 = .ok (.aload_n 0, 1) := by decide +kernel
theorem dX9_readProblem_96 : decode cX9_readProblem 96 = .ok (.getfield 47, 3) := by decide +kernel
theorem dX9_readProblem_99 : decode cX9_readProblem 99 = .ok (.iconst 1, 1) := by decide +kernel
theorem dX9_readProblem_100 : decode cX9_readProblem 100 = .ok (.iaload, 1) := by decide +kernel
theorem dX9_readProblem_101 : decode cX9_readProblem 101 = .ok (.iconst 4, 1) := by decide +kernel
theorem dX9_readProblem_102 : decode cX9_readProblem 102 = .ok (.if_icmp .ge 76, 3) := by decide +kernel
theorem dX9_readProblem_105 : decode cX9_readProblem 105 = .ok (.aload_n 0, 1) := by decide +kernel
theorem dX9_readProblem_106 : decode cX9_readProblem 106 = .ok (.bipush 59, 2) := by decide +kernel
theorem dX9_readProblem_108 : decode cX9_readProblem 108 = .ok (.bipush 59, 2) := by decide +kernel
theorem dX9_readProblem_110 : decode cX9_readProblem 110 = .ok (.invokevirtual 210, 3) := by decide +kernel
theorem dX9_readProblem_113 : decode cX9_readProblem 113 = .ok (.istore_n 1, 1) := by decide +kernel
theorem dX9_readProblem_114 : decode cX9_readProblem 114 = .ok (.aload_n 0, 1) := by decide +kernel
theorem dX9_readProblem_115 : decode cX9_readProblem 115 = .ok (.bipush 99, 2) := by decide +kernel
theorem dX9_readProblem_117 : decode cX9_readProblem 117 = .ok (.bipush 99, 2) := by decide +kernel
theorem dX9_readProblem_119 : decode cX9_readProblem 119 = .ok (.invokevirtual 210, 3) := by decide +kernel
theorem dX9_readProblem_122 : decode cX9_readProblem 122 = .ok (.istore_n 1, 1) := by decide +kernel
theorem dX9_readProblem_123 : decode cX9_readProblem 123 = .ok (.aload_n 0, 1) := by decide +kernel
theorem dX9_readProblem_124 : decode cX9_readProblem 124 = .ok (.bipush 6, 2) := by decide +kernel
theorem dX9_readProblem_126 : decode cX9_readProblem 126 = .ok (.iconst 4, 1) := by decide +kernel
theorem dX9_readProblem_127 : decode cX9_readProblem 127 = .ok (.aload_n 0, 1) := by decide +kernel
theorem dX9_readProblem_128 : decode cX9_readProblem 128 = .ok (.getfield 47, 3) := by decide +kernel
theorem dX9_readProblem_131 : decode cX9_readProblem 131 = .ok (.iconst 1, 1) := by decide +kernel
theorem dX9_readProblem_132 : decode cX9_readProblem 132 = .ok (.iaload, 1) := by decide +kernel
theorem dX9_readProblem_133 : decode cX9_readProblem 133 = .ok (.imul, 1) := by decide +kernel
theorem dX9_readProblem_134 : decode cX9_readProblem 134 = .ok (.iadd, 1) := by decide +kernel
theorem dX9_readProblem_135 : decode cX9_readProblem 135 = .ok (.invokevirtual 216, 3) := by decide +kernel
theorem dX9_readProblem_138 : decode cX9_readProblem 138 = .ok (.aload_n 0, 1) := by decide +kernel
theorem dX9_readProblem_139 : decode cX9_readProblem 139 = .ok (.bipush 60, 2) := by decide +kernel
theorem dX9_readProblem_141 : decode cX9_readProblem 141 = .ok (.bipush 60, 2) := by decide +kernel
theorem dX9_readProblem_143 : decode cX9_readProblem 143 = .ok (.invokevirtual 210, 3) := by decide +kernel
theorem dX9_readProblem_146 : decode cX9_readProblem 146 = .ok (.istore_n 1, 1) := by decide +kernel
theorem dX9_readProblem_147 : decode cX9_readProblem 147 = .ok (.aload_n 0, 1) := by decide +kernel
theorem dX9_readProblem_148 : decode cX9_readProblem 148 = .ok (.getfield 47, 3) := by decide +kernel
theorem dX9_readProblem_151 : decode cX9_readProblem 151 = .ok (.bipush 22, 2) := by decide +kernel
theorem dX9_readProblem_153 : decode cX9_readProblem 153 = .ok (.aload_n 0, 1) := by decide +kernel
theorem dX9_readProblem_154 : decode cX9_readProblem 154 = .ok (.getfield 47, 3) := by decide +kernel
theorem dX9_readProblem_157 : decode cX9_readProblem 157 = .ok (.iconst 1, 1) := by decide +kernel
theorem dX9_readProblem_158 : decode cX9_readProblem 158 = .ok (.iaload, 1) := by decide +kernel
theorem dX9_readProblem_159 : decode cX9_readProblem 159 = .ok (.iadd, 1) := by decide +kernel
theorem dX9_readProblem_160 : decode cX9_readProblem 160 = .ok (.aload_n 0, 1) := by decide +kernel
theorem dX9_readProblem_161 : decode cX9_readProblem 161 = .ok (.invokevirtual 219, 3) := by decide +kernel
theorem dX9_readProblem_164 : decode cX9_readProblem 164 = .ok (.iastore, 1) := by decide +kernel
theorem dX9_readProblem_165 : decode cX9_readProblem 165 = .ok (.aload_n 0, 1) := by decide +kernel
theorem dX9_readProblem_166 : decode cX9_readProblem 166 = .ok (.getfield 47, 3) := by decide +kernel
theorem dX9_readProblem_169 : decode cX9_readProblem 169 = .ok (.iconst 1, 1) := by decide +kernel
theorem dX9_readProblem_170 : decode cX9_readProblem 170 = .ok (.dup2, 1) := by decide +kernel
theorem dX9_readProblem_171 : decode cX9_readProblem 171 = .ok (.iaload, 1) := by decide +kernel
theorem dX9_readProblem_172 : decode cX9_readProblem 172 = .ok (.iconst 1, 1) := by decide +kernel
theorem dX9_readProblem_173 : decode cX9_readProblem 173 = .ok (.iadd, 1) := by decide +kernel
theorem dX9_readProblem_174 : decode cX9_readProblem 174 = .ok (.iastore, 1) := by decide +kernel
theorem dX9_readProblem_175 : decode cX9_readProblem 175 = .ok (.goto (-98), 3) := by decide +kernel
theorem dX9_readProblem_178 : decode cX9_readProblem 178 = .ok (.aload_n 0, 1) := by decide +kernel
theorem dX9_readProblem_179 : decode cX9_readProblem 179 = .ok (.aload_n 0, 1) := by decide +kernel
theorem dX9_readProblem_180 : decode cX9_readProblem 180 = .ok (.getfield 200, 3) := by decide +kernel
theorem dX9_readProblem_183 : decode cX9_readProblem 183 = .ok (.ifCond .ne 14, 3) := by decide +kernel
theorem dX9_readProblem_186 : decode cX9_readProblem 186 = .ok (.aload_n 0, 1) := by decide +kernel
theorem dX9_readProblem_187 : decode cX9_readProblem 187 = .ok (.getfield 204, 3) := by decide +kernel
theorem dX9_readProblem_190 : decode cX9_readProblem 190 = .ok (.aload_n 0, 1) := by decide +kernel
theorem dX9_readProblem_191 : decode cX9_readProblem 191 = .ok (.getfield 197, 3) := by decide +kernel
theorem dX9_readProblem_194 : decode cX9_readProblem 194 = .ok (.if_icmp .ge 7, 3) := by decide +kernel
theorem dX9_readProblem_197 : decode cX9_readProblem 197 = .ok (.iconst 1, 1) := by decide +kernel
theorem dX9_readProblem_198 : decode cX9_readProblem 198 = .ok (.goto 4, 3) := by decide +kernel
theorem dX9_readProblem_201 : decode cX9_readProblem 201 = .ok (.iconst 0, 1) := by decide +kernel
theorem dX9_readProblem_202 : decode cX9_readProblem 202 = .ok (.putfield 200, 3) := by decide +kernel
theorem dX9_readProblem_205 : decode cX9_readProblem 205 = .ok (.return_, 1) := by decide +kernel
theorem dX9_firstError_0 : decode cX9_firstError 0 = .ok (.aload_n 0, 1) := by decide +kernel
theorem dX9_firstError_1 : decode cX9_firstError 1 = .ok (.iconst 0, 1) := by decide +kernel
theorem dX9_firstError_2 : decode cX9_firstError 2 = .ok (.putfield 53, 3) := by decide +kernel
theorem dX9_firstError_5 : decode cX9_firstError 5 = .ok (.aload_n 0, 1) := by decide +kernel
theorem dX9_firstError_6 : decode cX9_firstError 6 = .ok (.invokevirtual 222, 3) := by decide +kernel
theorem dX9_firstError_9 : decode cX9_firstError 9 = .ok (.aload_n 0, 1) := by decide +kernel
theorem dX9_firstError_10 : decode cX9_firstError 10 = .ok (.getfield 204, 3) := by decide +kernel
theorem dX9_firstError_13 : decode cX9_firstError 13 = .ok (.ireturn, 1) := by decide +kernel
theorem dX9_load_0 : decode cX9_load 0 = .ok (.aload_n 0, 1) := by decide +kernel
theorem dX9_load_1 : decode cX9_load 1 = .ok (.invokevirtual 222, 3) := by decide +kernel
theorem dX9_load_4 : decode cX9_load 4 = .ok (.aload_n 0, 1) := by decide +kernel
theorem dX9_load_5 : decode cX9_load 5 = .ok (.aload_n 0, 1) := by decide +kernel
theorem dX9_load_6 : decode cX9_load 6 = .ok (.getfield 200, 3) := by decide +kernel
theorem dX9_load_9 : decode cX9_load 9 = .ok (.ifCond .eq 7, 3) := by decide +kernel
theorem dX9_load_12 : decode cX9_load 12 = .ok (.iconst 1, 1) := by decide +kernel
theorem dX9_load_13 : decode cX9_load 13 = .ok (.goto 4, 3) := by decide +kernel
theorem dX9_load_16 : decode cX9_load 16 = .ok (.iconst 0, 1) := by decide +kernel
theorem dX9_load_17 : decode cX9_load 17 = .ok (.invokevirtual 160, 3) := by decide +kernel
theorem dX9_load_20 : decode cX9_load 20 = .ok (.ifCond .ne 5, 3) := by decide +kernel
theorem dX9_load_23 : decode cX9_load 23 = .ok (.iconst 0, 1) := by decide +kernel
theorem dX9_load_24 : decode cX9_load 24 = .ok (.ireturn, 1) := by decide +kernel
theorem dX9_load_25 : decode cX9_load 25 = .ok (.aload_n 0, 1) := by decide +kernel
theorem dX9_load_26 : decode cX9_load 26 = .ok (.invokevirtual 163, 3) := by decide +kernel
theorem dX9_load_29 : decode cX9_load 29 = .ok (.iconst 0, 1) := by decide +kernel
theorem dX9_load_30 : decode cX9_load 30 = .ok (.istore_n 1, 1) := by decide +kernel
theorem dX9_load_31 : decode cX9_load 31 = .ok (.iload_n 1, 1) := by decide +kernel
theorem dX9_load_32 : decode cX9_load 32 = .ok (.bipush 26, 2) := by decide +kernel
theorem dX9_load_34 : decode cX9_load 34 = .ok (.if_icmp .ge 21, 3) := by decide +kernel
theorem dX9_load_37 : decode cX9_load 37 = .ok (.aload_n 0, 1) := by decide +kernel
theorem dX9_load_38 : decode cX9_load 38 = .ok (.getfield 7, 3) := by decide +kernel
theorem dX9_load_41 : decode cX9_load 41 = .ok (.iload_n 1, 1) := by decide +kernel
theorem dX9_load_42 : decode cX9_load 42 = .ok (.aload_n 0, 1) := by decide +kernel
theorem dX9_load_43 : decode cX9_load 43 = .ok (.getfield 47, 3) := by decide +kernel
theorem dX9_load_46 : decode cX9_load 46 = .ok (.iload_n 1, 1) := by decide +kernel
theorem dX9_load_47 : decode cX9_load 47 = .ok (.iaload, 1) := by decide +kernel
theorem dX9_load_48 : decode cX9_load 48 = .ok (.iastore, 1) := by decide +kernel
theorem dX9_load_49 : decode cX9_load 49 = .ok (.iinc 1 1, 3) := by decide +kernel
theorem dX9_load_52 : decode cX9_load 52 = .ok (.goto (-21), 3) := by decide +kernel
theorem dX9_load_55 : decode cX9_load 55 = .ok (.aload_n 0, 1) := by decide +kernel
theorem dX9_load_56 : decode cX9_load 56 = .ok (.invokevirtual 166, 3) := by decide +kernel
theorem dX9_load_59 : decode cX9_load 59 = .ok (.aload_n 0, 1) := by decide +kernel
theorem dX9_load_60 : decode cX9_load 60 = .ok (.iconst 0, 1) := by decide +kernel
theorem dX9_load_61 : decode cX9_load 61 = .ok (.putfield 197, 3) := by decide +kernel
theorem dX9_load_64 : decode cX9_load 64 = .ok (.aload_n 0, 1) := by decide +kernel
theorem dX9_load_65 : decode cX9_load 65 = .ok (.getfield 7, 3) := by decide +kernel
theorem dX9_load_68 : decode cX9_load 68 = .ok (.iconst 1, 1) := by decide +kernel
theorem dX9_load_69 : decode cX9_load 69 = .ok (.iaload, 1) := by decide +kernel
theorem dX9_load_70 : decode cX9_load 70 = .ok (.ireturn, 1) := by decide +kernel
theorem dX9_writes_0 : decode cX9_writes 0 = .ok (.aload_n 0, 1) := by decide +kernel
theorem dX9_writes_1 : decode cX9_writes 1 = .ok (.getfield 50, 3) := by decide +kernel
theorem dX9_writes_4 : decode cX9_writes 4 = .ok (.aload_n 0, 1) := by decide +kernel
theorem dX9_writes_5 : decode cX9_writes 5 = .ok (.getfield 225, 3) := by decide +kernel
theorem dX9_writes_8 : decode cX9_writes 8 = .ok (.iload_n 1, 1) := by decide +kernel
theorem dX9_writes_9 : decode cX9_writes 9 = .ok (.iastore, 1) := by decide +kernel
theorem dX9_writes_10 : decode cX9_writes 10 = .ok (.aload_n 0, 1) := by decide +kernel
theorem dX9_writes_11 : decode cX9_writes 11 = .ok (.dup, 1) := by decide +kernel
theorem dX9_writes_12 : decode cX9_writes 12 = .ok (.getfield 225, 3) := by decide +kernel
theorem dX9_writes_15 : decode cX9_writes 15 = .ok (.iconst 1, 1) := by decide +kernel
theorem dX9_writes_16 : decode cX9_writes 16 = .ok (.iadd, 1) := by decide +kernel
theorem dX9_writes_17 : decode cX9_writes 17 = .ok (.putfield 225, 3) := by decide +kernel
theorem dX9_writes_20 : decode cX9_writes 20 = .ok (.return_, 1) := by decide +kernel
theorem dX9_writesFactors_0 : decode cX9_writesFactors 0 = .ok (.iconst 0, 1) := by decide +kernel
theorem dX9_writesFactors_1 : decode cX9_writesFactors 1 = .ok (.istore_n 2, 1) := by decide +kernel
theorem dX9_writesFactors_2 : decode cX9_writesFactors 2 = .ok (.iload_n 2, 1) := by decide +kernel
theorem dX9_writesFactors_3 : decode cX9_writesFactors 3 = .ok (.aload_n 0, 1) := by decide +kernel
theorem dX9_writesFactors_4 : decode cX9_writesFactors 4 = .ok (.getfield 7, 3) := by decide +kernel
theorem dX9_writesFactors_7 : decode cX9_writesFactors 7 = .ok (.iconst 0, 1) := by decide +kernel
theorem dX9_writesFactors_8 : decode cX9_writesFactors 8 = .ok (.iaload, 1) := by decide +kernel
theorem dX9_writesFactors_9 : decode cX9_writesFactors 9 = .ok (.if_icmp .ge 55, 3) := by decide +kernel
theorem dX9_writesFactors_12 : decode cX9_writesFactors 12 = .ok (.iload_n 2, 1) := by decide +kernel
theorem dX9_writesFactors_13 : decode cX9_writesFactors 13 = .ok (.ifCond .le 9, 3) := by decide +kernel
theorem dX9_writesFactors_16 : decode cX9_writesFactors 16 = .ok (.aload_n 0, 1) := by decide +kernel
theorem dX9_writesFactors_17 : decode cX9_writesFactors 17 = .ok (.bipush 44, 2) := by decide +kernel
theorem dX9_writesFactors_19 : decode cX9_writesFactors 19 = .ok (.invokevirtual 228, 3) := by decide +kernel
theorem dX9_writesFactors_22 : decode cX9_writesFactors 22 = .ok (.aload_n 0, 1) := by decide +kernel
theorem dX9_writesFactors_23 : decode cX9_writesFactors 23 = .ok (.getfield 7, 3) := by decide +kernel
theorem dX9_writesFactors_26 : decode cX9_writesFactors 26 = .ok (.iload_n 1, 1) := by decide +kernel
theorem dX9_writesFactors_27 : decode cX9_writesFactors 27 = .ok (.iload_n 2, 1) := by decide +kernel
theorem dX9_writesFactors_28 : decode cX9_writesFactors 28 = .ok (.iadd, 1) := by decide +kernel
theorem dX9_writesFactors_29 : decode cX9_writesFactors 29 = .ok (.iaload, 1) := by decide +kernel
theorem dX9_writesFactors_30 : decode cX9_writesFactors 30 = .ok (.istore_n 3, 1) := by decide +kernel
theorem dX9_writesFactors_31 : decode cX9_writesFactors 31 = .ok (.iload_n 3, 1) := by decide +kernel
theorem dX9_writesFactors_32 : decode cX9_writesFactors 32 = .ok (.ifCond .ge 9, 3) := by decide +kernel
theorem dX9_writesFactors_35 : decode cX9_writesFactors 35 = .ok (.aload_n 0, 1) := by decide +kernel
theorem dX9_writesFactors_36 : decode cX9_writesFactors 36 = .ok (.bipush 45, 2) := by decide +kernel
theorem dX9_writesFactors_38 : decode cX9_writesFactors 38 = .ok (.invokevirtual 228, 3) := by decide +kernel
theorem dX9_writesFactors_41 : decode cX9_writesFactors 41 = .ok (.aload_n 0, 1) := by decide +kernel
theorem dX9_writesFactors_42 : decode cX9_writesFactors 42 = .ok (.bipush 48, 2) := by decide +kernel
theorem dX9_writesFactors_44 : decode cX9_writesFactors 44 = .ok (.iload_n 3, 1) := by decide +kernel
theorem dX9_writesFactors_45 : decode cX9_writesFactors 45 = .ok (.ifCond .ge 8, 3) := by decide +kernel
theorem dX9_writesFactors_48 : decode cX9_writesFactors 48 = .ok (.iload_n 3, 1) := by decide +kernel
theorem dX9_writesFactors_49 : decode cX9_writesFactors 49 = .ok (.ineg, 1) := by decide +kernel
theorem dX9_writesFactors_50 : decode cX9_writesFactors 50 = .ok (.goto 4, 3) := by decide +kernel
theorem dX9_writesFactors_53 : decode cX9_writesFactors 53 = .ok (.iload_n 3, 1) := by decide +kernel
theorem dX9_writesFactors_54 : decode cX9_writesFactors 54 = .ok (.iadd, 1) := by decide +kernel
theorem dX9_writesFactors_55 : decode cX9_writesFactors 55 = .ok (.invokevirtual 228, 3) := by decide +kernel
theorem dX9_writesFactors_58 : decode cX9_writesFactors 58 = .ok (.iinc 2 1, 3) := by decide +kernel
theorem dX9_writesFactors_61 : decode cX9_writesFactors 61 = .ok (.goto (-59), 3) := by decide +kernel
theorem dX9_writesFactors_64 : decode cX9_writesFactors 64 = .ok (.return_, 1) := by decide +kernel
theorem dX9_writesProblem_0 : decode cX9_writesProblem 0 = .ok (.aload_n 0, 1) := by decide +kernel
theorem dX9_writesProblem_1 : decode cX9_writesProblem 1 = .ok (.iconst 0, 1) := by decide +kernel
theorem dX9_writesProblem_2 : decode cX9_writesProblem 2 = .ok (.putfield 225, 3) := by decide +kernel
theorem dX9_writesProblem_5 : decode cX9_writesProblem 5 = .ok (.aload_n 0, 1) := by decide +kernel
theorem dX9_writesProblem_6 : decode cX9_writesProblem 6 = .ok (.bipush 118, 2) := by decide +kernel
theorem dX9_writesProblem_8 : decode cX9_writesProblem 8 = .ok (.invokevirtual 228, 3) := by decide +kernel
theorem dX9_writesProblem_11 : decode cX9_writesProblem 11 = .ok (.aload_n 0, 1) := by decide +kernel
theorem dX9_writesProblem_12 : decode cX9_writesProblem 12 = .ok (.bipush 48, 2) := by decide +kernel
theorem dX9_writesProblem_14 : decode cX9_writesProblem 14 = .ok (.aload_n 0, 1) := by decide +kernel
theorem dX9_writesProblem_15 : decode cX9_writesProblem 15 = .ok (.getfield 7, 3) := by decide +kernel
theorem dX9_writesProblem_18 : decode cX9_writesProblem 18 = .ok (.iconst 0, 1) := by decide +kernel
theorem dX9_writesProblem_19 : decode cX9_writesProblem 19 = .ok (.iaload, 1) := by decide +kernel
theorem dX9_writesProblem_20 : decode cX9_writesProblem 20 = .ok (.iadd, 1) := by decide +kernel
theorem dX9_writesProblem_21 : decode cX9_writesProblem 21 = .ok (.invokevirtual 228, 3) := by decide +kernel
theorem dX9_writesProblem_24 : decode cX9_writesProblem 24 = .ok (.aload_n 0, 1) := by decide +kernel
theorem dX9_writesProblem_25 : decode cX9_writesProblem 25 = .ok (.bipush 59, 2) := by decide +kernel
theorem dX9_writesProblem_27 : decode cX9_writesProblem 27 = .ok (.invokevirtual 228, 3) := by decide +kernel
theorem dX9_writesProblem_30 : decode cX9_writesProblem 30 = .ok (.aload_n 0, 1) := by decide +kernel
theorem dX9_writesProblem_31 : decode cX9_writesProblem 31 = .ok (.bipush 109, 2) := by decide +kernel
theorem dX9_writesProblem_33 : decode cX9_writesProblem 33 = .ok (.invokevirtual 228, 3) := by decide +kernel
theorem dX9_writesProblem_36 : decode cX9_writesProblem 36 = .ok (.aload_n 0, 1) := by decide +kernel
theorem dX9_writesProblem_37 : decode cX9_writesProblem 37 = .ok (.iconst 2, 1) := by decide +kernel
theorem dX9_writesProblem_38 : decode cX9_writesProblem 38 = .ok (.invokevirtual 231, 3) := by decide +kernel
theorem dX9_writesProblem_41 : decode cX9_writesProblem 41 = .ok (.iconst 0, 1) := by decide +kernel
theorem dX9_writesProblem_42 : decode cX9_writesProblem 42 = .ok (.istore_n 1, 1) := by decide +kernel
theorem dX9_writesProblem_43 : decode cX9_writesProblem 43 = .ok (.iload_n 1, 1) := by decide +kernel
theorem dX9_writesProblem_44 : decode cX9_writesProblem 44 = .ok (.aload_n 0, 1) := by decide +kernel
theorem dX9_writesProblem_45 : decode cX9_writesProblem 45 = .ok (.getfield 7, 3) := by decide +kernel
theorem dX9_writesProblem_48 : decode cX9_writesProblem 48 = .ok (.iconst 1, 1) := by decide +kernel
theorem dX9_writesProblem_49 : decode cX9_writesProblem 49 = .ok (.iaload, 1) := by decide +kernel
theorem dX9_writesProblem_50 : decode cX9_writesProblem 50 = .ok (.if_icmp .ge 89, 3) := by decide +kernel
theorem dX9_writesProblem_53 : decode cX9_writesProblem 53 = .ok (.aload_n 0, 1) := by decide +kernel
theorem dX9_writesProblem_54 : decode cX9_writesProblem 54 = .ok (.bipush 59, 2) := by decide +kernel
theorem dX9_writesProblem_56 : decode cX9_writesProblem 56 = .ok (.invokevirtual 228, 3) := by decide +kernel
theorem dX9_writesProblem_59 : decode cX9_writesProblem 59 = .ok (.aload_n 0, 1) := by decide +kernel
theorem dX9_writesProblem_60 : decode cX9_writesProblem 60 = .ok (.bipush 99, 2) := by decide +kernel
theorem dX9_writesProblem_62 : decode cX9_writesProblem 62 = .ok (.invokevirtual 228, 3) := by decide +kernel
theorem dX9_writesProblem_65 : decode cX9_writesProblem 65 = .ok (.aload_n 0, 1) := by decide +kernel
theorem dX9_writesProblem_66 : decode cX9_writesProblem 66 = .ok (.bipush 6, 2) := by decide +kernel
theorem dX9_writesProblem_68 : decode cX9_writesProblem 68 = .ok (.iconst 4, 1) := by decide +kernel
theorem dX9_writesProblem_69 : decode cX9_writesProblem 69 = .ok (.iload_n 1, 1) := by decide +kernel
theorem dX9_writesProblem_70 : decode cX9_writesProblem 70 = .ok (.imul, 1) := by decide +kernel
theorem dX9_writesProblem_71 : decode cX9_writesProblem 71 = .ok (.iadd, 1) := by decide +kernel
theorem dX9_writesProblem_72 : decode cX9_writesProblem 72 = .ok (.invokevirtual 231, 3) := by decide +kernel
theorem dX9_writesProblem_75 : decode cX9_writesProblem 75 = .ok (.aload_n 0, 1) := by decide +kernel
theorem dX9_writesProblem_76 : decode cX9_writesProblem 76 = .ok (.bipush 60, 2) := by decide +kernel
theorem dX9_writesProblem_78 : decode cX9_writesProblem 78 = .ok (.invokevirtual 228, 3) := by decide +kernel
theorem dX9_writesProblem_81 : decode cX9_writesProblem 81 = .ok (.aload_n 0, 1) := by decide +kernel
theorem dX9_writesProblem_82 : decode cX9_writesProblem 82 = .ok (.getfield 7, 3) := by decide +kernel
theorem dX9_writesProblem_85 : decode cX9_writesProblem 85 = .ok (.bipush 22, 2) := by decide +kernel
theorem dX9_writesProblem_87 : decode cX9_writesProblem 87 = .ok (.iload_n 1, 1) := by decide +kernel
theorem dX9_writesProblem_88 : decode cX9_writesProblem 88 = .ok (.iadd, 1) := by decide +kernel
theorem dX9_writesProblem_89 : decode cX9_writesProblem 89 = .ok (.iaload, 1) := by decide +kernel
theorem dX9_writesProblem_90 : decode cX9_writesProblem 90 = .ok (.bipush 9, 2) := by decide +kernel
theorem dX9_writesProblem_92 : decode cX9_writesProblem 92 = .ok (.if_icmp .le 22, 3) := by decide +kernel
theorem dX9_writesProblem_95 : decode cX9_writesProblem 95 = .ok (.aload_n 0, 1) := by decide +kernel
theorem dX9_writesProblem_96 : decode cX9_writesProblem 96 = .ok (.bipush 48, 2) := by decide +kernel
theorem dX9_writesProblem_98 : decode cX9_writesProblem 98 = .ok (.aload_n 0, 1) := by decide +kernel
theorem dX9_writesProblem_99 : decode cX9_writesProblem 99 = .ok (.getfield 7, 3) := by decide +kernel
theorem dX9_writesProblem_102 : decode cX9_writesProblem 102 = .ok (.bipush 22, 2) := by decide +kernel
theorem dX9_writesProblem_104 : decode cX9_writesProblem 104 = .ok (.iload_n 1, 1) := by decide +kernel
theorem dX9_writesProblem_105 : decode cX9_writesProblem 105 = .ok (.iadd, 1) := by decide +kernel
theorem dX9_writesProblem_106 : decode cX9_writesProblem 106 = .ok (.iaload, 1) := by decide +kernel
theorem dX9_writesProblem_107 : decode cX9_writesProblem 107 = .ok (.bipush 10, 2) := by decide +kernel
theorem dX9_writesProblem_109 : decode cX9_writesProblem 109 = .ok (.idiv, 1) := by decide +kernel
theorem dX9_writesProblem_110 : decode cX9_writesProblem 110 = .ok (.iadd, 1) := by decide +kernel
theorem dX9_writesProblem_111 : decode cX9_writesProblem 111 = .ok (.invokevirtual 228, 3) := by decide +kernel
theorem dX9_writesProblem_114 : decode cX9_writesProblem 114 = .ok (.aload_n 0, 1) := by decide +kernel
theorem dX9_writesProblem_115 : decode cX9_writesProblem 115 = .ok (.bipush 48, 2) := by decide +kernel
theorem dX9_writesProblem_117 : decode cX9_writesProblem 117 = .ok (.aload_n 0, 1) := by decide +kernel
theorem dX9_writesProblem_118 : decode cX9_writesProblem 118 = .ok (.getfield 7, 3) := by decide +kernel
theorem dX9_writesProblem_121 : decode cX9_writesProblem 121 = .ok (.bipush 22, 2) := by decide +kernel
theorem dX9_writesProblem_123 : decode cX9_writesProblem 123 = .ok (.iload_n 1, 1) := by decide +kernel
theorem dX9_writesProblem_124 : decode cX9_writesProblem 124 = .ok (.iadd, 1) := by decide +kernel
theorem dX9_writesProblem_125 : decode cX9_writesProblem 125 = .ok (.iaload, 1) := by decide +kernel
theorem dX9_writesProblem_126 : decode cX9_writesProblem 126 = .ok (.bipush 10, 2) := by decide +kernel
theorem dX9_writesProblem_128 : decode cX9_writesProblem 128 = .ok (.irem, 1) := by decide +kernel
theorem dX9_writesProblem_129 : decode cX9_writesProblem 129 = .ok (.iadd, 1) := by decide +kernel
theorem dX9_writesProblem_130 : decode cX9_writesProblem 130 = .ok (.invokevirtual 228, 3) := by decide +kernel
theorem dX9_writesProblem_133 : decode cX9_writesProblem 133 = .ok (.iinc 1 1, 3) := by decide +kernel
theorem dX9_writesProblem_136 : decode cX9_writesProblem 136 = .ok (.goto (-93), 3) := by decide +kernel
theorem dX9_writesProblem_139 : decode cX9_writesProblem 139 = .ok (.return_, 1) := by decide +kernel
theorem dX9_write_0 : decode cX9_write 0 = .ok (.aload_n 0, 1) := by decide +kernel
theorem dX9_write_1 : decode cX9_write 1 = .ok (.invokevirtual 234, 3) := by decide +kernel
theorem dX9_write_4 : decode cX9_write 4 = .ok (.aload_n 0, 1) := by decide +kernel
theorem dX9_write_5 : decode cX9_write 5 = .ok (.aload_n 0, 1) := by decide +kernel
theorem dX9_write_6 : decode cX9_write 6 = .ok (.getfield 225, 3) := by decide +kernel
theorem dX9_write_9 : decode cX9_write 9 = .ok (.bipush 60, 2) := by decide +kernel
theorem dX9_write_11 : decode cX9_write 11 = .ok (.if_icmp .le 7, 3) := by decide +kernel
theorem dX9_write_14 : decode cX9_write 14 = .ok (.iconst 1, 1) := by decide +kernel
theorem dX9_write_15 : decode cX9_write 15 = .ok (.goto 4, 3) := by decide +kernel
theorem dX9_write_18 : decode cX9_write 18 = .ok (.iconst 0, 1) := by decide +kernel
theorem dX9_write_19 : decode cX9_write 19 = .ok (.invokevirtual 160, 3) := by decide +kernel
theorem dX9_write_22 : decode cX9_write 22 = .ok (.ifCond .ne 5, 3) := by decide +kernel
theorem dX9_write_25 : decode cX9_write 25 = .ok (.iconst 0, 1) := by decide +kernel
theorem dX9_write_26 : decode cX9_write 26 = .ok (.ireturn, 1) := by decide +kernel
theorem dX9_write_27 : decode cX9_write 27 = .ok (.iconst 0, 1) := by decide +kernel
theorem dX9_write_28 : decode cX9_write 28 = .ok (.istore_n 1, 1) := by decide +kernel
theorem dX9_write_29 : decode cX9_write 29 = .ok (.iload_n 1, 1) := by decide +kernel
theorem dX9_write_30 : decode cX9_write 30 = .ok (.aload_n 0, 1) := by decide +kernel
theorem dX9_write_31 : decode cX9_write 31 = .ok (.getfield 225, 3) := by decide +kernel
theorem dX9_write_34 : decode cX9_write 34 = .ok (.if_icmp .ge 21, 3) := by decide +kernel
theorem dX9_write_37 : decode cX9_write 37 = .ok (.aload_n 0, 1) := by decide +kernel
theorem dX9_write_38 : decode cX9_write 38 = .ok (.getfield 22, 3) := by decide +kernel
theorem dX9_write_41 : decode cX9_write 41 = .ok (.iload_n 1, 1) := by decide +kernel
theorem dX9_write_42 : decode cX9_write 42 = .ok (.aload_n 0, 1) := by decide +kernel
theorem dX9_write_43 : decode cX9_write 43 = .ok (.getfield 50, 3) := by decide +kernel
theorem dX9_write_46 : decode cX9_write 46 = .ok (.iload_n 1, 1) := by decide +kernel
theorem dX9_write_47 : decode cX9_write 47 = .ok (.iaload, 1) := by decide +kernel
theorem dX9_write_48 : decode cX9_write 48 = .ok (.iastore, 1) := by decide +kernel
theorem dX9_write_49 : decode cX9_write 49 = .ok (.iinc 1 1, 3) := by decide +kernel
theorem dX9_write_52 : decode cX9_write 52 = .ok (.goto (-23), 3) := by decide +kernel
theorem dX9_write_55 : decode cX9_write 55 = .ok (.aload_n 0, 1) := by decide +kernel
theorem dX9_write_56 : decode cX9_write 56 = .ok (.aload_n 0, 1) := by decide +kernel
theorem dX9_write_57 : decode cX9_write 57 = .ok (.getfield 225, 3) := by decide +kernel
theorem dX9_write_60 : decode cX9_write 60 = .ok (.putfield 197, 3) := by decide +kernel
theorem dX9_write_63 : decode cX9_write 63 = .ok (.aload_n 0, 1) := by decide +kernel
theorem dX9_write_64 : decode cX9_write 64 = .ok (.getfield 197, 3) := by decide +kernel
theorem dX9_write_67 : decode cX9_write 67 = .ok (.ireturn, 1) := by decide +kernel
theorem dX9_undo_0 : decode cX9_undo 0 = .ok (.aload_n 0, 1) := by decide +kernel
theorem dX9_undo_1 : decode cX9_undo 1 = .ok (.aload_n 0, 1) := by decide +kernel
theorem dX9_undo_2 : decode cX9_undo 2 = .ok (.getfield 65, 3) := by decide +kernel
theorem dX9_undo_5 : decode cX9_undo 5 = .ok (.ifCond .le 7, 3) := by decide +kernel
theorem dX9_undo_8 : decode cX9_undo 8 = .ok (.iconst 0, 1) := by decide +kernel
theorem dX9_undo_9 : decode cX9_undo 9 = .ok (.goto 4, 3) := by decide +kernel
theorem dX9_undo_12 : decode cX9_undo 12 = .ok (.iconst 1, 1) := by decide +kernel
theorem dX9_undo_13 : decode cX9_undo 13 = .ok (.invokevirtual 160, 3) := by decide +kernel
theorem dX9_undo_16 : decode cX9_undo 16 = .ok (.ifCond .ne 5, 3) := by decide +kernel
theorem dX9_undo_19 : decode cX9_undo 19 = .ok (.iconst 0, 1) := by decide +kernel
theorem dX9_undo_20 : decode cX9_undo 20 = .ok (.ireturn, 1) := by decide +kernel
theorem dX9_undo_21 : decode cX9_undo 21 = .ok (.aload_n 0, 1) := by decide +kernel
theorem dX9_undo_22 : decode cX9_undo 22 = .ok (.dup, 1) := by decide +kernel
theorem dX9_undo_23 : decode cX9_undo 23 = .ok (.getfield 65, 3) := by decide +kernel
theorem dX9_undo_26 : decode cX9_undo 26 = .ok (.iconst 1, 1) := by decide +kernel
theorem dX9_undo_27 : decode cX9_undo 27 = .ok (.isub, 1) := by decide +kernel
theorem dX9_undo_28 : decode cX9_undo 28 = .ok (.putfield 65, 3) := by decide +kernel
theorem dX9_undo_31 : decode cX9_undo 31 = .ok (.iconst 0, 1) := by decide +kernel
theorem dX9_undo_32 : decode cX9_undo 32 = .ok (.istore_n 1, 1) := by decide +kernel
theorem dX9_undo_33 : decode cX9_undo 33 = .ok (.iload_n 1, 1) := by decide +kernel
theorem dX9_undo_34 : decode cX9_undo 34 = .ok (.bipush 34, 2) := by decide +kernel
theorem dX9_undo_36 : decode cX9_undo 36 = .ok (.if_icmp .ge 29, 3) := by decide +kernel
theorem dX9_undo_39 : decode cX9_undo 39 = .ok (.aload_n 0, 1) := by decide +kernel
theorem dX9_undo_40 : decode cX9_undo 40 = .ok (.getfield 7, 3) := by decide +kernel
theorem dX9_undo_43 : decode cX9_undo 43 = .ok (.iload_n 1, 1) := by decide +kernel
theorem dX9_undo_44 : decode cX9_undo 44 = .ok (.aload_n 0, 1) := by decide +kernel
theorem dX9_undo_45 : decode cX9_undo 45 = .ok (.getfield 16, 3) := by decide +kernel
theorem dX9_undo_48 : decode cX9_undo 48 = .ok (.bipush 34, 2) := by decide +kernel
theorem dX9_undo_50 : decode cX9_undo 50 = .ok (.aload_n 0, 1) := by decide +kernel
theorem dX9_undo_51 : decode cX9_undo 51 = .ok (.getfield 65, 3) := by decide +kernel
theorem dX9_undo_54 : decode cX9_undo 54 = .ok (.imul, 1) := by decide +kernel
theorem dX9_undo_55 : decode cX9_undo 55 = .ok (.iload_n 1, 1) := by decide +kernel
theorem dX9_undo_56 : decode cX9_undo 56 = .ok (.iadd, 1) := by decide +kernel
theorem dX9_undo_57 : decode cX9_undo 57 = .ok (.iaload, 1) := by decide +kernel
theorem dX9_undo_58 : decode cX9_undo 58 = .ok (.iastore, 1) := by decide +kernel
theorem dX9_undo_59 : decode cX9_undo 59 = .ok (.iinc 1 1, 3) := by decide +kernel
theorem dX9_undo_62 : decode cX9_undo 62 = .ok (.goto (-29), 3) := by decide +kernel
theorem dX9_undo_65 : decode cX9_undo 65 = .ok (.aload_n 0, 1) := by decide +kernel
theorem dX9_undo_66 : decode cX9_undo 66 = .ok (.getfield 65, 3) := by decide +kernel
theorem dX9_undo_69 : decode cX9_undo 69 = .ok (.ireturn, 1) := by decide +kernel
theorem dX9_keep_0 : decode cX9_keep 0 = .ok (.aload_n 0, 1) := by decide +kernel
theorem dX9_keep_1 : decode cX9_keep 1 = .ok (.iconst 0, 1) := by decide +kernel
theorem dX9_keep_2 : decode cX9_keep 2 = .ok (.putfield 53, 3) := by decide +kernel
theorem dX9_keep_5 : decode cX9_keep 5 = .ok (.iconst 0, 1) := by decide +kernel
theorem dX9_keep_6 : decode cX9_keep 6 = .ok (.istore_n 1, 1) := by decide +kernel
theorem dX9_keep_7 : decode cX9_keep 7 = .ok (.iload_n 1, 1) := by decide +kernel
theorem dX9_keep_8 : decode cX9_keep 8 = .ok (.bipush 34, 2) := by decide +kernel
theorem dX9_keep_10 : decode cX9_keep 10 = .ok (.if_icmp .ge 21, 3) := by decide +kernel
theorem dX9_keep_13 : decode cX9_keep 13 = .ok (.aload_n 0, 1) := by decide +kernel
theorem dX9_keep_14 : decode cX9_keep 14 = .ok (.getfield 19, 3) := by decide +kernel
theorem dX9_keep_17 : decode cX9_keep 17 = .ok (.iload_n 1, 1) := by decide +kernel
theorem dX9_keep_18 : decode cX9_keep 18 = .ok (.aload_n 0, 1) := by decide +kernel
theorem dX9_keep_19 : decode cX9_keep 19 = .ok (.getfield 7, 3) := by decide +kernel
theorem dX9_keep_22 : decode cX9_keep 22 = .ok (.iload_n 1, 1) := by decide +kernel
theorem dX9_keep_23 : decode cX9_keep 23 = .ok (.iaload, 1) := by decide +kernel
theorem dX9_keep_24 : decode cX9_keep 24 = .ok (.iastore, 1) := by decide +kernel
theorem dX9_keep_25 : decode cX9_keep 25 = .ok (.iinc 1 1, 3) := by decide +kernel
theorem dX9_keep_28 : decode cX9_keep 28 = .ok (.goto (-21), 3) := by decide +kernel
theorem dX9_keep_31 : decode cX9_keep 31 = .ok (.aload_n 0, 1) := by decide +kernel
theorem dX9_keep_32 : decode cX9_keep 32 = .ok (.iconst 1, 1) := by decide +kernel
theorem dX9_keep_33 : decode cX9_keep 33 = .ok (.putfield 237, 3) := by decide +kernel
theorem dX9_keep_36 : decode cX9_keep 36 = .ok (.aload_n 0, 1) := by decide +kernel
theorem dX9_keep_37 : decode cX9_keep 37 = .ok (.getfield 7, 3) := by decide +kernel
theorem dX9_keep_40 : decode cX9_keep 40 = .ok (.bipush 32, 2) := by decide +kernel
theorem dX9_keep_42 : decode cX9_keep 42 = .ok (.iaload, 1) := by decide +kernel
theorem dX9_keep_43 : decode cX9_keep 43 = .ok (.ireturn, 1) := by decide +kernel
theorem dX9_restore_0 : decode cX9_restore 0 = .ok (.aload_n 0, 1) := by decide +kernel
theorem dX9_restore_1 : decode cX9_restore 1 = .ok (.aload_n 0, 1) := by decide +kernel
theorem dX9_restore_2 : decode cX9_restore 2 = .ok (.getfield 237, 3) := by decide +kernel
theorem dX9_restore_5 : decode cX9_restore 5 = .ok (.ifCond .eq 7, 3) := by decide +kernel
theorem dX9_restore_8 : decode cX9_restore 8 = .ok (.iconst 0, 1) := by decide +kernel
theorem dX9_restore_9 : decode cX9_restore 9 = .ok (.goto 4, 3) := by decide +kernel
theorem dX9_restore_12 : decode cX9_restore 12 = .ok (.iconst 1, 1) := by decide +kernel
theorem dX9_restore_13 : decode cX9_restore 13 = .ok (.invokevirtual 160, 3) := by decide +kernel
theorem dX9_restore_16 : decode cX9_restore 16 = .ok (.ifCond .ne 5, 3) := by decide +kernel
theorem dX9_restore_19 : decode cX9_restore 19 = .ok (.iconst 0, 1) := by decide +kernel
theorem dX9_restore_20 : decode cX9_restore 20 = .ok (.ireturn, 1) := by decide +kernel
theorem dX9_restore_21 : decode cX9_restore 21 = .ok (.aload_n 0, 1) := by decide +kernel
theorem dX9_restore_22 : decode cX9_restore 22 = .ok (.invokevirtual 163, 3) := by decide +kernel
theorem dX9_restore_25 : decode cX9_restore 25 = .ok (.iconst 0, 1) := by decide +kernel
theorem dX9_restore_26 : decode cX9_restore 26 = .ok (.istore_n 1, 1) := by decide +kernel
theorem dX9_restore_27 : decode cX9_restore 27 = .ok (.iload_n 1, 1) := by decide +kernel
theorem dX9_restore_28 : decode cX9_restore 28 = .ok (.bipush 34, 2) := by decide +kernel
theorem dX9_restore_30 : decode cX9_restore 30 = .ok (.if_icmp .ge 21, 3) := by decide +kernel
theorem dX9_restore_33 : decode cX9_restore 33 = .ok (.aload_n 0, 1) := by decide +kernel
theorem dX9_restore_34 : decode cX9_restore 34 = .ok (.getfield 7, 3) := by decide +kernel
theorem dX9_restore_37 : decode cX9_restore 37 = .ok (.iload_n 1, 1) := by decide +kernel
theorem dX9_restore_38 : decode cX9_restore 38 = .ok (.aload_n 0, 1) := by decide +kernel
theorem dX9_restore_39 : decode cX9_restore 39 = .ok (.getfield 19, 3) := by decide +kernel
theorem dX9_restore_42 : decode cX9_restore 42 = .ok (.iload_n 1, 1) := by decide +kernel
theorem dX9_restore_43 : decode cX9_restore 43 = .ok (.iaload, 1) := by decide +kernel
theorem dX9_restore_44 : decode cX9_restore 44 = .ok (.iastore, 1) := by decide +kernel
theorem dX9_restore_45 : decode cX9_restore 45 = .ok (.iinc 1 1, 3) := by decide +kernel
theorem dX9_restore_48 : decode cX9_restore 48 = .ok (.goto (-21), 3) := by decide +kernel
theorem dX9_restore_51 : decode cX9_restore 51 = .ok (.aload_n 0, 1) := by decide +kernel
theorem dX9_restore_52 : decode cX9_restore 52 = .ok (.getfield 7, 3) := by decide +kernel
theorem dX9_restore_55 : decode cX9_restore 55 = .ok (.bipush 32, 2) := by decide +kernel
theorem dX9_restore_57 : decode cX9_restore 57 = .ok (.iaload, 1) := by decide +kernel
theorem dX9_restore_58 : decode cX9_restore 58 = .ok (.ireturn, 1) := by decide +kernel
theorem dX9_savedStates_0 : decode cX9_savedStates 0 = .ok (.aload_n 0, 1) := by decide +kernel
theorem dX9_savedStates_1 : decode cX9_savedStates 1 = .ok (.iconst 0, 1) := by decide +kernel
theorem dX9_savedStates_2 : decode cX9_savedStates 2 = .ok (.putfield 53, 3) := by decide +kernel
theorem dX9_savedStates_5 : decode cX9_savedStates 5 = .ok (.aload_n 0, 1) := by decide +kernel
theorem dX9_savedStates_6 : decode cX9_savedStates 6 = .ok (.getfield 65, 3) := by decide +kernel
theorem dX9_savedStates_9 : decode cX9_savedStates 9 = .ok (.ireturn, 1) := by decide +kernel
theorem dX9_variables_0 : decode cX9_variables 0 = .ok (.aload_n 0, 1) := by decide +kernel
theorem dX9_variables_1 : decode cX9_variables 1 = .ok (.iconst 0, 1) := by decide +kernel
theorem dX9_variables_2 : decode cX9_variables 2 = .ok (.putfield 53, 3) := by decide +kernel
theorem dX9_variables_5 : decode cX9_variables 5 = .ok (.aload_n 0, 1) := by decide +kernel
theorem dX9_variables_6 : decode cX9_variables 6 = .ok (.getfield 7, 3) := by decide +kernel
theorem dX9_variables_9 : decode cX9_variables 9 = .ok (.iconst 0, 1) := by decide +kernel
theorem dX9_variables_10 : decode cX9_variables 10 = .ok (.iaload, 1) := by decide +kernel
theorem dX9_variables_11 : decode cX9_variables 11 = .ok (.ireturn, 1) := by decide +kernel
theorem dX9_constraints_0 : decode cX9_constraints 0 = .ok (.aload_n 0, 1) := by decide +kernel
theorem dX9_constraints_1 : decode cX9_constraints 1 = .ok (.iconst 0, 1) := by decide +kernel
theorem dX9_constraints_2 : decode cX9_constraints 2 = .ok (.putfield 53, 3) := by decide +kernel
theorem dX9_constraints_5 : decode cX9_constraints 5 = .ok (.aload_n 0, 1) := by decide +kernel
theorem dX9_constraints_6 : decode cX9_constraints 6 = .ok (.getfield 7, 3) := by decide +kernel
theorem dX9_constraints_9 : decode cX9_constraints 9 = .ok (.iconst 1, 1) := by decide +kernel
theorem dX9_constraints_10 : decode cX9_constraints 10 = .ok (.iaload, 1) := by decide +kernel
theorem dX9_constraints_11 : decode cX9_constraints 11 = .ok (.ireturn, 1) := by decide +kernel
theorem dX9_profitOf_0 : decode cX9_profitOf 0 = .ok (.aload_n 0, 1) := by decide +kernel
theorem dX9_profitOf_1 : decode cX9_profitOf 1 = .ok (.aload_n 0, 1) := by decide +kernel
theorem dX9_profitOf_2 : decode cX9_profitOf 2 = .ok (.iload_n 1, 1) := by decide +kernel
theorem dX9_profitOf_3 : decode cX9_profitOf 3 = .ok (.invokevirtual 169, 3) := by decide +kernel
theorem dX9_profitOf_6 : decode cX9_profitOf 6 = .ok (.ifCond .eq 7, 3) := by decide +kernel
theorem dX9_profitOf_9 : decode cX9_profitOf 9 = .ok (.iconst 0, 1) := by decide +kernel
theorem dX9_profitOf_10 : decode cX9_profitOf 10 = .ok (.goto 4, 3) := by decide +kernel
theorem dX9_profitOf_13 : decode cX9_profitOf 13 = .ok (.iconst 1, 1) := by decide +kernel
theorem dX9_profitOf_14 : decode cX9_profitOf 14 = .ok (.invokevirtual 160, 3) := by decide +kernel
theorem dX9_profitOf_17 : decode cX9_profitOf 17 = .ok (.ifCond .eq 14, 3) := by decide +kernel
theorem dX9_profitOf_20 : decode cX9_profitOf 20 = .ok (.aload_n 0, 1) := by decide +kernel
theorem dX9_profitOf_21 : decode cX9_profitOf 21 = .ok (.getfield 7, 3) := by decide +kernel
theorem dX9_profitOf_24 : decode cX9_profitOf 24 = .ok (.iconst 2, 1) := by decide +kernel
theorem dX9_profitOf_25 : decode cX9_profitOf 25 = .ok (.iload_n 1, 1) := by decide +kernel
theorem dX9_profitOf_26 : decode cX9_profitOf 26 = .ok (.iadd, 1) := by decide +kernel
theorem dX9_profitOf_27 : decode cX9_profitOf 27 = .ok (.iaload, 1) := by decide +kernel
theorem dX9_profitOf_28 : decode cX9_profitOf 28 = .ok (.goto 4, 3) := by decide +kernel
theorem dX9_profitOf_31 : decode cX9_profitOf 31 = .ok (.iconst 0, 1) := by decide +kernel
theorem dX9_profitOf_32 : decode cX9_profitOf 32 = .ok (.ireturn, 1) := by decide +kernel
theorem dX9_coefficientOf_0 : decode cX9_coefficientOf 0 = .ok (.aload_n 0, 1) := by decide +kernel
theorem dX9_coefficientOf_1 : decode cX9_coefficientOf 1 = .ok (.aload_n 0, 1) := by decide +kernel
theorem dX9_coefficientOf_2 : decode cX9_coefficientOf 2 = .ok (.iload_n 1, 1) := by decide +kernel
theorem dX9_coefficientOf_3 : decode cX9_coefficientOf 3 = .ok (.invokevirtual 175, 3) := by decide +kernel
theorem dX9_coefficientOf_6 : decode cX9_coefficientOf 6 = .ok (.ifCond .eq 15, 3) := by decide +kernel
theorem dX9_coefficientOf_9 : decode cX9_coefficientOf 9 = .ok (.aload_n 0, 1) := by decide +kernel
theorem dX9_coefficientOf_10 : decode cX9_coefficientOf 10 = .ok (.iload_n 2, 1) := by decide +kernel
theorem dX9_coefficientOf_11 : decode cX9_coefficientOf 11 = .ok (.invokevirtual 169, 3) := by decide +kernel
theorem dX9_coefficientOf_14 : decode cX9_coefficientOf 14 = .ok (.ifCond .eq 7, 3) := by decide +kernel
theorem dX9_coefficientOf_17 : decode cX9_coefficientOf 17 = .ok (.iconst 0, 1) := by decide +kernel
theorem dX9_coefficientOf_18 : decode cX9_coefficientOf 18 = .ok (.goto 4, 3) := by decide +kernel
theorem dX9_coefficientOf_21 : decode cX9_coefficientOf 21 = .ok (.iconst 1, 1) := by decide +kernel
theorem dX9_coefficientOf_22 : decode cX9_coefficientOf 22 = .ok (.invokevirtual 160, 3) := by decide +kernel
theorem dX9_coefficientOf_25 : decode cX9_coefficientOf 25 = .ok (.ifCond .eq 19, 3) := by decide +kernel
theorem dX9_coefficientOf_28 : decode cX9_coefficientOf 28 = .ok (.aload_n 0, 1) := by decide +kernel
theorem dX9_coefficientOf_29 : decode cX9_coefficientOf 29 = .ok (.getfield 7, 3) := by decide +kernel
theorem dX9_coefficientOf_32 : decode cX9_coefficientOf 32 = .ok (.bipush 6, 2) := by decide +kernel
theorem dX9_coefficientOf_34 : decode cX9_coefficientOf 34 = .ok (.iconst 4, 1) := by decide +kernel
theorem dX9_coefficientOf_35 : decode cX9_coefficientOf 35 = .ok (.iload_n 1, 1) := by decide +kernel
theorem dX9_coefficientOf_36 : decode cX9_coefficientOf 36 = .ok (.imul, 1) := by decide +kernel
theorem dX9_coefficientOf_37 : decode cX9_coefficientOf 37 = .ok (.iadd, 1) := by decide +kernel
theorem dX9_coefficientOf_38 : decode cX9_coefficientOf 38 = .ok (.iload_n 2, 1) := by decide +kernel
theorem dX9_coefficientOf_39 : decode cX9_coefficientOf 39 = .ok (.iadd, 1) := by decide +kernel
theorem dX9_coefficientOf_40 : decode cX9_coefficientOf 40 = .ok (.iaload, 1) := by decide +kernel
theorem dX9_coefficientOf_41 : decode cX9_coefficientOf 41 = .ok (.goto 4, 3) := by decide +kernel
theorem dX9_coefficientOf_44 : decode cX9_coefficientOf 44 = .ok (.iconst 0, 1) := by decide +kernel
theorem dX9_coefficientOf_45 : decode cX9_coefficientOf 45 = .ok (.ireturn, 1) := by decide +kernel
theorem dX9_boundOf_0 : decode cX9_boundOf 0 = .ok (.aload_n 0, 1) := by decide +kernel
theorem dX9_boundOf_1 : decode cX9_boundOf 1 = .ok (.aload_n 0, 1) := by decide +kernel
theorem dX9_boundOf_2 : decode cX9_boundOf 2 = .ok (.iload_n 1, 1) := by decide +kernel
theorem dX9_boundOf_3 : decode cX9_boundOf 3 = .ok (.invokevirtual 175, 3) := by decide +kernel
theorem dX9_boundOf_6 : decode cX9_boundOf 6 = .ok (.ifCond .eq 7, 3) := by decide +kernel
theorem dX9_boundOf_9 : decode cX9_boundOf 9 = .ok (.iconst 0, 1) := by decide +kernel
theorem dX9_boundOf_10 : decode cX9_boundOf 10 = .ok (.goto 4, 3) := by decide +kernel
theorem dX9_boundOf_13 : decode cX9_boundOf 13 = .ok (.iconst 1, 1) := by decide +kernel
theorem dX9_boundOf_14 : decode cX9_boundOf 14 = .ok (.invokevirtual 160, 3) := by decide +kernel
theorem dX9_boundOf_17 : decode cX9_boundOf 17 = .ok (.ifCond .eq 15, 3) := by decide +kernel
theorem dX9_boundOf_20 : decode cX9_boundOf 20 = .ok (.aload_n 0, 1) := by decide +kernel
theorem dX9_boundOf_21 : decode cX9_boundOf 21 = .ok (.getfield 7, 3) := by decide +kernel
theorem dX9_boundOf_24 : decode cX9_boundOf 24 = .ok (.bipush 22, 2) := by decide +kernel
theorem dX9_boundOf_26 : decode cX9_boundOf 26 = .ok (.iload_n 1, 1) := by decide +kernel
theorem dX9_boundOf_27 : decode cX9_boundOf 27 = .ok (.iadd, 1) := by decide +kernel
theorem dX9_boundOf_28 : decode cX9_boundOf 28 = .ok (.iaload, 1) := by decide +kernel
theorem dX9_boundOf_29 : decode cX9_boundOf 29 = .ok (.goto 4, 3) := by decide +kernel
theorem dX9_boundOf_32 : decode cX9_boundOf 32 = .ok (.iconst 0, 1) := by decide +kernel
theorem dX9_boundOf_33 : decode cX9_boundOf 33 = .ok (.ireturn, 1) := by decide +kernel
theorem dX9_rule_0 : decode cX9_rule 0 = .ok (.aload_n 0, 1) := by decide +kernel
theorem dX9_rule_1 : decode cX9_rule 1 = .ok (.iconst 0, 1) := by decide +kernel
theorem dX9_rule_2 : decode cX9_rule 2 = .ok (.putfield 53, 3) := by decide +kernel
theorem dX9_rule_5 : decode cX9_rule 5 = .ok (.aload_n 0, 1) := by decide +kernel
theorem dX9_rule_6 : decode cX9_rule 6 = .ok (.getfield 7, 3) := by decide +kernel
theorem dX9_rule_9 : decode cX9_rule 9 = .ok (.bipush 26, 2) := by decide +kernel
theorem dX9_rule_11 : decode cX9_rule 11 = .ok (.iaload, 1) := by decide +kernel
theorem dX9_rule_12 : decode cX9_rule 12 = .ok (.ireturn, 1) := by decide +kernel
theorem dX9_columnOf_0 : decode cX9_columnOf 0 = .ok (.aload_n 0, 1) := by decide +kernel
theorem dX9_columnOf_1 : decode cX9_columnOf 1 = .ok (.aload_n 0, 1) := by decide +kernel
theorem dX9_columnOf_2 : decode cX9_columnOf 2 = .ok (.iload_n 1, 1) := by decide +kernel
theorem dX9_columnOf_3 : decode cX9_columnOf 3 = .ok (.invokevirtual 175, 3) := by decide +kernel
theorem dX9_columnOf_6 : decode cX9_columnOf 6 = .ok (.ifCond .eq 7, 3) := by decide +kernel
theorem dX9_columnOf_9 : decode cX9_columnOf 9 = .ok (.iconst 0, 1) := by decide +kernel
theorem dX9_columnOf_10 : decode cX9_columnOf 10 = .ok (.goto 4, 3) := by decide +kernel
theorem dX9_columnOf_13 : decode cX9_columnOf 13 = .ok (.iconst 1, 1) := by decide +kernel
theorem dX9_columnOf_14 : decode cX9_columnOf 14 = .ok (.invokevirtual 160, 3) := by decide +kernel
theorem dX9_columnOf_17 : decode cX9_columnOf 17 = .ok (.ifCond .eq 15, 3) := by decide +kernel
theorem dX9_columnOf_20 : decode cX9_columnOf 20 = .ok (.aload_n 0, 1) := by decide +kernel
theorem dX9_columnOf_21 : decode cX9_columnOf 21 = .ok (.getfield 7, 3) := by decide +kernel
theorem dX9_columnOf_24 : decode cX9_columnOf 24 = .ok (.bipush 27, 2) := by decide +kernel
theorem dX9_columnOf_26 : decode cX9_columnOf 26 = .ok (.iload_n 1, 1) := by decide +kernel
theorem dX9_columnOf_27 : decode cX9_columnOf 27 = .ok (.iadd, 1) := by decide +kernel
theorem dX9_columnOf_28 : decode cX9_columnOf 28 = .ok (.iaload, 1) := by decide +kernel
theorem dX9_columnOf_29 : decode cX9_columnOf 29 = .ok (.goto 4, 3) := by decide +kernel
theorem dX9_columnOf_32 : decode cX9_columnOf 32 = .ok (.iconst 0, 1) := by decide +kernel
theorem dX9_columnOf_33 : decode cX9_columnOf 33 = .ok (.ireturn, 1) := by decide +kernel
theorem dX9_isNamed_0 : decode cX9_isNamed 0 = .ok (.aload_n 0, 1) := by decide +kernel
theorem dX9_isNamed_1 : decode cX9_isNamed 1 = .ok (.aload_n 0, 1) := by decide +kernel
theorem dX9_isNamed_2 : decode cX9_isNamed 2 = .ok (.iload_n 1, 1) := by decide +kernel
theorem dX9_isNamed_3 : decode cX9_isNamed 3 = .ok (.invokevirtual 178, 3) := by decide +kernel
theorem dX9_isNamed_6 : decode cX9_isNamed 6 = .ok (.ifCond .eq 7, 3) := by decide +kernel
theorem dX9_isNamed_9 : decode cX9_isNamed 9 = .ok (.iconst 0, 1) := by decide +kernel
theorem dX9_isNamed_10 : decode cX9_isNamed 10 = .ok (.goto 4, 3) := by decide +kernel
theorem dX9_isNamed_13 : decode cX9_isNamed 13 = .ok (.iconst 1, 1) := by decide +kernel
theorem dX9_isNamed_14 : decode cX9_isNamed 14 = .ok (.invokevirtual 160, 3) := by decide +kernel
theorem dX9_isNamed_17 : decode cX9_isNamed 17 = .ok (.ifCond .eq 15, 3) := by decide +kernel
theorem dX9_isNamed_20 : decode cX9_isNamed 20 = .ok (.aload_n 0, 1) := by decide +kernel
theorem dX9_isNamed_21 : decode cX9_isNamed 21 = .ok (.iload_n 1, 1) := by decide +kernel
theorem dX9_isNamed_22 : decode cX9_isNamed 22 = .ok (.invokevirtual 181, 3) := by decide +kernel
theorem dX9_isNamed_25 : decode cX9_isNamed 25 = .ok (.ifCond .eq 7, 3) := by decide +kernel
theorem dX9_isNamed_28 : decode cX9_isNamed 28 = .ok (.iconst 1, 1) := by decide +kernel
theorem dX9_isNamed_29 : decode cX9_isNamed 29 = .ok (.goto 4, 3) := by decide +kernel
theorem dX9_isNamed_32 : decode cX9_isNamed 32 = .ok (.iconst 0, 1) := by decide +kernel
theorem dX9_isNamed_33 : decode cX9_isNamed 33 = .ok (.ireturn, 1) := by decide +kernel
theorem dX9_isOptimal_0 : decode cX9_isOptimal 0 = .ok (.aload_n 0, 1) := by decide +kernel
theorem dX9_isOptimal_1 : decode cX9_isOptimal 1 = .ok (.iconst 0, 1) := by decide +kernel
theorem dX9_isOptimal_2 : decode cX9_isOptimal 2 = .ok (.putfield 53, 3) := by decide +kernel
theorem dX9_isOptimal_5 : decode cX9_isOptimal 5 = .ok (.aload_n 0, 1) := by decide +kernel
theorem dX9_isOptimal_6 : decode cX9_isOptimal 6 = .ok (.invokevirtual 141, 3) := by decide +kernel
theorem dX9_isOptimal_9 : decode cX9_isOptimal 9 = .ok (.aload_n 0, 1) := by decide +kernel
theorem dX9_isOptimal_10 : decode cX9_isOptimal 10 = .ok (.invokevirtual 144, 3) := by decide +kernel
theorem dX9_isOptimal_13 : decode cX9_isOptimal 13 = .ok (.ireturn, 1) := by decide +kernel
theorem dX9_hasRay_0 : decode cX9_hasRay 0 = .ok (.aload_n 0, 1) := by decide +kernel
theorem dX9_hasRay_1 : decode cX9_hasRay 1 = .ok (.iconst 0, 1) := by decide +kernel
theorem dX9_hasRay_2 : decode cX9_hasRay 2 = .ok (.putfield 53, 3) := by decide +kernel
theorem dX9_hasRay_5 : decode cX9_hasRay 5 = .ok (.aload_n 0, 1) := by decide +kernel
theorem dX9_hasRay_6 : decode cX9_hasRay 6 = .ok (.invokevirtual 141, 3) := by decide +kernel
theorem dX9_hasRay_9 : decode cX9_hasRay 9 = .ok (.aload_n 0, 1) := by decide +kernel
theorem dX9_hasRay_10 : decode cX9_hasRay 10 = .ok (.invokevirtual 147, 3) := by decide +kernel
theorem dX9_hasRay_13 : decode cX9_hasRay 13 = .ok (.ifCond .lt 7, 3) := by decide +kernel
theorem dX9_hasRay_16 : decode cX9_hasRay 16 = .ok (.iconst 1, 1) := by decide +kernel
theorem dX9_hasRay_17 : decode cX9_hasRay 17 = .ok (.goto 4, 3) := by decide +kernel
theorem dX9_hasRay_20 : decode cX9_hasRay 20 = .ok (.iconst 0, 1) := by decide +kernel
theorem dX9_hasRay_21 : decode cX9_hasRay 21 = .ok (.ireturn, 1) := by decide +kernel
theorem dX9_pivots_0 : decode cX9_pivots 0 = .ok (.aload_n 0, 1) := by decide +kernel
theorem dX9_pivots_1 : decode cX9_pivots 1 = .ok (.iconst 0, 1) := by decide +kernel
theorem dX9_pivots_2 : decode cX9_pivots 2 = .ok (.putfield 53, 3) := by decide +kernel
theorem dX9_pivots_5 : decode cX9_pivots 5 = .ok (.aload_n 0, 1) := by decide +kernel
theorem dX9_pivots_6 : decode cX9_pivots 6 = .ok (.getfield 7, 3) := by decide +kernel
theorem dX9_pivots_9 : decode cX9_pivots 9 = .ok (.bipush 31, 2) := by decide +kernel
theorem dX9_pivots_11 : decode cX9_pivots 11 = .ok (.iaload, 1) := by decide +kernel
theorem dX9_pivots_12 : decode cX9_pivots 12 = .ok (.ireturn, 1) := by decide +kernel
theorem dX9_allPivots_0 : decode cX9_allPivots 0 = .ok (.aload_n 0, 1) := by decide +kernel
theorem dX9_allPivots_1 : decode cX9_allPivots 1 = .ok (.iconst 0, 1) := by decide +kernel
theorem dX9_allPivots_2 : decode cX9_allPivots 2 = .ok (.putfield 53, 3) := by decide +kernel
theorem dX9_allPivots_5 : decode cX9_allPivots 5 = .ok (.aload_n 0, 1) := by decide +kernel
theorem dX9_allPivots_6 : decode cX9_allPivots 6 = .ok (.getfield 7, 3) := by decide +kernel
theorem dX9_allPivots_9 : decode cX9_allPivots 9 = .ok (.bipush 32, 2) := by decide +kernel
theorem dX9_allPivots_11 : decode cX9_allPivots 11 = .ok (.iaload, 1) := by decide +kernel
theorem dX9_allPivots_12 : decode cX9_allPivots 12 = .ok (.ireturn, 1) := by decide +kernel
theorem dX9_idlePivots_0 : decode cX9_idlePivots 0 = .ok (.aload_n 0, 1) := by decide +kernel
theorem dX9_idlePivots_1 : decode cX9_idlePivots 1 = .ok (.iconst 0, 1) := by decide +kernel
theorem dX9_idlePivots_2 : decode cX9_idlePivots 2 = .ok (.putfield 53, 3) := by decide +kernel
theorem dX9_idlePivots_5 : decode cX9_idlePivots 5 = .ok (.aload_n 0, 1) := by decide +kernel
theorem dX9_idlePivots_6 : decode cX9_idlePivots 6 = .ok (.getfield 7, 3) := by decide +kernel
theorem dX9_idlePivots_9 : decode cX9_idlePivots 9 = .ok (.bipush 33, 2) := by decide +kernel
theorem dX9_idlePivots_11 : decode cX9_idlePivots 11 = .ok (.iaload, 1) := by decide +kernel
theorem dX9_idlePivots_12 : decode cX9_idlePivots 12 = .ok (.ireturn, 1) := by decide +kernel
theorem dX9_entryOf_0 : decode cX9_entryOf 0 = .ok (.aload_n 0, 1) := by decide +kernel
theorem dX9_entryOf_1 : decode cX9_entryOf 1 = .ok (.invokevirtual 141, 3) := by decide +kernel
theorem dX9_entryOf_4 : decode cX9_entryOf 4 = .ok (.aload_n 0, 1) := by decide +kernel
theorem dX9_entryOf_5 : decode cX9_entryOf 5 = .ok (.aload_n 0, 1) := by decide +kernel
theorem dX9_entryOf_6 : decode cX9_entryOf 6 = .ok (.getfield 25, 3) := by decide +kernel
theorem dX9_entryOf_9 : decode cX9_entryOf 9 = .ok (.bipush 9, 2) := by decide +kernel
theorem dX9_entryOf_11 : decode cX9_entryOf 11 = .ok (.iload_n 1, 1) := by decide +kernel
theorem dX9_entryOf_12 : decode cX9_entryOf 12 = .ok (.imul, 1) := by decide +kernel
theorem dX9_entryOf_13 : decode cX9_entryOf 13 = .ok (.iload_n 2, 1) := by decide +kernel
theorem dX9_entryOf_14 : decode cX9_entryOf 14 = .ok (.iadd, 1) := by decide +kernel
theorem dX9_entryOf_15 : decode cX9_entryOf 15 = .ok (.laload, 1) := by decide +kernel
theorem dX9_entryOf_16 : decode cX9_entryOf 16 = .ok (.aload_n 0, 1) := by decide +kernel
theorem dX9_entryOf_17 : decode cX9_entryOf 17 = .ok (.getfield 29, 3) := by decide +kernel
theorem dX9_entryOf_20 : decode cX9_entryOf 20 = .ok (.bipush 9, 2) := by decide +kernel
theorem dX9_entryOf_22 : decode cX9_entryOf 22 = .ok (.iload_n 1, 1) := by decide +kernel
theorem dX9_entryOf_23 : decode cX9_entryOf 23 = .ok (.imul, 1) := by decide +kernel
theorem dX9_entryOf_24 : decode cX9_entryOf 24 = .ok (.iload_n 2, 1) := by decide +kernel
theorem dX9_entryOf_25 : decode cX9_entryOf 25 = .ok (.iadd, 1) := by decide +kernel
theorem dX9_entryOf_26 : decode cX9_entryOf 26 = .ok (.laload, 1) := by decide +kernel
theorem dX9_entryOf_27 : decode cX9_entryOf 27 = .ok (.invokevirtual 79, 3) := by decide +kernel
theorem dX9_entryOf_30 : decode cX9_entryOf 30 = .ok (.return_, 1) := by decide +kernel
theorem dX9_entryNumerator_0 : decode cX9_entryNumerator 0 = .ok (.aload_n 0, 1) := by decide +kernel
theorem dX9_entryNumerator_1 : decode cX9_entryNumerator 1 = .ok (.aload_n 0, 1) := by decide +kernel
theorem dX9_entryNumerator_2 : decode cX9_entryNumerator 2 = .ok (.iload_n 1, 1) := by decide +kernel
theorem dX9_entryNumerator_3 : decode cX9_entryNumerator 3 = .ok (.iload_n 2, 1) := by decide +kernel
theorem dX9_entryNumerator_4 : decode cX9_entryNumerator 4 = .ok (.invokevirtual 184, 3) := by decide +kernel
theorem dX9_entryNumerator_7 : decode cX9_entryNumerator 7 = .ok (.ifCond .eq 7, 3) := by decide +kernel
theorem dX9_entryNumerator_10 : decode cX9_entryNumerator 10 = .ok (.iconst 0, 1) := by decide +kernel
theorem dX9_entryNumerator_11 : decode cX9_entryNumerator 11 = .ok (.goto 4, 3) := by decide +kernel
theorem dX9_entryNumerator_14 : decode cX9_entryNumerator 14 = .ok (.iconst 1, 1) := by decide +kernel
theorem dX9_entryNumerator_15 : decode cX9_entryNumerator 15 = .ok (.invokevirtual 160, 3) := by decide +kernel
theorem dX9_entryNumerator_18 : decode cX9_entryNumerator 18 = .ok (.ifCond .ne 5, 3) := by decide +kernel
theorem dX9_entryNumerator_21 : decode cX9_entryNumerator 21 = .ok (.lconst 0, 1) := by decide +kernel
theorem dX9_entryNumerator_22 : decode cX9_entryNumerator 22 = .ok (.lreturn, 1) := by decide +kernel
theorem dX9_entryNumerator_23 : decode cX9_entryNumerator 23 = .ok (.aload_n 0, 1) := by decide +kernel
theorem dX9_entryNumerator_24 : decode cX9_entryNumerator 24 = .ok (.iload_n 1, 1) := by decide +kernel
theorem dX9_entryNumerator_25 : decode cX9_entryNumerator 25 = .ok (.iload_n 2, 1) := by decide +kernel
theorem dX9_entryNumerator_26 : decode cX9_entryNumerator 26 = .ok (.invokevirtual 240, 3) := by decide +kernel
theorem dX9_entryNumerator_29 : decode cX9_entryNumerator 29 = .ok (.aload_n 0, 1) := by decide +kernel
theorem dX9_entryNumerator_30 : decode cX9_entryNumerator 30 = .ok (.getfield 72, 3) := by decide +kernel
theorem dX9_entryNumerator_33 : decode cX9_entryNumerator 33 = .ok (.lreturn, 1) := by decide +kernel
theorem dX9_entryDenominator_0 : decode cX9_entryDenominator 0 = .ok (.aload_n 0, 1) := by decide +kernel
theorem dX9_entryDenominator_1 : decode cX9_entryDenominator 1 = .ok (.aload_n 0, 1) := by decide +kernel
theorem dX9_entryDenominator_2 : decode cX9_entryDenominator 2 = .ok (.iload_n 1, 1) := by decide +kernel
theorem dX9_entryDenominator_3 : decode cX9_entryDenominator 3 = .ok (.iload_n 2, 1) := by decide +kernel
theorem dX9_entryDenominator_4 : decode cX9_entryDenominator 4 = .ok (.invokevirtual 184, 3) := by decide +kernel
theorem dX9_entryDenominator_7 : decode cX9_entryDenominator 7 = .ok (.ifCond .eq 7, 3) := by decide +kernel
theorem dX9_entryDenominator_10 : decode cX9_entryDenominator 10 = .ok (.iconst 0, 1) := by decide +kernel
theorem dX9_entryDenominator_11 : decode cX9_entryDenominator 11 = .ok (.goto 4, 3) := by decide +kernel
theorem dX9_entryDenominator_14 : decode cX9_entryDenominator 14 = .ok (.iconst 1, 1) := by decide +kernel
theorem dX9_entryDenominator_15 : decode cX9_entryDenominator 15 = .ok (.invokevirtual 160, 3) := by decide +kernel
theorem dX9_entryDenominator_18 : decode cX9_entryDenominator 18 = .ok (.ifCond .ne 5, 3) := by decide +kernel
theorem dX9_entryDenominator_21 : decode cX9_entryDenominator 21 = .ok (.lconst 0, 1) := by decide +kernel
theorem dX9_entryDenominator_22 : decode cX9_entryDenominator 22 = .ok (.lreturn, 1) := by decide +kernel
theorem dX9_entryDenominator_23 : decode cX9_entryDenominator 23 = .ok (.aload_n 0, 1) := by decide +kernel
theorem dX9_entryDenominator_24 : decode cX9_entryDenominator 24 = .ok (.iload_n 1, 1) := by decide +kernel
theorem dX9_entryDenominator_25 : decode cX9_entryDenominator 25 = .ok (.iload_n 2, 1) := by decide +kernel
theorem dX9_entryDenominator_26 : decode cX9_entryDenominator 26 = .ok (.invokevirtual 240, 3) := by decide +kernel
theorem dX9_entryDenominator_29 : decode cX9_entryDenominator 29 = .ok (.aload_n 0, 1) := by decide +kernel
theorem dX9_entryDenominator_30 : decode cX9_entryDenominator 30 = .ok (.getfield 76, 3) := by decide +kernel
theorem dX9_entryDenominator_33 : decode cX9_entryDenominator 33 = .ok (.lreturn, 1) := by decide +kernel
theorem dX9_reducedOf_0 : decode cX9_reducedOf 0 = .ok (.aload_n 0, 1) := by decide +kernel
theorem dX9_reducedOf_1 : decode cX9_reducedOf 1 = .ok (.invokevirtual 141, 3) := by decide +kernel
theorem dX9_reducedOf_4 : decode cX9_reducedOf 4 = .ok (.aload_n 0, 1) := by decide +kernel
theorem dX9_reducedOf_5 : decode cX9_reducedOf 5 = .ok (.iload_n 1, 1) := by decide +kernel
theorem dX9_reducedOf_6 : decode cX9_reducedOf 6 = .ok (.invokevirtual 114, 3) := by decide +kernel
theorem dX9_reducedOf_9 : decode cX9_reducedOf 9 = .ok (.return_, 1) := by decide +kernel
theorem dX9_reducedNumerator_0 : decode cX9_reducedNumerator 0 = .ok (.aload_n 0, 1) := by decide +kernel
theorem dX9_reducedNumerator_1 : decode cX9_reducedNumerator 1 = .ok (.aload_n 0, 1) := by decide +kernel
theorem dX9_reducedNumerator_2 : decode cX9_reducedNumerator 2 = .ok (.iload_n 1, 1) := by decide +kernel
theorem dX9_reducedNumerator_3 : decode cX9_reducedNumerator 3 = .ok (.invokevirtual 178, 3) := by decide +kernel
theorem dX9_reducedNumerator_6 : decode cX9_reducedNumerator 6 = .ok (.ifCond .eq 7, 3) := by decide +kernel
theorem dX9_reducedNumerator_9 : decode cX9_reducedNumerator 9 = .ok (.iconst 0, 1) := by decide +kernel
theorem dX9_reducedNumerator_10 : decode cX9_reducedNumerator 10 = .ok (.goto 4, 3) := by decide +kernel
theorem dX9_reducedNumerator_13 : decode cX9_reducedNumerator 13 = .ok (.iconst 1, 1) := by decide +kernel
theorem dX9_reducedNumerator_14 : decode cX9_reducedNumerator 14 = .ok (.invokevirtual 160, 3) := by decide +kernel
theorem dX9_reducedNumerator_17 : decode cX9_reducedNumerator 17 = .ok (.ifCond .ne 5, 3) := by decide +kernel
theorem dX9_reducedNumerator_20 : decode cX9_reducedNumerator 20 = .ok (.lconst 0, 1) := by decide +kernel
theorem dX9_reducedNumerator_21 : decode cX9_reducedNumerator 21 = .ok (.lreturn, 1) := by decide +kernel
theorem dX9_reducedNumerator_22 : decode cX9_reducedNumerator 22 = .ok (.aload_n 0, 1) := by decide +kernel
theorem dX9_reducedNumerator_23 : decode cX9_reducedNumerator 23 = .ok (.iload_n 1, 1) := by decide +kernel
theorem dX9_reducedNumerator_24 : decode cX9_reducedNumerator 24 = .ok (.invokevirtual 243, 3) := by decide +kernel
theorem dX9_reducedNumerator_27 : decode cX9_reducedNumerator 27 = .ok (.aload_n 0, 1) := by decide +kernel
theorem dX9_reducedNumerator_28 : decode cX9_reducedNumerator 28 = .ok (.getfield 72, 3) := by decide +kernel
theorem dX9_reducedNumerator_31 : decode cX9_reducedNumerator 31 = .ok (.lreturn, 1) := by decide +kernel
theorem dX9_reducedDenominator_0 : decode cX9_reducedDenominator 0 = .ok (.aload_n 0, 1) := by decide +kernel
theorem dX9_reducedDenominator_1 : decode cX9_reducedDenominator 1 = .ok (.aload_n 0, 1) := by decide +kernel
theorem dX9_reducedDenominator_2 : decode cX9_reducedDenominator 2 = .ok (.iload_n 1, 1) := by decide +kernel
theorem dX9_reducedDenominator_3 : decode cX9_reducedDenominator 3 = .ok (.invokevirtual 178, 3) := by decide +kernel
theorem dX9_reducedDenominator_6 : decode cX9_reducedDenominator 6 = .ok (.ifCond .eq 7, 3) := by decide +kernel
theorem dX9_reducedDenominator_9 : decode cX9_reducedDenominator 9 = .ok (.iconst 0, 1) := by decide +kernel
theorem dX9_reducedDenominator_10 : decode cX9_reducedDenominator 10 = .ok (.goto 4, 3) := by decide +kernel
theorem dX9_reducedDenominator_13 : decode cX9_reducedDenominator 13 = .ok (.iconst 1, 1) := by decide +kernel
theorem dX9_reducedDenominator_14 : decode cX9_reducedDenominator 14 = .ok (.invokevirtual 160, 3) := by decide +kernel
theorem dX9_reducedDenominator_17 : decode cX9_reducedDenominator 17 = .ok (.ifCond .ne 5, 3) := by decide +kernel
theorem dX9_reducedDenominator_20 : decode cX9_reducedDenominator 20 = .ok (.lconst 0, 1) := by decide +kernel
theorem dX9_reducedDenominator_21 : decode cX9_reducedDenominator 21 = .ok (.lreturn, 1) := by decide +kernel
theorem dX9_reducedDenominator_22 : decode cX9_reducedDenominator 22 = .ok (.aload_n 0, 1) := by decide +kernel
theorem dX9_reducedDenominator_23 : decode cX9_reducedDenominator 23 = .ok (.iload_n 1, 1) := by decide +kernel
theorem dX9_reducedDenominator_24 : decode cX9_reducedDenominator 24 = .ok (.invokevirtual 243, 3) := by decide +kernel
theorem dX9_reducedDenominator_27 : decode cX9_reducedDenominator 27 = .ok (.aload_n 0, 1) := by decide +kernel
theorem dX9_reducedDenominator_28 : decode cX9_reducedDenominator 28 = .ok (.getfield 76, 3) := by decide +kernel
theorem dX9_reducedDenominator_31 : decode cX9_reducedDenominator 31 = .ok (.lreturn, 1) := by decide +kernel
theorem dX9_valueNow_0 : decode cX9_valueNow 0 = .ok (.aload_n 0, 1) := by decide +kernel
theorem dX9_valueNow_1 : decode cX9_valueNow 1 = .ok (.invokevirtual 141, 3) := by decide +kernel
theorem dX9_valueNow_4 : decode cX9_valueNow 4 = .ok (.aload_n 0, 1) := by decide +kernel
theorem dX9_valueNow_5 : decode cX9_valueNow 5 = .ok (.invokevirtual 246, 3) := by decide +kernel
theorem dX9_valueNow_8 : decode cX9_valueNow 8 = .ok (.return_, 1) := by decide +kernel
theorem dX9_valueNumerator_0 : decode cX9_valueNumerator 0 = .ok (.aload_n 0, 1) := by decide +kernel
theorem dX9_valueNumerator_1 : decode cX9_valueNumerator 1 = .ok (.iconst 0, 1) := by decide +kernel
theorem dX9_valueNumerator_2 : decode cX9_valueNumerator 2 = .ok (.putfield 53, 3) := by decide +kernel
theorem dX9_valueNumerator_5 : decode cX9_valueNumerator 5 = .ok (.aload_n 0, 1) := by decide +kernel
theorem dX9_valueNumerator_6 : decode cX9_valueNumerator 6 = .ok (.invokevirtual 248, 3) := by decide +kernel
theorem dX9_valueNumerator_9 : decode cX9_valueNumerator 9 = .ok (.aload_n 0, 1) := by decide +kernel
theorem dX9_valueNumerator_10 : decode cX9_valueNumerator 10 = .ok (.getfield 72, 3) := by decide +kernel
theorem dX9_valueNumerator_13 : decode cX9_valueNumerator 13 = .ok (.lreturn, 1) := by decide +kernel
theorem dX9_valueDenominator_0 : decode cX9_valueDenominator 0 = .ok (.aload_n 0, 1) := by decide +kernel
theorem dX9_valueDenominator_1 : decode cX9_valueDenominator 1 = .ok (.iconst 0, 1) := by decide +kernel
theorem dX9_valueDenominator_2 : decode cX9_valueDenominator 2 = .ok (.putfield 53, 3) := by decide +kernel
theorem dX9_valueDenominator_5 : decode cX9_valueDenominator 5 = .ok (.aload_n 0, 1) := by decide +kernel
theorem dX9_valueDenominator_6 : decode cX9_valueDenominator 6 = .ok (.invokevirtual 248, 3) := by decide +kernel
theorem dX9_valueDenominator_9 : decode cX9_valueDenominator 9 = .ok (.aload_n 0, 1) := by decide +kernel
theorem dX9_valueDenominator_10 : decode cX9_valueDenominator 10 = .ok (.getfield 76, 3) := by decide +kernel
theorem dX9_valueDenominator_13 : decode cX9_valueDenominator 13 = .ok (.lreturn, 1) := by decide +kernel
theorem dX9_givenTo_0 : decode cX9_givenTo 0 = .ok (.aload_n 0, 1) := by decide +kernel
theorem dX9_givenTo_1 : decode cX9_givenTo 1 = .ok (.invokevirtual 141, 3) := by decide +kernel
theorem dX9_givenTo_4 : decode cX9_givenTo 4 = .ok (.aload_n 0, 1) := by decide +kernel
theorem dX9_givenTo_5 : decode cX9_givenTo 5 = .ok (.lconst 0, 1) := by decide +kernel
theorem dX9_givenTo_6 : decode cX9_givenTo 6 = .ok (.lconst 1, 1) := by decide +kernel
theorem dX9_givenTo_7 : decode cX9_givenTo 7 = .ok (.invokevirtual 79, 3) := by decide +kernel
theorem dX9_givenTo_10 : decode cX9_givenTo 10 = .ok (.iconst 0, 1) := by decide +kernel
theorem dX9_givenTo_11 : decode cX9_givenTo 11 = .ok (.istore_n 2, 1) := by decide +kernel
theorem dX9_givenTo_12 : decode cX9_givenTo 12 = .ok (.iload_n 2, 1) := by decide +kernel
theorem dX9_givenTo_13 : decode cX9_givenTo 13 = .ok (.aload_n 0, 1) := by decide +kernel
theorem dX9_givenTo_14 : decode cX9_givenTo 14 = .ok (.getfield 7, 3) := by decide +kernel
theorem dX9_givenTo_17 : decode cX9_givenTo 17 = .ok (.iconst 1, 1) := by decide +kernel
theorem dX9_givenTo_18 : decode cX9_givenTo 18 = .ok (.iaload, 1) := by decide +kernel
theorem dX9_givenTo_19 : decode cX9_givenTo 19 = .ok (.if_icmp .ge 44, 3) := by decide +kernel
theorem dX9_givenTo_22 : decode cX9_givenTo 22 = .ok (.aload_n 0, 1) := by decide +kernel
theorem dX9_givenTo_23 : decode cX9_givenTo 23 = .ok (.getfield 32, 3) := by decide +kernel
theorem dX9_givenTo_26 : decode cX9_givenTo 26 = .ok (.iload_n 2, 1) := by decide +kernel
theorem dX9_givenTo_27 : decode cX9_givenTo 27 = .ok (.iaload, 1) := by decide +kernel
theorem dX9_givenTo_28 : decode cX9_givenTo 28 = .ok (.iload_n 1, 1) := by decide +kernel
theorem dX9_givenTo_29 : decode cX9_givenTo 29 = .ok (.if_icmp .ne 28, 3) := by decide +kernel
theorem dX9_givenTo_32 : decode cX9_givenTo 32 = .ok (.aload_n 0, 1) := by decide +kernel
theorem dX9_givenTo_33 : decode cX9_givenTo 33 = .ok (.aload_n 0, 1) := by decide +kernel
theorem dX9_givenTo_34 : decode cX9_givenTo 34 = .ok (.iload_n 2, 1) := by decide +kernel
theorem dX9_givenTo_35 : decode cX9_givenTo 35 = .ok (.bipush 8, 2) := by decide +kernel
theorem dX9_givenTo_37 : decode cX9_givenTo 37 = .ok (.invokevirtual 102, 3) := by decide +kernel
theorem dX9_givenTo_40 : decode cX9_givenTo 40 = .ok (.aload_n 0, 1) := by decide +kernel
theorem dX9_givenTo_41 : decode cX9_givenTo 41 = .ok (.getfield 29, 3) := by decide +kernel
theorem dX9_givenTo_44 : decode cX9_givenTo 44 = .ok (.bipush 9, 2) := by decide +kernel
theorem dX9_givenTo_46 : decode cX9_givenTo 46 = .ok (.iload_n 2, 1) := by decide +kernel
theorem dX9_givenTo_47 : decode cX9_givenTo 47 = .ok (.imul, 1) := by decide +kernel
theorem dX9_givenTo_48 : decode cX9_givenTo 48 = .ok (.bipush 9, 2) := by decide +kernel
theorem dX9_givenTo_50 : decode cX9_givenTo 50 = .ok (.iadd, 1) := by decide +kernel
theorem dX9_givenTo_51 : decode cX9_givenTo 51 = .ok (.iconst 1, 1) := by decide +kernel
theorem dX9_givenTo_52 : decode cX9_givenTo 52 = .ok (.isub, 1) := by decide +kernel
theorem dX9_givenTo_53 : decode cX9_givenTo 53 = .ok (.laload, 1) := by decide +kernel
theorem dX9_givenTo_54 : decode cX9_givenTo 54 = .ok (.invokevirtual 79, 3) := by decide +kernel
theorem dX9_givenTo_57 : decode cX9_givenTo 57 = .ok (.iinc 2 1, 3) := by decide +kernel
theorem dX9_givenTo_60 : decode cX9_givenTo 60 = .ok (.goto (-48), 3) := by decide +kernel
theorem dX9_givenTo_63 : decode cX9_givenTo 63 = .ok (.return_, 1) := by decide +kernel
theorem dX9_givenNumerator_0 : decode cX9_givenNumerator 0 = .ok (.aload_n 0, 1) := by decide +kernel
theorem dX9_givenNumerator_1 : decode cX9_givenNumerator 1 = .ok (.aload_n 0, 1) := by decide +kernel
theorem dX9_givenNumerator_2 : decode cX9_givenNumerator 2 = .ok (.iload_n 1, 1) := by decide +kernel
theorem dX9_givenNumerator_3 : decode cX9_givenNumerator 3 = .ok (.invokevirtual 178, 3) := by decide +kernel
theorem dX9_givenNumerator_6 : decode cX9_givenNumerator 6 = .ok (.ifCond .eq 7, 3) := by decide +kernel
theorem dX9_givenNumerator_9 : decode cX9_givenNumerator 9 = .ok (.iconst 0, 1) := by decide +kernel
theorem dX9_givenNumerator_10 : decode cX9_givenNumerator 10 = .ok (.goto 4, 3) := by decide +kernel
theorem dX9_givenNumerator_13 : decode cX9_givenNumerator 13 = .ok (.iconst 1, 1) := by decide +kernel
theorem dX9_givenNumerator_14 : decode cX9_givenNumerator 14 = .ok (.invokevirtual 160, 3) := by decide +kernel
theorem dX9_givenNumerator_17 : decode cX9_givenNumerator 17 = .ok (.ifCond .ne 5, 3) := by decide +kernel
theorem dX9_givenNumerator_20 : decode cX9_givenNumerator 20 = .ok (.lconst 0, 1) := by decide +kernel
theorem dX9_givenNumerator_21 : decode cX9_givenNumerator 21 = .ok (.lreturn, 1) := by decide +kernel
theorem dX9_givenNumerator_22 : decode cX9_givenNumerator 22 = .ok (.aload_n 0, 1) := by decide +kernel
theorem dX9_givenNumerator_23 : decode cX9_givenNumerator 23 = .ok (.iload_n 1, 1) := by decide +kernel
theorem dX9_givenNumerator_24 : decode cX9_givenNumerator 24 = .ok (.invokevirtual 251, 3) := by decide +kernel
theorem dX9_givenNumerator_27 : decode cX9_givenNumerator 27 = .ok (.aload_n 0, 1) := by decide +kernel
theorem dX9_givenNumerator_28 : decode cX9_givenNumerator 28 = .ok (.getfield 72, 3) := by decide +kernel
theorem dX9_givenNumerator_31 : decode cX9_givenNumerator 31 = .ok (.lreturn, 1) := by decide +kernel
theorem dX9_givenDenominator_0 : decode cX9_givenDenominator 0 = .ok (.aload_n 0, 1) := by decide +kernel
theorem dX9_givenDenominator_1 : decode cX9_givenDenominator 1 = .ok (.aload_n 0, 1) := by decide +kernel
theorem dX9_givenDenominator_2 : decode cX9_givenDenominator 2 = .ok (.iload_n 1, 1) := by decide +kernel
theorem dX9_givenDenominator_3 : decode cX9_givenDenominator 3 = .ok (.invokevirtual 178, 3) := by decide +kernel
theorem dX9_givenDenominator_6 : decode cX9_givenDenominator 6 = .ok (.ifCond .eq 7, 3) := by decide +kernel
theorem dX9_givenDenominator_9 : decode cX9_givenDenominator 9 = .ok (.iconst 0, 1) := by decide +kernel
theorem dX9_givenDenominator_10 : decode cX9_givenDenominator 10 = .ok (.goto 4, 3) := by decide +kernel
theorem dX9_givenDenominator_13 : decode cX9_givenDenominator 13 = .ok (.iconst 1, 1) := by decide +kernel
theorem dX9_givenDenominator_14 : decode cX9_givenDenominator 14 = .ok (.invokevirtual 160, 3) := by decide +kernel
theorem dX9_givenDenominator_17 : decode cX9_givenDenominator 17 = .ok (.ifCond .ne 5, 3) := by decide +kernel
theorem dX9_givenDenominator_20 : decode cX9_givenDenominator 20 = .ok (.lconst 0, 1) := by decide +kernel
theorem dX9_givenDenominator_21 : decode cX9_givenDenominator 21 = .ok (.lreturn, 1) := by decide +kernel
theorem dX9_givenDenominator_22 : decode cX9_givenDenominator 22 = .ok (.aload_n 0, 1) := by decide +kernel
theorem dX9_givenDenominator_23 : decode cX9_givenDenominator 23 = .ok (.iload_n 1, 1) := by decide +kernel
theorem dX9_givenDenominator_24 : decode cX9_givenDenominator 24 = .ok (.invokevirtual 251, 3) := by decide +kernel
theorem dX9_givenDenominator_27 : decode cX9_givenDenominator 27 = .ok (.aload_n 0, 1) := by decide +kernel
theorem dX9_givenDenominator_28 : decode cX9_givenDenominator 28 = .ok (.getfield 76, 3) := by decide +kernel
theorem dX9_givenDenominator_31 : decode cX9_givenDenominator 31 = .ok (.lreturn, 1) := by decide +kernel
theorem dX9_value_0 : decode cX9_value 0 = .ok (.aload_n 0, 1) := by decide +kernel
theorem dX9_value_1 : decode cX9_value 1 = .ok (.iconst 0, 1) := by decide +kernel
theorem dX9_value_2 : decode cX9_value 2 = .ok (.putfield 53, 3) := by decide +kernel
theorem dX9_value_5 : decode cX9_value 5 = .ok (.aload_n 0, 1) := by decide +kernel
theorem dX9_value_6 : decode cX9_value 6 = .ok (.invokevirtual 248, 3) := by decide +kernel
theorem dX9_value_9 : decode cX9_value 9 = .ok (.aload_n 0, 1) := by decide +kernel
theorem dX9_value_10 : decode cX9_value 10 = .ok (.getfield 72, 3) := by decide +kernel
theorem dX9_value_13 : decode cX9_value 13 = .ok (.l2d, 1) := by decide +kernel
theorem dX9_value_14 : decode cX9_value 14 = .ok (.aload_n 0, 1) := by decide +kernel
theorem dX9_value_15 : decode cX9_value 15 = .ok (.getfield 76, 3) := by decide +kernel
theorem dX9_value_18 : decode cX9_value 18 = .ok (.l2d, 1) := by decide +kernel
theorem dX9_value_19 : decode cX9_value 19 = .ok (.ddiv, 1) := by decide +kernel
theorem dX9_value_20 : decode cX9_value 20 = .ok (.dreturn, 1) := by decide +kernel
theorem dX9_dualOf_0 : decode cX9_dualOf 0 = .ok (.aload_n 0, 1) := by decide +kernel
theorem dX9_dualOf_1 : decode cX9_dualOf 1 = .ok (.aload_n 0, 1) := by decide +kernel
theorem dX9_dualOf_2 : decode cX9_dualOf 2 = .ok (.getfield 7, 3) := by decide +kernel
theorem dX9_dualOf_5 : decode cX9_dualOf 5 = .ok (.iconst 0, 1) := by decide +kernel
theorem dX9_dualOf_6 : decode cX9_dualOf 6 = .ok (.iaload, 1) := by decide +kernel
theorem dX9_dualOf_7 : decode cX9_dualOf 7 = .ok (.iload_n 1, 1) := by decide +kernel
theorem dX9_dualOf_8 : decode cX9_dualOf 8 = .ok (.iadd, 1) := by decide +kernel
theorem dX9_dualOf_9 : decode cX9_dualOf 9 = .ok (.invokevirtual 243, 3) := by decide +kernel
theorem dX9_dualOf_12 : decode cX9_dualOf 12 = .ok (.aload_n 0, 1) := by decide +kernel
theorem dX9_dualOf_13 : decode cX9_dualOf 13 = .ok (.aload_n 0, 1) := by decide +kernel
theorem dX9_dualOf_14 : decode cX9_dualOf 14 = .ok (.getfield 72, 3) := by decide +kernel
theorem dX9_dualOf_17 : decode cX9_dualOf 17 = .ok (.lneg, 1) := by decide +kernel
theorem dX9_dualOf_18 : decode cX9_dualOf 18 = .ok (.putfield 72, 3) := by decide +kernel
theorem dX9_dualOf_21 : decode cX9_dualOf 21 = .ok (.return_, 1) := by decide +kernel
theorem dX9_dualNumerator_0 : decode cX9_dualNumerator 0 = .ok (.aload_n 0, 1) := by decide +kernel
theorem dX9_dualNumerator_1 : decode cX9_dualNumerator 1 = .ok (.aload_n 0, 1) := by decide +kernel
theorem dX9_dualNumerator_2 : decode cX9_dualNumerator 2 = .ok (.iload_n 1, 1) := by decide +kernel
theorem dX9_dualNumerator_3 : decode cX9_dualNumerator 3 = .ok (.invokevirtual 175, 3) := by decide +kernel
theorem dX9_dualNumerator_6 : decode cX9_dualNumerator 6 = .ok (.ifCond .eq 7, 3) := by decide +kernel
theorem dX9_dualNumerator_9 : decode cX9_dualNumerator 9 = .ok (.iconst 0, 1) := by decide +kernel
theorem dX9_dualNumerator_10 : decode cX9_dualNumerator 10 = .ok (.goto 4, 3) := by decide +kernel
theorem dX9_dualNumerator_13 : decode cX9_dualNumerator 13 = .ok (.iconst 1, 1) := by decide +kernel
theorem dX9_dualNumerator_14 : decode cX9_dualNumerator 14 = .ok (.invokevirtual 160, 3) := by decide +kernel
theorem dX9_dualNumerator_17 : decode cX9_dualNumerator 17 = .ok (.ifCond .ne 5, 3) := by decide +kernel
theorem dX9_dualNumerator_20 : decode cX9_dualNumerator 20 = .ok (.lconst 0, 1) := by decide +kernel
theorem dX9_dualNumerator_21 : decode cX9_dualNumerator 21 = .ok (.lreturn, 1) := by decide +kernel
theorem dX9_dualNumerator_22 : decode cX9_dualNumerator 22 = .ok (.aload_n 0, 1) := by decide +kernel
theorem dX9_dualNumerator_23 : decode cX9_dualNumerator 23 = .ok (.iload_n 1, 1) := by decide +kernel
theorem dX9_dualNumerator_24 : decode cX9_dualNumerator 24 = .ok (.invokevirtual 254, 3) := by decide +kernel
theorem dX9_dualNumerator_27 : decode cX9_dualNumerator 27 = .ok (.aload_n 0, 1) := by decide +kernel
theorem dX9_dualNumerator_28 : decode cX9_dualNumerator 28 = .ok (.getfield 72, 3) := by decide +kernel
theorem dX9_dualNumerator_31 : decode cX9_dualNumerator 31 = .ok (.lreturn, 1) := by decide +kernel
theorem dX9_dualDenominator_0 : decode cX9_dualDenominator 0 = .ok (.aload_n 0, 1) := by decide +kernel
theorem dX9_dualDenominator_1 : decode cX9_dualDenominator 1 = .ok (.aload_n 0, 1) := by decide +kernel
theorem dX9_dualDenominator_2 : decode cX9_dualDenominator 2 = .ok (.iload_n 1, 1) := by decide +kernel
theorem dX9_dualDenominator_3 : decode cX9_dualDenominator 3 = .ok (.invokevirtual 175, 3) := by decide +kernel
theorem dX9_dualDenominator_6 : decode cX9_dualDenominator 6 = .ok (.ifCond .eq 7, 3) := by decide +kernel
theorem dX9_dualDenominator_9 : decode cX9_dualDenominator 9 = .ok (.iconst 0, 1) := by decide +kernel
theorem dX9_dualDenominator_10 : decode cX9_dualDenominator 10 = .ok (.goto 4, 3) := by decide +kernel
theorem dX9_dualDenominator_13 : decode cX9_dualDenominator 13 = .ok (.iconst 1, 1) := by decide +kernel
theorem dX9_dualDenominator_14 : decode cX9_dualDenominator 14 = .ok (.invokevirtual 160, 3) := by decide +kernel
theorem dX9_dualDenominator_17 : decode cX9_dualDenominator 17 = .ok (.ifCond .ne 5, 3) := by decide +kernel
theorem dX9_dualDenominator_20 : decode cX9_dualDenominator 20 = .ok (.lconst 0, 1) := by decide +kernel
theorem dX9_dualDenominator_21 : decode cX9_dualDenominator 21 = .ok (.lreturn, 1) := by decide +kernel
theorem dX9_dualDenominator_22 : decode cX9_dualDenominator 22 = .ok (.aload_n 0, 1) := by decide +kernel
theorem dX9_dualDenominator_23 : decode cX9_dualDenominator 23 = .ok (.iload_n 1, 1) := by decide +kernel
theorem dX9_dualDenominator_24 : decode cX9_dualDenominator 24 = .ok (.invokevirtual 254, 3) := by decide +kernel
theorem dX9_dualDenominator_27 : decode cX9_dualDenominator 27 = .ok (.aload_n 0, 1) := by decide +kernel
theorem dX9_dualDenominator_28 : decode cX9_dualDenominator 28 = .ok (.getfield 76, 3) := by decide +kernel
theorem dX9_dualDenominator_31 : decode cX9_dualDenominator 31 = .ok (.lreturn, 1) := by decide +kernel
theorem dX9_dualNumeratorByEquations_0 : decode cX9_dualNumeratorByEquations 0 = .ok (.aload_n 0, 1) := by decide +kernel
theorem dX9_dualNumeratorByEquations_1 : decode cX9_dualNumeratorByEquations 1 = .ok (.iload_n 1, 1) := by decide +kernel
theorem dX9_dualNumeratorByEquations_2 : decode cX9_dualNumeratorByEquations 2 = .ok (.invokevirtual 257, 3) := by decide +kernel
theorem dX9_dualNumeratorByEquations_5 : decode cX9_dualNumeratorByEquations 5 = .ok (.lreturn, 1) := by decide +kernel
theorem dX9_dualDenominatorByEquations_0 : decode cX9_dualDenominatorByEquations 0 = .ok (.aload_n 0, 1) := by decide +kernel
theorem dX9_dualDenominatorByEquations_1 : decode cX9_dualDenominatorByEquations 1 = .ok (.iload_n 1, 1) := by decide +kernel
theorem dX9_dualDenominatorByEquations_2 : decode cX9_dualDenominatorByEquations 2 = .ok (.invokevirtual 261, 3) := by decide +kernel
theorem dX9_dualDenominatorByEquations_5 : decode cX9_dualDenominatorByEquations 5 = .ok (.lreturn, 1) := by decide +kernel
theorem dX9_dualValue_0 : decode cX9_dualValue 0 = .ok (.lconst 0, 1) := by decide +kernel
theorem dX9_dualValue_1 : decode cX9_dualValue 1 = .ok (.lstore_n 1, 1) := by decide +kernel
theorem dX9_dualValue_2 : decode cX9_dualValue 2 = .ok (.lconst 1, 1) := by decide +kernel
theorem dX9_dualValue_3 : decode cX9_dualValue 3 = .ok (.lstore_n 3, 1) := by decide +kernel
theorem dX9_dualValue_4 : decode cX9_dualValue 4 = .ok (.iconst 0, 1) := by decide +kernel
theorem dX9_dualValue_5 : decode cX9_dualValue 5 = .ok (.istore 5, 2) := by decide +kernel
theorem dX9_dualValue_7 : decode cX9_dualValue 7 = .ok (.iload 5, 2) := by decide +kernel
theorem dX9_dualValue_9 : decode cX9_dualValue 9 = .ok (.aload_n 0, 1) := by decide +kernel
theorem dX9_dualValue_10 : decode cX9_dualValue 10 = .ok (.getfield 7, 3) := by decide +kernel
theorem dX9_dualValue_13 : decode cX9_dualValue 13 = .ok (.iconst 1, 1) := by decide +kernel
theorem dX9_dualValue_14 : decode cX9_dualValue 14 = .ok (.iaload, 1) := by decide +kernel
theorem dX9_dualValue_15 : decode cX9_dualValue 15 = .ok (.if_icmp .ge 62, 3) := by decide +kernel
theorem dX9_dualValue_18 : decode cX9_dualValue 18 = .ok (.aload_n 0, 1) := by decide +kernel
theorem dX9_dualValue_19 : decode cX9_dualValue 19 = .ok (.iload 5, 2) := by decide +kernel
theorem dX9_dualValue_21 : decode cX9_dualValue 21 = .ok (.invokevirtual 254, 3) := by decide +kernel
theorem dX9_dualValue_24 : decode cX9_dualValue 24 = .ok (.aload_n 0, 1) := by decide +kernel
theorem dX9_dualValue_25 : decode cX9_dualValue 25 = .ok (.getfield 72, 3) := by decide +kernel
theorem dX9_dualValue_28 : decode cX9_dualValue 28 = .ok (.lstore 6, 2) := by decide +kernel
theorem dX9_dualValue_30 : decode cX9_dualValue 30 = .ok (.aload_n 0, 1) := by decide +kernel
theorem dX9_dualValue_31 : decode cX9_dualValue 31 = .ok (.getfield 76, 3) := by decide +kernel
theorem dX9_dualValue_34 : decode cX9_dualValue 34 = .ok (.lstore 8, 2) := by decide +kernel
theorem dX9_dualValue_36 : decode cX9_dualValue 36 = .ok (.aload_n 0, 1) := by decide +kernel
theorem dX9_dualValue_37 : decode cX9_dualValue 37 = .ok (.lload_n 1, 1) := by decide +kernel
theorem dX9_dualValue_38 : decode cX9_dualValue 38 = .ok (.lload_n 3, 1) := by decide +kernel
theorem dX9_dualValue_39 : decode cX9_dualValue 39 = .ok (.invokevirtual 79, 3) := by decide +kernel
theorem dX9_dualValue_42 : decode cX9_dualValue 42 = .ok (.aload_n 0, 1) := by decide +kernel
theorem dX9_dualValue_43 : decode cX9_dualValue 43 = .ok (.aload_n 0, 1) := by decide +kernel
theorem dX9_dualValue_44 : decode cX9_dualValue 44 = .ok (.getfield 7, 3) := by decide +kernel
theorem dX9_dualValue_47 : decode cX9_dualValue 47 = .ok (.bipush 22, 2) := by decide +kernel
theorem dX9_dualValue_49 : decode cX9_dualValue 49 = .ok (.iload 5, 2) := by decide +kernel
theorem dX9_dualValue_51 : decode cX9_dualValue 51 = .ok (.iadd, 1) := by decide +kernel
theorem dX9_dualValue_52 : decode cX9_dualValue 52 = .ok (.iaload, 1) := by decide +kernel
theorem dX9_dualValue_53 : decode cX9_dualValue 53 = .ok (.i2l, 1) := by decide +kernel
theorem dX9_dualValue_54 : decode cX9_dualValue 54 = .ok (.lload 6, 2) := by decide +kernel
theorem dX9_dualValue_56 : decode cX9_dualValue 56 = .ok (.lload 8, 2) := by decide +kernel
theorem dX9_dualValue_58 : decode cX9_dualValue 58 = .ok (.invokevirtual 110, 3) := by decide +kernel
theorem dX9_dualValue_61 : decode cX9_dualValue 61 = .ok (.aload_n 0, 1) := by decide +kernel
theorem dX9_dualValue_62 : decode cX9_dualValue 62 = .ok (.getfield 72, 3) := by decide +kernel
theorem dX9_dualValue_65 : decode cX9_dualValue 65 = .ok (.lstore_n 1, 1) := by decide +kernel
theorem dX9_dualValue_66 : decode cX9_dualValue 66 = .ok (.aload_n 0, 1) := by decide +kernel
theorem dX9_dualValue_67 : decode cX9_dualValue 67 = .ok (.getfield 76, 3) := by decide +kernel
theorem dX9_dualValue_70 : decode cX9_dualValue 70 = .ok (.lstore_n 3, 1) := by decide +kernel
theorem dX9_dualValue_71 : decode cX9_dualValue 71 = .ok (.iinc 5 1, 3) := by decide +kernel
theorem dX9_dualValue_74 : decode cX9_dualValue 74 = .ok (.goto (-67), 3) := by decide +kernel
theorem dX9_dualValue_77 : decode cX9_dualValue 77 = .ok (.aload_n 0, 1) := by decide +kernel
theorem dX9_dualValue_78 : decode cX9_dualValue 78 = .ok (.lload_n 1, 1) := by decide +kernel
theorem dX9_dualValue_79 : decode cX9_dualValue 79 = .ok (.lload_n 3, 1) := by decide +kernel
theorem dX9_dualValue_80 : decode cX9_dualValue 80 = .ok (.invokevirtual 79, 3) := by decide +kernel
theorem dX9_dualValue_83 : decode cX9_dualValue 83 = .ok (.return_, 1) := by decide +kernel
theorem dX9_dualValueNumerator_0 : decode cX9_dualValueNumerator 0 = .ok (.aload_n 0, 1) := by decide +kernel
theorem dX9_dualValueNumerator_1 : decode cX9_dualValueNumerator 1 = .ok (.iconst 0, 1) := by decide +kernel
theorem dX9_dualValueNumerator_2 : decode cX9_dualValueNumerator 2 = .ok (.putfield 53, 3) := by decide +kernel
theorem dX9_dualValueNumerator_5 : decode cX9_dualValueNumerator 5 = .ok (.aload_n 0, 1) := by decide +kernel
theorem dX9_dualValueNumerator_6 : decode cX9_dualValueNumerator 6 = .ok (.invokevirtual 264, 3) := by decide +kernel
theorem dX9_dualValueNumerator_9 : decode cX9_dualValueNumerator 9 = .ok (.aload_n 0, 1) := by decide +kernel
theorem dX9_dualValueNumerator_10 : decode cX9_dualValueNumerator 10 = .ok (.getfield 72, 3) := by decide +kernel
theorem dX9_dualValueNumerator_13 : decode cX9_dualValueNumerator 13 = .ok (.lreturn, 1) := by decide +kernel
theorem dX9_dualValueDenominator_0 : decode cX9_dualValueDenominator 0 = .ok (.aload_n 0, 1) := by decide +kernel
theorem dX9_dualValueDenominator_1 : decode cX9_dualValueDenominator 1 = .ok (.iconst 0, 1) := by decide +kernel
theorem dX9_dualValueDenominator_2 : decode cX9_dualValueDenominator 2 = .ok (.putfield 53, 3) := by decide +kernel
theorem dX9_dualValueDenominator_5 : decode cX9_dualValueDenominator 5 = .ok (.aload_n 0, 1) := by decide +kernel
theorem dX9_dualValueDenominator_6 : decode cX9_dualValueDenominator 6 = .ok (.invokevirtual 264, 3) := by decide +kernel
theorem dX9_dualValueDenominator_9 : decode cX9_dualValueDenominator 9 = .ok (.aload_n 0, 1) := by decide +kernel
theorem dX9_dualValueDenominator_10 : decode cX9_dualValueDenominator 10 = .ok (.getfield 76, 3) := by decide +kernel
theorem dX9_dualValueDenominator_13 : decode cX9_dualValueDenominator 13 = .ok (.lreturn, 1) := by decide +kernel
theorem dX9_endlessNow_0 : decode cX9_endlessNow 0 = .ok (.aload_n 0, 1) := by decide +kernel
theorem dX9_endlessNow_1 : decode cX9_endlessNow 1 = .ok (.invokevirtual 141, 3) := by decide +kernel
theorem dX9_endlessNow_4 : decode cX9_endlessNow 4 = .ok (.aload_n 0, 1) := by decide +kernel
theorem dX9_endlessNow_5 : decode cX9_endlessNow 5 = .ok (.invokevirtual 147, 3) := by decide +kernel
theorem dX9_endlessNow_8 : decode cX9_endlessNow 8 = .ok (.ireturn, 1) := by decide +kernel
theorem dX9_rayColumn_0 : decode cX9_rayColumn 0 = .ok (.aload_n 0, 1) := by decide +kernel
theorem dX9_rayColumn_1 : decode cX9_rayColumn 1 = .ok (.aload_n 0, 1) := by decide +kernel
theorem dX9_rayColumn_2 : decode cX9_rayColumn 2 = .ok (.invokevirtual 267, 3) := by decide +kernel
theorem dX9_rayColumn_5 : decode cX9_rayColumn 5 = .ok (.ifCond .ge 7, 3) := by decide +kernel
theorem dX9_rayColumn_8 : decode cX9_rayColumn 8 = .ok (.iconst 1, 1) := by decide +kernel
theorem dX9_rayColumn_9 : decode cX9_rayColumn 9 = .ok (.goto 4, 3) := by decide +kernel
theorem dX9_rayColumn_12 : decode cX9_rayColumn 12 = .ok (.iconst 0, 1) := by decide +kernel
theorem dX9_rayColumn_13 : decode cX9_rayColumn 13 = .ok (.invokevirtual 160, 3) := by decide +kernel
theorem dX9_rayColumn_16 : decode cX9_rayColumn 16 = .ok (.ifCond .eq 10, 3) := by decide +kernel
theorem dX9_rayColumn_19 : decode cX9_rayColumn 19 = .ok (.aload_n 0, 1) := by decide +kernel
theorem dX9_rayColumn_20 : decode cX9_rayColumn 20 = .ok (.invokevirtual 267, 3) := by decide +kernel
theorem dX9_rayColumn_23 : decode cX9_rayColumn 23 = .ok (.goto 4, 3) := by decide +kernel
theorem dX9_rayColumn_26 : decode cX9_rayColumn 26 = .ok (.iconst 0, 1) := by decide +kernel
theorem dX9_rayColumn_27 : decode cX9_rayColumn 27 = .ok (.ireturn, 1) := by decide +kernel
theorem dX9_along_0 : decode cX9_along 0 = .ok (.aload_n 0, 1) := by decide +kernel
theorem dX9_along_1 : decode cX9_along 1 = .ok (.invokevirtual 267, 3) := by decide +kernel
theorem dX9_along_4 : decode cX9_along 4 = .ok (.istore_n 2, 1) := by decide +kernel
theorem dX9_along_5 : decode cX9_along 5 = .ok (.aload_n 0, 1) := by decide +kernel
theorem dX9_along_6 : decode cX9_along 6 = .ok (.iload_n 1, 1) := by decide +kernel
theorem dX9_along_7 : decode cX9_along 7 = .ok (.iload_n 2, 1) := by decide +kernel
theorem dX9_along_8 : decode cX9_along 8 = .ok (.if_icmp .ne 7, 3) := by decide +kernel
theorem dX9_along_11 : decode cX9_along 11 = .ok (.lconst 1, 1) := by decide +kernel
theorem dX9_along_12 : decode cX9_along 12 = .ok (.goto 4, 3) := by decide +kernel
theorem dX9_along_15 : decode cX9_along 15 = .ok (.lconst 0, 1) := by decide +kernel
theorem dX9_along_16 : decode cX9_along 16 = .ok (.lconst 1, 1) := by decide +kernel
theorem dX9_along_17 : decode cX9_along 17 = .ok (.invokevirtual 79, 3) := by decide +kernel
theorem dX9_along_20 : decode cX9_along 20 = .ok (.iconst 0, 1) := by decide +kernel
theorem dX9_along_21 : decode cX9_along 21 = .ok (.istore_n 3, 1) := by decide +kernel
theorem dX9_along_22 : decode cX9_along 22 = .ok (.iload_n 3, 1) := by decide +kernel
theorem dX9_along_23 : decode cX9_along 23 = .ok (.aload_n 0, 1) := by decide +kernel
theorem dX9_along_24 : decode cX9_along 24 = .ok (.getfield 7, 3) := by decide +kernel
theorem dX9_along_27 : decode cX9_along 27 = .ok (.iconst 1, 1) := by decide +kernel
theorem dX9_along_28 : decode cX9_along 28 = .ok (.iaload, 1) := by decide +kernel
theorem dX9_along_29 : decode cX9_along 29 = .ok (.if_icmp .ge 41, 3) := by decide +kernel
theorem dX9_along_32 : decode cX9_along 32 = .ok (.aload_n 0, 1) := by decide +kernel
theorem dX9_along_33 : decode cX9_along 33 = .ok (.getfield 32, 3) := by decide +kernel
theorem dX9_along_36 : decode cX9_along 36 = .ok (.iload_n 3, 1) := by decide +kernel
theorem dX9_along_37 : decode cX9_along 37 = .ok (.iaload, 1) := by decide +kernel
theorem dX9_along_38 : decode cX9_along 38 = .ok (.iload_n 1, 1) := by decide +kernel
theorem dX9_along_39 : decode cX9_along 39 = .ok (.if_icmp .ne 25, 3) := by decide +kernel
theorem dX9_along_42 : decode cX9_along 42 = .ok (.aload_n 0, 1) := by decide +kernel
theorem dX9_along_43 : decode cX9_along 43 = .ok (.aload_n 0, 1) := by decide +kernel
theorem dX9_along_44 : decode cX9_along 44 = .ok (.iload_n 3, 1) := by decide +kernel
theorem dX9_along_45 : decode cX9_along 45 = .ok (.iload_n 2, 1) := by decide +kernel
theorem dX9_along_46 : decode cX9_along 46 = .ok (.invokevirtual 102, 3) := by decide +kernel
theorem dX9_along_49 : decode cX9_along 49 = .ok (.lneg, 1) := by decide +kernel
theorem dX9_along_50 : decode cX9_along 50 = .ok (.aload_n 0, 1) := by decide +kernel
theorem dX9_along_51 : decode cX9_along 51 = .ok (.getfield 29, 3) := by decide +kernel
theorem dX9_along_54 : decode cX9_along 54 = .ok (.bipush 9, 2) := by decide +kernel
theorem dX9_along_56 : decode cX9_along 56 = .ok (.iload_n 3, 1) := by decide +kernel
theorem dX9_along_57 : decode cX9_along 57 = .ok (.imul, 1) := by decide +kernel
theorem dX9_along_58 : decode cX9_along 58 = .ok (.iload_n 2, 1) := by decide +kernel
theorem dX9_along_59 : decode cX9_along 59 = .ok (.iadd, 1) := by decide +kernel
theorem dX9_along_60 : decode cX9_along 60 = .ok (.laload, 1) := by decide +kernel
theorem dX9_along_61 : decode cX9_along 61 = .ok (.invokevirtual 79, 3) := by decide +kernel
theorem dX9_along_64 : decode cX9_along 64 = .ok (.iinc 3 1, 3) := by decide +kernel
theorem dX9_along_67 : decode cX9_along 67 = .ok (.goto (-45), 3) := by decide +kernel
theorem dX9_along_70 : decode cX9_along 70 = .ok (.return_, 1) := by decide +kernel
theorem dX9_errorOfRay_0 : decode cX9_errorOfRay 0 = .ok (.aload_n 0, 1) := by decide +kernel
theorem dX9_errorOfRay_1 : decode cX9_errorOfRay 1 = .ok (.iload_n 1, 1) := by decide +kernel
theorem dX9_errorOfRay_2 : decode cX9_errorOfRay 2 = .ok (.invokevirtual 178, 3) := by decide +kernel
theorem dX9_errorOfRay_5 : decode cX9_errorOfRay 5 = .ok (.ifCond .ne 7, 3) := by decide +kernel
theorem dX9_errorOfRay_8 : decode cX9_errorOfRay 8 = .ok (.iconst 1, 1) := by decide +kernel
theorem dX9_errorOfRay_9 : decode cX9_errorOfRay 9 = .ok (.goto 15, 3) := by decide +kernel
theorem dX9_errorOfRay_12 : decode cX9_errorOfRay 12 = .ok (.aload_n 0, 1) := by decide +kernel
theorem dX9_errorOfRay_13 : decode cX9_errorOfRay 13 = .ok (.invokevirtual 267, 3) := by decide +kernel
theorem dX9_errorOfRay_16 : decode cX9_errorOfRay 16 = .ok (.ifCond .ge 7, 3) := by decide +kernel
theorem dX9_errorOfRay_19 : decode cX9_errorOfRay 19 = .ok (.iconst 2, 1) := by decide +kernel
theorem dX9_errorOfRay_20 : decode cX9_errorOfRay 20 = .ok (.goto 4, 3) := by decide +kernel
theorem dX9_errorOfRay_23 : decode cX9_errorOfRay 23 = .ok (.iconst 0, 1) := by decide +kernel
theorem dX9_errorOfRay_24 : decode cX9_errorOfRay 24 = .ok (.ireturn, 1) := by decide +kernel
theorem dX9_rayNumerator_0 : decode cX9_rayNumerator 0 = .ok (.aload_n 0, 1) := by decide +kernel
theorem dX9_rayNumerator_1 : decode cX9_rayNumerator 1 = .ok (.aload_n 0, 1) := by decide +kernel
theorem dX9_rayNumerator_2 : decode cX9_rayNumerator 2 = .ok (.iload_n 1, 1) := by decide +kernel
theorem dX9_rayNumerator_3 : decode cX9_rayNumerator 3 = .ok (.invokevirtual 270, 3) := by decide +kernel
theorem dX9_rayNumerator_6 : decode cX9_rayNumerator 6 = .ok (.invokevirtual 160, 3) := by decide +kernel
theorem dX9_rayNumerator_9 : decode cX9_rayNumerator 9 = .ok (.ifCond .ne 5, 3) := by decide +kernel
theorem dX9_rayNumerator_12 : decode cX9_rayNumerator 12 = .ok (.lconst 0, 1) := by decide +kernel
theorem dX9_rayNumerator_13 : decode cX9_rayNumerator 13 = .ok (.lreturn, 1) := by decide +kernel
theorem dX9_rayNumerator_14 : decode cX9_rayNumerator 14 = .ok (.aload_n 0, 1) := by decide +kernel
theorem dX9_rayNumerator_15 : decode cX9_rayNumerator 15 = .ok (.iload_n 1, 1) := by decide +kernel
theorem dX9_rayNumerator_16 : decode cX9_rayNumerator 16 = .ok (.invokevirtual 273, 3) := by decide +kernel
theorem dX9_rayNumerator_19 : decode cX9_rayNumerator 19 = .ok (.aload_n 0, 1) := by decide +kernel
theorem dX9_rayNumerator_20 : decode cX9_rayNumerator 20 = .ok (.getfield 72, 3) := by decide +kernel
theorem dX9_rayNumerator_23 : decode cX9_rayNumerator 23 = .ok (.lreturn, 1) := by decide +kernel
theorem dX9_rayDenominator_0 : decode cX9_rayDenominator 0 = .ok (.aload_n 0, 1) := by decide +kernel
theorem dX9_rayDenominator_1 : decode cX9_rayDenominator 1 = .ok (.aload_n 0, 1) := by decide +kernel
theorem dX9_rayDenominator_2 : decode cX9_rayDenominator 2 = .ok (.iload_n 1, 1) := by decide +kernel
theorem dX9_rayDenominator_3 : decode cX9_rayDenominator 3 = .ok (.invokevirtual 270, 3) := by decide +kernel
theorem dX9_rayDenominator_6 : decode cX9_rayDenominator 6 = .ok (.invokevirtual 160, 3) := by decide +kernel
theorem dX9_rayDenominator_9 : decode cX9_rayDenominator 9 = .ok (.ifCond .ne 5, 3) := by decide +kernel
theorem dX9_rayDenominator_12 : decode cX9_rayDenominator 12 = .ok (.lconst 0, 1) := by decide +kernel
theorem dX9_rayDenominator_13 : decode cX9_rayDenominator 13 = .ok (.lreturn, 1) := by decide +kernel
theorem dX9_rayDenominator_14 : decode cX9_rayDenominator 14 = .ok (.aload_n 0, 1) := by decide +kernel
theorem dX9_rayDenominator_15 : decode cX9_rayDenominator 15 = .ok (.iload_n 1, 1) := by decide +kernel
theorem dX9_rayDenominator_16 : decode cX9_rayDenominator 16 = .ok (.invokevirtual 273, 3) := by decide +kernel
theorem dX9_rayDenominator_19 : decode cX9_rayDenominator 19 = .ok (.aload_n 0, 1) := by decide +kernel
theorem dX9_rayDenominator_20 : decode cX9_rayDenominator 20 = .ok (.getfield 76, 3) := by decide +kernel
theorem dX9_rayDenominator_23 : decode cX9_rayDenominator 23 = .ok (.lreturn, 1) := by decide +kernel
theorem dX9_namesSet_0 : decode cX9_namesSet 0 = .ok (.iconst 0, 1) := by decide +kernel
theorem dX9_namesSet_1 : decode cX9_namesSet 1 = .ok (.istore_n 2, 1) := by decide +kernel
theorem dX9_namesSet_2 : decode cX9_namesSet 2 = .ok (.iconst 0, 1) := by decide +kernel
theorem dX9_namesSet_3 : decode cX9_namesSet 3 = .ok (.istore_n 3, 1) := by decide +kernel
theorem dX9_namesSet_4 : decode cX9_namesSet 4 = .ok (.iload_n 3, 1) := by decide +kernel
theorem dX9_namesSet_5 : decode cX9_namesSet 5 = .ok (.aload_n 0, 1) := by decide +kernel
theorem dX9_namesSet_6 : decode cX9_namesSet 6 = .ok (.invokevirtual 61, 3) := by decide +kernel
theorem dX9_namesSet_9 : decode cX9_namesSet 9 = .ok (.if_icmp .ge 38, 3) := by decide +kernel
theorem dX9_namesSet_12 : decode cX9_namesSet 12 = .ok (.iload_n 1, 1) := by decide +kernel
theorem dX9_namesSet_13 : decode cX9_namesSet 13 = .ok (.iload_n 3, 1) := by decide +kernel
theorem dX9_namesSet_14 : decode cX9_namesSet 14 = .ok (.ishr, 1) := by decide +kernel
theorem dX9_namesSet_15 : decode cX9_namesSet 15 = .ok (.iconst 1, 1) := by decide +kernel
theorem dX9_namesSet_16 : decode cX9_namesSet 16 = .ok (.iand, 1) := by decide +kernel
theorem dX9_namesSet_17 : decode cX9_namesSet 17 = .ok (.iconst 1, 1) := by decide +kernel
theorem dX9_namesSet_18 : decode cX9_namesSet 18 = .ok (.if_icmp .ne 23, 3) := by decide +kernel
theorem dX9_namesSet_21 : decode cX9_namesSet 21 = .ok (.iload_n 2, 1) := by decide +kernel
theorem dX9_namesSet_22 : decode cX9_namesSet 22 = .ok (.aload_n 0, 1) := by decide +kernel
theorem dX9_namesSet_23 : decode cX9_namesSet 23 = .ok (.getfield 7, 3) := by decide +kernel
theorem dX9_namesSet_26 : decode cX9_namesSet 26 = .ok (.iconst 1, 1) := by decide +kernel
theorem dX9_namesSet_27 : decode cX9_namesSet 27 = .ok (.iaload, 1) := by decide +kernel
theorem dX9_namesSet_28 : decode cX9_namesSet 28 = .ok (.if_icmp .ge 10, 3) := by decide +kernel
theorem dX9_namesSet_31 : decode cX9_namesSet 31 = .ok (.aload_n 0, 1) := by decide +kernel
theorem dX9_namesSet_32 : decode cX9_namesSet 32 = .ok (.getfield 32, 3) := by decide +kernel
theorem dX9_namesSet_35 : decode cX9_namesSet 35 = .ok (.iload_n 2, 1) := by decide +kernel
theorem dX9_namesSet_36 : decode cX9_namesSet 36 = .ok (.iload_n 3, 1) := by decide +kernel
theorem dX9_namesSet_37 : decode cX9_namesSet 37 = .ok (.iastore, 1) := by decide +kernel
theorem dX9_namesSet_38 : decode cX9_namesSet 38 = .ok (.iinc 2 1, 3) := by decide +kernel
theorem dX9_namesSet_41 : decode cX9_namesSet 41 = .ok (.iinc 3 1, 3) := by decide +kernel
theorem dX9_namesSet_44 : decode cX9_namesSet 44 = .ok (.goto (-40), 3) := by decide +kernel
theorem dX9_namesSet_47 : decode cX9_namesSet 47 = .ok (.iload_n 2, 1) := by decide +kernel
theorem dX9_namesSet_48 : decode cX9_namesSet 48 = .ok (.aload_n 0, 1) := by decide +kernel
theorem dX9_namesSet_49 : decode cX9_namesSet 49 = .ok (.getfield 7, 3) := by decide +kernel
theorem dX9_namesSet_52 : decode cX9_namesSet 52 = .ok (.iconst 1, 1) := by decide +kernel
theorem dX9_namesSet_53 : decode cX9_namesSet 53 = .ok (.iaload, 1) := by decide +kernel
theorem dX9_namesSet_54 : decode cX9_namesSet 54 = .ok (.if_icmp .ne 7, 3) := by decide +kernel
theorem dX9_namesSet_57 : decode cX9_namesSet 57 = .ok (.iconst 1, 1) := by decide +kernel
theorem dX9_namesSet_58 : decode cX9_namesSet 58 = .ok (.goto 4, 3) := by decide +kernel
theorem dX9_namesSet_61 : decode cX9_namesSet 61 = .ok (.iconst 0, 1) := by decide +kernel
theorem dX9_namesSet_62 : decode cX9_namesSet 62 = .ok (.ireturn, 1) := by decide +kernel
theorem dX9_looksAtValue_0 : decode cX9_looksAtValue 0 = .ok (.iconst 1, 1) := by decide +kernel
theorem dX9_looksAtValue_1 : decode cX9_looksAtValue 1 = .ok (.istore_n 1, 1) := by decide +kernel
theorem dX9_looksAtValue_2 : decode cX9_looksAtValue 2 = .ok (.iconst 0, 1) := by decide +kernel
theorem dX9_looksAtValue_3 : decode cX9_looksAtValue 3 = .ok (.istore_n 2, 1) := by decide +kernel
theorem dX9_looksAtValue_4 : decode cX9_looksAtValue 4 = .ok (.iload_n 2, 1) := by decide +kernel
theorem dX9_looksAtValue_5 : decode cX9_looksAtValue 5 = .ok (.aload_n 0, 1) := by decide +kernel
theorem dX9_looksAtValue_6 : decode cX9_looksAtValue 6 = .ok (.getfield 276, 3) := by decide +kernel
theorem dX9_looksAtValue_9 : decode cX9_looksAtValue 9 = .ok (.if_icmp .ge 53, 3) := by decide +kernel
theorem dX9_looksAtValue_12 : decode cX9_looksAtValue 12 = .ok (.iload_n 1, 1) := by decide +kernel
theorem dX9_looksAtValue_13 : decode cX9_looksAtValue 13 = .ok (.ifCond .eq 41, 3) := by decide +kernel
theorem dX9_looksAtValue_16 : decode cX9_looksAtValue 16 = .ok (.aload_n 0, 1) := by decide +kernel
theorem dX9_looksAtValue_17 : decode cX9_looksAtValue 17 = .ok (.getfield 44, 3) := by decide +kernel
theorem dX9_looksAtValue_20 : decode cX9_looksAtValue 20 = .ok (.iconst 2, 1) := by decide +kernel
theorem dX9_looksAtValue_21 : decode cX9_looksAtValue 21 = .ok (.iload_n 2, 1) := by decide +kernel
theorem dX9_looksAtValue_22 : decode cX9_looksAtValue 22 = .ok (.imul, 1) := by decide +kernel
theorem dX9_looksAtValue_23 : decode cX9_looksAtValue 23 = .ok (.laload, 1) := by decide +kernel
theorem dX9_looksAtValue_24 : decode cX9_looksAtValue 24 = .ok (.aload_n 0, 1) := by decide +kernel
theorem dX9_looksAtValue_25 : decode cX9_looksAtValue 25 = .ok (.getfield 72, 3) := by decide +kernel
theorem dX9_looksAtValue_28 : decode cX9_looksAtValue 28 = .ok (.lcmp, 1) := by decide +kernel
theorem dX9_looksAtValue_29 : decode cX9_looksAtValue 29 = .ok (.ifCond .ne 21, 3) := by decide +kernel
theorem dX9_looksAtValue_32 : decode cX9_looksAtValue 32 = .ok (.aload_n 0, 1) := by decide +kernel
theorem dX9_looksAtValue_33 : decode cX9_looksAtValue 33 = .ok (.getfield 44, 3) := by decide +kernel
theorem dX9_looksAtValue_36 : decode cX9_looksAtValue 36 = .ok (.iconst 2, 1) := by decide +kernel
theorem dX9_looksAtValue_37 : decode cX9_looksAtValue 37 = .ok (.iload_n 2, 1) := by decide +kernel
theorem dX9_looksAtValue_38 : decode cX9_looksAtValue 38 = .ok (.imul, 1) := by decide +kernel
theorem dX9_looksAtValue_39 : decode cX9_looksAtValue 39 = .ok (.iconst 1, 1) := by decide +kernel
theorem dX9_looksAtValue_40 : decode cX9_looksAtValue 40 = .ok (.iadd, 1) := by decide +kernel
theorem dX9_looksAtValue_41 : decode cX9_looksAtValue 41 = .ok (.laload, 1) := by decide +kernel
theorem dX9_looksAtValue_42 : decode cX9_looksAtValue 42 = .ok (.aload_n 0, 1) := by decide +kernel
theorem dX9_looksAtValue_43 : decode cX9_looksAtValue 43 = .ok (.getfield 76, 3) := by decide +kernel
theorem dX9_looksAtValue_46 : decode cX9_looksAtValue 46 = .ok (.lcmp, 1) := by decide +kernel
theorem dX9_looksAtValue_47 : decode cX9_looksAtValue 47 = .ok (.ifCond .eq 7, 3) := by decide +kernel
theorem dX9_looksAtValue_50 : decode cX9_looksAtValue 50 = .ok (.iconst 1, 1) := by decide +kernel
theorem dX9_looksAtValue_51 : decode cX9_looksAtValue 51 = .ok (.goto 4, 3) := by decide +kernel
theorem dX9_looksAtValue_54 : decode cX9_looksAtValue 54 = .ok (.iconst 0, 1) := by decide +kernel
theorem dX9_looksAtValue_55 : decode cX9_looksAtValue 55 = .ok (.istore_n 1, 1) := by decide +kernel
theorem dX9_looksAtValue_56 : decode cX9_looksAtValue 56 = .ok (.iinc 2 1, 3) := by decide +kernel
theorem dX9_looksAtValue_59 : decode cX9_looksAtValue 59 = .ok (.goto (-55), 3) := by decide +kernel
theorem dX9_looksAtValue_62 : decode cX9_looksAtValue 62 = .ok (.iload_n 1, 1) := by decide +kernel
theorem dX9_looksAtValue_63 : decode cX9_looksAtValue 63 = .ok (.ifCond .eq 45, 3) := by decide +kernel
theorem dX9_looksAtValue_66 : decode cX9_looksAtValue 66 = .ok (.aload_n 0, 1) := by decide +kernel
theorem dX9_looksAtValue_67 : decode cX9_looksAtValue 67 = .ok (.getfield 44, 3) := by decide +kernel
theorem dX9_looksAtValue_70 : decode cX9_looksAtValue 70 = .ok (.iconst 2, 1) := by decide +kernel
theorem dX9_looksAtValue_71 : decode cX9_looksAtValue 71 = .ok (.aload_n 0, 1) := by decide +kernel
theorem dX9_looksAtValue_72 : decode cX9_looksAtValue 72 = .ok (.getfield 276, 3) := by decide +kernel
theorem dX9_looksAtValue_75 : decode cX9_looksAtValue 75 = .ok (.imul, 1) := by decide +kernel
theorem dX9_looksAtValue_76 : decode cX9_looksAtValue 76 = .ok (.aload_n 0, 1) := by decide +kernel
theorem dX9_looksAtValue_77 : decode cX9_looksAtValue 77 = .ok (.getfield 72, 3) := by decide +kernel
theorem dX9_looksAtValue_80 : decode cX9_looksAtValue 80 = .ok (.lastore, 1) := by decide +kernel
theorem dX9_looksAtValue_81 : decode cX9_looksAtValue 81 = .ok (.aload_n 0, 1) := by decide +kernel
theorem dX9_looksAtValue_82 : decode cX9_looksAtValue 82 = .ok (.getfield 44, 3) := by decide +kernel
theorem dX9_looksAtValue_85 : decode cX9_looksAtValue 85 = .ok (.iconst 2, 1) := by decide +kernel
theorem dX9_looksAtValue_86 : decode cX9_looksAtValue 86 = .ok (.aload_n 0, 1) := by decide +kernel
theorem dX9_looksAtValue_87 : decode cX9_looksAtValue 87 = .ok (.getfield 276, 3) := by decide +kernel
theorem dX9_looksAtValue_90 : decode cX9_looksAtValue 90 = .ok (.imul, 1) := by decide +kernel
theorem dX9_looksAtValue_91 : decode cX9_looksAtValue 91 = .ok (.iconst 1, 1) := by decide +kernel
theorem dX9_looksAtValue_92 : decode cX9_looksAtValue 92 = .ok (.iadd, 1) := by decide +kernel
theorem dX9_looksAtValue_93 : decode cX9_looksAtValue 93 = .ok (.aload_n 0, 1) := by decide +kernel
theorem dX9_looksAtValue_94 : decode cX9_looksAtValue 94 = .ok (.getfield 76, 3) := by decide +kernel
theorem dX9_looksAtValue_97 : decode cX9_looksAtValue 97 = .ok (.lastore, 1) := by decide +kernel
theorem dX9_looksAtValue_98 : decode cX9_looksAtValue 98 = .ok (.aload_n 0, 1) := by decide +kernel
theorem dX9_looksAtValue_99 : decode cX9_looksAtValue 99 = .ok (.dup, 1) := by decide +kernel
theorem dX9_looksAtValue_100 : decode cX9_looksAtValue 100 = .ok (.getfield 276, 3) := by decide +kernel
theorem dX9_looksAtValue_103 : decode cX9_looksAtValue 103 = .ok (.iconst 1, 1) := by decide +kernel
theorem dX9_looksAtValue_104 : decode cX9_looksAtValue 104 = .ok (.iadd, 1) := by decide +kernel
theorem dX9_looksAtValue_105 : decode cX9_looksAtValue 105 = .ok (.putfield 276, 3) := by decide +kernel
theorem dX9_looksAtValue_108 : decode cX9_looksAtValue 108 = .ok (.aload_n 0, 1) := by decide +kernel
theorem dX9_looksAtValue_109 : decode cX9_looksAtValue 109 = .ok (.getfield 279, 3) := by decide +kernel
theorem dX9_looksAtValue_112 : decode cX9_looksAtValue 112 = .ok (.iconst 1, 1) := by decide +kernel
theorem dX9_looksAtValue_113 : decode cX9_looksAtValue 113 = .ok (.if_icmp .eq 25, 3) := by decide +kernel
theorem dX9_looksAtValue_116 : decode cX9_looksAtValue 116 = .ok (.aload_n 0, 1) := by decide +kernel
theorem dX9_looksAtValue_117 : decode cX9_looksAtValue 117 = .ok (.getfield 72, 3) := by decide +kernel
theorem dX9_looksAtValue_120 : decode cX9_looksAtValue 120 = .ok (.aload_n 0, 1) := by decide +kernel
theorem dX9_looksAtValue_121 : decode cX9_looksAtValue 121 = .ok (.getfield 282, 3) := by decide +kernel
theorem dX9_looksAtValue_124 : decode cX9_looksAtValue 124 = .ok (.lmul, 1) := by decide +kernel
theorem dX9_looksAtValue_125 : decode cX9_looksAtValue 125 = .ok (.aload_n 0, 1) := by decide +kernel
theorem dX9_looksAtValue_126 : decode cX9_looksAtValue 126 = .ok (.getfield 285, 3) := by decide +kernel
theorem dX9_looksAtValue_129 : decode cX9_looksAtValue 129 = .ok (.aload_n 0, 1) := by decide +kernel
theorem dX9_looksAtValue_130 : decode cX9_looksAtValue 130 = .ok (.getfield 76, 3) := by decide +kernel
theorem dX9_looksAtValue_133 : decode cX9_looksAtValue 133 = .ok (.lmul, 1) := by decide +kernel
theorem dX9_looksAtValue_134 : decode cX9_looksAtValue 134 = .ok (.lcmp, 1) := by decide +kernel
theorem dX9_looksAtValue_135 : decode cX9_looksAtValue 135 = .ok (.ifCond .le 7, 3) := by decide +kernel
theorem dX9_looksAtValue_138 : decode cX9_looksAtValue 138 = .ok (.iconst 1, 1) := by decide +kernel
theorem dX9_looksAtValue_139 : decode cX9_looksAtValue 139 = .ok (.goto 4, 3) := by decide +kernel
theorem dX9_looksAtValue_142 : decode cX9_looksAtValue 142 = .ok (.iconst 0, 1) := by decide +kernel
theorem dX9_looksAtValue_143 : decode cX9_looksAtValue 143 = .ok (.istore_n 2, 1) := by decide +kernel
theorem dX9_looksAtValue_144 : decode cX9_looksAtValue 144 = .ok (.aload_n 0, 1) := by decide +kernel
theorem dX9_looksAtValue_145 : decode cX9_looksAtValue 145 = .ok (.iload_n 2, 1) := by decide +kernel
theorem dX9_looksAtValue_146 : decode cX9_looksAtValue 146 = .ok (.ifCond .eq 10, 3) := by decide +kernel
theorem dX9_looksAtValue_149 : decode cX9_looksAtValue 149 = .ok (.aload_n 0, 1) := by decide +kernel
theorem dX9_looksAtValue_150 : decode cX9_looksAtValue 150 = .ok (.getfield 72, 3) := by decide +kernel
theorem dX9_looksAtValue_153 : decode cX9_looksAtValue 153 = .ok (.goto 7, 3) := by decide +kernel
theorem dX9_looksAtValue_156 : decode cX9_looksAtValue 156 = .ok (.aload_n 0, 1) := by decide +kernel
theorem dX9_looksAtValue_157 : decode cX9_looksAtValue 157 = .ok (.getfield 285, 3) := by decide +kernel
theorem dX9_looksAtValue_160 : decode cX9_looksAtValue 160 = .ok (.putfield 285, 3) := by decide +kernel
theorem dX9_looksAtValue_163 : decode cX9_looksAtValue 163 = .ok (.aload_n 0, 1) := by decide +kernel
theorem dX9_looksAtValue_164 : decode cX9_looksAtValue 164 = .ok (.iload_n 2, 1) := by decide +kernel
theorem dX9_looksAtValue_165 : decode cX9_looksAtValue 165 = .ok (.ifCond .eq 10, 3) := by decide +kernel
theorem dX9_looksAtValue_168 : decode cX9_looksAtValue 168 = .ok (.aload_n 0, 1) := by decide +kernel
theorem dX9_looksAtValue_169 : decode cX9_looksAtValue 169 = .ok (.getfield 76, 3) := by decide +kernel
theorem dX9_looksAtValue_172 : decode cX9_looksAtValue 172 = .ok (.goto 7, 3) := by decide +kernel
theorem dX9_looksAtValue_175 : decode cX9_looksAtValue 175 = .ok (.aload_n 0, 1) := by decide +kernel
theorem dX9_looksAtValue_176 : decode cX9_looksAtValue 176 = .ok (.getfield 282, 3) := by decide +kernel
theorem dX9_looksAtValue_179 : decode cX9_looksAtValue 179 = .ok (.putfield 282, 3) := by decide +kernel
theorem dX9_looksAtValue_182 : decode cX9_looksAtValue 182 = .ok (.return_, 1) := by decide +kernel
theorem dX9_looksAtBases_0 : decode cX9_looksAtBases 0 = .ok (.aload_n 0, 1) := by decide +kernel
theorem dX9_looksAtBases_1 : decode cX9_looksAtBases 1 = .ok (.iconst 0, 1) := by decide +kernel
theorem dX9_looksAtBases_2 : decode cX9_looksAtBases 2 = .ok (.putfield 279, 3) := by decide +kernel
theorem dX9_looksAtBases_5 : decode cX9_looksAtBases 5 = .ok (.aload_n 0, 1) := by decide +kernel
theorem dX9_looksAtBases_6 : decode cX9_looksAtBases 6 = .ok (.iconst 0, 1) := by decide +kernel
theorem dX9_looksAtBases_7 : decode cX9_looksAtBases 7 = .ok (.putfield 276, 3) := by decide +kernel
theorem dX9_looksAtBases_10 : decode cX9_looksAtBases 10 = .ok (.iconst 0, 1) := by decide +kernel
theorem dX9_looksAtBases_11 : decode cX9_looksAtBases 11 = .ok (.istore_n 1, 1) := by decide +kernel
theorem dX9_looksAtBases_12 : decode cX9_looksAtBases 12 = .ok (.iload_n 1, 1) := by decide +kernel
theorem dX9_looksAtBases_13 : decode cX9_looksAtBases 13 = .ok (.iconst 1, 1) := by decide +kernel
theorem dX9_looksAtBases_14 : decode cX9_looksAtBases 14 = .ok (.aload_n 0, 1) := by decide +kernel
theorem dX9_looksAtBases_15 : decode cX9_looksAtBases 15 = .ok (.invokevirtual 61, 3) := by decide +kernel
theorem dX9_looksAtBases_18 : decode cX9_looksAtBases 18 = .ok (.ishl, 1) := by decide +kernel
theorem dX9_looksAtBases_19 : decode cX9_looksAtBases 19 = .ok (.if_icmp .ge 49, 3) := by decide +kernel
theorem dX9_looksAtBases_22 : decode cX9_looksAtBases 22 = .ok (.aload_n 0, 1) := by decide +kernel
theorem dX9_looksAtBases_23 : decode cX9_looksAtBases 23 = .ok (.iload_n 1, 1) := by decide +kernel
theorem dX9_looksAtBases_24 : decode cX9_looksAtBases 24 = .ok (.invokevirtual 288, 3) := by decide +kernel
theorem dX9_looksAtBases_27 : decode cX9_looksAtBases 27 = .ok (.ifCond .eq 35, 3) := by decide +kernel
theorem dX9_looksAtBases_30 : decode cX9_looksAtBases 30 = .ok (.aload_n 0, 1) := by decide +kernel
theorem dX9_looksAtBases_31 : decode cX9_looksAtBases 31 = .ok (.invokevirtual 98, 3) := by decide +kernel
theorem dX9_looksAtBases_34 : decode cX9_looksAtBases 34 = .ok (.ifCond .eq 28, 3) := by decide +kernel
theorem dX9_looksAtBases_37 : decode cX9_looksAtBases 37 = .ok (.aload_n 0, 1) := by decide +kernel
theorem dX9_looksAtBases_38 : decode cX9_looksAtBases 38 = .ok (.invokevirtual 291, 3) := by decide +kernel
theorem dX9_looksAtBases_41 : decode cX9_looksAtBases 41 = .ok (.ifCond .eq 21, 3) := by decide +kernel
theorem dX9_looksAtBases_44 : decode cX9_looksAtBases 44 = .ok (.aload_n 0, 1) := by decide +kernel
theorem dX9_looksAtBases_45 : decode cX9_looksAtBases 45 = .ok (.dup, 1) := by decide +kernel
theorem dX9_looksAtBases_46 : decode cX9_looksAtBases 46 = .ok (.getfield 279, 3) := by decide +kernel
theorem dX9_looksAtBases_49 : decode cX9_looksAtBases 49 = .ok (.iconst 1, 1) := by decide +kernel
theorem dX9_looksAtBases_50 : decode cX9_looksAtBases 50 = .ok (.iadd, 1) := by decide +kernel
theorem dX9_looksAtBases_51 : decode cX9_looksAtBases 51 = .ok (.putfield 279, 3) := by decide +kernel
theorem dX9_looksAtBases_54 : decode cX9_looksAtBases 54 = .ok (.aload_n 0, 1) := by decide +kernel
theorem dX9_looksAtBases_55 : decode cX9_looksAtBases 55 = .ok (.invokevirtual 246, 3) := by decide +kernel
theorem dX9_looksAtBases_58 : decode cX9_looksAtBases 58 = .ok (.aload_n 0, 1) := by decide +kernel
theorem dX9_looksAtBases_59 : decode cX9_looksAtBases 59 = .ok (.invokevirtual 294, 3) := by decide +kernel
theorem dX9_looksAtBases_62 : decode cX9_looksAtBases 62 = .ok (.iinc 1 1, 3) := by decide +kernel
theorem dX9_looksAtBases_65 : decode cX9_looksAtBases 65 = .ok (.goto (-53), 3) := by decide +kernel
theorem dX9_looksAtBases_68 : decode cX9_looksAtBases 68 = .ok (.return_, 1) := by decide +kernel
theorem dX9_feasibleBases_0 : decode cX9_feasibleBases 0 = .ok (.aload_n 0, 1) := by decide +kernel
theorem dX9_feasibleBases_1 : decode cX9_feasibleBases 1 = .ok (.iconst 0, 1) := by decide +kernel
theorem dX9_feasibleBases_2 : decode cX9_feasibleBases 2 = .ok (.putfield 53, 3) := by decide +kernel
theorem dX9_feasibleBases_5 : decode cX9_feasibleBases 5 = .ok (.aload_n 0, 1) := by decide +kernel
theorem dX9_feasibleBases_6 : decode cX9_feasibleBases 6 = .ok (.invokevirtual 297, 3) := by decide +kernel
theorem dX9_feasibleBases_9 : decode cX9_feasibleBases 9 = .ok (.aload_n 0, 1) := by decide +kernel
theorem dX9_feasibleBases_10 : decode cX9_feasibleBases 10 = .ok (.getfield 279, 3) := by decide +kernel
theorem dX9_feasibleBases_13 : decode cX9_feasibleBases 13 = .ok (.ireturn, 1) := by decide +kernel
theorem dX9_unlikeValues_0 : decode cX9_unlikeValues 0 = .ok (.aload_n 0, 1) := by decide +kernel
theorem dX9_unlikeValues_1 : decode cX9_unlikeValues 1 = .ok (.iconst 0, 1) := by decide +kernel
theorem dX9_unlikeValues_2 : decode cX9_unlikeValues 2 = .ok (.putfield 53, 3) := by decide +kernel
theorem dX9_unlikeValues_5 : decode cX9_unlikeValues 5 = .ok (.aload_n 0, 1) := by decide +kernel
theorem dX9_unlikeValues_6 : decode cX9_unlikeValues 6 = .ok (.invokevirtual 297, 3) := by decide +kernel
theorem dX9_unlikeValues_9 : decode cX9_unlikeValues 9 = .ok (.aload_n 0, 1) := by decide +kernel
theorem dX9_unlikeValues_10 : decode cX9_unlikeValues 10 = .ok (.getfield 276, 3) := by decide +kernel
theorem dX9_unlikeValues_13 : decode cX9_unlikeValues 13 = .ok (.ireturn, 1) := by decide +kernel
theorem dX9_bestNumerator_0 : decode cX9_bestNumerator 0 = .ok (.aload_n 0, 1) := by decide +kernel
theorem dX9_bestNumerator_1 : decode cX9_bestNumerator 1 = .ok (.iconst 0, 1) := by decide +kernel
theorem dX9_bestNumerator_2 : decode cX9_bestNumerator 2 = .ok (.putfield 53, 3) := by decide +kernel
theorem dX9_bestNumerator_5 : decode cX9_bestNumerator 5 = .ok (.aload_n 0, 1) := by decide +kernel
theorem dX9_bestNumerator_6 : decode cX9_bestNumerator 6 = .ok (.invokevirtual 297, 3) := by decide +kernel
theorem dX9_bestNumerator_9 : decode cX9_bestNumerator 9 = .ok (.aload_n 0, 1) := by decide +kernel
theorem dX9_bestNumerator_10 : decode cX9_bestNumerator 10 = .ok (.getfield 285, 3) := by decide +kernel
theorem dX9_bestNumerator_13 : decode cX9_bestNumerator 13 = .ok (.lreturn, 1) := by decide +kernel
theorem dX9_bestDenominator_0 : decode cX9_bestDenominator 0 = .ok (.aload_n 0, 1) := by decide +kernel
theorem dX9_bestDenominator_1 : decode cX9_bestDenominator 1 = .ok (.iconst 0, 1) := by decide +kernel
theorem dX9_bestDenominator_2 : decode cX9_bestDenominator 2 = .ok (.putfield 53, 3) := by decide +kernel
theorem dX9_bestDenominator_5 : decode cX9_bestDenominator 5 = .ok (.aload_n 0, 1) := by decide +kernel
theorem dX9_bestDenominator_6 : decode cX9_bestDenominator 6 = .ok (.invokevirtual 297, 3) := by decide +kernel
theorem dX9_bestDenominator_9 : decode cX9_bestDenominator 9 = .ok (.aload_n 0, 1) := by decide +kernel
theorem dX9_bestDenominator_10 : decode cX9_bestDenominator 10 = .ok (.getfield 282, 3) := by decide +kernel
theorem dX9_bestDenominator_13 : decode cX9_bestDenominator 13 = .ok (.lreturn, 1) := by decide +kernel
theorem dX9_whyNoPivot_0 : decode cX9_whyNoPivot 0 = .ok (.aload_n 0, 1) := by decide +kernel
theorem dX9_whyNoPivot_1 : decode cX9_whyNoPivot 1 = .ok (.aload_n 0, 1) := by decide +kernel
theorem dX9_whyNoPivot_2 : decode cX9_whyNoPivot 2 = .ok (.iload_n 1, 1) := by decide +kernel
theorem dX9_whyNoPivot_3 : decode cX9_whyNoPivot 3 = .ok (.iload_n 2, 1) := by decide +kernel
theorem dX9_whyNoPivot_4 : decode cX9_whyNoPivot 4 = .ok (.invokevirtual 184, 3) := by decide +kernel
theorem dX9_whyNoPivot_7 : decode cX9_whyNoPivot 7 = .ok (.ifCond .eq 7, 3) := by decide +kernel
theorem dX9_whyNoPivot_10 : decode cX9_whyNoPivot 10 = .ok (.iconst 0, 1) := by decide +kernel
theorem dX9_whyNoPivot_11 : decode cX9_whyNoPivot 11 = .ok (.goto 4, 3) := by decide +kernel
theorem dX9_whyNoPivot_14 : decode cX9_whyNoPivot 14 = .ok (.iconst 1, 1) := by decide +kernel
theorem dX9_whyNoPivot_15 : decode cX9_whyNoPivot 15 = .ok (.invokevirtual 160, 3) := by decide +kernel
theorem dX9_whyNoPivot_18 : decode cX9_whyNoPivot 18 = .ok (.ifCond .eq 12, 3) := by decide +kernel
theorem dX9_whyNoPivot_21 : decode cX9_whyNoPivot 21 = .ok (.aload_n 0, 1) := by decide +kernel
theorem dX9_whyNoPivot_22 : decode cX9_whyNoPivot 22 = .ok (.iload_n 1, 1) := by decide +kernel
theorem dX9_whyNoPivot_23 : decode cX9_whyNoPivot 23 = .ok (.iload_n 2, 1) := by decide +kernel
theorem dX9_whyNoPivot_24 : decode cX9_whyNoPivot 24 = .ok (.invokevirtual 188, 3) := by decide +kernel
theorem dX9_whyNoPivot_27 : decode cX9_whyNoPivot 27 = .ok (.goto 4, 3) := by decide +kernel
theorem dX9_whyNoPivot_30 : decode cX9_whyNoPivot 30 = .ok (.iconst 0, 1) := by decide +kernel
theorem dX9_whyNoPivot_31 : decode cX9_whyNoPivot 31 = .ok (.ireturn, 1) := by decide +kernel
theorem dX9_nextColumn_0 : decode cX9_nextColumn 0 = .ok (.aload_n 0, 1) := by decide +kernel
theorem dX9_nextColumn_1 : decode cX9_nextColumn 1 = .ok (.aload_n 0, 1) := by decide +kernel
theorem dX9_nextColumn_2 : decode cX9_nextColumn 2 = .ok (.invokevirtual 191, 3) := by decide +kernel
theorem dX9_nextColumn_5 : decode cX9_nextColumn 5 = .ok (.ifCond .eq 7, 3) := by decide +kernel
theorem dX9_nextColumn_8 : decode cX9_nextColumn 8 = .ok (.iconst 1, 1) := by decide +kernel
theorem dX9_nextColumn_9 : decode cX9_nextColumn 9 = .ok (.goto 4, 3) := by decide +kernel
theorem dX9_nextColumn_12 : decode cX9_nextColumn 12 = .ok (.iconst 0, 1) := by decide +kernel
theorem dX9_nextColumn_13 : decode cX9_nextColumn 13 = .ok (.invokevirtual 160, 3) := by decide +kernel
theorem dX9_nextColumn_16 : decode cX9_nextColumn 16 = .ok (.ifCond .eq 10, 3) := by decide +kernel
theorem dX9_nextColumn_19 : decode cX9_nextColumn 19 = .ok (.aload_n 0, 1) := by decide +kernel
theorem dX9_nextColumn_20 : decode cX9_nextColumn 20 = .ok (.invokevirtual 153, 3) := by decide +kernel
theorem dX9_nextColumn_23 : decode cX9_nextColumn 23 = .ok (.goto 4, 3) := by decide +kernel
theorem dX9_nextColumn_26 : decode cX9_nextColumn 26 = .ok (.iconst 0, 1) := by decide +kernel
theorem dX9_nextColumn_27 : decode cX9_nextColumn 27 = .ok (.ireturn, 1) := by decide +kernel
theorem dX9_nextRow_0 : decode cX9_nextRow 0 = .ok (.aload_n 0, 1) := by decide +kernel
theorem dX9_nextRow_1 : decode cX9_nextRow 1 = .ok (.aload_n 0, 1) := by decide +kernel
theorem dX9_nextRow_2 : decode cX9_nextRow 2 = .ok (.invokevirtual 191, 3) := by decide +kernel
theorem dX9_nextRow_5 : decode cX9_nextRow 5 = .ok (.ifCond .eq 7, 3) := by decide +kernel
theorem dX9_nextRow_8 : decode cX9_nextRow 8 = .ok (.iconst 1, 1) := by decide +kernel
theorem dX9_nextRow_9 : decode cX9_nextRow 9 = .ok (.goto 4, 3) := by decide +kernel
theorem dX9_nextRow_12 : decode cX9_nextRow 12 = .ok (.iconst 0, 1) := by decide +kernel
theorem dX9_nextRow_13 : decode cX9_nextRow 13 = .ok (.invokevirtual 160, 3) := by decide +kernel
theorem dX9_nextRow_16 : decode cX9_nextRow 16 = .ok (.ifCond .eq 14, 3) := by decide +kernel
theorem dX9_nextRow_19 : decode cX9_nextRow 19 = .ok (.aload_n 0, 1) := by decide +kernel
theorem dX9_nextRow_20 : decode cX9_nextRow 20 = .ok (.aload_n 0, 1) := by decide +kernel
theorem dX9_nextRow_21 : decode cX9_nextRow 21 = .ok (.invokevirtual 153, 3) := by decide +kernel
theorem dX9_nextRow_24 : decode cX9_nextRow 24 = .ok (.invokevirtual 131, 3) := by decide +kernel
theorem dX9_nextRow_27 : decode cX9_nextRow 27 = .ok (.goto 4, 3) := by decide +kernel
theorem dX9_nextRow_30 : decode cX9_nextRow 30 = .ok (.iconst 0, 1) := by decide +kernel
theorem dX9_nextRow_31 : decode cX9_nextRow 31 = .ok (.ireturn, 1) := by decide +kernel
theorem dX9_leftPivots_0 : decode cX9_leftPivots 0 = .ok (.aload_n 0, 1) := by decide +kernel
theorem dX9_leftPivots_1 : decode cX9_leftPivots 1 = .ok (.invokevirtual 300, 3) := by decide +kernel
theorem dX9_leftPivots_4 : decode cX9_leftPivots 4 = .ok (.aload_n 0, 1) := by decide +kernel
theorem dX9_leftPivots_5 : decode cX9_leftPivots 5 = .ok (.invokevirtual 194, 3) := by decide +kernel
theorem dX9_leftPivots_8 : decode cX9_leftPivots 8 = .ok (.istore_n 1, 1) := by decide +kernel
theorem dX9_leftPivots_9 : decode cX9_leftPivots 9 = .ok (.aload_n 0, 1) := by decide +kernel
theorem dX9_leftPivots_10 : decode cX9_leftPivots 10 = .ok (.invokevirtual 303, 3) := by decide +kernel
theorem dX9_leftPivots_13 : decode cX9_leftPivots 13 = .ok (.iload_n 1, 1) := by decide +kernel
theorem dX9_leftPivots_14 : decode cX9_leftPivots 14 = .ok (.ireturn, 1) := by decide +kernel
theorem dX9_pivotsLeft_0 : decode cX9_pivotsLeft 0 = .ok (.aload_n 0, 1) := by decide +kernel
theorem dX9_pivotsLeft_1 : decode cX9_pivotsLeft 1 = .ok (.iconst 0, 1) := by decide +kernel
theorem dX9_pivotsLeft_2 : decode cX9_pivotsLeft 2 = .ok (.putfield 53, 3) := by decide +kernel
theorem dX9_pivotsLeft_5 : decode cX9_pivotsLeft 5 = .ok (.aload_n 0, 1) := by decide +kernel
theorem dX9_pivotsLeft_6 : decode cX9_pivotsLeft 6 = .ok (.invokevirtual 306, 3) := by decide +kernel
theorem dX9_pivotsLeft_9 : decode cX9_pivotsLeft 9 = .ok (.ireturn, 1) := by decide +kernel
theorem dX9_staysFeasible_0 : decode cX9_staysFeasible 0 = .ok (.iconst 1, 1) := by decide +kernel
theorem dX9_staysFeasible_1 : decode cX9_staysFeasible 1 = .ok (.istore_n 3, 1) := by decide +kernel
theorem dX9_staysFeasible_2 : decode cX9_staysFeasible 2 = .ok (.iconst 0, 1) := by decide +kernel
theorem dX9_staysFeasible_3 : decode cX9_staysFeasible 3 = .ok (.istore 4, 2) := by decide +kernel
theorem dX9_staysFeasible_5 : decode cX9_staysFeasible 5 = .ok (.iload 4, 2) := by decide +kernel
theorem dX9_staysFeasible_7 : decode cX9_staysFeasible 7 = .ok (.aload_n 0, 1) := by decide +kernel
theorem dX9_staysFeasible_8 : decode cX9_staysFeasible 8 = .ok (.getfield 7, 3) := by decide +kernel
theorem dX9_staysFeasible_11 : decode cX9_staysFeasible 11 = .ok (.iconst 1, 1) := by decide +kernel
theorem dX9_staysFeasible_12 : decode cX9_staysFeasible 12 = .ok (.iaload, 1) := by decide +kernel
theorem dX9_staysFeasible_13 : decode cX9_staysFeasible 13 = .ok (.if_icmp .ge 104, 3) := by decide +kernel
theorem dX9_staysFeasible_16 : decode cX9_staysFeasible 16 = .ok (.aload_n 0, 1) := by decide +kernel
theorem dX9_staysFeasible_17 : decode cX9_staysFeasible 17 = .ok (.aload_n 0, 1) := by decide +kernel
theorem dX9_staysFeasible_18 : decode cX9_staysFeasible 18 = .ok (.iload 4, 2) := by decide +kernel
theorem dX9_staysFeasible_20 : decode cX9_staysFeasible 20 = .ok (.bipush 8, 2) := by decide +kernel
theorem dX9_staysFeasible_22 : decode cX9_staysFeasible 22 = .ok (.invokevirtual 102, 3) := by decide +kernel
theorem dX9_staysFeasible_25 : decode cX9_staysFeasible 25 = .ok (.aload_n 0, 1) := by decide +kernel
theorem dX9_staysFeasible_26 : decode cX9_staysFeasible 26 = .ok (.getfield 29, 3) := by decide +kernel
theorem dX9_staysFeasible_29 : decode cX9_staysFeasible 29 = .ok (.bipush 9, 2) := by decide +kernel
theorem dX9_staysFeasible_31 : decode cX9_staysFeasible 31 = .ok (.iload 4, 2) := by decide +kernel
theorem dX9_staysFeasible_33 : decode cX9_staysFeasible 33 = .ok (.imul, 1) := by decide +kernel
theorem dX9_staysFeasible_34 : decode cX9_staysFeasible 34 = .ok (.bipush 9, 2) := by decide +kernel
theorem dX9_staysFeasible_36 : decode cX9_staysFeasible 36 = .ok (.iadd, 1) := by decide +kernel
theorem dX9_staysFeasible_37 : decode cX9_staysFeasible 37 = .ok (.iconst 1, 1) := by decide +kernel
theorem dX9_staysFeasible_38 : decode cX9_staysFeasible 38 = .ok (.isub, 1) := by decide +kernel
theorem dX9_staysFeasible_39 : decode cX9_staysFeasible 39 = .ok (.laload, 1) := by decide +kernel
theorem dX9_staysFeasible_40 : decode cX9_staysFeasible 40 = .ok (.invokevirtual 79, 3) := by decide +kernel
theorem dX9_staysFeasible_43 : decode cX9_staysFeasible 43 = .ok (.aload_n 0, 1) := by decide +kernel
theorem dX9_staysFeasible_44 : decode cX9_staysFeasible 44 = .ok (.iload_n 2, 1) := by decide +kernel
theorem dX9_staysFeasible_45 : decode cX9_staysFeasible 45 = .ok (.aload_n 0, 1) := by decide +kernel
theorem dX9_staysFeasible_46 : decode cX9_staysFeasible 46 = .ok (.getfield 7, 3) := by decide +kernel
theorem dX9_staysFeasible_49 : decode cX9_staysFeasible 49 = .ok (.bipush 22, 2) := by decide +kernel
theorem dX9_staysFeasible_51 : decode cX9_staysFeasible 51 = .ok (.iload_n 1, 1) := by decide +kernel
theorem dX9_staysFeasible_52 : decode cX9_staysFeasible 52 = .ok (.iadd, 1) := by decide +kernel
theorem dX9_staysFeasible_53 : decode cX9_staysFeasible 53 = .ok (.iaload, 1) := by decide +kernel
theorem dX9_staysFeasible_54 : decode cX9_staysFeasible 54 = .ok (.isub, 1) := by decide +kernel
theorem dX9_staysFeasible_55 : decode cX9_staysFeasible 55 = .ok (.i2l, 1) := by decide +kernel
theorem dX9_staysFeasible_56 : decode cX9_staysFeasible 56 = .ok (.aload_n 0, 1) := by decide +kernel
theorem dX9_staysFeasible_57 : decode cX9_staysFeasible 57 = .ok (.iload 4, 2) := by decide +kernel
theorem dX9_staysFeasible_59 : decode cX9_staysFeasible 59 = .ok (.aload_n 0, 1) := by decide +kernel
theorem dX9_staysFeasible_60 : decode cX9_staysFeasible 60 = .ok (.getfield 7, 3) := by decide +kernel
theorem dX9_staysFeasible_63 : decode cX9_staysFeasible 63 = .ok (.iconst 0, 1) := by decide +kernel
theorem dX9_staysFeasible_64 : decode cX9_staysFeasible 64 = .ok (.iaload, 1) := by decide +kernel
theorem dX9_staysFeasible_65 : decode cX9_staysFeasible 65 = .ok (.iload_n 1, 1) := by decide +kernel
theorem dX9_staysFeasible_66 : decode cX9_staysFeasible 66 = .ok (.iadd, 1) := by decide +kernel
theorem dX9_staysFeasible_67 : decode cX9_staysFeasible 67 = .ok (.invokevirtual 102, 3) := by decide +kernel
theorem dX9_staysFeasible_70 : decode cX9_staysFeasible 70 = .ok (.aload_n 0, 1) := by decide +kernel
theorem dX9_staysFeasible_71 : decode cX9_staysFeasible 71 = .ok (.getfield 29, 3) := by decide +kernel
theorem dX9_staysFeasible_74 : decode cX9_staysFeasible 74 = .ok (.bipush 9, 2) := by decide +kernel
theorem dX9_staysFeasible_76 : decode cX9_staysFeasible 76 = .ok (.iload 4, 2) := by decide +kernel
theorem dX9_staysFeasible_78 : decode cX9_staysFeasible 78 = .ok (.imul, 1) := by decide +kernel
theorem dX9_staysFeasible_79 : decode cX9_staysFeasible 79 = .ok (.aload_n 0, 1) := by decide +kernel
theorem dX9_staysFeasible_80 : decode cX9_staysFeasible 80 = .ok (.getfield 7, 3) := by decide +kernel
theorem dX9_staysFeasible_83 : decode cX9_staysFeasible 83 = .ok (.iconst 0, 1) := by decide +kernel
theorem dX9_staysFeasible_84 : decode cX9_staysFeasible 84 = .ok (.iaload, 1) := by decide +kernel
theorem dX9_staysFeasible_85 : decode cX9_staysFeasible 85 = .ok (.iadd, 1) := by decide +kernel
theorem dX9_staysFeasible_86 : decode cX9_staysFeasible 86 = .ok (.iload_n 1, 1) := by decide +kernel
theorem dX9_staysFeasible_87 : decode cX9_staysFeasible 87 = .ok (.iadd, 1) := by decide +kernel
theorem dX9_staysFeasible_88 : decode cX9_staysFeasible 88 = .ok (.laload, 1) := by decide +kernel
theorem dX9_staysFeasible_89 : decode cX9_staysFeasible 89 = .ok (.invokevirtual 110, 3) := by decide +kernel
theorem dX9_staysFeasible_92 : decode cX9_staysFeasible 92 = .ok (.iload_n 3, 1) := by decide +kernel
theorem dX9_staysFeasible_93 : decode cX9_staysFeasible 93 = .ok (.ifCond .eq 16, 3) := by decide +kernel
theorem dX9_staysFeasible_96 : decode cX9_staysFeasible 96 = .ok (.aload_n 0, 1) := by decide +kernel
theorem dX9_staysFeasible_97 : decode cX9_staysFeasible 97 = .ok (.getfield 72, 3) := by decide +kernel
theorem dX9_staysFeasible_100 : decode cX9_staysFeasible 100 = .ok (.lconst 0, 1) := by decide +kernel
theorem dX9_staysFeasible_101 : decode cX9_staysFeasible 101 = .ok (.lcmp, 1) := by decide +kernel
theorem dX9_staysFeasible_102 : decode cX9_staysFeasible 102 = .ok (.ifCond .lt 7, 3) := by decide +kernel
theorem dX9_staysFeasible_105 : decode cX9_staysFeasible 105 = .ok (.iconst 1, 1) := by decide +kernel
theorem dX9_staysFeasible_106 : decode cX9_staysFeasible 106 = .ok (.goto 4, 3) := by decide +kernel
theorem dX9_staysFeasible_109 : decode cX9_staysFeasible 109 = .ok (.iconst 0, 1) := by decide +kernel
theorem dX9_staysFeasible_110 : decode cX9_staysFeasible 110 = .ok (.istore_n 3, 1) := by decide +kernel
theorem dX9_staysFeasible_111 : decode cX9_staysFeasible 111 = .ok (.iinc 4 1, 3) := by decide +kernel
theorem dX9_staysFeasible_114 : decode cX9_staysFeasible 114 = .ok (.goto (-109), 3) := by decide +kernel
theorem dX9_staysFeasible_117 : decode cX9_staysFeasible 117 = .ok (.iload_n 3, 1) := by decide +kernel
theorem dX9_staysFeasible_118 : decode cX9_staysFeasible 118 = .ok (.ireturn, 1) := by decide +kernel
theorem dX9_outer_0 : decode cX9_outer 0 = .ok (.aload_n 0, 1) := by decide +kernel
theorem dX9_outer_1 : decode cX9_outer 1 = .ok (.invokevirtual 141, 3) := by decide +kernel
theorem dX9_outer_4 : decode cX9_outer 4 = .ok (.aload_n 0, 1) := by decide +kernel
theorem dX9_outer_5 : decode cX9_outer 5 = .ok (.getfield 7, 3) := by decide +kernel
theorem dX9_outer_8 : decode cX9_outer 8 = .ok (.bipush 22, 2) := by decide +kernel
theorem dX9_outer_10 : decode cX9_outer 10 = .ok (.iload_n 1, 1) := by decide +kernel
theorem dX9_outer_11 : decode cX9_outer 11 = .ok (.iadd, 1) := by decide +kernel
theorem dX9_outer_12 : decode cX9_outer 12 = .ok (.iaload, 1) := by decide +kernel
theorem dX9_outer_13 : decode cX9_outer 13 = .ok (.istore_n 3, 1) := by decide +kernel
theorem dX9_outer_14 : decode cX9_outer 14 = .ok (.iconst 0, 1) := by decide +kernel
theorem dX9_outer_15 : decode cX9_outer 15 = .ok (.istore 4, 2) := by decide +kernel
theorem dX9_outer_17 : decode cX9_outer 17 = .ok (.iload 4, 2) := by decide +kernel
theorem dX9_outer_19 : decode cX9_outer 19 = .ok (.bipush 100, 2) := by decide +kernel
theorem dX9_outer_21 : decode cX9_outer 21 = .ok (.if_icmp .ge 42, 3) := by decide +kernel
theorem dX9_outer_24 : decode cX9_outer 24 = .ok (.iload_n 2, 1) := by decide +kernel
theorem dX9_outer_25 : decode cX9_outer 25 = .ok (.ifCond .eq 11, 3) := by decide +kernel
theorem dX9_outer_28 : decode cX9_outer 28 = .ok (.bipush 99, 2) := by decide +kernel
theorem dX9_outer_30 : decode cX9_outer 30 = .ok (.iload 4, 2) := by decide +kernel
theorem dX9_outer_32 : decode cX9_outer 32 = .ok (.isub, 1) := by decide +kernel
theorem dX9_outer_33 : decode cX9_outer 33 = .ok (.goto 5, 3) := by decide +kernel
theorem dX9_outer_36 : decode cX9_outer 36 = .ok (.iload 4, 2) := by decide +kernel
theorem dX9_outer_38 : decode cX9_outer 38 = .ok (.istore 5, 2) := by decide +kernel
theorem dX9_outer_40 : decode cX9_outer 40 = .ok (.aload_n 0, 1) := by decide +kernel
theorem dX9_outer_41 : decode cX9_outer 41 = .ok (.iload_n 1, 1) := by decide +kernel
theorem dX9_outer_42 : decode cX9_outer 42 = .ok (.iload 5, 2) := by decide +kernel
theorem dX9_outer_44 : decode cX9_outer 44 = .ok (.invokevirtual 309, 3) := by decide +kernel
theorem dX9_outer_47 : decode cX9_outer 47 = .ok (.ifCond .eq 8, 3) := by decide +kernel
theorem dX9_outer_50 : decode cX9_outer 50 = .ok (.iload 5, 2) := by decide +kernel
theorem dX9_outer_52 : decode cX9_outer 52 = .ok (.goto 4, 3) := by decide +kernel
theorem dX9_outer_55 : decode cX9_outer 55 = .ok (.iload_n 3, 1) := by decide +kernel
theorem dX9_outer_56 : decode cX9_outer 56 = .ok (.istore_n 3, 1) := by decide +kernel
theorem dX9_outer_57 : decode cX9_outer 57 = .ok (.iinc 4 1, 3) := by decide +kernel
theorem dX9_outer_60 : decode cX9_outer 60 = .ok (.goto (-43), 3) := by decide +kernel
theorem dX9_outer_63 : decode cX9_outer 63 = .ok (.iload_n 3, 1) := by decide +kernel
theorem dX9_outer_64 : decode cX9_outer 64 = .ok (.ireturn, 1) := by decide +kernel
theorem dX9_leastBound_0 : decode cX9_leastBound 0 = .ok (.aload_n 0, 1) := by decide +kernel
theorem dX9_leastBound_1 : decode cX9_leastBound 1 = .ok (.aload_n 0, 1) := by decide +kernel
theorem dX9_leastBound_2 : decode cX9_leastBound 2 = .ok (.iload_n 1, 1) := by decide +kernel
theorem dX9_leastBound_3 : decode cX9_leastBound 3 = .ok (.invokevirtual 175, 3) := by decide +kernel
theorem dX9_leastBound_6 : decode cX9_leastBound 6 = .ok (.ifCond .eq 7, 3) := by decide +kernel
theorem dX9_leastBound_9 : decode cX9_leastBound 9 = .ok (.iconst 0, 1) := by decide +kernel
theorem dX9_leastBound_10 : decode cX9_leastBound 10 = .ok (.goto 4, 3) := by decide +kernel
theorem dX9_leastBound_13 : decode cX9_leastBound 13 = .ok (.iconst 1, 1) := by decide +kernel
theorem dX9_leastBound_14 : decode cX9_leastBound 14 = .ok (.invokevirtual 160, 3) := by decide +kernel
theorem dX9_leastBound_17 : decode cX9_leastBound 17 = .ok (.ifCond .eq 12, 3) := by decide +kernel
theorem dX9_leastBound_20 : decode cX9_leastBound 20 = .ok (.aload_n 0, 1) := by decide +kernel
theorem dX9_leastBound_21 : decode cX9_leastBound 21 = .ok (.iload_n 1, 1) := by decide +kernel
theorem dX9_leastBound_22 : decode cX9_leastBound 22 = .ok (.iconst 1, 1) := by decide +kernel
theorem dX9_leastBound_23 : decode cX9_leastBound 23 = .ok (.invokevirtual 312, 3) := by decide +kernel
theorem dX9_leastBound_26 : decode cX9_leastBound 26 = .ok (.goto 4, 3) := by decide +kernel
theorem dX9_leastBound_29 : decode cX9_leastBound 29 = .ok (.iconst 0, 1) := by decide +kernel
theorem dX9_leastBound_30 : decode cX9_leastBound 30 = .ok (.ireturn, 1) := by decide +kernel
theorem dX9_greatestBound_0 : decode cX9_greatestBound 0 = .ok (.aload_n 0, 1) := by decide +kernel
theorem dX9_greatestBound_1 : decode cX9_greatestBound 1 = .ok (.aload_n 0, 1) := by decide +kernel
theorem dX9_greatestBound_2 : decode cX9_greatestBound 2 = .ok (.iload_n 1, 1) := by decide +kernel
theorem dX9_greatestBound_3 : decode cX9_greatestBound 3 = .ok (.invokevirtual 175, 3) := by decide +kernel
theorem dX9_greatestBound_6 : decode cX9_greatestBound 6 = .ok (.ifCond .eq 7, 3) := by decide +kernel
theorem dX9_greatestBound_9 : decode cX9_greatestBound 9 = .ok (.iconst 0, 1) := by decide +kernel
theorem dX9_greatestBound_10 : decode cX9_greatestBound 10 = .ok (.goto 4, 3) := by decide +kernel
theorem dX9_greatestBound_13 : decode cX9_greatestBound 13 = .ok (.iconst 1, 1) := by decide +kernel
theorem dX9_greatestBound_14 : decode cX9_greatestBound 14 = .ok (.invokevirtual 160, 3) := by decide +kernel
theorem dX9_greatestBound_17 : decode cX9_greatestBound 17 = .ok (.ifCond .eq 12, 3) := by decide +kernel
theorem dX9_greatestBound_20 : decode cX9_greatestBound 20 = .ok (.aload_n 0, 1) := by decide +kernel
theorem dX9_greatestBound_21 : decode cX9_greatestBound 21 = .ok (.iload_n 1, 1) := by decide +kernel
theorem dX9_greatestBound_22 : decode cX9_greatestBound 22 = .ok (.iconst 0, 1) := by decide +kernel
theorem dX9_greatestBound_23 : decode cX9_greatestBound 23 = .ok (.invokevirtual 312, 3) := by decide +kernel
theorem dX9_greatestBound_26 : decode cX9_greatestBound 26 = .ok (.goto 4, 3) := by decide +kernel
theorem dX9_greatestBound_29 : decode cX9_greatestBound 29 = .ok (.iconst 0, 1) := by decide +kernel
theorem dX9_greatestBound_30 : decode cX9_greatestBound 30 = .ok (.ireturn, 1) := by decide +kernel
theorem dX9_errorOfSolved_0 : decode cX9_errorOfSolved 0 = .ok (.aload_n 0, 1) := by decide +kernel
theorem dX9_errorOfSolved_1 : decode cX9_errorOfSolved 1 = .ok (.iload_n 1, 1) := by decide +kernel
theorem dX9_errorOfSolved_2 : decode cX9_errorOfSolved 2 = .ok (.invokevirtual 175, 3) := by decide +kernel
theorem dX9_errorOfSolved_5 : decode cX9_errorOfSolved 5 = .ok (.ifCond .eq 13, 3) := by decide +kernel
theorem dX9_errorOfSolved_8 : decode cX9_errorOfSolved 8 = .ok (.iload_n 2, 1) := by decide +kernel
theorem dX9_errorOfSolved_9 : decode cX9_errorOfSolved 9 = .ok (.iconst 0, 1) := by decide +kernel
theorem dX9_errorOfSolved_10 : decode cX9_errorOfSolved 10 = .ok (.bipush 99, 2) := by decide +kernel
theorem dX9_errorOfSolved_12 : decode cX9_errorOfSolved 12 = .ok (.invokestatic 57, 3) := by decide +kernel
theorem dX9_errorOfSolved_15 : decode cX9_errorOfSolved 15 = .ok (.ifCond .ne 17, 3) := by decide +kernel
theorem dX9_errorOfSolved_18 : decode cX9_errorOfSolved 18 = .ok (.aload_n 0, 1) := by decide +kernel
theorem dX9_errorOfSolved_19 : decode cX9_errorOfSolved 19 = .ok (.iload_n 1, 1) := by decide +kernel
theorem dX9_errorOfSolved_20 : decode cX9_errorOfSolved 20 = .ok (.invokevirtual 175, 3) := by decide +kernel
theorem dX9_errorOfSolved_23 : decode cX9_errorOfSolved 23 = .ok (.ifCond .eq 7, 3) := by decide +kernel
theorem dX9_errorOfSolved_26 : decode cX9_errorOfSolved 26 = .ok (.iconst 2, 1) := by decide +kernel
theorem dX9_errorOfSolved_27 : decode cX9_errorOfSolved 27 = .ok (.goto 4, 3) := by decide +kernel
theorem dX9_errorOfSolved_30 : decode cX9_errorOfSolved 30 = .ok (.iconst 1, 1) := by decide +kernel
theorem dX9_errorOfSolved_31 : decode cX9_errorOfSolved 31 = .ok (.ireturn, 1) := by decide +kernel
theorem dX9_errorOfSolved_32 : decode cX9_errorOfSolved 32 = .ok (.aload_n 0, 1) := by decide +kernel
theorem dX9_errorOfSolved_33 : decode cX9_errorOfSolved 33 = .ok (.invokevirtual 300, 3) := by decide +kernel
theorem dX9_errorOfSolved_36 : decode cX9_errorOfSolved 36 = .ok (.aload_n 0, 1) := by decide +kernel
theorem dX9_errorOfSolved_37 : decode cX9_errorOfSolved 37 = .ok (.getfield 7, 3) := by decide +kernel
theorem dX9_errorOfSolved_40 : decode cX9_errorOfSolved 40 = .ok (.bipush 22, 2) := by decide +kernel
theorem dX9_errorOfSolved_42 : decode cX9_errorOfSolved 42 = .ok (.iload_n 1, 1) := by decide +kernel
theorem dX9_errorOfSolved_43 : decode cX9_errorOfSolved 43 = .ok (.iadd, 1) := by decide +kernel
theorem dX9_errorOfSolved_44 : decode cX9_errorOfSolved 44 = .ok (.iload_n 2, 1) := by decide +kernel
theorem dX9_errorOfSolved_45 : decode cX9_errorOfSolved 45 = .ok (.iastore, 1) := by decide +kernel
theorem dX9_errorOfSolved_46 : decode cX9_errorOfSolved 46 = .ok (.aload_n 0, 1) := by decide +kernel
theorem dX9_errorOfSolved_47 : decode cX9_errorOfSolved 47 = .ok (.invokevirtual 166, 3) := by decide +kernel
theorem dX9_errorOfSolved_50 : decode cX9_errorOfSolved 50 = .ok (.aload_n 0, 1) := by decide +kernel
theorem dX9_errorOfSolved_51 : decode cX9_errorOfSolved 51 = .ok (.invokevirtual 194, 3) := by decide +kernel
theorem dX9_errorOfSolved_54 : decode cX9_errorOfSolved 54 = .ok (.istore_n 3, 1) := by decide +kernel
theorem dX9_errorOfSolved_55 : decode cX9_errorOfSolved 55 = .ok (.aload_n 0, 1) := by decide +kernel
theorem dX9_errorOfSolved_56 : decode cX9_errorOfSolved 56 = .ok (.invokevirtual 144, 3) := by decide +kernel
theorem dX9_errorOfSolved_59 : decode cX9_errorOfSolved 59 = .ok (.istore 4, 2) := by decide +kernel
theorem dX9_errorOfSolved_61 : decode cX9_errorOfSolved 61 = .ok (.aload_n 0, 1) := by decide +kernel
theorem dX9_errorOfSolved_62 : decode cX9_errorOfSolved 62 = .ok (.invokevirtual 246, 3) := by decide +kernel
theorem dX9_errorOfSolved_65 : decode cX9_errorOfSolved 65 = .ok (.aload_n 0, 1) := by decide +kernel
theorem dX9_errorOfSolved_66 : decode cX9_errorOfSolved 66 = .ok (.invokevirtual 303, 3) := by decide +kernel
theorem dX9_errorOfSolved_69 : decode cX9_errorOfSolved 69 = .ok (.iload 4, 2) := by decide +kernel
theorem dX9_errorOfSolved_71 : decode cX9_errorOfSolved 71 = .ok (.ifCond .eq 7, 3) := by decide +kernel
theorem dX9_errorOfSolved_74 : decode cX9_errorOfSolved 74 = .ok (.iconst 0, 1) := by decide +kernel
theorem dX9_errorOfSolved_75 : decode cX9_errorOfSolved 75 = .ok (.goto 4, 3) := by decide +kernel
theorem dX9_errorOfSolved_78 : decode cX9_errorOfSolved 78 = .ok (.iconst 3, 1) := by decide +kernel
theorem dX9_errorOfSolved_79 : decode cX9_errorOfSolved 79 = .ok (.ireturn, 1) := by decide +kernel
theorem dX9_solvedNumerator_0 : decode cX9_solvedNumerator 0 = .ok (.aload_n 0, 1) := by decide +kernel
theorem dX9_solvedNumerator_1 : decode cX9_solvedNumerator 1 = .ok (.aload_n 0, 1) := by decide +kernel
theorem dX9_solvedNumerator_2 : decode cX9_solvedNumerator 2 = .ok (.iload_n 1, 1) := by decide +kernel
theorem dX9_solvedNumerator_3 : decode cX9_solvedNumerator 3 = .ok (.iload_n 2, 1) := by decide +kernel
theorem dX9_solvedNumerator_4 : decode cX9_solvedNumerator 4 = .ok (.invokevirtual 316, 3) := by decide +kernel
theorem dX9_solvedNumerator_7 : decode cX9_solvedNumerator 7 = .ok (.invokevirtual 160, 3) := by decide +kernel
theorem dX9_solvedNumerator_10 : decode cX9_solvedNumerator 10 = .ok (.ifCond .eq 10, 3) := by decide +kernel
theorem dX9_solvedNumerator_13 : decode cX9_solvedNumerator 13 = .ok (.aload_n 0, 1) := by decide +kernel
theorem dX9_solvedNumerator_14 : decode cX9_solvedNumerator 14 = .ok (.getfield 72, 3) := by decide +kernel
theorem dX9_solvedNumerator_17 : decode cX9_solvedNumerator 17 = .ok (.goto 4, 3) := by decide +kernel
theorem dX9_solvedNumerator_20 : decode cX9_solvedNumerator 20 = .ok (.lconst 0, 1) := by decide +kernel
theorem dX9_solvedNumerator_21 : decode cX9_solvedNumerator 21 = .ok (.lreturn, 1) := by decide +kernel
theorem dX9_solvedDenominator_0 : decode cX9_solvedDenominator 0 = .ok (.aload_n 0, 1) := by decide +kernel
theorem dX9_solvedDenominator_1 : decode cX9_solvedDenominator 1 = .ok (.aload_n 0, 1) := by decide +kernel
theorem dX9_solvedDenominator_2 : decode cX9_solvedDenominator 2 = .ok (.iload_n 1, 1) := by decide +kernel
theorem dX9_solvedDenominator_3 : decode cX9_solvedDenominator 3 = .ok (.iload_n 2, 1) := by decide +kernel
theorem dX9_solvedDenominator_4 : decode cX9_solvedDenominator 4 = .ok (.invokevirtual 316, 3) := by decide +kernel
theorem dX9_solvedDenominator_7 : decode cX9_solvedDenominator 7 = .ok (.invokevirtual 160, 3) := by decide +kernel
theorem dX9_solvedDenominator_10 : decode cX9_solvedDenominator 10 = .ok (.ifCond .eq 10, 3) := by decide +kernel
theorem dX9_solvedDenominator_13 : decode cX9_solvedDenominator 13 = .ok (.aload_n 0, 1) := by decide +kernel
theorem dX9_solvedDenominator_14 : decode cX9_solvedDenominator 14 = .ok (.getfield 76, 3) := by decide +kernel
theorem dX9_solvedDenominator_17 : decode cX9_solvedDenominator 17 = .ok (.goto 4, 3) := by decide +kernel
theorem dX9_solvedDenominator_20 : decode cX9_solvedDenominator 20 = .ok (.lconst 0, 1) := by decide +kernel
theorem dX9_solvedDenominator_21 : decode cX9_solvedDenominator 21 = .ok (.lreturn, 1) := by decide +kernel
theorem dX9_takesIn_0 : decode cX9_takesIn 0 = .ok (.aload_n 0, 1) := by decide +kernel
theorem dX9_takesIn_1 : decode cX9_takesIn 1 = .ok (.ldc2_w 319, 3) := by decide +kernel
theorem dX9_takesIn_4 : decode cX9_takesIn 4 = .ok (.aload_n 0, 1) := by decide +kernel
theorem dX9_takesIn_5 : decode cX9_takesIn 5 = .ok (.getfield 321, 3) := by decide +kernel
theorem dX9_takesIn_8 : decode cX9_takesIn 8 = .ok (.lmul, 1) := by decide +kernel
theorem dX9_takesIn_9 : decode cX9_takesIn 9 = .ok (.lload_n 1, 1) := by decide +kernel
theorem dX9_takesIn_10 : decode cX9_takesIn 10 = .ok (.ladd, 1) := by decide +kernel
theorem dX9_takesIn_11 : decode cX9_takesIn 11 = .ok (.putfield 321, 3) := by decide +kernel
theorem dX9_takesIn_14 : decode cX9_takesIn 14 = .ok (.return_, 1) := by decide +kernel
theorem dX9_takesFraction_0 : decode cX9_takesFraction 0 = .ok (.aload_n 0, 1) := by decide +kernel
theorem dX9_takesFraction_1 : decode cX9_takesFraction 1 = .ok (.aload_n 0, 1) := by decide +kernel
theorem dX9_takesFraction_2 : decode cX9_takesFraction 2 = .ok (.getfield 72, 3) := by decide +kernel
theorem dX9_takesFraction_5 : decode cX9_takesFraction 5 = .ok (.invokevirtual 324, 3) := by decide +kernel
theorem dX9_takesFraction_8 : decode cX9_takesFraction 8 = .ok (.aload_n 0, 1) := by decide +kernel
theorem dX9_takesFraction_9 : decode cX9_takesFraction 9 = .ok (.aload_n 0, 1) := by decide +kernel
theorem dX9_takesFraction_10 : decode cX9_takesFraction 10 = .ok (.getfield 76, 3) := by decide +kernel
theorem dX9_takesFraction_13 : decode cX9_takesFraction 13 = .ok (.invokevirtual 324, 3) := by decide +kernel
theorem dX9_takesFraction_16 : decode cX9_takesFraction 16 = .ok (.return_, 1) := by decide +kernel
theorem dX9_bitsOf_0 : decode cX9_bitsOf 0 = .ok (.dload_n 0, 1) := by decide +kernel
theorem dX9_bitsOf_1 : decode cX9_bitsOf 1 = .ok (.dconst 0, 1) := by decide +kernel
theorem dX9_bitsOf_2 : decode cX9_bitsOf 2 = .ok (.dcmp .l, 1) := by decide +kernel
theorem dX9_bitsOf_3 : decode cX9_bitsOf 3 = .ok (.ifCond .ne 5, 3) := by decide +kernel
theorem dX9_bitsOf_6 : decode cX9_bitsOf 6 = .ok (.lconst 0, 1) := by decide +kernel
theorem dX9_bitsOf_7 : decode cX9_bitsOf 7 = .ok (.lreturn, 1) := by decide +kernel
theorem dX9_bitsOf_8 : decode cX9_bitsOf 8 = .ok (.dload_n 0, 1) := by decide +kernel
theorem dX9_bitsOf_9 : decode cX9_bitsOf 9 = .ok (.dstore_n 2, 1) := by decide +kernel
theorem dX9_bitsOf_10 : decode cX9_bitsOf 10 = .ok (.ldc2_w 328, 3) := by decide +kernel
theorem dX9_bitsOf_13 : decode cX9_bitsOf 13 = .ok (.lstore 4, 2) := by decide +kernel
theorem dX9_bitsOf_15 : decode cX9_bitsOf 15 = .ok (.dload_n 2, 1) := by decide +kernel
theorem dX9_bitsOf_16 : decode cX9_bitsOf 16 = .ok (.ldc2_w 330, 3) := by decide +kernel
theorem dX9_bitsOf_19 : decode cX9_bitsOf 19 = .ok (.dcmp .l, 1) := by decide +kernel
theorem dX9_bitsOf_20 : decode cX9_bitsOf 20 = .ok (.ifCond .lt 18, 3) := by decide +kernel
theorem dX9_bitsOf_23 : decode cX9_bitsOf 23 = .ok (.dload_n 2, 1) := by decide +kernel
theorem dX9_bitsOf_24 : decode cX9_bitsOf 24 = .ok (.ldc2_w 330, 3) := by decide +kernel
theorem dX9_bitsOf_27 : decode cX9_bitsOf 27 = .ok (.ddiv, 1) := by decide +kernel
theorem dX9_bitsOf_28 : decode cX9_bitsOf 28 = .ok (.dstore_n 2, 1) := by decide +kernel
theorem dX9_bitsOf_29 : decode cX9_bitsOf 29 = .ok (.lload 4, 2) := by decide +kernel
theorem dX9_bitsOf_31 : decode cX9_bitsOf 31 = .ok (.lconst 1, 1) := by decide +kernel
theorem dX9_bitsOf_32 : decode cX9_bitsOf 32 = .ok (.ladd, 1) := by decide +kernel
theorem dX9_bitsOf_33 : decode cX9_bitsOf 33 = .ok (.lstore 4, 2) := by decide +kernel
theorem dX9_bitsOf_35 : decode cX9_bitsOf 35 = .ok (.goto (-20), 3) := by decide +kernel
theorem dX9_bitsOf_38 : decode cX9_bitsOf 38 = .ok (.dload_n 2, 1) := by decide +kernel
theorem dX9_bitsOf_39 : decode cX9_bitsOf 39 = .ok (.dconst 1, 1) := by decide +kernel
theorem dX9_bitsOf_40 : decode cX9_bitsOf 40 = .ok (.dcmp .g, 1) := by decide +kernel
theorem dX9_bitsOf_41 : decode cX9_bitsOf 41 = .ok (.ifCond .ge 18, 3) := by decide +kernel
theorem dX9_bitsOf_44 : decode cX9_bitsOf 44 = .ok (.dload_n 2, 1) := by decide +kernel
theorem dX9_bitsOf_45 : decode cX9_bitsOf 45 = .ok (.ldc2_w 330, 3) := by decide +kernel
theorem dX9_bitsOf_48 : decode cX9_bitsOf 48 = .ok (.dmul, 1) := by decide +kernel
theorem dX9_bitsOf_49 : decode cX9_bitsOf 49 = .ok (.dstore_n 2, 1) := by decide +kernel
theorem dX9_bitsOf_50 : decode cX9_bitsOf 50 = .ok (.lload 4, 2) := by decide +kernel
theorem dX9_bitsOf_52 : decode cX9_bitsOf 52 = .ok (.lconst 1, 1) := by decide +kernel
theorem dX9_bitsOf_53 : decode cX9_bitsOf 53 = .ok (.lsub, 1) := by decide +kernel
theorem dX9_bitsOf_54 : decode cX9_bitsOf 54 = .ok (.lstore 4, 2) := by decide +kernel
theorem dX9_bitsOf_56 : decode cX9_bitsOf 56 = .ok (.goto (-18), 3) := by decide +kernel
theorem dX9_bitsOf_59 : decode cX9_bitsOf 59 = .ok (.lload 4, 2) := by decide +kernel
theorem dX9_bitsOf_61 : decode cX9_bitsOf 61 = .ok (.bipush 52, 2) := by decide +kernel
theorem dX9_bitsOf_63 : decode cX9_bitsOf 63 = .ok (.lshl, 1) := by decide +kernel
theorem dX9_bitsOf_64 : decode cX9_bitsOf 64 = .ok (.dload_n 2, 1) := by decide +kernel
theorem dX9_bitsOf_65 : decode cX9_bitsOf 65 = .ok (.dconst 1, 1) := by decide +kernel
theorem dX9_bitsOf_66 : decode cX9_bitsOf 66 = .ok (.dsub, 1) := by decide +kernel
theorem dX9_bitsOf_67 : decode cX9_bitsOf 67 = .ok (.ldc2_w 332, 3) := by decide +kernel
theorem dX9_bitsOf_70 : decode cX9_bitsOf 70 = .ok (.dmul, 1) := by decide +kernel
theorem dX9_bitsOf_71 : decode cX9_bitsOf 71 = .ok (.d2l, 1) := by decide +kernel
theorem dX9_bitsOf_72 : decode cX9_bitsOf 72 = .ok (.ladd, 1) := by decide +kernel
theorem dX9_bitsOf_73 : decode cX9_bitsOf 73 = .ok (.lreturn, 1) := by decide +kernel
theorem dX9_takesConstraint_0 : decode cX9_takesConstraint 0 = .ok (.iconst 0, 1) := by decide +kernel
theorem dX9_takesConstraint_1 : decode cX9_takesConstraint 1 = .ok (.istore_n 2, 1) := by decide +kernel
theorem dX9_takesConstraint_2 : decode cX9_takesConstraint 2 = .ok (.iload_n 2, 1) := by decide +kernel
theorem dX9_takesConstraint_3 : decode cX9_takesConstraint 3 = .ok (.aload_n 0, 1) := by decide +kernel
theorem dX9_takesConstraint_4 : decode cX9_takesConstraint 4 = .ok (.getfield 7, 3) := by decide +kernel
theorem dX9_takesConstraint_7 : decode cX9_takesConstraint 7 = .ok (.iconst 0, 1) := by decide +kernel
theorem dX9_takesConstraint_8 : decode cX9_takesConstraint 8 = .ok (.iaload, 1) := by decide +kernel
theorem dX9_takesConstraint_9 : decode cX9_takesConstraint 9 = .ok (.if_icmp .ge 27, 3) := by decide +kernel
theorem dX9_takesConstraint_12 : decode cX9_takesConstraint 12 = .ok (.aload_n 0, 1) := by decide +kernel
theorem dX9_takesConstraint_13 : decode cX9_takesConstraint 13 = .ok (.aload_n 0, 1) := by decide +kernel
theorem dX9_takesConstraint_14 : decode cX9_takesConstraint 14 = .ok (.getfield 7, 3) := by decide +kernel
theorem dX9_takesConstraint_17 : decode cX9_takesConstraint 17 = .ok (.bipush 6, 2) := by decide +kernel
theorem dX9_takesConstraint_19 : decode cX9_takesConstraint 19 = .ok (.iconst 4, 1) := by decide +kernel
theorem dX9_takesConstraint_20 : decode cX9_takesConstraint 20 = .ok (.iload_n 1, 1) := by decide +kernel
theorem dX9_takesConstraint_21 : decode cX9_takesConstraint 21 = .ok (.imul, 1) := by decide +kernel
theorem dX9_takesConstraint_22 : decode cX9_takesConstraint 22 = .ok (.iadd, 1) := by decide +kernel
theorem dX9_takesConstraint_23 : decode cX9_takesConstraint 23 = .ok (.iload_n 2, 1) := by decide +kernel
theorem dX9_takesConstraint_24 : decode cX9_takesConstraint 24 = .ok (.iadd, 1) := by decide +kernel
theorem dX9_takesConstraint_25 : decode cX9_takesConstraint 25 = .ok (.iaload, 1) := by decide +kernel
theorem dX9_takesConstraint_26 : decode cX9_takesConstraint 26 = .ok (.i2l, 1) := by decide +kernel
theorem dX9_takesConstraint_27 : decode cX9_takesConstraint 27 = .ok (.invokevirtual 324, 3) := by decide +kernel
theorem dX9_takesConstraint_30 : decode cX9_takesConstraint 30 = .ok (.iinc 2 1, 3) := by decide +kernel
theorem dX9_takesConstraint_33 : decode cX9_takesConstraint 33 = .ok (.goto (-31), 3) := by decide +kernel
theorem dX9_takesConstraint_36 : decode cX9_takesConstraint 36 = .ok (.aload_n 0, 1) := by decide +kernel
theorem dX9_takesConstraint_37 : decode cX9_takesConstraint 37 = .ok (.aload_n 0, 1) := by decide +kernel
theorem dX9_takesConstraint_38 : decode cX9_takesConstraint 38 = .ok (.getfield 7, 3) := by decide +kernel
theorem dX9_takesConstraint_41 : decode cX9_takesConstraint 41 = .ok (.bipush 22, 2) := by decide +kernel
theorem dX9_takesConstraint_43 : decode cX9_takesConstraint 43 = .ok (.iload_n 1, 1) := by decide +kernel
theorem dX9_takesConstraint_44 : decode cX9_takesConstraint 44 = .ok (.iadd, 1) := by decide +kernel
theorem dX9_takesConstraint_45 : decode cX9_takesConstraint 45 = .ok (.iaload, 1) := by decide +kernel
theorem dX9_takesConstraint_46 : decode cX9_takesConstraint 46 = .ok (.i2l, 1) := by decide +kernel
theorem dX9_takesConstraint_47 : decode cX9_takesConstraint 47 = .ok (.invokevirtual 324, 3) := by decide +kernel
theorem dX9_takesConstraint_50 : decode cX9_takesConstraint 50 = .ok (.aload_n 0, 1) := by decide +kernel
theorem dX9_takesConstraint_51 : decode cX9_takesConstraint 51 = .ok (.iload_n 1, 1) := by decide +kernel
theorem dX9_takesConstraint_52 : decode cX9_takesConstraint 52 = .ok (.invokevirtual 254, 3) := by decide +kernel
theorem dX9_takesConstraint_55 : decode cX9_takesConstraint 55 = .ok (.aload_n 0, 1) := by decide +kernel
theorem dX9_takesConstraint_56 : decode cX9_takesConstraint 56 = .ok (.invokevirtual 334, 3) := by decide +kernel
theorem dX9_takesConstraint_59 : decode cX9_takesConstraint 59 = .ok (.aload_n 0, 1) := by decide +kernel
theorem dX9_takesConstraint_60 : decode cX9_takesConstraint 60 = .ok (.invokevirtual 334, 3) := by decide +kernel
theorem dX9_takesConstraint_63 : decode cX9_takesConstraint 63 = .ok (.aload_n 0, 1) := by decide +kernel
theorem dX9_takesConstraint_64 : decode cX9_takesConstraint 64 = .ok (.aload_n 0, 1) := by decide +kernel
theorem dX9_takesConstraint_65 : decode cX9_takesConstraint 65 = .ok (.iload_n 1, 1) := by decide +kernel
theorem dX9_takesConstraint_66 : decode cX9_takesConstraint 66 = .ok (.iconst 1, 1) := by decide +kernel
theorem dX9_takesConstraint_67 : decode cX9_takesConstraint 67 = .ok (.invokevirtual 312, 3) := by decide +kernel
theorem dX9_takesConstraint_70 : decode cX9_takesConstraint 70 = .ok (.i2l, 1) := by decide +kernel
theorem dX9_takesConstraint_71 : decode cX9_takesConstraint 71 = .ok (.invokevirtual 324, 3) := by decide +kernel
theorem dX9_takesConstraint_74 : decode cX9_takesConstraint 74 = .ok (.aload_n 0, 1) := by decide +kernel
theorem dX9_takesConstraint_75 : decode cX9_takesConstraint 75 = .ok (.aload_n 0, 1) := by decide +kernel
theorem dX9_takesConstraint_76 : decode cX9_takesConstraint 76 = .ok (.iload_n 1, 1) := by decide +kernel
theorem dX9_takesConstraint_77 : decode cX9_takesConstraint 77 = .ok (.iconst 0, 1) := by decide +kernel
theorem dX9_takesConstraint_78 : decode cX9_takesConstraint 78 = .ok (.invokevirtual 312, 3) := by decide +kernel
theorem dX9_takesConstraint_81 : decode cX9_takesConstraint 81 = .ok (.i2l, 1) := by decide +kernel
theorem dX9_takesConstraint_82 : decode cX9_takesConstraint 82 = .ok (.invokevirtual 324, 3) := by decide +kernel
theorem dX9_takesConstraint_85 : decode cX9_takesConstraint 85 = .ok (.return_, 1) := by decide +kernel
theorem dX9_digest_0 : decode cX9_digest 0 = .ok (.aload_n 0, 1) := by decide +kernel
theorem dX9_digest_1 : decode cX9_digest 1 = .ok (.iconst 0, 1) := by decide +kernel
theorem dX9_digest_2 : decode cX9_digest 2 = .ok (.putfield 53, 3) := by decide +kernel
theorem dX9_digest_5 : decode cX9_digest 5 = .ok (.aload_n 0, 1) := by decide +kernel
theorem dX9_digest_6 : decode cX9_digest 6 = .ok (.ldc2_w 337, 3) := by decide +kernel
theorem dX9_digest_9 : decode cX9_digest 9 = .ok (.putfield 321, 3) := by decide +kernel
theorem dX9_digest_12 : decode cX9_digest 12 = .ok (.aload_n 0, 1) := by decide +kernel
theorem dX9_digest_13 : decode cX9_digest 13 = .ok (.aload_n 0, 1) := by decide +kernel
theorem dX9_digest_14 : decode cX9_digest 14 = .ok (.getfield 7, 3) := by decide +kernel
theorem dX9_digest_17 : decode cX9_digest 17 = .ok (.iconst 0, 1) := by decide +kernel
theorem dX9_digest_18 : decode cX9_digest 18 = .ok (.iaload, 1) := by decide +kernel
theorem dX9_digest_19 : decode cX9_digest 19 = .ok (.i2l, 1) := by decide +kernel
theorem dX9_digest_20 : decode cX9_digest 20 = .ok (.invokevirtual 324, 3) := by decide +kernel
theorem dX9_digest_23 : decode cX9_digest 23 = .ok (.aload_n 0, 1) := by decide +kernel
theorem dX9_digest_24 : decode cX9_digest 24 = .ok (.aload_n 0, 1) := by decide +kernel
theorem dX9_digest_25 : decode cX9_digest 25 = .ok (.getfield 7, 3) := by decide +kernel
theorem dX9_digest_28 : decode cX9_digest 28 = .ok (.iconst 1, 1) := by decide +kernel
theorem dX9_digest_29 : decode cX9_digest 29 = .ok (.iaload, 1) := by decide +kernel
theorem dX9_digest_30 : decode cX9_digest 30 = .ok (.i2l, 1) := by decide +kernel
theorem dX9_digest_31 : decode cX9_digest 31 = .ok (.invokevirtual 324, 3) := by decide +kernel
theorem dX9_digest_34 : decode cX9_digest 34 = .ok (.aload_n 0, 1) := by decide +kernel
theorem dX9_digest_35 : decode cX9_digest 35 = .ok (.aload_n 0, 1) := by decide +kernel
theorem dX9_digest_36 : decode cX9_digest 36 = .ok (.getfield 7, 3) := by decide +kernel
theorem dX9_digest_39 : decode cX9_digest 39 = .ok (.bipush 26, 2) := by decide +kernel
theorem dX9_digest_41 : decode cX9_digest 41 = .ok (.iaload, 1) := by decide +kernel
theorem dX9_digest_42 : decode cX9_digest 42 = .ok (.i2l, 1) := by decide +kernel
theorem dX9_digest_43 : decode cX9_digest 43 = .ok (.invokevirtual 324, 3) := by decide +kernel
theorem dX9_digest_46 : decode cX9_digest 46 = .ok (.aload_n 0, 1) := by decide +kernel
theorem dX9_digest_47 : decode cX9_digest 47 = .ok (.invokevirtual 141, 3) := by decide +kernel
theorem dX9_digest_50 : decode cX9_digest 50 = .ok (.aload_n 0, 1) := by decide +kernel
theorem dX9_digest_51 : decode cX9_digest 51 = .ok (.invokevirtual 144, 3) := by decide +kernel
theorem dX9_digest_54 : decode cX9_digest 54 = .ok (.istore_n 1, 1) := by decide +kernel
theorem dX9_digest_55 : decode cX9_digest 55 = .ok (.aload_n 0, 1) := by decide +kernel
theorem dX9_digest_56 : decode cX9_digest 56 = .ok (.invokevirtual 147, 3) := by decide +kernel
theorem dX9_digest_59 : decode cX9_digest 59 = .ok (.istore_n 2, 1) := by decide +kernel
theorem dX9_digest_60 : decode cX9_digest 60 = .ok (.aload_n 0, 1) := by decide +kernel
theorem dX9_digest_61 : decode cX9_digest 61 = .ok (.iload_n 1, 1) := by decide +kernel
theorem dX9_digest_62 : decode cX9_digest 62 = .ok (.ifCond .eq 7, 3) := by decide +kernel
theorem dX9_digest_65 : decode cX9_digest 65 = .ok (.lconst 1, 1) := by decide +kernel
theorem dX9_digest_66 : decode cX9_digest 66 = .ok (.goto 4, 3) := by decide +kernel
theorem dX9_digest_69 : decode cX9_digest 69 = .ok (.lconst 0, 1) := by decide +kernel
theorem dX9_digest_70 : decode cX9_digest 70 = .ok (.invokevirtual 324, 3) := by decide +kernel
theorem dX9_digest_73 : decode cX9_digest 73 = .ok (.aload_n 0, 1) := by decide +kernel
theorem dX9_digest_74 : decode cX9_digest 74 = .ok (.iload_n 2, 1) := by decide +kernel
theorem dX9_digest_75 : decode cX9_digest 75 = .ok (.ifCond .lt 7, 3) := by decide +kernel
theorem dX9_digest_78 : decode cX9_digest 78 = .ok (.lconst 1, 1) := by decide +kernel
theorem dX9_digest_79 : decode cX9_digest 79 = .ok (.goto 4, 3) := by decide +kernel
theorem dX9_digest_82 : decode cX9_digest 82 = .ok (.lconst 0, 1) := by decide +kernel
theorem dX9_digest_83 : decode cX9_digest 83 = .ok (.invokevirtual 324, 3) := by decide +kernel
theorem dX9_digest_86 : decode cX9_digest 86 = .ok (.aload_n 0, 1) := by decide +kernel
theorem dX9_digest_87 : decode cX9_digest 87 = .ok (.aload_n 0, 1) := by decide +kernel
theorem dX9_digest_88 : decode cX9_digest 88 = .ok (.getfield 7, 3) := by decide +kernel
theorem dX9_digest_91 : decode cX9_digest 91 = .ok (.bipush 31, 2) := by decide +kernel
theorem dX9_digest_93 : decode cX9_digest 93 = .ok (.iaload, 1) := by decide +kernel
theorem dX9_digest_94 : decode cX9_digest 94 = .ok (.i2l, 1) := by decide +kernel
theorem dX9_digest_95 : decode cX9_digest 95 = .ok (.invokevirtual 324, 3) := by decide +kernel
theorem dX9_digest_98 : decode cX9_digest 98 = .ok (.aload_n 0, 1) := by decide +kernel
theorem dX9_digest_99 : decode cX9_digest 99 = .ok (.aload_n 0, 1) := by decide +kernel
theorem dX9_digest_100 : decode cX9_digest 100 = .ok (.getfield 7, 3) := by decide +kernel
theorem dX9_digest_103 : decode cX9_digest 103 = .ok (.bipush 32, 2) := by decide +kernel
theorem dX9_digest_105 : decode cX9_digest 105 = .ok (.iaload, 1) := by decide +kernel
theorem dX9_digest_106 : decode cX9_digest 106 = .ok (.i2l, 1) := by decide +kernel
theorem dX9_digest_107 : decode cX9_digest 107 = .ok (.invokevirtual 324, 3) := by decide +kernel
theorem dX9_digest_110 : decode cX9_digest 110 = .ok (.aload_n 0, 1) := by decide +kernel
theorem dX9_digest_111 : decode cX9_digest 111 = .ok (.aload_n 0, 1) := by decide +kernel
theorem dX9_digest_112 : decode cX9_digest 112 = .ok (.getfield 7, 3) := by decide +kernel
theorem dX9_digest_115 : decode cX9_digest 115 = .ok (.bipush 33, 2) := by decide +kernel
theorem dX9_digest_117 : decode cX9_digest 117 = .ok (.iaload, 1) := by decide +kernel
theorem dX9_digest_118 : decode cX9_digest 118 = .ok (.i2l, 1) := by decide +kernel
theorem dX9_digest_119 : decode cX9_digest 119 = .ok (.invokevirtual 324, 3) := by decide +kernel
theorem dX9_digest_122 : decode cX9_digest 122 = .ok (.aload_n 0, 1) := by decide +kernel
theorem dX9_digest_123 : decode cX9_digest 123 = .ok (.invokevirtual 248, 3) := by decide +kernel
theorem dX9_digest_126 : decode cX9_digest 126 = .ok (.aload_n 0, 1) := by decide +kernel
theorem dX9_digest_127 : decode cX9_digest 127 = .ok (.getfield 72, 3) := by decide +kernel
theorem dX9_digest_130 : decode cX9_digest 130 = .ok (.l2d, 1) := by decide +kernel
theorem dX9_digest_131 : decode cX9_digest 131 = .ok (.aload_n 0, 1) := by decide +kernel
theorem dX9_digest_132 : decode cX9_digest 132 = .ok (.getfield 76, 3) := by decide +kernel
theorem dX9_digest_135 : decode cX9_digest 135 = .ok (.l2d, 1) := by decide +kernel
theorem dX9_digest_136 : decode cX9_digest 136 = .ok (.ddiv, 1) := by decide +kernel
theorem dX9_digest_137 : decode cX9_digest 137 = .ok (.dstore_n 3, 1) := by decide +kernel
theorem dX9_digest_138 : decode cX9_digest 138 = .ok (.aload_n 0, 1) := by decide +kernel
theorem dX9_digest_139 : decode cX9_digest 139 = .ok (.invokevirtual 334, 3) := by decide +kernel
theorem dX9_digest_142 : decode cX9_digest 142 = .ok (.aload_n 0, 1) := by decide +kernel
theorem dX9_digest_143 : decode cX9_digest 143 = .ok (.invokevirtual 264, 3) := by decide +kernel
theorem dX9_digest_146 : decode cX9_digest 146 = .ok (.aload_n 0, 1) := by decide +kernel
theorem dX9_digest_147 : decode cX9_digest 147 = .ok (.invokevirtual 334, 3) := by decide +kernel
theorem dX9_digest_150 : decode cX9_digest 150 = .ok (.aload_n 0, 1) := by decide +kernel
theorem dX9_digest_151 : decode cX9_digest 151 = .ok (.invokevirtual 297, 3) := by decide +kernel
theorem dX9_digest_154 : decode cX9_digest 154 = .ok (.aload_n 0, 1) := by decide +kernel
theorem dX9_digest_155 : decode cX9_digest 155 = .ok (.aload_n 0, 1) := by decide +kernel
theorem dX9_digest_156 : decode cX9_digest 156 = .ok (.getfield 279, 3) := by decide +kernel
theorem dX9_digest_159 : decode cX9_digest 159 = .ok (.i2l, 1) := by decide +kernel
theorem dX9_digest_160 : decode cX9_digest 160 = .ok (.invokevirtual 324, 3) := by decide +kernel
theorem dX9_digest_163 : decode cX9_digest 163 = .ok (.aload_n 0, 1) := by decide +kernel
theorem dX9_digest_164 : decode cX9_digest 164 = .ok (.aload_n 0, 1) := by decide +kernel
theorem dX9_digest_165 : decode cX9_digest 165 = .ok (.getfield 276, 3) := by decide +kernel
theorem dX9_digest_168 : decode cX9_digest 168 = .ok (.i2l, 1) := by decide +kernel
theorem dX9_digest_169 : decode cX9_digest 169 = .ok (.invokevirtual 324, 3) := by decide +kernel
theorem dX9_digest_172 : decode cX9_digest 172 = .ok (.aload_n 0, 1) := by decide +kernel
theorem dX9_digest_173 : decode cX9_digest 173 = .ok (.aload_n 0, 1) := by decide +kernel
theorem dX9_digest_174 : decode cX9_digest 174 = .ok (.getfield 285, 3) := by decide +kernel
theorem dX9_digest_177 : decode cX9_digest 177 = .ok (.invokevirtual 324, 3) := by decide +kernel
theorem dX9_digest_180 : decode cX9_digest 180 = .ok (.aload_n 0, 1) := by decide +kernel
theorem dX9_digest_181 : decode cX9_digest 181 = .ok (.aload_n 0, 1) := by decide +kernel
theorem dX9_digest_182 : decode cX9_digest 182 = .ok (.getfield 282, 3) := by decide +kernel
theorem dX9_digest_185 : decode cX9_digest 185 = .ok (.invokevirtual 324, 3) := by decide +kernel
theorem dX9_digest_188 : decode cX9_digest 188 = .ok (.aload_n 0, 1) := by decide +kernel
theorem dX9_digest_189 : decode cX9_digest 189 = .ok (.aload_n 0, 1) := by decide +kernel
theorem dX9_digest_190 : decode cX9_digest 190 = .ok (.invokevirtual 306, 3) := by decide +kernel
theorem dX9_digest_193 : decode cX9_digest 193 = .ok (.i2l, 1) := by decide +kernel
theorem dX9_digest_194 : decode cX9_digest 194 = .ok (.invokevirtual 324, 3) := by decide +kernel
theorem dX9_digest_197 : decode cX9_digest 197 = .ok (.aload_n 0, 1) := by decide +kernel
theorem dX9_digest_198 : decode cX9_digest 198 = .ok (.aload_n 0, 1) := by decide +kernel
theorem dX9_digest_199 : decode cX9_digest 199 = .ok (.getfield 65, 3) := by decide +kernel
theorem dX9_digest_202 : decode cX9_digest 202 = .ok (.i2l, 1) := by decide +kernel
theorem dX9_digest_203 : decode cX9_digest 203 = .ok (.invokevirtual 324, 3) := by decide +kernel
theorem dX9_digest_206 : decode cX9_digest 206 = .ok (.iconst 0, 1) := by decide +kernel
theorem dX9_digest_207 : decode cX9_digest 207 = .ok (.istore 5, 2) := by decide +kernel
theorem dX9_digest_209 : decode cX9_digest 209 = .ok (.iload 5, 2) := by decide +kernel
theorem dX9_digest_211 : decode cX9_digest 211 = .ok (.aload_n 0, 1) := by decide +kernel
theorem dX9_digest_212 : decode cX9_digest 212 = .ok (.getfield 7, 3) := by decide +kernel
theorem dX9_digest_215 : decode cX9_digest 215 = .ok (.iconst 0, 1) := by decide +kernel
theorem dX9_digest_216 : decode cX9_digest 216 = .ok (.iaload, 1) := by decide +kernel
theorem dX9_digest_217 : decode cX9_digest 217 = .ok (.if_icmp .ge 23, 3) := by decide +kernel
theorem dX9_digest_220 : decode cX9_digest 220 = .ok (.aload_n 0, 1) := by decide +kernel
theorem dX9_digest_221 : decode cX9_digest 221 = .ok (.aload_n 0, 1) := by decide +kernel
theorem dX9_digest_222 : decode cX9_digest 222 = .ok (.getfield 7, 3) := by decide +kernel
theorem dX9_digest_225 : decode cX9_digest 225 = .ok (.iconst 2, 1) := by decide +kernel
theorem dX9_digest_226 : decode cX9_digest 226 = .ok (.iload 5, 2) := by decide +kernel
theorem dX9_digest_228 : decode cX9_digest 228 = .ok (.iadd, 1) := by decide +kernel
theorem dX9_digest_229 : decode cX9_digest 229 = .ok (.iaload, 1) := by decide +kernel
theorem dX9_digest_230 : decode cX9_digest 230 = .ok (.i2l, 1) := by decide +kernel
theorem dX9_digest_231 : decode cX9_digest 231 = .ok (.invokevirtual 324, 3) := by decide +kernel
theorem dX9_digest_234 : decode cX9_digest 234 = .ok (.iinc 5 1, 3) := by decide +kernel
theorem dX9_digest_237 : decode cX9_digest 237 = .ok (.goto (-28), 3) := by decide +kernel
theorem dX9_digest_240 : decode cX9_digest 240 = .ok (.iconst 0, 1) := by decide +kernel
theorem dX9_digest_241 : decode cX9_digest 241 = .ok (.istore 5, 2) := by decide +kernel
theorem dX9_digest_243 : decode cX9_digest 243 = .ok (.iload 5, 2) := by decide +kernel
theorem dX9_digest_245 : decode cX9_digest 245 = .ok (.aload_n 0, 1) := by decide +kernel
theorem dX9_digest_246 : decode cX9_digest 246 = .ok (.getfield 7, 3) := by decide +kernel
theorem dX9_digest_249 : decode cX9_digest 249 = .ok (.iconst 1, 1) := by decide +kernel
theorem dX9_digest_250 : decode cX9_digest 250 = .ok (.iaload, 1) := by decide +kernel
theorem dX9_digest_251 : decode cX9_digest 251 = .ok (.if_icmp .ge 15, 3) := by decide +kernel
theorem dX9_digest_254 : decode cX9_digest 254 = .ok (.aload_n 0, 1) := by decide +kernel
theorem dX9_digest_255 : decode cX9_digest 255 = .ok (.iload 5, 2) := by decide +kernel
theorem dX9_digest_257 : decode cX9_digest 257 = .ok (.invokevirtual 339, 3) := by decide +kernel
theorem dX9_digest_260 : decode cX9_digest 260 = .ok (.iinc 5 1, 3) := by decide +kernel
theorem dX9_digest_263 : decode cX9_digest 263 = .ok (.goto (-20), 3) := by decide +kernel
theorem dX9_digest_266 : decode cX9_digest 266 = .ok (.iconst 0, 1) := by decide +kernel
theorem dX9_digest_267 : decode cX9_digest 267 = .ok (.istore 5, 2) := by decide +kernel
theorem dX9_digest_269 : decode cX9_digest 269 = .ok (.iload 5, 2) := by decide +kernel
theorem dX9_digest_271 : decode cX9_digest 271 = .ok (.aload_n 0, 1) := by decide +kernel
theorem dX9_digest_272 : decode cX9_digest 272 = .ok (.invokevirtual 61, 3) := by decide +kernel
theorem dX9_digest_275 : decode cX9_digest 275 = .ok (.if_icmp .ge 47, 3) := by decide +kernel
theorem dX9_digest_278 : decode cX9_digest 278 = .ok (.aload_n 0, 1) := by decide +kernel
theorem dX9_digest_279 : decode cX9_digest 279 = .ok (.aload_n 0, 1) := by decide +kernel
theorem dX9_digest_280 : decode cX9_digest 280 = .ok (.iload 5, 2) := by decide +kernel
theorem dX9_digest_282 : decode cX9_digest 282 = .ok (.invokevirtual 181, 3) := by decide +kernel
theorem dX9_digest_285 : decode cX9_digest 285 = .ok (.ifCond .eq 7, 3) := by decide +kernel
theorem dX9_digest_288 : decode cX9_digest 288 = .ok (.lconst 1, 1) := by decide +kernel
theorem dX9_digest_289 : decode cX9_digest 289 = .ok (.goto 4, 3) := by decide +kernel
theorem dX9_digest_292 : decode cX9_digest 292 = .ok (.lconst 0, 1) := by decide +kernel
theorem dX9_digest_293 : decode cX9_digest 293 = .ok (.invokevirtual 324, 3) := by decide +kernel
theorem dX9_digest_296 : decode cX9_digest 296 = .ok (.aload_n 0, 1) := by decide +kernel
theorem dX9_digest_297 : decode cX9_digest 297 = .ok (.iload 5, 2) := by decide +kernel
theorem dX9_digest_299 : decode cX9_digest 299 = .ok (.invokevirtual 243, 3) := by decide +kernel
theorem dX9_digest_302 : decode cX9_digest 302 = .ok (.aload_n 0, 1) := by decide +kernel
theorem dX9_digest_303 : decode cX9_digest 303 = .ok (.invokevirtual 334, 3) := by decide +kernel
theorem dX9_digest_306 : decode cX9_digest 306 = .ok (.aload_n 0, 1) := by decide +kernel
theorem dX9_digest_307 : decode cX9_digest 307 = .ok (.iload 5, 2) := by decide +kernel
theorem dX9_digest_309 : decode cX9_digest 309 = .ok (.invokevirtual 251, 3) := by decide +kernel
theorem dX9_digest_312 : decode cX9_digest 312 = .ok (.aload_n 0, 1) := by decide +kernel
theorem dX9_digest_313 : decode cX9_digest 313 = .ok (.invokevirtual 334, 3) := by decide +kernel
theorem dX9_digest_316 : decode cX9_digest 316 = .ok (.iinc 5 1, 3) := by decide +kernel
theorem dX9_digest_319 : decode cX9_digest 319 = .ok (.goto (-50), 3) := by decide +kernel
theorem dX9_digest_322 : decode cX9_digest 322 = .ok (.aload_n 0, 1) := by decide +kernel
theorem dX9_digest_323 : decode cX9_digest 323 = .ok (.invokevirtual 141, 3) := by decide +kernel
theorem dX9_digest_326 : decode cX9_digest 326 = .ok (.iconst 0, 1) := by decide +kernel
theorem dX9_digest_327 : decode cX9_digest 327 = .ok (.istore 5, 2) := by decide +kernel
theorem dX9_digest_329 : decode cX9_digest 329 = .ok (.iload 5, 2) := by decide +kernel
theorem dX9_digest_331 : decode cX9_digest 331 = .ok (.aload_n 0, 1) := by decide +kernel
theorem dX9_digest_332 : decode cX9_digest 332 = .ok (.getfield 7, 3) := by decide +kernel
theorem dX9_digest_335 : decode cX9_digest 335 = .ok (.iconst 1, 1) := by decide +kernel
theorem dX9_digest_336 : decode cX9_digest 336 = .ok (.iaload, 1) := by decide +kernel
theorem dX9_digest_337 : decode cX9_digest 337 = .ok (.if_icmp .ge 73, 3) := by decide +kernel
theorem dX9_digest_340 : decode cX9_digest 340 = .ok (.aload_n 0, 1) := by decide +kernel
theorem dX9_digest_341 : decode cX9_digest 341 = .ok (.aload_n 0, 1) := by decide +kernel
theorem dX9_digest_342 : decode cX9_digest 342 = .ok (.getfield 32, 3) := by decide +kernel
theorem dX9_digest_345 : decode cX9_digest 345 = .ok (.iload 5, 2) := by decide +kernel
theorem dX9_digest_347 : decode cX9_digest 347 = .ok (.iaload, 1) := by decide +kernel
theorem dX9_digest_348 : decode cX9_digest 348 = .ok (.i2l, 1) := by decide +kernel
theorem dX9_digest_349 : decode cX9_digest 349 = .ok (.invokevirtual 324, 3) := by decide +kernel
theorem dX9_digest_352 : decode cX9_digest 352 = .ok (.iconst 0, 1) := by decide +kernel
theorem dX9_digest_353 : decode cX9_digest 353 = .ok (.istore 6, 2) := by decide +kernel
theorem dX9_digest_355 : decode cX9_digest 355 = .ok (.iload 6, 2) := by decide +kernel
theorem dX9_digest_357 : decode cX9_digest 357 = .ok (.aload_n 0, 1) := by decide +kernel
theorem dX9_digest_358 : decode cX9_digest 358 = .ok (.invokevirtual 61, 3) := by decide +kernel
theorem dX9_digest_361 : decode cX9_digest 361 = .ok (.if_icmp .ge 43, 3) := by decide +kernel
theorem dX9_digest_364 : decode cX9_digest 364 = .ok (.aload_n 0, 1) := by decide +kernel
theorem dX9_digest_365 : decode cX9_digest 365 = .ok (.aload_n 0, 1) := by decide +kernel
theorem dX9_digest_366 : decode cX9_digest 366 = .ok (.getfield 25, 3) := by decide +kernel
theorem dX9_digest_369 : decode cX9_digest 369 = .ok (.bipush 9, 2) := by decide +kernel
theorem dX9_digest_371 : decode cX9_digest 371 = .ok (.iload 5, 2) := by decide +kernel
theorem dX9_digest_373 : decode cX9_digest 373 = .ok (.imul, 1) := by decide +kernel
theorem dX9_digest_374 : decode cX9_digest 374 = .ok (.iload 6, 2) := by decide +kernel
theorem dX9_digest_376 : decode cX9_digest 376 = .ok (.iadd, 1) := by decide +kernel
theorem dX9_digest_377 : decode cX9_digest 377 = .ok (.laload, 1) := by decide +kernel
theorem dX9_digest_378 : decode cX9_digest 378 = .ok (.invokevirtual 324, 3) := by decide +kernel
theorem dX9_digest_381 : decode cX9_digest 381 = .ok (.aload_n 0, 1) := by decide +kernel
theorem dX9_digest_382 : decode cX9_digest 382 = .ok (.aload_n 0, 1) := by decide +kernel
theorem dX9_digest_383 : decode cX9_digest 383 = .ok (.getfield 29, 3) := by decide +kernel
theorem dX9_digest_386 : decode cX9_digest 386 = .ok (.bipush 9, 2) := by decide +kernel
theorem dX9_digest_388 : decode cX9_digest 388 = .ok (.iload 5, 2) := by decide +kernel
theorem dX9_digest_390 : decode cX9_digest 390 = .ok (.imul, 1) := by decide +kernel
theorem dX9_digest_391 : decode cX9_digest 391 = .ok (.iload 6, 2) := by decide +kernel
theorem dX9_digest_393 : decode cX9_digest 393 = .ok (.iadd, 1) := by decide +kernel
theorem dX9_digest_394 : decode cX9_digest 394 = .ok (.laload, 1) := by decide +kernel
theorem dX9_digest_395 : decode cX9_digest 395 = .ok (.invokevirtual 324, 3) := by decide +kernel
theorem dX9_digest_398 : decode cX9_digest 398 = .ok (.iinc 6 1, 3) := by decide +kernel
theorem dX9_digest_401 : decode cX9_digest 401 = .ok (.goto (-46), 3) := by decide +kernel
theorem dX9_digest_404 : decode cX9_digest 404 = .ok (.iinc 5 1, 3) := by decide +kernel
theorem dX9_digest_407 : decode cX9_digest 407 = .ok (.goto (-78), 3) := by decide +kernel
theorem dX9_digest_410 : decode cX9_digest 410 = .ok (.iload_n 2, 1) := by decide +kernel
theorem dX9_digest_411 : decode cX9_digest 411 = .ok (.ifCond .lt 12, 3) := by decide +kernel
theorem dX9_digest_414 : decode cX9_digest 414 = .ok (.aload_n 0, 1) := by decide +kernel
theorem dX9_digest_415 : decode cX9_digest 415 = .ok (.iload_n 2, 1) := by decide +kernel
theorem dX9_digest_416 : decode cX9_digest 416 = .ok (.i2l, 1) := by decide +kernel
theorem dX9_digest_417 : decode cX9_digest 417 = .ok (.invokevirtual 324, 3) := by decide +kernel
theorem dX9_digest_420 : decode cX9_digest 420 = .ok (.goto 31, 3) := by decide +kernel
theorem dX9_digest_423 : decode cX9_digest 423 = .ok (.iload_n 1, 1) := by decide +kernel
theorem dX9_digest_424 : decode cX9_digest 424 = .ok (.ifCond .ne 27, 3) := by decide +kernel
theorem dX9_digest_427 : decode cX9_digest 427 = .ok (.aload_n 0, 1) := by decide +kernel
theorem dX9_digest_428 : decode cX9_digest 428 = .ok (.invokevirtual 153, 3) := by decide +kernel
theorem dX9_digest_431 : decode cX9_digest 431 = .ok (.istore 5, 2) := by decide +kernel
theorem dX9_digest_433 : decode cX9_digest 433 = .ok (.aload_n 0, 1) := by decide +kernel
theorem dX9_digest_434 : decode cX9_digest 434 = .ok (.iload 5, 2) := by decide +kernel
theorem dX9_digest_436 : decode cX9_digest 436 = .ok (.i2l, 1) := by decide +kernel
theorem dX9_digest_437 : decode cX9_digest 437 = .ok (.invokevirtual 324, 3) := by decide +kernel
theorem dX9_digest_440 : decode cX9_digest 440 = .ok (.aload_n 0, 1) := by decide +kernel
theorem dX9_digest_441 : decode cX9_digest 441 = .ok (.aload_n 0, 1) := by decide +kernel
theorem dX9_digest_442 : decode cX9_digest 442 = .ok (.iload 5, 2) := by decide +kernel
theorem dX9_digest_444 : decode cX9_digest 444 = .ok (.invokevirtual 131, 3) := by decide +kernel
theorem dX9_digest_447 : decode cX9_digest 447 = .ok (.i2l, 1) := by decide +kernel
theorem dX9_digest_448 : decode cX9_digest 448 = .ok (.invokevirtual 324, 3) := by decide +kernel
theorem dX9_digest_451 : decode cX9_digest 451 = .ok (.aload_n 0, 1) := by decide +kernel
theorem dX9_digest_452 : decode cX9_digest 452 = .ok (.dload_n 3, 1) := by decide +kernel
theorem dX9_digest_453 : decode cX9_digest 453 = .ok (.invokestatic 342, 3) := by decide +kernel
theorem dX9_digest_456 : decode cX9_digest 456 = .ok (.invokevirtual 324, 3) := by decide +kernel
theorem dX9_digest_459 : decode cX9_digest 459 = .ok (.aload_n 0, 1) := by decide +kernel
theorem dX9_digest_460 : decode cX9_digest 460 = .ok (.aload_n 0, 1) := by decide +kernel
theorem dX9_digest_461 : decode cX9_digest 461 = .ok (.getfield 197, 3) := by decide +kernel
theorem dX9_digest_464 : decode cX9_digest 464 = .ok (.i2l, 1) := by decide +kernel
theorem dX9_digest_465 : decode cX9_digest 465 = .ok (.invokevirtual 324, 3) := by decide +kernel
theorem dX9_digest_468 : decode cX9_digest 468 = .ok (.iconst 0, 1) := by decide +kernel
theorem dX9_digest_469 : decode cX9_digest 469 = .ok (.istore 5, 2) := by decide +kernel
theorem dX9_digest_471 : decode cX9_digest 471 = .ok (.iload 5, 2) := by decide +kernel
theorem dX9_digest_473 : decode cX9_digest 473 = .ok (.aload_n 0, 1) := by decide +kernel
theorem dX9_digest_474 : decode cX9_digest 474 = .ok (.getfield 197, 3) := by decide +kernel
theorem dX9_digest_477 : decode cX9_digest 477 = .ok (.if_icmp .ge 21, 3) := by decide +kernel
theorem dX9_digest_480 : decode cX9_digest 480 = .ok (.aload_n 0, 1) := by decide +kernel
theorem dX9_digest_481 : decode cX9_digest 481 = .ok (.aload_n 0, 1) := by decide +kernel
theorem dX9_digest_482 : decode cX9_digest 482 = .ok (.getfield 22, 3) := by decide +kernel
theorem dX9_digest_485 : decode cX9_digest 485 = .ok (.iload 5, 2) := by decide +kernel
theorem dX9_digest_487 : decode cX9_digest 487 = .ok (.iaload, 1) := by decide +kernel
theorem dX9_digest_488 : decode cX9_digest 488 = .ok (.i2l, 1) := by decide +kernel
theorem dX9_digest_489 : decode cX9_digest 489 = .ok (.invokevirtual 324, 3) := by decide +kernel
theorem dX9_digest_492 : decode cX9_digest 492 = .ok (.iinc 5 1, 3) := by decide +kernel
theorem dX9_digest_495 : decode cX9_digest 495 = .ok (.goto (-24), 3) := by decide +kernel
theorem dX9_digest_498 : decode cX9_digest 498 = .ok (.aload_n 0, 1) := by decide +kernel
theorem dX9_digest_499 : decode cX9_digest 499 = .ok (.getfield 321, 3) := by decide +kernel
theorem dX9_digest_502 : decode cX9_digest 502 = .ok (.lreturn, 1) := by decide +kernel
