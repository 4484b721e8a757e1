theorem dL_cell_0 : decode cL_cell 0 = .ok (.iload_n 1, 1) := by decide +kernel
theorem dL_cell_1 : decode cL_cell 1 = .ok (.aload_n 0, 1) := by decide +kernel
theorem dL_cell_2 : decode cL_cell 2 = .ok (.arraylength, 1) := by decide +kernel
theorem dL_cell_3 : decode cL_cell 3 = .ok (.if_icmp .ge 9, 3) := by decide +kernel
theorem dL_cell_6 : decode cL_cell 6 = .ok (.aload_n 0, 1) := by decide +kernel
theorem dL_cell_7 : decode cL_cell 7 = .ok (.iload_n 1, 1) := by decide +kernel
theorem dL_cell_8 : decode cL_cell 8 = .ok (.iaload, 1) := by decide +kernel
theorem dL_cell_9 : decode cL_cell 9 = .ok (.goto 17, 3) := by decide +kernel
theorem dL_cell_12 : decode cL_cell 12 = .ok (.sipush 7919, 3) := by decide +kernel
theorem dL_cell_15 : decode cL_cell 15 = .ok (.iload_n 1, 1) := by decide +kernel
theorem dL_cell_16 : decode cL_cell 16 = .ok (.bipush 7, 2) := by decide +kernel
theorem dL_cell_18 : decode cL_cell 18 = .ok (.iadd, 1) := by decide +kernel
theorem dL_cell_19 : decode cL_cell 19 = .ok (.imul, 1) := by decide +kernel
theorem dL_cell_20 : decode cL_cell 20 = .ok (.iload_n 1, 1) := by decide +kernel
theorem dL_cell_21 : decode cL_cell 21 = .ok (.sipush 1097, 3) := by decide +kernel
theorem dL_cell_24 : decode cL_cell 24 = .ok (.iadd, 1) := by decide +kernel
theorem dL_cell_25 : decode cL_cell 25 = .ok (.imul, 1) := by decide +kernel
theorem dL_cell_26 : decode cL_cell 26 = .ok (.ireturn, 1) := by decide +kernel
theorem dL_low_0 : decode cL_low 0 = .ok (.iload_n 0, 1) := by decide +kernel
theorem dL_low_1 : decode cL_low 1 = .ok (.ldc 7, 2) := by decide +kernel
theorem dL_low_3 : decode cL_low 3 = .ok (.iand, 1) := by decide +kernel
theorem dL_low_4 : decode cL_low 4 = .ok (.iload_n 1, 1) := by decide +kernel
theorem dL_low_5 : decode cL_low 5 = .ok (.irem, 1) := by decide +kernel
theorem dL_low_6 : decode cL_low 6 = .ok (.ireturn, 1) := by decide +kernel
theorem dL_changes_0 : decode cL_changes 0 = .ok (.aload 5, 2) := by decide +kernel
theorem dL_changes_2 : decode cL_changes 2 = .ok (.iconst 0, 1) := by decide +kernel
theorem dL_changes_3 : decode cL_changes 3 = .ok (.iload_n 1, 1) := by decide +kernel
theorem dL_changes_4 : decode cL_changes 4 = .ok (.ifCond .ne 11, 3) := by decide +kernel
theorem dL_changes_7 : decode cL_changes 7 = .ok (.aload_n 0, 1) := by decide +kernel
theorem dL_changes_8 : decode cL_changes 8 = .ok (.iload_n 2, 1) := by decide +kernel
theorem dL_changes_9 : decode cL_changes 9 = .ok (.invokevirtual 8, 3) := by decide +kernel
theorem dL_changes_12 : decode cL_changes 12 = .ok (.goto 132, 3) := by decide +kernel
theorem dL_changes_15 : decode cL_changes 15 = .ok (.iload_n 1, 1) := by decide +kernel
theorem dL_changes_16 : decode cL_changes 16 = .ok (.iconst 1, 1) := by decide +kernel
theorem dL_changes_17 : decode cL_changes 17 = .ok (.if_icmp .ne 12, 3) := by decide +kernel
theorem dL_changes_20 : decode cL_changes 20 = .ok (.aload_n 0, 1) := by decide +kernel
theorem dL_changes_21 : decode cL_changes 21 = .ok (.iload_n 2, 1) := by decide +kernel
theorem dL_changes_22 : decode cL_changes 22 = .ok (.iload_n 3, 1) := by decide +kernel
theorem dL_changes_23 : decode cL_changes 23 = .ok (.invokevirtual 14, 3) := by decide +kernel
theorem dL_changes_26 : decode cL_changes 26 = .ok (.goto 118, 3) := by decide +kernel
theorem dL_changes_29 : decode cL_changes 29 = .ok (.iload_n 1, 1) := by decide +kernel
theorem dL_changes_30 : decode cL_changes 30 = .ok (.iconst 2, 1) := by decide +kernel
theorem dL_changes_31 : decode cL_changes 31 = .ok (.if_icmp .ne 11, 3) := by decide +kernel
theorem dL_changes_34 : decode cL_changes 34 = .ok (.aload_n 0, 1) := by decide +kernel
theorem dL_changes_35 : decode cL_changes 35 = .ok (.iload_n 2, 1) := by decide +kernel
theorem dL_changes_36 : decode cL_changes 36 = .ok (.invokevirtual 18, 3) := by decide +kernel
theorem dL_changes_39 : decode cL_changes 39 = .ok (.goto 105, 3) := by decide +kernel
theorem dL_changes_42 : decode cL_changes 42 = .ok (.iload_n 1, 1) := by decide +kernel
theorem dL_changes_43 : decode cL_changes 43 = .ok (.iconst 3, 1) := by decide +kernel
theorem dL_changes_44 : decode cL_changes 44 = .ok (.if_icmp .ne 14, 3) := by decide +kernel
theorem dL_changes_47 : decode cL_changes 47 = .ok (.aload_n 0, 1) := by decide +kernel
theorem dL_changes_48 : decode cL_changes 48 = .ok (.iload_n 2, 1) := by decide +kernel
theorem dL_changes_49 : decode cL_changes 49 = .ok (.iload_n 3, 1) := by decide +kernel
theorem dL_changes_50 : decode cL_changes 50 = .ok (.iload 4, 2) := by decide +kernel
theorem dL_changes_52 : decode cL_changes 52 = .ok (.invokevirtual 21, 3) := by decide +kernel
theorem dL_changes_55 : decode cL_changes 55 = .ok (.goto 89, 3) := by decide +kernel
theorem dL_changes_58 : decode cL_changes 58 = .ok (.iload_n 1, 1) := by decide +kernel
theorem dL_changes_59 : decode cL_changes 59 = .ok (.iconst 4, 1) := by decide +kernel
theorem dL_changes_60 : decode cL_changes 60 = .ok (.if_icmp .ne 12, 3) := by decide +kernel
theorem dL_changes_63 : decode cL_changes 63 = .ok (.aload_n 0, 1) := by decide +kernel
theorem dL_changes_64 : decode cL_changes 64 = .ok (.iload_n 2, 1) := by decide +kernel
theorem dL_changes_65 : decode cL_changes 65 = .ok (.iload_n 3, 1) := by decide +kernel
theorem dL_changes_66 : decode cL_changes 66 = .ok (.invokevirtual 25, 3) := by decide +kernel
theorem dL_changes_69 : decode cL_changes 69 = .ok (.goto 75, 3) := by decide +kernel
theorem dL_changes_72 : decode cL_changes 72 = .ok (.iload_n 1, 1) := by decide +kernel
theorem dL_changes_73 : decode cL_changes 73 = .ok (.iconst 5, 1) := by decide +kernel
theorem dL_changes_74 : decode cL_changes 74 = .ok (.if_icmp .ne 11, 3) := by decide +kernel
theorem dL_changes_77 : decode cL_changes 77 = .ok (.aload_n 0, 1) := by decide +kernel
theorem dL_changes_78 : decode cL_changes 78 = .ok (.iload_n 2, 1) := by decide +kernel
theorem dL_changes_79 : decode cL_changes 79 = .ok (.invokevirtual 28, 3) := by decide +kernel
theorem dL_changes_82 : decode cL_changes 82 = .ok (.goto 62, 3) := by decide +kernel
theorem dL_changes_85 : decode cL_changes 85 = .ok (.iload_n 1, 1) := by decide +kernel
theorem dL_changes_86 : decode cL_changes 86 = .ok (.bipush 6, 2) := by decide +kernel
theorem dL_changes_88 : decode cL_changes 88 = .ok (.if_icmp .ne 12, 3) := by decide +kernel
theorem dL_changes_91 : decode cL_changes 91 = .ok (.aload_n 0, 1) := by decide +kernel
theorem dL_changes_92 : decode cL_changes 92 = .ok (.iload_n 2, 1) := by decide +kernel
theorem dL_changes_93 : decode cL_changes 93 = .ok (.iload_n 3, 1) := by decide +kernel
theorem dL_changes_94 : decode cL_changes 94 = .ok (.invokevirtual 31, 3) := by decide +kernel
theorem dL_changes_97 : decode cL_changes 97 = .ok (.goto 47, 3) := by decide +kernel
theorem dL_changes_100 : decode cL_changes 100 = .ok (.iload_n 1, 1) := by decide +kernel
theorem dL_changes_101 : decode cL_changes 101 = .ok (.bipush 7, 2) := by decide +kernel
theorem dL_changes_103 : decode cL_changes 103 = .ok (.if_icmp .ne 10, 3) := by decide +kernel
theorem dL_changes_106 : decode cL_changes 106 = .ok (.aload_n 0, 1) := by decide +kernel
theorem dL_changes_107 : decode cL_changes 107 = .ok (.invokevirtual 34, 3) := by decide +kernel
theorem dL_changes_110 : decode cL_changes 110 = .ok (.goto 34, 3) := by decide +kernel
theorem dL_changes_113 : decode cL_changes 113 = .ok (.iload_n 1, 1) := by decide +kernel
theorem dL_changes_114 : decode cL_changes 114 = .ok (.bipush 8, 2) := by decide +kernel
theorem dL_changes_116 : decode cL_changes 116 = .ok (.if_icmp .ne 10, 3) := by decide +kernel
theorem dL_changes_119 : decode cL_changes 119 = .ok (.aload_n 0, 1) := by decide +kernel
theorem dL_changes_120 : decode cL_changes 120 = .ok (.invokevirtual 38, 3) := by decide +kernel
theorem dL_changes_123 : decode cL_changes 123 = .ok (.goto 21, 3) := by decide +kernel
theorem dL_changes_126 : decode cL_changes 126 = .ok (.iload_n 1, 1) := by decide +kernel
theorem dL_changes_127 : decode cL_changes 127 = .ok (.bipush 9, 2) := by decide +kernel
theorem dL_changes_129 : decode cL_changes 129 = .ok (.if_icmp .ne 11, 3) := by decide +kernel
theorem dL_changes_132 : decode cL_changes 132 = .ok (.aload_n 0, 1) := by decide +kernel
theorem dL_changes_133 : decode cL_changes 133 = .ok (.iload_n 2, 1) := by decide +kernel
theorem dL_changes_134 : decode cL_changes 134 = .ok (.invokevirtual 41, 3) := by decide +kernel
theorem dL_changes_137 : decode cL_changes 137 = .ok (.goto 7, 3) := by decide +kernel
theorem dL_changes_140 : decode cL_changes 140 = .ok (.aload_n 0, 1) := by decide +kernel
theorem dL_changes_141 : decode cL_changes 141 = .ok (.invokevirtual 44, 3) := by decide +kernel
theorem dL_changes_144 : decode cL_changes 144 = .ok (.iastore, 1) := by decide +kernel
theorem dL_changes_145 : decode cL_changes 145 = .ok (.goto 15, 3) := by decide +kernel
theorem dL_changes_148 : decode cL_changes 148 = .ok (.astore 6, 2) := by decide +kernel
theorem dL_changes_150 : decode cL_changes 150 = .ok (.iconst 1, 1) := by decide +kernel
theorem dL_changes_151 : decode cL_changes 151 = .ok (.ireturn, 1) := by decide +kernel
theorem dL_changes_152 : decode cL_changes 152 = .ok (.astore 6, 2) := by decide +kernel
theorem dL_changes_154 : decode cL_changes 154 = .ok (.iconst 2, 1) := by decide +kernel
theorem dL_changes_155 : decode cL_changes 155 = .ok (.ireturn, 1) := by decide +kernel
theorem dL_changes_156 : decode cL_changes 156 = .ok (.astore 6, 2) := by decide +kernel
theorem dL_changes_158 : decode cL_changes 158 = .ok (.iconst 3, 1) := by decide +kernel
theorem dL_changes_159 : decode cL_changes 159 = .ok (.ireturn, 1) := by decide +kernel
theorem dL_changes_160 : decode cL_changes 160 = .ok (.iconst 0, 1) := by decide +kernel
theorem dL_changes_161 : decode cL_changes 161 = .ok (.ireturn, 1) := by decide +kernel
theorem dL_act_0 : decode cL_act 0 = .ok (.iload_n 1, 1) := by decide +kernel
theorem dL_act_1 : decode cL_act 1 = .ok (.iconst 5, 1) := by decide +kernel
theorem dL_act_2 : decode cL_act 2 = .ok (.ishr, 1) := by decide +kernel
theorem dL_act_3 : decode cL_act 3 = .ok (.istore_n 3, 1) := by decide +kernel
theorem dL_act_4 : decode cL_act 4 = .ok (.iload_n 1, 1) := by decide +kernel
theorem dL_act_5 : decode cL_act 5 = .ok (.bipush 22, 2) := by decide +kernel
theorem dL_act_7 : decode cL_act 7 = .ok (.ishr, 1) := by decide +kernel
theorem dL_act_8 : decode cL_act 8 = .ok (.bipush 9, 2) := by decide +kernel
theorem dL_act_10 : decode cL_act 10 = .ok (.invokestatic 53, 3) := by decide +kernel
theorem dL_act_13 : decode cL_act 13 = .ok (.ifCond .le 7, 3) := by decide +kernel
theorem dL_act_16 : decode cL_act 16 = .ok (.iconst 1, 1) := by decide +kernel
theorem dL_act_17 : decode cL_act 17 = .ok (.goto 4, 3) := by decide +kernel
theorem dL_act_20 : decode cL_act 20 = .ok (.iconst 0, 1) := by decide +kernel
theorem dL_act_21 : decode cL_act 21 = .ok (.istore 4, 2) := by decide +kernel
theorem dL_act_23 : decode cL_act 23 = .ok (.iload_n 1, 1) := by decide +kernel
theorem dL_act_24 : decode cL_act 24 = .ok (.bipush 30, 2) := by decide +kernel
theorem dL_act_26 : decode cL_act 26 = .ok (.invokestatic 53, 3) := by decide +kernel
theorem dL_act_29 : decode cL_act 29 = .ok (.istore 5, 2) := by decide +kernel
theorem dL_act_31 : decode cL_act 31 = .ok (.iload_n 3, 1) := by decide +kernel
theorem dL_act_32 : decode cL_act 32 = .ok (.aload_n 0, 1) := by decide +kernel
theorem dL_act_33 : decode cL_act 33 = .ok (.invokevirtual 58, 3) := by decide +kernel
theorem dL_act_36 : decode cL_act 36 = .ok (.iload 4, 2) := by decide +kernel
theorem dL_act_38 : decode cL_act 38 = .ok (.ifCond .eq 14, 3) := by decide +kernel
theorem dL_act_41 : decode cL_act 41 = .ok (.aload_n 0, 1) := by decide +kernel
theorem dL_act_42 : decode cL_act 42 = .ok (.invokevirtual 58, 3) := by decide +kernel
theorem dL_act_45 : decode cL_act 45 = .ok (.ifCond .le 7, 3) := by decide +kernel
theorem dL_act_48 : decode cL_act 48 = .ok (.iconst 0, 1) := by decide +kernel
theorem dL_act_49 : decode cL_act 49 = .ok (.goto 4, 3) := by decide +kernel
theorem dL_act_52 : decode cL_act 52 = .ok (.iconst 1, 1) := by decide +kernel
theorem dL_act_53 : decode cL_act 53 = .ok (.iadd, 1) := by decide +kernel
theorem dL_act_54 : decode cL_act 54 = .ok (.invokestatic 53, 3) := by decide +kernel
theorem dL_act_57 : decode cL_act 57 = .ok (.istore 6, 2) := by decide +kernel
theorem dL_act_59 : decode cL_act 59 = .ok (.iload_n 3, 1) := by decide +kernel
theorem dL_act_60 : decode cL_act 60 = .ok (.iconst 3, 1) := by decide +kernel
theorem dL_act_61 : decode cL_act 61 = .ok (.ishr, 1) := by decide +kernel
theorem dL_act_62 : decode cL_act 62 = .ok (.aload_n 0, 1) := by decide +kernel
theorem dL_act_63 : decode cL_act 63 = .ok (.invokevirtual 61, 3) := by decide +kernel
theorem dL_act_66 : decode cL_act 66 = .ok (.iload 4, 2) := by decide +kernel
theorem dL_act_68 : decode cL_act 68 = .ok (.ifCond .eq 7, 3) := by decide +kernel
theorem dL_act_71 : decode cL_act 71 = .ok (.iconst 0, 1) := by decide +kernel
theorem dL_act_72 : decode cL_act 72 = .ok (.goto 4, 3) := by decide +kernel
theorem dL_act_75 : decode cL_act 75 = .ok (.iconst 1, 1) := by decide +kernel
theorem dL_act_76 : decode cL_act 76 = .ok (.iadd, 1) := by decide +kernel
theorem dL_act_77 : decode cL_act 77 = .ok (.invokestatic 53, 3) := by decide +kernel
theorem dL_act_80 : decode cL_act 80 = .ok (.istore 7, 2) := by decide +kernel
theorem dL_act_82 : decode cL_act 82 = .ok (.iload 5, 2) := by decide +kernel
theorem dL_act_84 : decode cL_act 84 = .ok (.iconst 4, 1) := by decide +kernel
theorem dL_act_85 : decode cL_act 85 = .ok (.if_icmp .ge 34, 3) := by decide +kernel
theorem dL_act_88 : decode cL_act 88 = .ok (.aload_n 0, 1) := by decide +kernel
theorem dL_act_89 : decode cL_act 89 = .ok (.iconst 1, 1) := by decide +kernel
theorem dL_act_90 : decode cL_act 90 = .ok (.iload 7, 2) := by decide +kernel
theorem dL_act_92 : decode cL_act 92 = .ok (.iload_n 3, 1) := by decide +kernel
theorem dL_act_93 : decode cL_act 93 = .ok (.bipush 6, 2) := by decide +kernel
theorem dL_act_95 : decode cL_act 95 = .ok (.ishr, 1) := by decide +kernel
theorem dL_act_96 : decode cL_act 96 = .ok (.iload 4, 2) := by decide +kernel
theorem dL_act_98 : decode cL_act 98 = .ok (.ifCond .eq 8, 3) := by decide +kernel
theorem dL_act_101 : decode cL_act 101 = .ok (.bipush 13, 2) := by decide +kernel
theorem dL_act_103 : decode cL_act 103 = .ok (.goto 5, 3) := by decide +kernel
theorem dL_act_106 : decode cL_act 106 = .ok (.bipush 30, 2) := by decide +kernel
theorem dL_act_108 : decode cL_act 108 = .ok (.invokestatic 53, 3) := by decide +kernel
theorem dL_act_111 : decode cL_act 111 = .ok (.iconst 3, 1) := by decide +kernel
theorem dL_act_112 : decode cL_act 112 = .ok (.isub, 1) := by decide +kernel
theorem dL_act_113 : decode cL_act 113 = .ok (.iconst 0, 1) := by decide +kernel
theorem dL_act_114 : decode cL_act 114 = .ok (.aload_n 2, 1) := by decide +kernel
theorem dL_act_115 : decode cL_act 115 = .ok (.invokestatic 64, 3) := by decide +kernel
theorem dL_act_118 : decode cL_act 118 = .ok (.ireturn, 1) := by decide +kernel
theorem dL_act_119 : decode cL_act 119 = .ok (.iload 5, 2) := by decide +kernel
theorem dL_act_121 : decode cL_act 121 = .ok (.bipush 8, 2) := by decide +kernel
theorem dL_act_123 : decode cL_act 123 = .ok (.if_icmp .ge 28, 3) := by decide +kernel
theorem dL_act_126 : decode cL_act 126 = .ok (.aload_n 0, 1) := by decide +kernel
theorem dL_act_127 : decode cL_act 127 = .ok (.iconst 2, 1) := by decide +kernel
theorem dL_act_128 : decode cL_act 128 = .ok (.iload_n 3, 1) := by decide +kernel
theorem dL_act_129 : decode cL_act 129 = .ok (.iload 4, 2) := by decide +kernel
theorem dL_act_131 : decode cL_act 131 = .ok (.ifCond .eq 8, 3) := by decide +kernel
theorem dL_act_134 : decode cL_act 134 = .ok (.bipush 100, 2) := by decide +kernel
theorem dL_act_136 : decode cL_act 136 = .ok (.goto 5, 3) := by decide +kernel
theorem dL_act_139 : decode cL_act 139 = .ok (.bipush 120, 2) := by decide +kernel
theorem dL_act_141 : decode cL_act 141 = .ok (.invokestatic 53, 3) := by decide +kernel
theorem dL_act_144 : decode cL_act 144 = .ok (.iconst 0, 1) := by decide +kernel
theorem dL_act_145 : decode cL_act 145 = .ok (.iconst 0, 1) := by decide +kernel
theorem dL_act_146 : decode cL_act 146 = .ok (.aload_n 2, 1) := by decide +kernel
theorem dL_act_147 : decode cL_act 147 = .ok (.invokestatic 64, 3) := by decide +kernel
theorem dL_act_150 : decode cL_act 150 = .ok (.ireturn, 1) := by decide +kernel
theorem dL_act_151 : decode cL_act 151 = .ok (.iload 5, 2) := by decide +kernel
theorem dL_act_153 : decode cL_act 153 = .ok (.bipush 16, 2) := by decide +kernel
theorem dL_act_155 : decode cL_act 155 = .ok (.if_icmp .ge 35, 3) := by decide +kernel
theorem dL_act_158 : decode cL_act 158 = .ok (.aload_n 0, 1) := by decide +kernel
theorem dL_act_159 : decode cL_act 159 = .ok (.iconst 3, 1) := by decide +kernel
theorem dL_act_160 : decode cL_act 160 = .ok (.iload 6, 2) := by decide +kernel
theorem dL_act_162 : decode cL_act 162 = .ok (.iload 7, 2) := by decide +kernel
theorem dL_act_164 : decode cL_act 164 = .ok (.iload_n 3, 1) := by decide +kernel
theorem dL_act_165 : decode cL_act 165 = .ok (.bipush 6, 2) := by decide +kernel
theorem dL_act_167 : decode cL_act 167 = .ok (.ishr, 1) := by decide +kernel
theorem dL_act_168 : decode cL_act 168 = .ok (.iload 4, 2) := by decide +kernel
theorem dL_act_170 : decode cL_act 170 = .ok (.ifCond .eq 8, 3) := by decide +kernel
theorem dL_act_173 : decode cL_act 173 = .ok (.bipush 14, 2) := by decide +kernel
theorem dL_act_175 : decode cL_act 175 = .ok (.goto 5, 3) := by decide +kernel
theorem dL_act_178 : decode cL_act 178 = .ok (.bipush 30, 2) := by decide +kernel
theorem dL_act_180 : decode cL_act 180 = .ok (.invokestatic 53, 3) := by decide +kernel
theorem dL_act_183 : decode cL_act 183 = .ok (.iconst 5, 1) := by decide +kernel
theorem dL_act_184 : decode cL_act 184 = .ok (.isub, 1) := by decide +kernel
theorem dL_act_185 : decode cL_act 185 = .ok (.aload_n 2, 1) := by decide +kernel
theorem dL_act_186 : decode cL_act 186 = .ok (.invokestatic 64, 3) := by decide +kernel
theorem dL_act_189 : decode cL_act 189 = .ok (.ireturn, 1) := by decide +kernel
theorem dL_act_190 : decode cL_act 190 = .ok (.iload 5, 2) := by decide +kernel
theorem dL_act_192 : decode cL_act 192 = .ok (.bipush 20, 2) := by decide +kernel
theorem dL_act_194 : decode cL_act 194 = .ok (.if_icmp .ge 126, 3) := by decide +kernel
theorem dL_act_197 : decode cL_act 197 = .ok (.iload 5, 2) := by decide +kernel
theorem dL_act_199 : decode cL_act 199 = .ok (.bipush 16, 2) := by decide +kernel
theorem dL_act_201 : decode cL_act 201 = .ok (.if_icmp .ne 38, 3) := by decide +kernel
theorem dL_act_204 : decode cL_act 204 = .ok (.aload_n 0, 1) := by decide +kernel
theorem dL_act_205 : decode cL_act 205 = .ok (.iconst 0, 1) := by decide +kernel
theorem dL_act_206 : decode cL_act 206 = .ok (.iload_n 3, 1) := by decide +kernel
theorem dL_act_207 : decode cL_act 207 = .ok (.iconst 5, 1) := by decide +kernel
theorem dL_act_208 : decode cL_act 208 = .ok (.invokestatic 53, 3) := by decide +kernel
theorem dL_act_211 : decode cL_act 211 = .ok (.iload 4, 2) := by decide +kernel
theorem dL_act_213 : decode cL_act 213 = .ok (.ifCond .eq 7, 3) := by decide +kernel
theorem dL_act_216 : decode cL_act 216 = .ok (.iconst 1, 1) := by decide +kernel
theorem dL_act_217 : decode cL_act 217 = .ok (.goto 4, 3) := by decide +kernel
theorem dL_act_220 : decode cL_act 220 = .ok (.iconst 0, 1) := by decide +kernel
theorem dL_act_221 : decode cL_act 221 = .ok (.iadd, 1) := by decide +kernel
theorem dL_act_222 : decode cL_act 222 = .ok (.iload_n 3, 1) := by decide +kernel
theorem dL_act_223 : decode cL_act 223 = .ok (.iconst 5, 1) := by decide +kernel
theorem dL_act_224 : decode cL_act 224 = .ok (.invokestatic 53, 3) := by decide +kernel
theorem dL_act_227 : decode cL_act 227 = .ok (.iconst 4, 1) := by decide +kernel
theorem dL_act_228 : decode cL_act 228 = .ok (.idiv, 1) := by decide +kernel
theorem dL_act_229 : decode cL_act 229 = .ok (.isub, 1) := by decide +kernel
theorem dL_act_230 : decode cL_act 230 = .ok (.iconst 0, 1) := by decide +kernel
theorem dL_act_231 : decode cL_act 231 = .ok (.iconst 0, 1) := by decide +kernel
theorem dL_act_232 : decode cL_act 232 = .ok (.aload_n 2, 1) := by decide +kernel
theorem dL_act_233 : decode cL_act 233 = .ok (.invokestatic 64, 3) := by decide +kernel
theorem dL_act_236 : decode cL_act 236 = .ok (.goto 83, 3) := by decide +kernel
theorem dL_act_239 : decode cL_act 239 = .ok (.iload 5, 2) := by decide +kernel
theorem dL_act_241 : decode cL_act 241 = .ok (.bipush 17, 2) := by decide +kernel
theorem dL_act_243 : decode cL_act 243 = .ok (.if_icmp .ne 33, 3) := by decide +kernel
theorem dL_act_246 : decode cL_act 246 = .ok (.aload_n 0, 1) := by decide +kernel
theorem dL_act_247 : decode cL_act 247 = .ok (.iconst 4, 1) := by decide +kernel
theorem dL_act_248 : decode cL_act 248 = .ok (.iload 6, 2) := by decide +kernel
theorem dL_act_250 : decode cL_act 250 = .ok (.iload_n 3, 1) := by decide +kernel
theorem dL_act_251 : decode cL_act 251 = .ok (.iconst 3, 1) := by decide +kernel
theorem dL_act_252 : decode cL_act 252 = .ok (.ishr, 1) := by decide +kernel
theorem dL_act_253 : decode cL_act 253 = .ok (.iload 4, 2) := by decide +kernel
theorem dL_act_255 : decode cL_act 255 = .ok (.ifCond .eq 8, 3) := by decide +kernel
theorem dL_act_258 : decode cL_act 258 = .ok (.bipush 100, 2) := by decide +kernel
theorem dL_act_260 : decode cL_act 260 = .ok (.goto 5, 3) := by decide +kernel
theorem dL_act_263 : decode cL_act 263 = .ok (.bipush 120, 2) := by decide +kernel
theorem dL_act_265 : decode cL_act 265 = .ok (.invokestatic 53, 3) := by decide +kernel
theorem dL_act_268 : decode cL_act 268 = .ok (.iconst 0, 1) := by decide +kernel
theorem dL_act_269 : decode cL_act 269 = .ok (.aload_n 2, 1) := by decide +kernel
theorem dL_act_270 : decode cL_act 270 = .ok (.invokestatic 64, 3) := by decide +kernel
theorem dL_act_273 : decode cL_act 273 = .ok (.goto 46, 3) := by decide +kernel
theorem dL_act_276 : decode cL_act 276 = .ok (.iload 5, 2) := by decide +kernel
theorem dL_act_278 : decode cL_act 278 = .ok (.bipush 18, 2) := by decide +kernel
theorem dL_act_280 : decode cL_act 280 = .ok (.if_icmp .ne 16, 3) := by decide +kernel
theorem dL_act_283 : decode cL_act 283 = .ok (.aload_n 0, 1) := by decide +kernel
theorem dL_act_284 : decode cL_act 284 = .ok (.iconst 5, 1) := by decide +kernel
theorem dL_act_285 : decode cL_act 285 = .ok (.iload 6, 2) := by decide +kernel
theorem dL_act_287 : decode cL_act 287 = .ok (.iconst 0, 1) := by decide +kernel
theorem dL_act_288 : decode cL_act 288 = .ok (.iconst 0, 1) := by decide +kernel
theorem dL_act_289 : decode cL_act 289 = .ok (.aload_n 2, 1) := by decide +kernel
theorem dL_act_290 : decode cL_act 290 = .ok (.invokestatic 64, 3) := by decide +kernel
theorem dL_act_293 : decode cL_act 293 = .ok (.goto 26, 3) := by decide +kernel
theorem dL_act_296 : decode cL_act 296 = .ok (.aload_n 0, 1) := by decide +kernel
theorem dL_act_297 : decode cL_act 297 = .ok (.bipush 9, 2) := by decide +kernel
theorem dL_act_299 : decode cL_act 299 = .ok (.iload_n 3, 1) := by decide +kernel
theorem dL_act_300 : decode cL_act 300 = .ok (.iload 4, 2) := by decide +kernel
theorem dL_act_302 : decode cL_act 302 = .ok (.ifCond .eq 7, 3) := by decide +kernel
theorem dL_act_305 : decode cL_act 305 = .ok (.iconst 3, 1) := by decide +kernel
theorem dL_act_306 : decode cL_act 306 = .ok (.goto 4, 3) := by decide +kernel
theorem dL_act_309 : decode cL_act 309 = .ok (.iconst 5, 1) := by decide +kernel
theorem dL_act_310 : decode cL_act 310 = .ok (.invokestatic 53, 3) := by decide +kernel
theorem dL_act_313 : decode cL_act 313 = .ok (.iconst 0, 1) := by decide +kernel
theorem dL_act_314 : decode cL_act 314 = .ok (.iconst 0, 1) := by decide +kernel
theorem dL_act_315 : decode cL_act 315 = .ok (.aload_n 2, 1) := by decide +kernel
theorem dL_act_316 : decode cL_act 316 = .ok (.invokestatic 64, 3) := by decide +kernel
theorem dL_act_319 : decode cL_act 319 = .ok (.ireturn, 1) := by decide +kernel
theorem dL_act_320 : decode cL_act 320 = .ok (.iload 5, 2) := by decide +kernel
theorem dL_act_322 : decode cL_act 322 = .ok (.bipush 24, 2) := by decide +kernel
theorem dL_act_324 : decode cL_act 324 = .ok (.if_icmp .ge 42, 3) := by decide +kernel
theorem dL_act_327 : decode cL_act 327 = .ok (.aload_n 0, 1) := by decide +kernel
theorem dL_act_328 : decode cL_act 328 = .ok (.bipush 6, 2) := by decide +kernel
theorem dL_act_330 : decode cL_act 330 = .ok (.iload 6, 2) := by decide +kernel
theorem dL_act_332 : decode cL_act 332 = .ok (.iload_n 3, 1) := by decide +kernel
theorem dL_act_333 : decode cL_act 333 = .ok (.iconst 3, 1) := by decide +kernel
theorem dL_act_334 : decode cL_act 334 = .ok (.ishr, 1) := by decide +kernel
theorem dL_act_335 : decode cL_act 335 = .ok (.aload_n 0, 1) := by decide +kernel
theorem dL_act_336 : decode cL_act 336 = .ok (.invokevirtual 61, 3) := by decide +kernel
theorem dL_act_339 : decode cL_act 339 = .ok (.aload_n 0, 1) := by decide +kernel
theorem dL_act_340 : decode cL_act 340 = .ok (.invokevirtual 58, 3) := by decide +kernel
theorem dL_act_343 : decode cL_act 343 = .ok (.iadd, 1) := by decide +kernel
theorem dL_act_344 : decode cL_act 344 = .ok (.iload 4, 2) := by decide +kernel
theorem dL_act_346 : decode cL_act 346 = .ok (.ifCond .eq 7, 3) := by decide +kernel
theorem dL_act_349 : decode cL_act 349 = .ok (.iconst 0, 1) := by decide +kernel
theorem dL_act_350 : decode cL_act 350 = .ok (.goto 4, 3) := by decide +kernel
theorem dL_act_353 : decode cL_act 353 = .ok (.iconst 1, 1) := by decide +kernel
theorem dL_act_354 : decode cL_act 354 = .ok (.iadd, 1) := by decide +kernel
theorem dL_act_355 : decode cL_act 355 = .ok (.invokestatic 53, 3) := by decide +kernel
theorem dL_act_358 : decode cL_act 358 = .ok (.iconst 0, 1) := by decide +kernel
theorem dL_act_359 : decode cL_act 359 = .ok (.aload_n 2, 1) := by decide +kernel
theorem dL_act_360 : decode cL_act 360 = .ok (.invokestatic 64, 3) := by decide +kernel
theorem dL_act_363 : decode cL_act 363 = .ok (.goto 45, 3) := by decide +kernel
theorem dL_act_366 : decode cL_act 366 = .ok (.iload 5, 2) := by decide +kernel
theorem dL_act_368 : decode cL_act 368 = .ok (.bipush 28, 2) := by decide +kernel
theorem dL_act_370 : decode cL_act 370 = .ok (.if_icmp .ge 16, 3) := by decide +kernel
theorem dL_act_373 : decode cL_act 373 = .ok (.aload_n 0, 1) := by decide +kernel
theorem dL_act_374 : decode cL_act 374 = .ok (.bipush 7, 2) := by decide +kernel
theorem dL_act_376 : decode cL_act 376 = .ok (.iconst 0, 1) := by decide +kernel
theorem dL_act_377 : decode cL_act 377 = .ok (.iconst 0, 1) := by decide +kernel
theorem dL_act_378 : decode cL_act 378 = .ok (.iconst 0, 1) := by decide +kernel
theorem dL_act_379 : decode cL_act 379 = .ok (.aload_n 2, 1) := by decide +kernel
theorem dL_act_380 : decode cL_act 380 = .ok (.invokestatic 64, 3) := by decide +kernel
theorem dL_act_383 : decode cL_act 383 = .ok (.goto 25, 3) := by decide +kernel
theorem dL_act_386 : decode cL_act 386 = .ok (.aload_n 0, 1) := by decide +kernel
theorem dL_act_387 : decode cL_act 387 = .ok (.iload 5, 2) := by decide +kernel
theorem dL_act_389 : decode cL_act 389 = .ok (.bipush 28, 2) := by decide +kernel
theorem dL_act_391 : decode cL_act 391 = .ok (.if_icmp .ne 8, 3) := by decide +kernel
theorem dL_act_394 : decode cL_act 394 = .ok (.bipush 8, 2) := by decide +kernel
theorem dL_act_396 : decode cL_act 396 = .ok (.goto 5, 3) := by decide +kernel
theorem dL_act_399 : decode cL_act 399 = .ok (.bipush 10, 2) := by decide +kernel
theorem dL_act_401 : decode cL_act 401 = .ok (.iconst 0, 1) := by decide +kernel
theorem dL_act_402 : decode cL_act 402 = .ok (.iconst 0, 1) := by decide +kernel
theorem dL_act_403 : decode cL_act 403 = .ok (.iconst 0, 1) := by decide +kernel
theorem dL_act_404 : decode cL_act 404 = .ok (.aload_n 2, 1) := by decide +kernel
theorem dL_act_405 : decode cL_act 405 = .ok (.invokestatic 64, 3) := by decide +kernel
theorem dL_act_408 : decode cL_act 408 = .ok (.ireturn, 1) := by decide +kernel
theorem dL_areAlike_0 : decode cL_areAlike 0 = .ok (.aload_n 0, 1) := by decide +kernel
theorem dL_areAlike_1 : decode cL_areAlike 1 = .ok (.invokevirtual 61, 3) := by decide +kernel
theorem dL_areAlike_4 : decode cL_areAlike 4 = .ok (.aload_n 1, 1) := by decide +kernel
theorem dL_areAlike_5 : decode cL_areAlike 5 = .ok (.invokevirtual 61, 3) := by decide +kernel
theorem dL_areAlike_8 : decode cL_areAlike 8 = .ok (.if_icmp .ne 62, 3) := by decide +kernel
theorem dL_areAlike_11 : decode cL_areAlike 11 = .ok (.aload_n 0, 1) := by decide +kernel
theorem dL_areAlike_12 : decode cL_areAlike 12 = .ok (.invokevirtual 58, 3) := by decide +kernel
theorem dL_areAlike_15 : decode cL_areAlike 15 = .ok (.aload_n 1, 1) := by decide +kernel
theorem dL_areAlike_16 : decode cL_areAlike 16 = .ok (.invokevirtual 58, 3) := by decide +kernel
theorem dL_areAlike_19 : decode cL_areAlike 19 = .ok (.if_icmp .ne 51, 3) := by decide +kernel
theorem dL_areAlike_22 : decode cL_areAlike 22 = .ok (.aload_n 0, 1) := by decide +kernel
theorem dL_areAlike_23 : decode cL_areAlike 23 = .ok (.invokevirtual 68, 3) := by decide +kernel
theorem dL_areAlike_26 : decode cL_areAlike 26 = .ok (.aload_n 1, 1) := by decide +kernel
theorem dL_areAlike_27 : decode cL_areAlike 27 = .ok (.invokevirtual 68, 3) := by decide +kernel
theorem dL_areAlike_30 : decode cL_areAlike 30 = .ok (.if_icmp .ne 40, 3) := by decide +kernel
theorem dL_areAlike_33 : decode cL_areAlike 33 = .ok (.aload_n 0, 1) := by decide +kernel
theorem dL_areAlike_34 : decode cL_areAlike 34 = .ok (.invokevirtual 71, 3) := by decide +kernel
theorem dL_areAlike_37 : decode cL_areAlike 37 = .ok (.aload_n 1, 1) := by decide +kernel
theorem dL_areAlike_38 : decode cL_areAlike 38 = .ok (.invokevirtual 71, 3) := by decide +kernel
theorem dL_areAlike_41 : decode cL_areAlike 41 = .ok (.if_icmp .ne 29, 3) := by decide +kernel
theorem dL_areAlike_44 : decode cL_areAlike 44 = .ok (.aload_n 0, 1) := by decide +kernel
theorem dL_areAlike_45 : decode cL_areAlike 45 = .ok (.invokevirtual 74, 3) := by decide +kernel
theorem dL_areAlike_48 : decode cL_areAlike 48 = .ok (.aload_n 1, 1) := by decide +kernel
theorem dL_areAlike_49 : decode cL_areAlike 49 = .ok (.invokevirtual 74, 3) := by decide +kernel
theorem dL_areAlike_52 : decode cL_areAlike 52 = .ok (.if_icmp .ne 18, 3) := by decide +kernel
theorem dL_areAlike_55 : decode cL_areAlike 55 = .ok (.aload_n 0, 1) := by decide +kernel
theorem dL_areAlike_56 : decode cL_areAlike 56 = .ok (.invokevirtual 77, 3) := by decide +kernel
theorem dL_areAlike_59 : decode cL_areAlike 59 = .ok (.aload_n 1, 1) := by decide +kernel
theorem dL_areAlike_60 : decode cL_areAlike 60 = .ok (.invokevirtual 77, 3) := by decide +kernel
theorem dL_areAlike_63 : decode cL_areAlike 63 = .ok (.if_icmp .ne 7, 3) := by decide +kernel
theorem dL_areAlike_66 : decode cL_areAlike 66 = .ok (.iconst 1, 1) := by decide +kernel
theorem dL_areAlike_67 : decode cL_areAlike 67 = .ok (.goto 4, 3) := by decide +kernel
theorem dL_areAlike_70 : decode cL_areAlike 70 = .ok (.iconst 0, 1) := by decide +kernel
theorem dL_areAlike_71 : decode cL_areAlike 71 = .ok (.istore_n 2, 1) := by decide +kernel
theorem dL_areAlike_72 : decode cL_areAlike 72 = .ok (.iconst 0, 1) := by decide +kernel
theorem dL_areAlike_73 : decode cL_areAlike 73 = .ok (.istore_n 3, 1) := by decide +kernel
theorem dL_areAlike_74 : decode cL_areAlike 74 = .ok (.iload_n 3, 1) := by decide +kernel
theorem dL_areAlike_75 : decode cL_areAlike 75 = .ok (.aload_n 0, 1) := by decide +kernel
theorem dL_areAlike_76 : decode cL_areAlike 76 = .ok (.invokevirtual 61, 3) := by decide +kernel
theorem dL_areAlike_79 : decode cL_areAlike 79 = .ok (.if_icmp .ge 32, 3) := by decide +kernel
theorem dL_areAlike_82 : decode cL_areAlike 82 = .ok (.iload_n 2, 1) := by decide +kernel
theorem dL_areAlike_83 : decode cL_areAlike 83 = .ok (.ifCond .eq 28, 3) := by decide +kernel
theorem dL_areAlike_86 : decode cL_areAlike 86 = .ok (.aload_n 0, 1) := by decide +kernel
theorem dL_areAlike_87 : decode cL_areAlike 87 = .ok (.iload_n 3, 1) := by decide +kernel
theorem dL_areAlike_88 : decode cL_areAlike 88 = .ok (.invokevirtual 80, 3) := by decide +kernel
theorem dL_areAlike_91 : decode cL_areAlike 91 = .ok (.aload_n 1, 1) := by decide +kernel
theorem dL_areAlike_92 : decode cL_areAlike 92 = .ok (.iload_n 3, 1) := by decide +kernel
theorem dL_areAlike_93 : decode cL_areAlike 93 = .ok (.invokevirtual 80, 3) := by decide +kernel
theorem dL_areAlike_96 : decode cL_areAlike 96 = .ok (.if_icmp .ne 7, 3) := by decide +kernel
theorem dL_areAlike_99 : decode cL_areAlike 99 = .ok (.iconst 1, 1) := by decide +kernel
theorem dL_areAlike_100 : decode cL_areAlike 100 = .ok (.goto 4, 3) := by decide +kernel
theorem dL_areAlike_103 : decode cL_areAlike 103 = .ok (.iconst 0, 1) := by decide +kernel
theorem dL_areAlike_104 : decode cL_areAlike 104 = .ok (.istore_n 2, 1) := by decide +kernel
theorem dL_areAlike_105 : decode cL_areAlike 105 = .ok (.iinc 3 1, 3) := by decide +kernel
theorem dL_areAlike_108 : decode cL_areAlike 108 = .ok (.goto (-34), 3) := by decide +kernel
theorem dL_areAlike_111 : decode cL_areAlike 111 = .ok (.iconst 0, 1) := by decide +kernel
theorem dL_areAlike_112 : decode cL_areAlike 112 = .ok (.istore_n 3, 1) := by decide +kernel
theorem dL_areAlike_113 : decode cL_areAlike 113 = .ok (.iload_n 3, 1) := by decide +kernel
theorem dL_areAlike_114 : decode cL_areAlike 114 = .ok (.aload_n 0, 1) := by decide +kernel
theorem dL_areAlike_115 : decode cL_areAlike 115 = .ok (.invokevirtual 58, 3) := by decide +kernel
theorem dL_areAlike_118 : decode cL_areAlike 118 = .ok (.if_icmp .ge 90, 3) := by decide +kernel
theorem dL_areAlike_121 : decode cL_areAlike 121 = .ok (.iload_n 2, 1) := by decide +kernel
theorem dL_areAlike_122 : decode cL_areAlike 122 = .ok (.ifCond .eq 86, 3) := by decide +kernel
theorem dL_areAlike_125 : decode cL_areAlike 125 = .ok (.aload_n 0, 1) := by decide +kernel
theorem dL_areAlike_126 : decode cL_areAlike 126 = .ok (.iload_n 3, 1) := by decide +kernel
theorem dL_areAlike_127 : decode cL_areAlike 127 = .ok (.invokevirtual 83, 3) := by decide +kernel
theorem dL_areAlike_130 : decode cL_areAlike 130 = .ok (.aload_n 1, 1) := by decide +kernel
theorem dL_areAlike_131 : decode cL_areAlike 131 = .ok (.iload_n 3, 1) := by decide +kernel
theorem dL_areAlike_132 : decode cL_areAlike 132 = .ok (.invokevirtual 83, 3) := by decide +kernel
theorem dL_areAlike_135 : decode cL_areAlike 135 = .ok (.if_icmp .ne 20, 3) := by decide +kernel
theorem dL_areAlike_138 : decode cL_areAlike 138 = .ok (.aload_n 0, 1) := by decide +kernel
theorem dL_areAlike_139 : decode cL_areAlike 139 = .ok (.iload_n 3, 1) := by decide +kernel
theorem dL_areAlike_140 : decode cL_areAlike 140 = .ok (.invokevirtual 86, 3) := by decide +kernel
theorem dL_areAlike_143 : decode cL_areAlike 143 = .ok (.aload_n 1, 1) := by decide +kernel
theorem dL_areAlike_144 : decode cL_areAlike 144 = .ok (.iload_n 3, 1) := by decide +kernel
theorem dL_areAlike_145 : decode cL_areAlike 145 = .ok (.invokevirtual 86, 3) := by decide +kernel
theorem dL_areAlike_148 : decode cL_areAlike 148 = .ok (.if_icmp .ne 7, 3) := by decide +kernel
theorem dL_areAlike_151 : decode cL_areAlike 151 = .ok (.iconst 1, 1) := by decide +kernel
theorem dL_areAlike_152 : decode cL_areAlike 152 = .ok (.goto 4, 3) := by decide +kernel
theorem dL_areAlike_155 : decode cL_areAlike 155 = .ok (.iconst 0, 1) := by decide +kernel
theorem dL_areAlike_156 : decode cL_areAlike 156 = .ok (.istore_n 2, 1) := by decide +kernel
theorem dL_areAlike_157 : decode cL_areAlike 157 = .ok (.iconst 0, 1) := by decide +kernel
theorem dL_areAlike_158 : decode cL_areAlike 158 = .ok (.istore 4, 2) := by decide +kernel
theorem dL_areAlike_160 : decode cL_areAlike 160 = .ok (.iload 4, 2) := by decide +kernel
theorem dL_areAlike_162 : decode cL_areAlike 162 = .ok (.aload_n 0, 1) := by decide +kernel
theorem dL_areAlike_163 : decode cL_areAlike 163 = .ok (.invokevirtual 61, 3) := by decide +kernel
theorem dL_areAlike_166 : decode cL_areAlike 166 = .ok (.if_icmp .ge 36, 3) := by decide +kernel
theorem dL_areAlike_169 : decode cL_areAlike 169 = .ok (.iload_n 2, 1) := by decide +kernel
theorem dL_areAlike_170 : decode cL_areAlike 170 = .ok (.ifCond .eq 24, 3) := by decide +kernel
theorem dL_areAlike_173 : decode cL_areAlike 173 = .ok (.aload_n 0, 1) := by decide +kernel
theorem dL_areAlike_174 : decode cL_areAlike 174 = .ok (.iload_n 3, 1) := by decide +kernel
theorem dL_areAlike_175 : decode cL_areAlike 175 = .ok (.iload 4, 2) := by decide +kernel
theorem dL_areAlike_177 : decode cL_areAlike 177 = .ok (.invokevirtual 89, 3) := by decide +kernel
theorem dL_areAlike_180 : decode cL_areAlike 180 = .ok (.aload_n 1, 1) := by decide +kernel
theorem dL_areAlike_181 : decode cL_areAlike 181 = .ok (.iload_n 3, 1) := by decide +kernel
theorem dL_areAlike_182 : decode cL_areAlike 182 = .ok (.iload 4, 2) := by decide +kernel
theorem dL_areAlike_184 : decode cL_areAlike 184 = .ok (.invokevirtual 89, 3) := by decide +kernel
theorem dL_areAlike_187 : decode cL_areAlike 187 = .ok (.if_icmp .ne 7, 3) := by decide +kernel
theorem dL_areAlike_190 : decode cL_areAlike 190 = .ok (.iconst 1, 1) := by decide +kernel
theorem dL_areAlike_191 : decode cL_areAlike 191 = .ok (.goto 4, 3) := by decide +kernel
theorem dL_areAlike_194 : decode cL_areAlike 194 = .ok (.iconst 0, 1) := by decide +kernel
theorem dL_areAlike_195 : decode cL_areAlike 195 = .ok (.istore_n 2, 1) := by decide +kernel
theorem dL_areAlike_196 : decode cL_areAlike 196 = .ok (.iinc 4 1, 3) := by decide +kernel
theorem dL_areAlike_199 : decode cL_areAlike 199 = .ok (.goto (-39), 3) := by decide +kernel
theorem dL_areAlike_202 : decode cL_areAlike 202 = .ok (.iinc 3 1, 3) := by decide +kernel
theorem dL_areAlike_205 : decode cL_areAlike 205 = .ok (.goto (-92), 3) := by decide +kernel
theorem dL_areAlike_208 : decode cL_areAlike 208 = .ok (.iload_n 2, 1) := by decide +kernel
theorem dL_areAlike_209 : decode cL_areAlike 209 = .ok (.ireturn, 1) := by decide +kernel
theorem dL_divisor_0 : decode cL_divisor 0 = .ok (.lload_n 0, 1) := by decide +kernel
theorem dL_divisor_1 : decode cL_divisor 1 = .ok (.lconst 0, 1) := by decide +kernel
theorem dL_divisor_2 : decode cL_divisor 2 = .ok (.lcmp, 1) := by decide +kernel
theorem dL_divisor_3 : decode cL_divisor 3 = .ok (.ifCond .ge 8, 3) := by decide +kernel
theorem dL_divisor_6 : decode cL_divisor 6 = .ok (.lload_n 0, 1) := by decide +kernel
theorem dL_divisor_7 : decode cL_divisor 7 = .ok (.lneg, 1) := by decide +kernel
theorem dL_divisor_8 : decode cL_divisor 8 = .ok (.goto 4, 3) := by decide +kernel
theorem dL_divisor_11 : decode cL_divisor 11 = .ok (.lload_n 0, 1) := by decide +kernel
theorem dL_divisor_12 : decode cL_divisor 12 = .ok (.lstore 4, 2) := by decide +kernel
theorem dL_divisor_14 : decode cL_divisor 14 = .ok (.lload_n 2, 1) := by decide +kernel
theorem dL_divisor_15 : decode cL_divisor 15 = .ok (.lstore 6, 2) := by decide +kernel
theorem dL_divisor_17 : decode cL_divisor 17 = .ok (.lload 6, 2) := by decide +kernel
theorem dL_divisor_19 : decode cL_divisor 19 = .ok (.lconst 0, 1) := by decide +kernel
theorem dL_divisor_20 : decode cL_divisor 20 = .ok (.lcmp, 1) := by decide +kernel
theorem dL_divisor_21 : decode cL_divisor 21 = .ok (.ifCond .le 21, 3) := by decide +kernel
theorem dL_divisor_24 : decode cL_divisor 24 = .ok (.lload 4, 2) := by decide +kernel
theorem dL_divisor_26 : decode cL_divisor 26 = .ok (.lload 6, 2) := by decide +kernel
theorem dL_divisor_28 : decode cL_divisor 28 = .ok (.lrem, 1) := by decide +kernel
theorem dL_divisor_29 : decode cL_divisor 29 = .ok (.lstore 8, 2) := by decide +kernel
theorem dL_divisor_31 : decode cL_divisor 31 = .ok (.lload 6, 2) := by decide +kernel
theorem dL_divisor_33 : decode cL_divisor 33 = .ok (.lstore 4, 2) := by decide +kernel
theorem dL_divisor_35 : decode cL_divisor 35 = .ok (.lload 8, 2) := by decide +kernel
theorem dL_divisor_37 : decode cL_divisor 37 = .ok (.lstore 6, 2) := by decide +kernel
theorem dL_divisor_39 : decode cL_divisor 39 = .ok (.goto (-22), 3) := by decide +kernel
theorem dL_divisor_42 : decode cL_divisor 42 = .ok (.lload 4, 2) := by decide +kernel
theorem dL_divisor_44 : decode cL_divisor 44 = .ok (.lreturn, 1) := by decide +kernel
theorem dL_isSolutionSo_0 : decode cL_isSolutionSo 0 = .ok (.aload_n 0, 1) := by decide +kernel
theorem dL_isSolutionSo_1 : decode cL_isSolutionSo 1 = .ok (.invokevirtual 61, 3) := by decide +kernel
theorem dL_isSolutionSo_4 : decode cL_isSolutionSo 4 = .ok (.istore_n 1, 1) := by decide +kernel
theorem dL_isSolutionSo_5 : decode cL_isSolutionSo 5 = .ok (.iconst 1, 1) := by decide +kernel
theorem dL_isSolutionSo_6 : decode cL_isSolutionSo 6 = .ok (.istore_n 2, 1) := by decide +kernel
theorem dL_isSolutionSo_7 : decode cL_isSolutionSo 7 = .ok (.lconst 0, 1) := by decide +kernel
theorem dL_isSolutionSo_8 : decode cL_isSolutionSo 8 = .ok (.lstore_n 3, 1) := by decide +kernel
theorem dL_isSolutionSo_9 : decode cL_isSolutionSo 9 = .ok (.lconst 1, 1) := by decide +kernel
theorem dL_isSolutionSo_10 : decode cL_isSolutionSo 10 = .ok (.lstore 5, 2) := by decide +kernel
theorem dL_isSolutionSo_12 : decode cL_isSolutionSo 12 = .ok (.iconst (-1), 1) := by decide +kernel
theorem dL_isSolutionSo_13 : decode cL_isSolutionSo 13 = .ok (.istore 7, 2) := by decide +kernel
theorem dL_isSolutionSo_15 : decode cL_isSolutionSo 15 = .ok (.iload 7, 2) := by decide +kernel
theorem dL_isSolutionSo_17 : decode cL_isSolutionSo 17 = .ok (.aload_n 0, 1) := by decide +kernel
theorem dL_isSolutionSo_18 : decode cL_isSolutionSo 18 = .ok (.invokevirtual 58, 3) := by decide +kernel
theorem dL_isSolutionSo_21 : decode cL_isSolutionSo 21 = .ok (.if_icmp .ge 237, 3) := by decide +kernel
theorem dL_isSolutionSo_24 : decode cL_isSolutionSo 24 = .ok (.lconst 0, 1) := by decide +kernel
theorem dL_isSolutionSo_25 : decode cL_isSolutionSo 25 = .ok (.lstore_n 3, 1) := by decide +kernel
theorem dL_isSolutionSo_26 : decode cL_isSolutionSo 26 = .ok (.lconst 1, 1) := by decide +kernel
theorem dL_isSolutionSo_27 : decode cL_isSolutionSo 27 = .ok (.lstore 5, 2) := by decide +kernel
theorem dL_isSolutionSo_29 : decode cL_isSolutionSo 29 = .ok (.iconst 0, 1) := by decide +kernel
theorem dL_isSolutionSo_30 : decode cL_isSolutionSo 30 = .ok (.istore 8, 2) := by decide +kernel
theorem dL_isSolutionSo_32 : decode cL_isSolutionSo 32 = .ok (.iload 8, 2) := by decide +kernel
theorem dL_isSolutionSo_34 : decode cL_isSolutionSo 34 = .ok (.iload_n 1, 1) := by decide +kernel
theorem dL_isSolutionSo_35 : decode cL_isSolutionSo 35 = .ok (.if_icmp .ge 131, 3) := by decide +kernel
theorem dL_isSolutionSo_38 : decode cL_isSolutionSo 38 = .ok (.iload 7, 2) := by decide +kernel
theorem dL_isSolutionSo_40 : decode cL_isSolutionSo 40 = .ok (.ifCond .ge 12, 3) := by decide +kernel
theorem dL_isSolutionSo_43 : decode cL_isSolutionSo 43 = .ok (.aload_n 0, 1) := by decide +kernel
theorem dL_isSolutionSo_44 : decode cL_isSolutionSo 44 = .ok (.iload 8, 2) := by decide +kernel
theorem dL_isSolutionSo_46 : decode cL_isSolutionSo 46 = .ok (.invokevirtual 80, 3) := by decide +kernel
theorem dL_isSolutionSo_49 : decode cL_isSolutionSo 49 = .ok (.goto 11, 3) := by decide +kernel
theorem dL_isSolutionSo_52 : decode cL_isSolutionSo 52 = .ok (.aload_n 0, 1) := by decide +kernel
theorem dL_isSolutionSo_53 : decode cL_isSolutionSo 53 = .ok (.iload 7, 2) := by decide +kernel
theorem dL_isSolutionSo_55 : decode cL_isSolutionSo 55 = .ok (.iload 8, 2) := by decide +kernel
theorem dL_isSolutionSo_57 : decode cL_isSolutionSo 57 = .ok (.invokevirtual 89, 3) := by decide +kernel
theorem dL_isSolutionSo_60 : decode cL_isSolutionSo 60 = .ok (.istore 9, 2) := by decide +kernel
theorem dL_isSolutionSo_62 : decode cL_isSolutionSo 62 = .ok (.aload_n 0, 1) := by decide +kernel
theorem dL_isSolutionSo_63 : decode cL_isSolutionSo 63 = .ok (.iload 8, 2) := by decide +kernel
theorem dL_isSolutionSo_65 : decode cL_isSolutionSo 65 = .ok (.invokevirtual 92, 3) := by decide +kernel
theorem dL_isSolutionSo_68 : decode cL_isSolutionSo 68 = .ok (.lstore 10, 2) := by decide +kernel
theorem dL_isSolutionSo_70 : decode cL_isSolutionSo 70 = .ok (.lload_n 3, 1) := by decide +kernel
theorem dL_isSolutionSo_71 : decode cL_isSolutionSo 71 = .ok (.lload 10, 2) := by decide +kernel
theorem dL_isSolutionSo_73 : decode cL_isSolutionSo 73 = .ok (.lmul, 1) := by decide +kernel
theorem dL_isSolutionSo_74 : decode cL_isSolutionSo 74 = .ok (.iload 9, 2) := by decide +kernel
theorem dL_isSolutionSo_76 : decode cL_isSolutionSo 76 = .ok (.i2l, 1) := by decide +kernel
theorem dL_isSolutionSo_77 : decode cL_isSolutionSo 77 = .ok (.aload_n 0, 1) := by decide +kernel
theorem dL_isSolutionSo_78 : decode cL_isSolutionSo 78 = .ok (.iload 8, 2) := by decide +kernel
theorem dL_isSolutionSo_80 : decode cL_isSolutionSo 80 = .ok (.invokevirtual 96, 3) := by decide +kernel
theorem dL_isSolutionSo_83 : decode cL_isSolutionSo 83 = .ok (.lmul, 1) := by decide +kernel
theorem dL_isSolutionSo_84 : decode cL_isSolutionSo 84 = .ok (.lload 5, 2) := by decide +kernel
theorem dL_isSolutionSo_86 : decode cL_isSolutionSo 86 = .ok (.lmul, 1) := by decide +kernel
theorem dL_isSolutionSo_87 : decode cL_isSolutionSo 87 = .ok (.ladd, 1) := by decide +kernel
theorem dL_isSolutionSo_88 : decode cL_isSolutionSo 88 = .ok (.lstore_n 3, 1) := by decide +kernel
theorem dL_isSolutionSo_89 : decode cL_isSolutionSo 89 = .ok (.lload 5, 2) := by decide +kernel
theorem dL_isSolutionSo_91 : decode cL_isSolutionSo 91 = .ok (.lload 10, 2) := by decide +kernel
theorem dL_isSolutionSo_93 : decode cL_isSolutionSo 93 = .ok (.lmul, 1) := by decide +kernel
theorem dL_isSolutionSo_94 : decode cL_isSolutionSo 94 = .ok (.lstore 5, 2) := by decide +kernel
theorem dL_isSolutionSo_96 : decode cL_isSolutionSo 96 = .ok (.lload_n 3, 1) := by decide +kernel
theorem dL_isSolutionSo_97 : decode cL_isSolutionSo 97 = .ok (.lload 5, 2) := by decide +kernel
theorem dL_isSolutionSo_99 : decode cL_isSolutionSo 99 = .ok (.invokestatic 99, 3) := by decide +kernel
theorem dL_isSolutionSo_102 : decode cL_isSolutionSo 102 = .ok (.lstore 12, 2) := by decide +kernel
theorem dL_isSolutionSo_104 : decode cL_isSolutionSo 104 = .ok (.lload_n 3, 1) := by decide +kernel
theorem dL_isSolutionSo_105 : decode cL_isSolutionSo 105 = .ok (.lload 12, 2) := by decide +kernel
theorem dL_isSolutionSo_107 : decode cL_isSolutionSo 107 = .ok (.ldiv, 1) := by decide +kernel
theorem dL_isSolutionSo_108 : decode cL_isSolutionSo 108 = .ok (.lstore_n 3, 1) := by decide +kernel
theorem dL_isSolutionSo_109 : decode cL_isSolutionSo 109 = .ok (.lload 5, 2) := by decide +kernel
theorem dL_isSolutionSo_111 : decode cL_isSolutionSo 111 = .ok (.lload 12, 2) := by decide +kernel
theorem dL_isSolutionSo_113 : decode cL_isSolutionSo 113 = .ok (.ldiv, 1) := by decide +kernel
theorem dL_isSolutionSo_114 : decode cL_isSolutionSo 114 = .ok (.lstore 5, 2) := by decide +kernel
theorem dL_isSolutionSo_116 : decode cL_isSolutionSo 116 = .ok (.iload_n 2, 1) := by decide +kernel
theorem dL_isSolutionSo_117 : decode cL_isSolutionSo 117 = .ok (.ifCond .eq 41, 3) := by decide +kernel
theorem dL_isSolutionSo_120 : decode cL_isSolutionSo 120 = .ok (.aload_n 0, 1) := by decide +kernel
theorem dL_isSolutionSo_121 : decode cL_isSolutionSo 121 = .ok (.iload 8, 2) := by decide +kernel
theorem dL_isSolutionSo_123 : decode cL_isSolutionSo 123 = .ok (.invokevirtual 96, 3) := by decide +kernel
theorem dL_isSolutionSo_126 : decode cL_isSolutionSo 126 = .ok (.lconst 0, 1) := by decide +kernel
theorem dL_isSolutionSo_127 : decode cL_isSolutionSo 127 = .ok (.lcmp, 1) := by decide +kernel
theorem dL_isSolutionSo_128 : decode cL_isSolutionSo 128 = .ok (.ifCond .lt 30, 3) := by decide +kernel
theorem dL_isSolutionSo_131 : decode cL_isSolutionSo 131 = .ok (.lload 10, 2) := by decide +kernel
theorem dL_isSolutionSo_133 : decode cL_isSolutionSo 133 = .ok (.lconst 0, 1) := by decide +kernel
theorem dL_isSolutionSo_134 : decode cL_isSolutionSo 134 = .ok (.lcmp, 1) := by decide +kernel
theorem dL_isSolutionSo_135 : decode cL_isSolutionSo 135 = .ok (.ifCond .le 23, 3) := by decide +kernel
theorem dL_isSolutionSo_138 : decode cL_isSolutionSo 138 = .ok (.aload_n 0, 1) := by decide +kernel
theorem dL_isSolutionSo_139 : decode cL_isSolutionSo 139 = .ok (.iload 8, 2) := by decide +kernel
theorem dL_isSolutionSo_141 : decode cL_isSolutionSo 141 = .ok (.invokevirtual 96, 3) := by decide +kernel
theorem dL_isSolutionSo_144 : decode cL_isSolutionSo 144 = .ok (.lload 10, 2) := by decide +kernel
theorem dL_isSolutionSo_146 : decode cL_isSolutionSo 146 = .ok (.invokestatic 99, 3) := by decide +kernel
theorem dL_isSolutionSo_149 : decode cL_isSolutionSo 149 = .ok (.lconst 1, 1) := by decide +kernel
theorem dL_isSolutionSo_150 : decode cL_isSolutionSo 150 = .ok (.lcmp, 1) := by decide +kernel
theorem dL_isSolutionSo_151 : decode cL_isSolutionSo 151 = .ok (.ifCond .ne 7, 3) := by decide +kernel
theorem dL_isSolutionSo_154 : decode cL_isSolutionSo 154 = .ok (.iconst 1, 1) := by decide +kernel
theorem dL_isSolutionSo_155 : decode cL_isSolutionSo 155 = .ok (.goto 4, 3) := by decide +kernel
theorem dL_isSolutionSo_158 : decode cL_isSolutionSo 158 = .ok (.iconst 0, 1) := by decide +kernel
theorem dL_isSolutionSo_159 : decode cL_isSolutionSo 159 = .ok (.istore_n 2, 1) := by decide +kernel
theorem dL_isSolutionSo_160 : decode cL_isSolutionSo 160 = .ok (.iinc 8 1, 3) := by decide +kernel
theorem dL_isSolutionSo_163 : decode cL_isSolutionSo 163 = .ok (.goto (-131), 3) := by decide +kernel
theorem dL_isSolutionSo_166 : decode cL_isSolutionSo 166 = .ok (.iload_n 2, 1) := by decide +kernel
theorem dL_isSolutionSo_167 : decode cL_isSolutionSo 167 = .ok (.ifCond .eq 83, 3) := by decide +kernel
theorem dL_isSolutionSo_170 : decode cL_isSolutionSo 170 = .ok (.iload 7, 2) := by decide +kernel
theorem dL_isSolutionSo_172 : decode cL_isSolutionSo 172 = .ok (.ifCond .ge 25, 3) := by decide +kernel
theorem dL_isSolutionSo_175 : decode cL_isSolutionSo 175 = .ok (.lload_n 3, 1) := by decide +kernel
theorem dL_isSolutionSo_176 : decode cL_isSolutionSo 176 = .ok (.aload_n 0, 1) := by decide +kernel
theorem dL_isSolutionSo_177 : decode cL_isSolutionSo 177 = .ok (.invokevirtual 103, 3) := by decide +kernel
theorem dL_isSolutionSo_180 : decode cL_isSolutionSo 180 = .ok (.lcmp, 1) := by decide +kernel
theorem dL_isSolutionSo_181 : decode cL_isSolutionSo 181 = .ok (.ifCond .ne 69, 3) := by decide +kernel
theorem dL_isSolutionSo_184 : decode cL_isSolutionSo 184 = .ok (.lload 5, 2) := by decide +kernel
theorem dL_isSolutionSo_186 : decode cL_isSolutionSo 186 = .ok (.aload_n 0, 1) := by decide +kernel
theorem dL_isSolutionSo_187 : decode cL_isSolutionSo 187 = .ok (.invokevirtual 107, 3) := by decide +kernel
theorem dL_isSolutionSo_190 : decode cL_isSolutionSo 190 = .ok (.lcmp, 1) := by decide +kernel
theorem dL_isSolutionSo_191 : decode cL_isSolutionSo 191 = .ok (.ifCond .ne 59, 3) := by decide +kernel
theorem dL_isSolutionSo_194 : decode cL_isSolutionSo 194 = .ok (.goto 52, 3) := by decide +kernel
theorem dL_isSolutionSo_197 : decode cL_isSolutionSo 197 = .ok (.aload_n 0, 1) := by decide +kernel
theorem dL_isSolutionSo_198 : decode cL_isSolutionSo 198 = .ok (.iload 7, 2) := by decide +kernel
theorem dL_isSolutionSo_200 : decode cL_isSolutionSo 200 = .ok (.invokevirtual 83, 3) := by decide +kernel
theorem dL_isSolutionSo_203 : decode cL_isSolutionSo 203 = .ok (.i2l, 1) := by decide +kernel
theorem dL_isSolutionSo_204 : decode cL_isSolutionSo 204 = .ok (.lload 5, 2) := by decide +kernel
theorem dL_isSolutionSo_206 : decode cL_isSolutionSo 206 = .ok (.lmul, 1) := by decide +kernel
theorem dL_isSolutionSo_207 : decode cL_isSolutionSo 207 = .ok (.lload_n 3, 1) := by decide +kernel
theorem dL_isSolutionSo_208 : decode cL_isSolutionSo 208 = .ok (.lsub, 1) := by decide +kernel
theorem dL_isSolutionSo_209 : decode cL_isSolutionSo 209 = .ok (.aload_n 0, 1) := by decide +kernel
theorem dL_isSolutionSo_210 : decode cL_isSolutionSo 210 = .ok (.iload_n 1, 1) := by decide +kernel
theorem dL_isSolutionSo_211 : decode cL_isSolutionSo 211 = .ok (.iload 7, 2) := by decide +kernel
theorem dL_isSolutionSo_213 : decode cL_isSolutionSo 213 = .ok (.iadd, 1) := by decide +kernel
theorem dL_isSolutionSo_214 : decode cL_isSolutionSo 214 = .ok (.invokevirtual 92, 3) := by decide +kernel
theorem dL_isSolutionSo_217 : decode cL_isSolutionSo 217 = .ok (.lmul, 1) := by decide +kernel
theorem dL_isSolutionSo_218 : decode cL_isSolutionSo 218 = .ok (.aload_n 0, 1) := by decide +kernel
theorem dL_isSolutionSo_219 : decode cL_isSolutionSo 219 = .ok (.iload_n 1, 1) := by decide +kernel
theorem dL_isSolutionSo_220 : decode cL_isSolutionSo 220 = .ok (.iload 7, 2) := by decide +kernel
theorem dL_isSolutionSo_222 : decode cL_isSolutionSo 222 = .ok (.iadd, 1) := by decide +kernel
theorem dL_isSolutionSo_223 : decode cL_isSolutionSo 223 = .ok (.invokevirtual 96, 3) := by decide +kernel
theorem dL_isSolutionSo_226 : decode cL_isSolutionSo 226 = .ok (.lload 5, 2) := by decide +kernel
theorem dL_isSolutionSo_228 : decode cL_isSolutionSo 228 = .ok (.lmul, 1) := by decide +kernel
theorem dL_isSolutionSo_229 : decode cL_isSolutionSo 229 = .ok (.lcmp, 1) := by decide +kernel
theorem dL_isSolutionSo_230 : decode cL_isSolutionSo 230 = .ok (.ifCond .ne 20, 3) := by decide +kernel
theorem dL_isSolutionSo_233 : decode cL_isSolutionSo 233 = .ok (.aload_n 0, 1) := by decide +kernel
theorem dL_isSolutionSo_234 : decode cL_isSolutionSo 234 = .ok (.iload_n 1, 1) := by decide +kernel
theorem dL_isSolutionSo_235 : decode cL_isSolutionSo 235 = .ok (.iload 7, 2) := by decide +kernel
theorem dL_isSolutionSo_237 : decode cL_isSolutionSo 237 = .ok (.iadd, 1) := by decide +kernel
theorem dL_isSolutionSo_238 : decode cL_isSolutionSo 238 = .ok (.invokevirtual 96, 3) := by decide +kernel
theorem dL_isSolutionSo_241 : decode cL_isSolutionSo 241 = .ok (.lconst 0, 1) := by decide +kernel
theorem dL_isSolutionSo_242 : decode cL_isSolutionSo 242 = .ok (.lcmp, 1) := by decide +kernel
theorem dL_isSolutionSo_243 : decode cL_isSolutionSo 243 = .ok (.ifCond .lt 7, 3) := by decide +kernel
theorem dL_isSolutionSo_246 : decode cL_isSolutionSo 246 = .ok (.iconst 1, 1) := by decide +kernel
theorem dL_isSolutionSo_247 : decode cL_isSolutionSo 247 = .ok (.goto 4, 3) := by decide +kernel
theorem dL_isSolutionSo_250 : decode cL_isSolutionSo 250 = .ok (.iconst 0, 1) := by decide +kernel
theorem dL_isSolutionSo_251 : decode cL_isSolutionSo 251 = .ok (.istore_n 2, 1) := by decide +kernel
theorem dL_isSolutionSo_252 : decode cL_isSolutionSo 252 = .ok (.iinc 7 1, 3) := by decide +kernel
theorem dL_isSolutionSo_255 : decode cL_isSolutionSo 255 = .ok (.goto (-240), 3) := by decide +kernel
theorem dL_isSolutionSo_258 : decode cL_isSolutionSo 258 = .ok (.iload_n 2, 1) := by decide +kernel
theorem dL_isSolutionSo_259 : decode cL_isSolutionSo 259 = .ok (.ifCond .eq 37, 3) := by decide +kernel
theorem dL_isSolutionSo_262 : decode cL_isSolutionSo 262 = .ok (.aload_n 0, 1) := by decide +kernel
theorem dL_isSolutionSo_263 : decode cL_isSolutionSo 263 = .ok (.invokevirtual 110, 3) := by decide +kernel
theorem dL_isSolutionSo_266 : decode cL_isSolutionSo 266 = .ok (.aload_n 0, 1) := by decide +kernel
theorem dL_isSolutionSo_267 : decode cL_isSolutionSo 267 = .ok (.invokevirtual 103, 3) := by decide +kernel
theorem dL_isSolutionSo_270 : decode cL_isSolutionSo 270 = .ok (.l2d, 1) := by decide +kernel
theorem dL_isSolutionSo_271 : decode cL_isSolutionSo 271 = .ok (.dconst 1, 1) := by decide +kernel
theorem dL_isSolutionSo_272 : decode cL_isSolutionSo 272 = .ok (.dmul, 1) := by decide +kernel
theorem dL_isSolutionSo_273 : decode cL_isSolutionSo 273 = .ok (.aload_n 0, 1) := by decide +kernel
theorem dL_isSolutionSo_274 : decode cL_isSolutionSo 274 = .ok (.invokevirtual 107, 3) := by decide +kernel
theorem dL_isSolutionSo_277 : decode cL_isSolutionSo 277 = .ok (.l2d, 1) := by decide +kernel
theorem dL_isSolutionSo_278 : decode cL_isSolutionSo 278 = .ok (.ddiv, 1) := by decide +kernel
theorem dL_isSolutionSo_279 : decode cL_isSolutionSo 279 = .ok (.dcmp .l, 1) := by decide +kernel
theorem dL_isSolutionSo_280 : decode cL_isSolutionSo 280 = .ok (.ifCond .ne 16, 3) := by decide +kernel
theorem dL_isSolutionSo_283 : decode cL_isSolutionSo 283 = .ok (.aload_n 0, 1) := by decide +kernel
theorem dL_isSolutionSo_284 : decode cL_isSolutionSo 284 = .ok (.invokevirtual 103, 3) := by decide +kernel
theorem dL_isSolutionSo_287 : decode cL_isSolutionSo 287 = .ok (.lconst 0, 1) := by decide +kernel
theorem dL_isSolutionSo_288 : decode cL_isSolutionSo 288 = .ok (.lcmp, 1) := by decide +kernel
theorem dL_isSolutionSo_289 : decode cL_isSolutionSo 289 = .ok (.ifCond .lt 7, 3) := by decide +kernel
theorem dL_isSolutionSo_292 : decode cL_isSolutionSo 292 = .ok (.iconst 1, 1) := by decide +kernel
theorem dL_isSolutionSo_293 : decode cL_isSolutionSo 293 = .ok (.goto 4, 3) := by decide +kernel
theorem dL_isSolutionSo_296 : decode cL_isSolutionSo 296 = .ok (.iconst 0, 1) := by decide +kernel
theorem dL_isSolutionSo_297 : decode cL_isSolutionSo 297 = .ok (.ireturn, 1) := by decide +kernel
theorem dL_areColumnsSo_0 : decode cL_areColumnsSo 0 = .ok (.aload_n 0, 1) := by decide +kernel
theorem dL_areColumnsSo_1 : decode cL_areColumnsSo 1 = .ok (.invokevirtual 61, 3) := by decide +kernel
theorem dL_areColumnsSo_4 : decode cL_areColumnsSo 4 = .ok (.istore_n 1, 1) := by decide +kernel
theorem dL_areColumnsSo_5 : decode cL_areColumnsSo 5 = .ok (.aload_n 0, 1) := by decide +kernel
theorem dL_areColumnsSo_6 : decode cL_areColumnsSo 6 = .ok (.invokevirtual 58, 3) := by decide +kernel
theorem dL_areColumnsSo_9 : decode cL_areColumnsSo 9 = .ok (.istore_n 2, 1) := by decide +kernel
theorem dL_areColumnsSo_10 : decode cL_areColumnsSo 10 = .ok (.iconst 1, 1) := by decide +kernel
theorem dL_areColumnsSo_11 : decode cL_areColumnsSo 11 = .ok (.istore_n 3, 1) := by decide +kernel
theorem dL_areColumnsSo_12 : decode cL_areColumnsSo 12 = .ok (.iconst 1, 1) := by decide +kernel
theorem dL_areColumnsSo_13 : decode cL_areColumnsSo 13 = .ok (.istore 4, 2) := by decide +kernel
theorem dL_areColumnsSo_15 : decode cL_areColumnsSo 15 = .ok (.iconst 0, 1) := by decide +kernel
theorem dL_areColumnsSo_16 : decode cL_areColumnsSo 16 = .ok (.istore 5, 2) := by decide +kernel
theorem dL_areColumnsSo_18 : decode cL_areColumnsSo 18 = .ok (.iconst 0, 1) := by decide +kernel
theorem dL_areColumnsSo_19 : decode cL_areColumnsSo 19 = .ok (.istore 6, 2) := by decide +kernel
theorem dL_areColumnsSo_21 : decode cL_areColumnsSo 21 = .ok (.iload 6, 2) := by decide +kernel
theorem dL_areColumnsSo_23 : decode cL_areColumnsSo 23 = .ok (.iload_n 1, 1) := by decide +kernel
theorem dL_areColumnsSo_24 : decode cL_areColumnsSo 24 = .ok (.iload_n 2, 1) := by decide +kernel
theorem dL_areColumnsSo_25 : decode cL_areColumnsSo 25 = .ok (.iadd, 1) := by decide +kernel
theorem dL_areColumnsSo_26 : decode cL_areColumnsSo 26 = .ok (.if_icmp .ge 451, 3) := by decide +kernel
theorem dL_areColumnsSo_29 : decode cL_areColumnsSo 29 = .ok (.iconst (-1), 1) := by decide +kernel
theorem dL_areColumnsSo_30 : decode cL_areColumnsSo 30 = .ok (.istore 7, 2) := by decide +kernel
theorem dL_areColumnsSo_32 : decode cL_areColumnsSo 32 = .ok (.iconst 0, 1) := by decide +kernel
theorem dL_areColumnsSo_33 : decode cL_areColumnsSo 33 = .ok (.istore 8, 2) := by decide +kernel
theorem dL_areColumnsSo_35 : decode cL_areColumnsSo 35 = .ok (.aload_n 0, 1) := by decide +kernel
theorem dL_areColumnsSo_36 : decode cL_areColumnsSo 36 = .ok (.iload 6, 2) := by decide +kernel
theorem dL_areColumnsSo_38 : decode cL_areColumnsSo 38 = .ok (.invokevirtual 114, 3) := by decide +kernel
theorem dL_areColumnsSo_41 : decode cL_areColumnsSo 41 = .ok (.lstore 9, 2) := by decide +kernel
theorem dL_areColumnsSo_43 : decode cL_areColumnsSo 43 = .ok (.iconst 0, 1) := by decide +kernel
theorem dL_areColumnsSo_44 : decode cL_areColumnsSo 44 = .ok (.istore 11, 2) := by decide +kernel
theorem dL_areColumnsSo_46 : decode cL_areColumnsSo 46 = .ok (.iload 11, 2) := by decide +kernel
theorem dL_areColumnsSo_48 : decode cL_areColumnsSo 48 = .ok (.iload_n 2, 1) := by decide +kernel
theorem dL_areColumnsSo_49 : decode cL_areColumnsSo 49 = .ok (.if_icmp .ge 201, 3) := by decide +kernel
theorem dL_areColumnsSo_52 : decode cL_areColumnsSo 52 = .ok (.aload_n 0, 1) := by decide +kernel
theorem dL_areColumnsSo_53 : decode cL_areColumnsSo 53 = .ok (.iload 11, 2) := by decide +kernel
theorem dL_areColumnsSo_55 : decode cL_areColumnsSo 55 = .ok (.invokevirtual 86, 3) := by decide +kernel
theorem dL_areColumnsSo_58 : decode cL_areColumnsSo 58 = .ok (.iload 6, 2) := by decide +kernel
theorem dL_areColumnsSo_60 : decode cL_areColumnsSo 60 = .ok (.if_icmp .ne 8, 3) := by decide +kernel
theorem dL_areColumnsSo_63 : decode cL_areColumnsSo 63 = .ok (.iload 11, 2) := by decide +kernel
theorem dL_areColumnsSo_65 : decode cL_areColumnsSo 65 = .ok (.goto 5, 3) := by decide +kernel
theorem dL_areColumnsSo_68 : decode cL_areColumnsSo 68 = .ok (.iload 7, 2) := by decide +kernel
theorem dL_areColumnsSo_70 : decode cL_areColumnsSo 70 = .ok (.istore 7, 2) := by decide +kernel
theorem dL_areColumnsSo_72 : decode cL_areColumnsSo 72 = .ok (.iload 8, 2) := by decide +kernel
theorem dL_areColumnsSo_74 : decode cL_areColumnsSo 74 = .ok (.ifCond .ne 16, 3) := by decide +kernel
theorem dL_areColumnsSo_77 : decode cL_areColumnsSo 77 = .ok (.aload_n 0, 1) := by decide +kernel
theorem dL_areColumnsSo_78 : decode cL_areColumnsSo 78 = .ok (.iload 11, 2) := by decide +kernel
theorem dL_areColumnsSo_80 : decode cL_areColumnsSo 80 = .ok (.iload 6, 2) := by decide +kernel
theorem dL_areColumnsSo_82 : decode cL_areColumnsSo 82 = .ok (.invokevirtual 117, 3) := by decide +kernel
theorem dL_areColumnsSo_85 : decode cL_areColumnsSo 85 = .ok (.lconst 0, 1) := by decide +kernel
theorem dL_areColumnsSo_86 : decode cL_areColumnsSo 86 = .ok (.lcmp, 1) := by decide +kernel
theorem dL_areColumnsSo_87 : decode cL_areColumnsSo 87 = .ok (.ifCond .le 7, 3) := by decide +kernel
theorem dL_areColumnsSo_90 : decode cL_areColumnsSo 90 = .ok (.iconst 1, 1) := by decide +kernel
theorem dL_areColumnsSo_91 : decode cL_areColumnsSo 91 = .ok (.goto 4, 3) := by decide +kernel
theorem dL_areColumnsSo_94 : decode cL_areColumnsSo 94 = .ok (.iconst 0, 1) := by decide +kernel
theorem dL_areColumnsSo_95 : decode cL_areColumnsSo 95 = .ok (.istore 8, 2) := by decide +kernel
theorem dL_areColumnsSo_97 : decode cL_areColumnsSo 97 = .ok (.aload_n 0, 1) := by decide +kernel
theorem dL_areColumnsSo_98 : decode cL_areColumnsSo 98 = .ok (.iload 11, 2) := by decide +kernel
theorem dL_areColumnsSo_100 : decode cL_areColumnsSo 100 = .ok (.iload 6, 2) := by decide +kernel
theorem dL_areColumnsSo_102 : decode cL_areColumnsSo 102 = .ok (.invokevirtual 121, 3) := by decide +kernel
theorem dL_areColumnsSo_105 : decode cL_areColumnsSo 105 = .ok (.istore 12, 2) := by decide +kernel
theorem dL_areColumnsSo_107 : decode cL_areColumnsSo 107 = .ok (.iload_n 3, 1) := by decide +kernel
theorem dL_areColumnsSo_108 : decode cL_areColumnsSo 108 = .ok (.ifCond .eq 134, 3) := by decide +kernel
theorem dL_areColumnsSo_111 : decode cL_areColumnsSo 111 = .ok (.aload_n 0, 1) := by decide +kernel
theorem dL_areColumnsSo_112 : decode cL_areColumnsSo 112 = .ok (.iload 11, 2) := by decide +kernel
theorem dL_areColumnsSo_114 : decode cL_areColumnsSo 114 = .ok (.iload 6, 2) := by decide +kernel
theorem dL_areColumnsSo_116 : decode cL_areColumnsSo 116 = .ok (.invokevirtual 124, 3) := by decide +kernel
theorem dL_areColumnsSo_119 : decode cL_areColumnsSo 119 = .ok (.lconst 0, 1) := by decide +kernel
theorem dL_areColumnsSo_120 : decode cL_areColumnsSo 120 = .ok (.lcmp, 1) := by decide +kernel
theorem dL_areColumnsSo_121 : decode cL_areColumnsSo 121 = .ok (.ifCond .le 121, 3) := by decide +kernel
theorem dL_areColumnsSo_124 : decode cL_areColumnsSo 124 = .ok (.aload_n 0, 1) := by decide +kernel
theorem dL_areColumnsSo_125 : decode cL_areColumnsSo 125 = .ok (.iload 11, 2) := by decide +kernel
theorem dL_areColumnsSo_127 : decode cL_areColumnsSo 127 = .ok (.iload 6, 2) := by decide +kernel
theorem dL_areColumnsSo_129 : decode cL_areColumnsSo 129 = .ok (.invokevirtual 117, 3) := by decide +kernel
theorem dL_areColumnsSo_132 : decode cL_areColumnsSo 132 = .ok (.aload_n 0, 1) := by decide +kernel
theorem dL_areColumnsSo_133 : decode cL_areColumnsSo 133 = .ok (.iload 11, 2) := by decide +kernel
theorem dL_areColumnsSo_135 : decode cL_areColumnsSo 135 = .ok (.iload 6, 2) := by decide +kernel
theorem dL_areColumnsSo_137 : decode cL_areColumnsSo 137 = .ok (.invokevirtual 124, 3) := by decide +kernel
theorem dL_areColumnsSo_140 : decode cL_areColumnsSo 140 = .ok (.invokestatic 99, 3) := by decide +kernel
theorem dL_areColumnsSo_143 : decode cL_areColumnsSo 143 = .ok (.lconst 1, 1) := by decide +kernel
theorem dL_areColumnsSo_144 : decode cL_areColumnsSo 144 = .ok (.lcmp, 1) := by decide +kernel
theorem dL_areColumnsSo_145 : decode cL_areColumnsSo 145 = .ok (.ifCond .ne 97, 3) := by decide +kernel
theorem dL_areColumnsSo_148 : decode cL_areColumnsSo 148 = .ok (.iload 12, 2) := by decide +kernel
theorem dL_areColumnsSo_150 : decode cL_areColumnsSo 150 = .ok (.iconst 1, 1) := by decide +kernel
theorem dL_areColumnsSo_151 : decode cL_areColumnsSo 151 = .ok (.if_icmp .ne 7, 3) := by decide +kernel
theorem dL_areColumnsSo_154 : decode cL_areColumnsSo 154 = .ok (.iconst 1, 1) := by decide +kernel
theorem dL_areColumnsSo_155 : decode cL_areColumnsSo 155 = .ok (.goto 4, 3) := by decide +kernel
theorem dL_areColumnsSo_158 : decode cL_areColumnsSo 158 = .ok (.iconst 0, 1) := by decide +kernel
theorem dL_areColumnsSo_159 : decode cL_areColumnsSo 159 = .ok (.aload_n 0, 1) := by decide +kernel
theorem dL_areColumnsSo_160 : decode cL_areColumnsSo 160 = .ok (.iload 6, 2) := by decide +kernel
theorem dL_areColumnsSo_162 : decode cL_areColumnsSo 162 = .ok (.invokevirtual 127, 3) := by decide +kernel
theorem dL_areColumnsSo_165 : decode cL_areColumnsSo 165 = .ok (.if_icmp .ne 77, 3) := by decide +kernel
theorem dL_areColumnsSo_168 : decode cL_areColumnsSo 168 = .ok (.iload 12, 2) := by decide +kernel
theorem dL_areColumnsSo_170 : decode cL_areColumnsSo 170 = .ok (.iconst 2, 1) := by decide +kernel
theorem dL_areColumnsSo_171 : decode cL_areColumnsSo 171 = .ok (.if_icmp .ne 10, 3) := by decide +kernel
theorem dL_areColumnsSo_174 : decode cL_areColumnsSo 174 = .ok (.lload 9, 2) := by decide +kernel
theorem dL_areColumnsSo_176 : decode cL_areColumnsSo 176 = .ok (.lconst 0, 1) := by decide +kernel
theorem dL_areColumnsSo_177 : decode cL_areColumnsSo 177 = .ok (.lcmp, 1) := by decide +kernel
theorem dL_areColumnsSo_178 : decode cL_areColumnsSo 178 = .ok (.ifCond .gt 64, 3) := by decide +kernel
theorem dL_areColumnsSo_181 : decode cL_areColumnsSo 181 = .ok (.iload 12, 2) := by decide +kernel
theorem dL_areColumnsSo_183 : decode cL_areColumnsSo 183 = .ok (.iconst 3, 1) := by decide +kernel
theorem dL_areColumnsSo_184 : decode cL_areColumnsSo 184 = .ok (.if_icmp .ne 23, 3) := by decide +kernel
theorem dL_areColumnsSo_187 : decode cL_areColumnsSo 187 = .ok (.lload 9, 2) := by decide +kernel
theorem dL_areColumnsSo_189 : decode cL_areColumnsSo 189 = .ok (.lconst 0, 1) := by decide +kernel
theorem dL_areColumnsSo_190 : decode cL_areColumnsSo 190 = .ok (.lcmp, 1) := by decide +kernel
theorem dL_areColumnsSo_191 : decode cL_areColumnsSo 191 = .ok (.ifCond .le 51, 3) := by decide +kernel
theorem dL_areColumnsSo_194 : decode cL_areColumnsSo 194 = .ok (.aload_n 0, 1) := by decide +kernel
theorem dL_areColumnsSo_195 : decode cL_areColumnsSo 195 = .ok (.iload 11, 2) := by decide +kernel
theorem dL_areColumnsSo_197 : decode cL_areColumnsSo 197 = .ok (.iload 6, 2) := by decide +kernel
theorem dL_areColumnsSo_199 : decode cL_areColumnsSo 199 = .ok (.invokevirtual 117, 3) := by decide +kernel
theorem dL_areColumnsSo_202 : decode cL_areColumnsSo 202 = .ok (.lconst 0, 1) := by decide +kernel
theorem dL_areColumnsSo_203 : decode cL_areColumnsSo 203 = .ok (.lcmp, 1) := by decide +kernel
theorem dL_areColumnsSo_204 : decode cL_areColumnsSo 204 = .ok (.ifCond .gt 38, 3) := by decide +kernel
theorem dL_areColumnsSo_207 : decode cL_areColumnsSo 207 = .ok (.iload 12, 2) := by decide +kernel
theorem dL_areColumnsSo_209 : decode cL_areColumnsSo 209 = .ok (.iconst 4, 1) := by decide +kernel
theorem dL_areColumnsSo_210 : decode cL_areColumnsSo 210 = .ok (.if_icmp .eq 8, 3) := by decide +kernel
theorem dL_areColumnsSo_213 : decode cL_areColumnsSo 213 = .ok (.iload 12, 2) := by decide +kernel
theorem dL_areColumnsSo_215 : decode cL_areColumnsSo 215 = .ok (.ifCond .ne 23, 3) := by decide +kernel
theorem dL_areColumnsSo_218 : decode cL_areColumnsSo 218 = .ok (.lload 9, 2) := by decide +kernel
theorem dL_areColumnsSo_220 : decode cL_areColumnsSo 220 = .ok (.lconst 0, 1) := by decide +kernel
theorem dL_areColumnsSo_221 : decode cL_areColumnsSo 221 = .ok (.lcmp, 1) := by decide +kernel
theorem dL_areColumnsSo_222 : decode cL_areColumnsSo 222 = .ok (.ifCond .le 20, 3) := by decide +kernel
theorem dL_areColumnsSo_225 : decode cL_areColumnsSo 225 = .ok (.aload_n 0, 1) := by decide +kernel
theorem dL_areColumnsSo_226 : decode cL_areColumnsSo 226 = .ok (.iload 11, 2) := by decide +kernel
theorem dL_areColumnsSo_228 : decode cL_areColumnsSo 228 = .ok (.iload 6, 2) := by decide +kernel
theorem dL_areColumnsSo_230 : decode cL_areColumnsSo 230 = .ok (.invokevirtual 117, 3) := by decide +kernel
theorem dL_areColumnsSo_233 : decode cL_areColumnsSo 233 = .ok (.lconst 0, 1) := by decide +kernel
theorem dL_areColumnsSo_234 : decode cL_areColumnsSo 234 = .ok (.lcmp, 1) := by decide +kernel
theorem dL_areColumnsSo_235 : decode cL_areColumnsSo 235 = .ok (.ifCond .le 7, 3) := by decide +kernel
theorem dL_areColumnsSo_238 : decode cL_areColumnsSo 238 = .ok (.iconst 1, 1) := by decide +kernel
theorem dL_areColumnsSo_239 : decode cL_areColumnsSo 239 = .ok (.goto 4, 3) := by decide +kernel
theorem dL_areColumnsSo_242 : decode cL_areColumnsSo 242 = .ok (.iconst 0, 1) := by decide +kernel
theorem dL_areColumnsSo_243 : decode cL_areColumnsSo 243 = .ok (.istore_n 3, 1) := by decide +kernel
theorem dL_areColumnsSo_244 : decode cL_areColumnsSo 244 = .ok (.iinc 11 1, 3) := by decide +kernel
theorem dL_areColumnsSo_247 : decode cL_areColumnsSo 247 = .ok (.goto (-201), 3) := by decide +kernel
theorem dL_areColumnsSo_250 : decode cL_areColumnsSo 250 = .ok (.iconst 0, 1) := by decide +kernel
theorem dL_areColumnsSo_251 : decode cL_areColumnsSo 251 = .ok (.istore 11, 2) := by decide +kernel
theorem dL_areColumnsSo_253 : decode cL_areColumnsSo 253 = .ok (.iload 11, 2) := by decide +kernel
theorem dL_areColumnsSo_255 : decode cL_areColumnsSo 255 = .ok (.iload_n 2, 1) := by decide +kernel
theorem dL_areColumnsSo_256 : decode cL_areColumnsSo 256 = .ok (.if_icmp .ge 55, 3) := by decide +kernel
theorem dL_areColumnsSo_259 : decode cL_areColumnsSo 259 = .ok (.iload 7, 2) := by decide +kernel
theorem dL_areColumnsSo_261 : decode cL_areColumnsSo 261 = .ok (.ifCond .lt 50, 3) := by decide +kernel
theorem dL_areColumnsSo_264 : decode cL_areColumnsSo 264 = .ok (.iload_n 3, 1) := by decide +kernel
theorem dL_areColumnsSo_265 : decode cL_areColumnsSo 265 = .ok (.ifCond .eq 38, 3) := by decide +kernel
theorem dL_areColumnsSo_268 : decode cL_areColumnsSo 268 = .ok (.aload_n 0, 1) := by decide +kernel
theorem dL_areColumnsSo_269 : decode cL_areColumnsSo 269 = .ok (.iload 11, 2) := by decide +kernel
theorem dL_areColumnsSo_271 : decode cL_areColumnsSo 271 = .ok (.iload 6, 2) := by decide +kernel
theorem dL_areColumnsSo_273 : decode cL_areColumnsSo 273 = .ok (.invokevirtual 117, 3) := by decide +kernel
theorem dL_areColumnsSo_276 : decode cL_areColumnsSo 276 = .ok (.iload 11, 2) := by decide +kernel
theorem dL_areColumnsSo_278 : decode cL_areColumnsSo 278 = .ok (.iload 7, 2) := by decide +kernel
theorem dL_areColumnsSo_280 : decode cL_areColumnsSo 280 = .ok (.if_icmp .ne 7, 3) := by decide +kernel
theorem dL_areColumnsSo_283 : decode cL_areColumnsSo 283 = .ok (.lconst 1, 1) := by decide +kernel
theorem dL_areColumnsSo_284 : decode cL_areColumnsSo 284 = .ok (.goto 4, 3) := by decide +kernel
theorem dL_areColumnsSo_287 : decode cL_areColumnsSo 287 = .ok (.lconst 0, 1) := by decide +kernel
theorem dL_areColumnsSo_288 : decode cL_areColumnsSo 288 = .ok (.lcmp, 1) := by decide +kernel
theorem dL_areColumnsSo_289 : decode cL_areColumnsSo 289 = .ok (.ifCond .ne 14, 3) := by decide +kernel
theorem dL_areColumnsSo_292 : decode cL_areColumnsSo 292 = .ok (.lload 9, 2) := by decide +kernel
theorem dL_areColumnsSo_294 : decode cL_areColumnsSo 294 = .ok (.lconst 0, 1) := by decide +kernel
theorem dL_areColumnsSo_295 : decode cL_areColumnsSo 295 = .ok (.lcmp, 1) := by decide +kernel
theorem dL_areColumnsSo_296 : decode cL_areColumnsSo 296 = .ok (.ifCond .ne 7, 3) := by decide +kernel
theorem dL_areColumnsSo_299 : decode cL_areColumnsSo 299 = .ok (.iconst 1, 1) := by decide +kernel
theorem dL_areColumnsSo_300 : decode cL_areColumnsSo 300 = .ok (.goto 4, 3) := by decide +kernel
theorem dL_areColumnsSo_303 : decode cL_areColumnsSo 303 = .ok (.iconst 0, 1) := by decide +kernel
theorem dL_areColumnsSo_304 : decode cL_areColumnsSo 304 = .ok (.istore_n 3, 1) := by decide +kernel
theorem dL_areColumnsSo_305 : decode cL_areColumnsSo 305 = .ok (.iinc 11 1, 3) := by decide +kernel
theorem dL_areColumnsSo_308 : decode cL_areColumnsSo 308 = .ok (.goto (-55), 3) := by decide +kernel
theorem dL_areColumnsSo_311 : decode cL_areColumnsSo 311 = .ok (.iload 4, 2) := by decide +kernel
theorem dL_areColumnsSo_313 : decode cL_areColumnsSo 313 = .ok (.ifCond .eq 14, 3) := by decide +kernel
theorem dL_areColumnsSo_316 : decode cL_areColumnsSo 316 = .ok (.lload 9, 2) := by decide +kernel
theorem dL_areColumnsSo_318 : decode cL_areColumnsSo 318 = .ok (.lconst 0, 1) := by decide +kernel
theorem dL_areColumnsSo_319 : decode cL_areColumnsSo 319 = .ok (.lcmp, 1) := by decide +kernel
theorem dL_areColumnsSo_320 : decode cL_areColumnsSo 320 = .ok (.ifCond .gt 7, 3) := by decide +kernel
theorem dL_areColumnsSo_323 : decode cL_areColumnsSo 323 = .ok (.iconst 1, 1) := by decide +kernel
theorem dL_areColumnsSo_324 : decode cL_areColumnsSo 324 = .ok (.goto 4, 3) := by decide +kernel
theorem dL_areColumnsSo_327 : decode cL_areColumnsSo 327 = .ok (.iconst 0, 1) := by decide +kernel
theorem dL_areColumnsSo_328 : decode cL_areColumnsSo 328 = .ok (.istore 4, 2) := by decide +kernel
theorem dL_areColumnsSo_330 : decode cL_areColumnsSo 330 = .ok (.iload 5, 2) := by decide +kernel
theorem dL_areColumnsSo_332 : decode cL_areColumnsSo 332 = .ok (.ifCond .ne 15, 3) := by decide +kernel
theorem dL_areColumnsSo_335 : decode cL_areColumnsSo 335 = .ok (.lload 9, 2) := by decide +kernel
theorem dL_areColumnsSo_337 : decode cL_areColumnsSo 337 = .ok (.lconst 0, 1) := by decide +kernel
theorem dL_areColumnsSo_338 : decode cL_areColumnsSo 338 = .ok (.lcmp, 1) := by decide +kernel
theorem dL_areColumnsSo_339 : decode cL_areColumnsSo 339 = .ok (.ifCond .le 12, 3) := by decide +kernel
theorem dL_areColumnsSo_342 : decode cL_areColumnsSo 342 = .ok (.iload 8, 2) := by decide +kernel
theorem dL_areColumnsSo_344 : decode cL_areColumnsSo 344 = .ok (.ifCond .ne 7, 3) := by decide +kernel
theorem dL_areColumnsSo_347 : decode cL_areColumnsSo 347 = .ok (.iconst 1, 1) := by decide +kernel
theorem dL_areColumnsSo_348 : decode cL_areColumnsSo 348 = .ok (.goto 4, 3) := by decide +kernel
theorem dL_areColumnsSo_351 : decode cL_areColumnsSo 351 = .ok (.iconst 0, 1) := by decide +kernel
theorem dL_areColumnsSo_352 : decode cL_areColumnsSo 352 = .ok (.istore 5, 2) := by decide +kernel
theorem dL_areColumnsSo_354 : decode cL_areColumnsSo 354 = .ok (.iload_n 3, 1) := by decide +kernel
theorem dL_areColumnsSo_355 : decode cL_areColumnsSo 355 = .ok (.ifCond .eq 114, 3) := by decide +kernel
theorem dL_areColumnsSo_358 : decode cL_areColumnsSo 358 = .ok (.aload_n 0, 1) := by decide +kernel
theorem dL_areColumnsSo_359 : decode cL_areColumnsSo 359 = .ok (.iload 6, 2) := by decide +kernel
theorem dL_areColumnsSo_361 : decode cL_areColumnsSo 361 = .ok (.invokevirtual 127, 3) := by decide +kernel
theorem dL_areColumnsSo_364 : decode cL_areColumnsSo 364 = .ok (.iload 7, 2) := by decide +kernel
theorem dL_areColumnsSo_366 : decode cL_areColumnsSo 366 = .ok (.ifCond .lt 7, 3) := by decide +kernel
theorem dL_areColumnsSo_369 : decode cL_areColumnsSo 369 = .ok (.iconst 1, 1) := by decide +kernel
theorem dL_areColumnsSo_370 : decode cL_areColumnsSo 370 = .ok (.goto 4, 3) := by decide +kernel
theorem dL_areColumnsSo_373 : decode cL_areColumnsSo 373 = .ok (.iconst 0, 1) := by decide +kernel
theorem dL_areColumnsSo_374 : decode cL_areColumnsSo 374 = .ok (.if_icmp .ne 95, 3) := by decide +kernel
theorem dL_areColumnsSo_377 : decode cL_areColumnsSo 377 = .ok (.iload 7, 2) := by decide +kernel
theorem dL_areColumnsSo_379 : decode cL_areColumnsSo 379 = .ok (.ifCond .ge 14, 3) := by decide +kernel
theorem dL_areColumnsSo_382 : decode cL_areColumnsSo 382 = .ok (.aload_n 0, 1) := by decide +kernel
theorem dL_areColumnsSo_383 : decode cL_areColumnsSo 383 = .ok (.iload 6, 2) := by decide +kernel
theorem dL_areColumnsSo_385 : decode cL_areColumnsSo 385 = .ok (.invokevirtual 96, 3) := by decide +kernel
theorem dL_areColumnsSo_388 : decode cL_areColumnsSo 388 = .ok (.lconst 0, 1) := by decide +kernel
theorem dL_areColumnsSo_389 : decode cL_areColumnsSo 389 = .ok (.lcmp, 1) := by decide +kernel
theorem dL_areColumnsSo_390 : decode cL_areColumnsSo 390 = .ok (.ifCond .ne 79, 3) := by decide +kernel
theorem dL_areColumnsSo_393 : decode cL_areColumnsSo 393 = .ok (.iload 6, 2) := by decide +kernel
theorem dL_areColumnsSo_395 : decode cL_areColumnsSo 395 = .ok (.iload_n 1, 1) := by decide +kernel
theorem dL_areColumnsSo_396 : decode cL_areColumnsSo 396 = .ok (.if_icmp .lt 69, 3) := by decide +kernel
theorem dL_areColumnsSo_399 : decode cL_areColumnsSo 399 = .ok (.aload_n 0, 1) := by decide +kernel
theorem dL_areColumnsSo_400 : decode cL_areColumnsSo 400 = .ok (.iload 6, 2) := by decide +kernel
theorem dL_areColumnsSo_402 : decode cL_areColumnsSo 402 = .ok (.iload_n 1, 1) := by decide +kernel
theorem dL_areColumnsSo_403 : decode cL_areColumnsSo 403 = .ok (.isub, 1) := by decide +kernel
theorem dL_areColumnsSo_404 : decode cL_areColumnsSo 404 = .ok (.invokevirtual 131, 3) := by decide +kernel
theorem dL_areColumnsSo_407 : decode cL_areColumnsSo 407 = .ok (.lload 9, 2) := by decide +kernel
theorem dL_areColumnsSo_409 : decode cL_areColumnsSo 409 = .ok (.lneg, 1) := by decide +kernel
theorem dL_areColumnsSo_410 : decode cL_areColumnsSo 410 = .ok (.lcmp, 1) := by decide +kernel
theorem dL_areColumnsSo_411 : decode cL_areColumnsSo 411 = .ok (.ifCond .ne 58, 3) := by decide +kernel
theorem dL_areColumnsSo_414 : decode cL_areColumnsSo 414 = .ok (.aload_n 0, 1) := by decide +kernel
theorem dL_areColumnsSo_415 : decode cL_areColumnsSo 415 = .ok (.iload 6, 2) := by decide +kernel
theorem dL_areColumnsSo_417 : decode cL_areColumnsSo 417 = .ok (.iload_n 1, 1) := by decide +kernel
theorem dL_areColumnsSo_418 : decode cL_areColumnsSo 418 = .ok (.isub, 1) := by decide +kernel
theorem dL_areColumnsSo_419 : decode cL_areColumnsSo 419 = .ok (.invokevirtual 134, 3) := by decide +kernel
theorem dL_areColumnsSo_422 : decode cL_areColumnsSo 422 = .ok (.aload_n 0, 1) := by decide +kernel
theorem dL_areColumnsSo_423 : decode cL_areColumnsSo 423 = .ok (.iload 6, 2) := by decide +kernel
theorem dL_areColumnsSo_425 : decode cL_areColumnsSo 425 = .ok (.invokevirtual 137, 3) := by decide +kernel
theorem dL_areColumnsSo_428 : decode cL_areColumnsSo 428 = .ok (.lcmp, 1) := by decide +kernel
theorem dL_areColumnsSo_429 : decode cL_areColumnsSo 429 = .ok (.ifCond .ne 40, 3) := by decide +kernel
theorem dL_areColumnsSo_432 : decode cL_areColumnsSo 432 = .ok (.aload_n 0, 1) := by decide +kernel
theorem dL_areColumnsSo_433 : decode cL_areColumnsSo 433 = .ok (.iload 6, 2) := by decide +kernel
theorem dL_areColumnsSo_435 : decode cL_areColumnsSo 435 = .ok (.iload_n 1, 1) := by decide +kernel
theorem dL_areColumnsSo_436 : decode cL_areColumnsSo 436 = .ok (.isub, 1) := by decide +kernel
theorem dL_areColumnsSo_437 : decode cL_areColumnsSo 437 = .ok (.invokevirtual 140, 3) := by decide +kernel
theorem dL_areColumnsSo_440 : decode cL_areColumnsSo 440 = .ok (.lload 9, 2) := by decide +kernel
theorem dL_areColumnsSo_442 : decode cL_areColumnsSo 442 = .ok (.lneg, 1) := by decide +kernel
theorem dL_areColumnsSo_443 : decode cL_areColumnsSo 443 = .ok (.lcmp, 1) := by decide +kernel
theorem dL_areColumnsSo_444 : decode cL_areColumnsSo 444 = .ok (.ifCond .ne 25, 3) := by decide +kernel
theorem dL_areColumnsSo_447 : decode cL_areColumnsSo 447 = .ok (.aload_n 0, 1) := by decide +kernel
theorem dL_areColumnsSo_448 : decode cL_areColumnsSo 448 = .ok (.iload 6, 2) := by decide +kernel
theorem dL_areColumnsSo_450 : decode cL_areColumnsSo 450 = .ok (.iload_n 1, 1) := by decide +kernel
theorem dL_areColumnsSo_451 : decode cL_areColumnsSo 451 = .ok (.isub, 1) := by decide +kernel
theorem dL_areColumnsSo_452 : decode cL_areColumnsSo 452 = .ok (.invokevirtual 143, 3) := by decide +kernel
theorem dL_areColumnsSo_455 : decode cL_areColumnsSo 455 = .ok (.aload_n 0, 1) := by decide +kernel
theorem dL_areColumnsSo_456 : decode cL_areColumnsSo 456 = .ok (.iload 6, 2) := by decide +kernel
theorem dL_areColumnsSo_458 : decode cL_areColumnsSo 458 = .ok (.invokevirtual 137, 3) := by decide +kernel
theorem dL_areColumnsSo_461 : decode cL_areColumnsSo 461 = .ok (.lcmp, 1) := by decide +kernel
theorem dL_areColumnsSo_462 : decode cL_areColumnsSo 462 = .ok (.ifCond .ne 7, 3) := by decide +kernel
theorem dL_areColumnsSo_465 : decode cL_areColumnsSo 465 = .ok (.iconst 1, 1) := by decide +kernel
theorem dL_areColumnsSo_466 : decode cL_areColumnsSo 466 = .ok (.goto 4, 3) := by decide +kernel
theorem dL_areColumnsSo_469 : decode cL_areColumnsSo 469 = .ok (.iconst 0, 1) := by decide +kernel
theorem dL_areColumnsSo_470 : decode cL_areColumnsSo 470 = .ok (.istore_n 3, 1) := by decide +kernel
theorem dL_areColumnsSo_471 : decode cL_areColumnsSo 471 = .ok (.iinc 6 1, 3) := by decide +kernel
theorem dL_areColumnsSo_474 : decode cL_areColumnsSo 474 = .ok (.goto (-453), 3) := by decide +kernel
theorem dL_areColumnsSo_477 : decode cL_areColumnsSo 477 = .ok (.iload_n 3, 1) := by decide +kernel
theorem dL_areColumnsSo_478 : decode cL_areColumnsSo 478 = .ok (.ifCond .eq 49, 3) := by decide +kernel
theorem dL_areColumnsSo_481 : decode cL_areColumnsSo 481 = .ok (.aload_n 0, 1) := by decide +kernel
theorem dL_areColumnsSo_482 : decode cL_areColumnsSo 482 = .ok (.invokevirtual 146, 3) := by decide +kernel
theorem dL_areColumnsSo_485 : decode cL_areColumnsSo 485 = .ok (.iload 4, 2) := by decide +kernel
theorem dL_areColumnsSo_487 : decode cL_areColumnsSo 487 = .ok (.if_icmp .ne 40, 3) := by decide +kernel
theorem dL_areColumnsSo_490 : decode cL_areColumnsSo 490 = .ok (.aload_n 0, 1) := by decide +kernel
theorem dL_areColumnsSo_491 : decode cL_areColumnsSo 491 = .ok (.invokevirtual 150, 3) := by decide +kernel
theorem dL_areColumnsSo_494 : decode cL_areColumnsSo 494 = .ok (.iload 5, 2) := by decide +kernel
theorem dL_areColumnsSo_496 : decode cL_areColumnsSo 496 = .ok (.if_icmp .ne 31, 3) := by decide +kernel
theorem dL_areColumnsSo_499 : decode cL_areColumnsSo 499 = .ok (.aload_n 0, 1) := by decide +kernel
theorem dL_areColumnsSo_500 : decode cL_areColumnsSo 500 = .ok (.invokevirtual 153, 3) := by decide +kernel
theorem dL_areColumnsSo_503 : decode cL_areColumnsSo 503 = .ok (.aload_n 0, 1) := by decide +kernel
theorem dL_areColumnsSo_504 : decode cL_areColumnsSo 504 = .ok (.invokevirtual 103, 3) := by decide +kernel
theorem dL_areColumnsSo_507 : decode cL_areColumnsSo 507 = .ok (.lcmp, 1) := by decide +kernel
theorem dL_areColumnsSo_508 : decode cL_areColumnsSo 508 = .ok (.ifCond .ne 19, 3) := by decide +kernel
theorem dL_areColumnsSo_511 : decode cL_areColumnsSo 511 = .ok (.aload_n 0, 1) := by decide +kernel
theorem dL_areColumnsSo_512 : decode cL_areColumnsSo 512 = .ok (.invokevirtual 156, 3) := by decide +kernel
theorem dL_areColumnsSo_515 : decode cL_areColumnsSo 515 = .ok (.aload_n 0, 1) := by decide +kernel
theorem dL_areColumnsSo_516 : decode cL_areColumnsSo 516 = .ok (.invokevirtual 107, 3) := by decide +kernel
theorem dL_areColumnsSo_519 : decode cL_areColumnsSo 519 = .ok (.lcmp, 1) := by decide +kernel
theorem dL_areColumnsSo_520 : decode cL_areColumnsSo 520 = .ok (.ifCond .ne 7, 3) := by decide +kernel
theorem dL_areColumnsSo_523 : decode cL_areColumnsSo 523 = .ok (.iconst 1, 1) := by decide +kernel
theorem dL_areColumnsSo_524 : decode cL_areColumnsSo 524 = .ok (.goto 4, 3) := by decide +kernel
theorem dL_areColumnsSo_527 : decode cL_areColumnsSo 527 = .ok (.iconst 0, 1) := by decide +kernel
theorem dL_areColumnsSo_528 : decode cL_areColumnsSo 528 = .ok (.ireturn, 1) := by decide +kernel
theorem dL_areBasesSo_0 : decode cL_areBasesSo 0 = .ok (.aload_n 0, 1) := by decide +kernel
theorem dL_areBasesSo_1 : decode cL_areBasesSo 1 = .ok (.invokevirtual 159, 3) := by decide +kernel
theorem dL_areBasesSo_4 : decode cL_areBasesSo 4 = .ok (.aload_n 0, 1) := by decide +kernel
theorem dL_areBasesSo_5 : decode cL_areBasesSo 5 = .ok (.invokevirtual 107, 3) := by decide +kernel
theorem dL_areBasesSo_8 : decode cL_areBasesSo 8 = .ok (.lmul, 1) := by decide +kernel
theorem dL_areBasesSo_9 : decode cL_areBasesSo 9 = .ok (.aload_n 0, 1) := by decide +kernel
theorem dL_areBasesSo_10 : decode cL_areBasesSo 10 = .ok (.invokevirtual 103, 3) := by decide +kernel
theorem dL_areBasesSo_13 : decode cL_areBasesSo 13 = .ok (.aload_n 0, 1) := by decide +kernel
theorem dL_areBasesSo_14 : decode cL_areBasesSo 14 = .ok (.invokevirtual 162, 3) := by decide +kernel
theorem dL_areBasesSo_17 : decode cL_areBasesSo 17 = .ok (.lmul, 1) := by decide +kernel
theorem dL_areBasesSo_18 : decode cL_areBasesSo 18 = .ok (.lsub, 1) := by decide +kernel
theorem dL_areBasesSo_19 : decode cL_areBasesSo 19 = .ok (.lstore_n 1, 1) := by decide +kernel
theorem dL_areBasesSo_20 : decode cL_areBasesSo 20 = .ok (.lload_n 1, 1) := by decide +kernel
theorem dL_areBasesSo_21 : decode cL_areBasesSo 21 = .ok (.lconst 0, 1) := by decide +kernel
theorem dL_areBasesSo_22 : decode cL_areBasesSo 22 = .ok (.lcmp, 1) := by decide +kernel
theorem dL_areBasesSo_23 : decode cL_areBasesSo 23 = .ok (.ifCond .lt 54, 3) := by decide +kernel
theorem dL_areBasesSo_26 : decode cL_areBasesSo 26 = .ok (.aload_n 0, 1) := by decide +kernel
theorem dL_areBasesSo_27 : decode cL_areBasesSo 27 = .ok (.invokevirtual 146, 3) := by decide +kernel
theorem dL_areBasesSo_30 : decode cL_areBasesSo 30 = .ok (.ifCond .eq 9, 3) := by decide +kernel
theorem dL_areBasesSo_33 : decode cL_areBasesSo 33 = .ok (.lload_n 1, 1) := by decide +kernel
theorem dL_areBasesSo_34 : decode cL_areBasesSo 34 = .ok (.lconst 0, 1) := by decide +kernel
theorem dL_areBasesSo_35 : decode cL_areBasesSo 35 = .ok (.lcmp, 1) := by decide +kernel
theorem dL_areBasesSo_36 : decode cL_areBasesSo 36 = .ok (.ifCond .ne 41, 3) := by decide +kernel
theorem dL_areBasesSo_39 : decode cL_areBasesSo 39 = .ok (.aload_n 0, 1) := by decide +kernel
theorem dL_areBasesSo_40 : decode cL_areBasesSo 40 = .ok (.invokevirtual 165, 3) := by decide +kernel
theorem dL_areBasesSo_43 : decode cL_areBasesSo 43 = .ok (.ifCond .le 34, 3) := by decide +kernel
theorem dL_areBasesSo_46 : decode cL_areBasesSo 46 = .ok (.aload_n 0, 1) := by decide +kernel
theorem dL_areBasesSo_47 : decode cL_areBasesSo 47 = .ok (.invokevirtual 168, 3) := by decide +kernel
theorem dL_areBasesSo_50 : decode cL_areBasesSo 50 = .ok (.ifCond .le 27, 3) := by decide +kernel
theorem dL_areBasesSo_53 : decode cL_areBasesSo 53 = .ok (.aload_n 0, 1) := by decide +kernel
theorem dL_areBasesSo_54 : decode cL_areBasesSo 54 = .ok (.invokevirtual 168, 3) := by decide +kernel
theorem dL_areBasesSo_57 : decode cL_areBasesSo 57 = .ok (.aload_n 0, 1) := by decide +kernel
theorem dL_areBasesSo_58 : decode cL_areBasesSo 58 = .ok (.invokevirtual 165, 3) := by decide +kernel
theorem dL_areBasesSo_61 : decode cL_areBasesSo 61 = .ok (.if_icmp .gt 16, 3) := by decide +kernel
theorem dL_areBasesSo_64 : decode cL_areBasesSo 64 = .ok (.aload_n 0, 1) := by decide +kernel
theorem dL_areBasesSo_65 : decode cL_areBasesSo 65 = .ok (.invokevirtual 165, 3) := by decide +kernel
theorem dL_areBasesSo_68 : decode cL_areBasesSo 68 = .ok (.bipush 70, 2) := by decide +kernel
theorem dL_areBasesSo_70 : decode cL_areBasesSo 70 = .ok (.if_icmp .gt 7, 3) := by decide +kernel
theorem dL_areBasesSo_73 : decode cL_areBasesSo 73 = .ok (.iconst 1, 1) := by decide +kernel
theorem dL_areBasesSo_74 : decode cL_areBasesSo 74 = .ok (.goto 4, 3) := by decide +kernel
theorem dL_areBasesSo_77 : decode cL_areBasesSo 77 = .ok (.iconst 0, 1) := by decide +kernel
theorem dL_areBasesSo_78 : decode cL_areBasesSo 78 = .ok (.istore_n 3, 1) := by decide +kernel
theorem dL_areBasesSo_79 : decode cL_areBasesSo 79 = .ok (.iconst 0, 1) := by decide +kernel
theorem dL_areBasesSo_80 : decode cL_areBasesSo 80 = .ok (.istore 4, 2) := by decide +kernel
theorem dL_areBasesSo_82 : decode cL_areBasesSo 82 = .ok (.iload 4, 2) := by decide +kernel
theorem dL_areBasesSo_84 : decode cL_areBasesSo 84 = .ok (.aload_n 0, 1) := by decide +kernel
theorem dL_areBasesSo_85 : decode cL_areBasesSo 85 = .ok (.invokevirtual 58, 3) := by decide +kernel
theorem dL_areBasesSo_88 : decode cL_areBasesSo 88 = .ok (.if_icmp .ge 69, 3) := by decide +kernel
theorem dL_areBasesSo_91 : decode cL_areBasesSo 91 = .ok (.aload_n 0, 1) := by decide +kernel
theorem dL_areBasesSo_92 : decode cL_areBasesSo 92 = .ok (.iload 4, 2) := by decide +kernel
theorem dL_areBasesSo_94 : decode cL_areBasesSo 94 = .ok (.invokevirtual 171, 3) := by decide +kernel
theorem dL_areBasesSo_97 : decode cL_areBasesSo 97 = .ok (.istore 5, 2) := by decide +kernel
theorem dL_areBasesSo_99 : decode cL_areBasesSo 99 = .ok (.aload_n 0, 1) := by decide +kernel
theorem dL_areBasesSo_100 : decode cL_areBasesSo 100 = .ok (.iload 4, 2) := by decide +kernel
theorem dL_areBasesSo_102 : decode cL_areBasesSo 102 = .ok (.invokevirtual 174, 3) := by decide +kernel
theorem dL_areBasesSo_105 : decode cL_areBasesSo 105 = .ok (.istore 6, 2) := by decide +kernel
theorem dL_areBasesSo_107 : decode cL_areBasesSo 107 = .ok (.iload_n 3, 1) := by decide +kernel
theorem dL_areBasesSo_108 : decode cL_areBasesSo 108 = .ok (.ifCond .eq 41, 3) := by decide +kernel
theorem dL_areBasesSo_111 : decode cL_areBasesSo 111 = .ok (.iload 5, 2) := by decide +kernel
theorem dL_areBasesSo_113 : decode cL_areBasesSo 113 = .ok (.ifCond .lt 36, 3) := by decide +kernel
theorem dL_areBasesSo_116 : decode cL_areBasesSo 116 = .ok (.iload 5, 2) := by decide +kernel
theorem dL_areBasesSo_118 : decode cL_areBasesSo 118 = .ok (.aload_n 0, 1) := by decide +kernel
theorem dL_areBasesSo_119 : decode cL_areBasesSo 119 = .ok (.iload 4, 2) := by decide +kernel
theorem dL_areBasesSo_121 : decode cL_areBasesSo 121 = .ok (.invokevirtual 83, 3) := by decide +kernel
theorem dL_areBasesSo_124 : decode cL_areBasesSo 124 = .ok (.if_icmp .gt 25, 3) := by decide +kernel
theorem dL_areBasesSo_127 : decode cL_areBasesSo 127 = .ok (.iload 6, 2) := by decide +kernel
theorem dL_areBasesSo_129 : decode cL_areBasesSo 129 = .ok (.aload_n 0, 1) := by decide +kernel
theorem dL_areBasesSo_130 : decode cL_areBasesSo 130 = .ok (.iload 4, 2) := by decide +kernel
theorem dL_areBasesSo_132 : decode cL_areBasesSo 132 = .ok (.invokevirtual 83, 3) := by decide +kernel
theorem dL_areBasesSo_135 : decode cL_areBasesSo 135 = .ok (.if_icmp .lt 14, 3) := by decide +kernel
theorem dL_areBasesSo_138 : decode cL_areBasesSo 138 = .ok (.iload 6, 2) := by decide +kernel
theorem dL_areBasesSo_140 : decode cL_areBasesSo 140 = .ok (.bipush 100, 2) := by decide +kernel
theorem dL_areBasesSo_142 : decode cL_areBasesSo 142 = .ok (.if_icmp .ge 7, 3) := by decide +kernel
theorem dL_areBasesSo_145 : decode cL_areBasesSo 145 = .ok (.iconst 1, 1) := by decide +kernel
theorem dL_areBasesSo_146 : decode cL_areBasesSo 146 = .ok (.goto 4, 3) := by decide +kernel
theorem dL_areBasesSo_149 : decode cL_areBasesSo 149 = .ok (.iconst 0, 1) := by decide +kernel
theorem dL_areBasesSo_150 : decode cL_areBasesSo 150 = .ok (.istore_n 3, 1) := by decide +kernel
theorem dL_areBasesSo_151 : decode cL_areBasesSo 151 = .ok (.iinc 4 1, 3) := by decide +kernel
theorem dL_areBasesSo_154 : decode cL_areBasesSo 154 = .ok (.goto (-72), 3) := by decide +kernel
theorem dL_areBasesSo_157 : decode cL_areBasesSo 157 = .ok (.iload_n 3, 1) := by decide +kernel
theorem dL_areBasesSo_158 : decode cL_areBasesSo 158 = .ok (.ireturn, 1) := by decide +kernel
theorem dL_isStepSo_0 : decode cL_isStepSo 0 = .ok (.aload_n 0, 1) := by decide +kernel
theorem dL_isStepSo_1 : decode cL_isStepSo 1 = .ok (.invokevirtual 146, 3) := by decide +kernel
theorem dL_isStepSo_4 : decode cL_isStepSo 4 = .ok (.ifCond .ne 10, 3) := by decide +kernel
theorem dL_isStepSo_7 : decode cL_isStepSo 7 = .ok (.aload_n 0, 1) := by decide +kernel
theorem dL_isStepSo_8 : decode cL_isStepSo 8 = .ok (.invokevirtual 150, 3) := by decide +kernel
theorem dL_isStepSo_11 : decode cL_isStepSo 11 = .ok (.ifCond .eq 7, 3) := by decide +kernel
theorem dL_isStepSo_14 : decode cL_isStepSo 14 = .ok (.iconst 1, 1) := by decide +kernel
theorem dL_isStepSo_15 : decode cL_isStepSo 15 = .ok (.goto 4, 3) := by decide +kernel
theorem dL_isStepSo_18 : decode cL_isStepSo 18 = .ok (.iconst 0, 1) := by decide +kernel
theorem dL_isStepSo_19 : decode cL_isStepSo 19 = .ok (.istore_n 2, 1) := by decide +kernel
theorem dL_isStepSo_20 : decode cL_isStepSo 20 = .ok (.aload_n 0, 1) := by decide +kernel
theorem dL_isStepSo_21 : decode cL_isStepSo 21 = .ok (.invokevirtual 103, 3) := by decide +kernel
theorem dL_isStepSo_24 : decode cL_isStepSo 24 = .ok (.lstore_n 3, 1) := by decide +kernel
theorem dL_isStepSo_25 : decode cL_isStepSo 25 = .ok (.aload_n 0, 1) := by decide +kernel
theorem dL_isStepSo_26 : decode cL_isStepSo 26 = .ok (.invokevirtual 107, 3) := by decide +kernel
theorem dL_isStepSo_29 : decode cL_isStepSo 29 = .ok (.lstore 5, 2) := by decide +kernel
theorem dL_isStepSo_31 : decode cL_isStepSo 31 = .ok (.aload_n 0, 1) := by decide +kernel
theorem dL_isStepSo_32 : decode cL_isStepSo 32 = .ok (.invokevirtual 177, 3) := by decide +kernel
theorem dL_isStepSo_35 : decode cL_isStepSo 35 = .ok (.istore 7, 2) := by decide +kernel
theorem dL_isStepSo_37 : decode cL_isStepSo 37 = .ok (.aload_n 0, 1) := by decide +kernel
theorem dL_isStepSo_38 : decode cL_isStepSo 38 = .ok (.invokevirtual 71, 3) := by decide +kernel
theorem dL_isStepSo_41 : decode cL_isStepSo 41 = .ok (.istore 8, 2) := by decide +kernel
theorem dL_isStepSo_43 : decode cL_isStepSo 43 = .ok (.iload_n 2, 1) := by decide +kernel
theorem dL_isStepSo_44 : decode cL_isStepSo 44 = .ok (.ifCond .eq 37, 3) := by decide +kernel
theorem dL_isStepSo_47 : decode cL_isStepSo 47 = .ok (.iload 7, 2) := by decide +kernel
theorem dL_isStepSo_49 : decode cL_isStepSo 49 = .ok (.ifCond .ne 30, 3) := by decide +kernel
theorem dL_isStepSo_52 : decode cL_isStepSo 52 = .ok (.aload_n 0, 1) := by decide +kernel
theorem dL_isStepSo_53 : decode cL_isStepSo 53 = .ok (.bipush 7, 2) := by decide +kernel
theorem dL_isStepSo_55 : decode cL_isStepSo 55 = .ok (.iconst 0, 1) := by decide +kernel
theorem dL_isStepSo_56 : decode cL_isStepSo 56 = .ok (.iconst 0, 1) := by decide +kernel
theorem dL_isStepSo_57 : decode cL_isStepSo 57 = .ok (.iconst 0, 1) := by decide +kernel
theorem dL_isStepSo_58 : decode cL_isStepSo 58 = .ok (.aload_n 1, 1) := by decide +kernel
theorem dL_isStepSo_59 : decode cL_isStepSo 59 = .ok (.invokestatic 64, 3) := by decide +kernel
theorem dL_isStepSo_62 : decode cL_isStepSo 62 = .ok (.iconst 3, 1) := by decide +kernel
theorem dL_isStepSo_63 : decode cL_isStepSo 63 = .ok (.if_icmp .ne 16, 3) := by decide +kernel
theorem dL_isStepSo_66 : decode cL_isStepSo 66 = .ok (.aload_n 0, 1) := by decide +kernel
theorem dL_isStepSo_67 : decode cL_isStepSo 67 = .ok (.invokevirtual 71, 3) := by decide +kernel
theorem dL_isStepSo_70 : decode cL_isStepSo 70 = .ok (.iload 8, 2) := by decide +kernel
theorem dL_isStepSo_72 : decode cL_isStepSo 72 = .ok (.if_icmp .ne 7, 3) := by decide +kernel
theorem dL_isStepSo_75 : decode cL_isStepSo 75 = .ok (.iconst 1, 1) := by decide +kernel
theorem dL_isStepSo_76 : decode cL_isStepSo 76 = .ok (.goto 4, 3) := by decide +kernel
theorem dL_isStepSo_79 : decode cL_isStepSo 79 = .ok (.iconst 0, 1) := by decide +kernel
theorem dL_isStepSo_80 : decode cL_isStepSo 80 = .ok (.ireturn, 1) := by decide +kernel
theorem dL_isStepSo_81 : decode cL_isStepSo 81 = .ok (.aload_n 0, 1) := by decide +kernel
theorem dL_isStepSo_82 : decode cL_isStepSo 82 = .ok (.invokevirtual 180, 3) := by decide +kernel
theorem dL_isStepSo_85 : decode cL_isStepSo 85 = .ok (.istore 9, 2) := by decide +kernel
theorem dL_isStepSo_87 : decode cL_isStepSo 87 = .ok (.aload_n 0, 1) := by decide +kernel
theorem dL_isStepSo_88 : decode cL_isStepSo 88 = .ok (.invokevirtual 183, 3) := by decide +kernel
theorem dL_isStepSo_91 : decode cL_isStepSo 91 = .ok (.istore 10, 2) := by decide +kernel
theorem dL_isStepSo_93 : decode cL_isStepSo 93 = .ok (.aload_n 0, 1) := by decide +kernel
theorem dL_isStepSo_94 : decode cL_isStepSo 94 = .ok (.iload 10, 2) := by decide +kernel
theorem dL_isStepSo_96 : decode cL_isStepSo 96 = .ok (.invokevirtual 86, 3) := by decide +kernel
theorem dL_isStepSo_99 : decode cL_isStepSo 99 = .ok (.istore 11, 2) := by decide +kernel
theorem dL_isStepSo_101 : decode cL_isStepSo 101 = .ok (.aload_n 0, 1) := by decide +kernel
theorem dL_isStepSo_102 : decode cL_isStepSo 102 = .ok (.invokevirtual 77, 3) := by decide +kernel
theorem dL_isStepSo_105 : decode cL_isStepSo 105 = .ok (.istore 12, 2) := by decide +kernel
theorem dL_isStepSo_107 : decode cL_isStepSo 107 = .ok (.aload_n 0, 1) := by decide +kernel
theorem dL_isStepSo_108 : decode cL_isStepSo 108 = .ok (.iload 10, 2) := by decide +kernel
theorem dL_isStepSo_110 : decode cL_isStepSo 110 = .ok (.iload 9, 2) := by decide +kernel
theorem dL_isStepSo_112 : decode cL_isStepSo 112 = .ok (.invokevirtual 121, 3) := by decide +kernel
theorem dL_isStepSo_115 : decode cL_isStepSo 115 = .ok (.ifCond .ne 42, 3) := by decide +kernel
theorem dL_isStepSo_118 : decode cL_isStepSo 118 = .ok (.aload_n 0, 1) := by decide +kernel
theorem dL_isStepSo_119 : decode cL_isStepSo 119 = .ok (.iload 10, 2) := by decide +kernel
theorem dL_isStepSo_121 : decode cL_isStepSo 121 = .ok (.iload 9, 2) := by decide +kernel
theorem dL_isStepSo_123 : decode cL_isStepSo 123 = .ok (.invokevirtual 31, 3) := by decide +kernel
theorem dL_isStepSo_126 : decode cL_isStepSo 126 = .ok (.iload 11, 2) := by decide +kernel
theorem dL_isStepSo_128 : decode cL_isStepSo 128 = .ok (.if_icmp .ne 29, 3) := by decide +kernel
theorem dL_isStepSo_131 : decode cL_isStepSo 131 = .ok (.aload_n 0, 1) := by decide +kernel
theorem dL_isStepSo_132 : decode cL_isStepSo 132 = .ok (.iload 10, 2) := by decide +kernel
theorem dL_isStepSo_134 : decode cL_isStepSo 134 = .ok (.invokevirtual 86, 3) := by decide +kernel
theorem dL_isStepSo_137 : decode cL_isStepSo 137 = .ok (.iload 9, 2) := by decide +kernel
theorem dL_isStepSo_139 : decode cL_isStepSo 139 = .ok (.if_icmp .ne 18, 3) := by decide +kernel
theorem dL_isStepSo_142 : decode cL_isStepSo 142 = .ok (.aload_n 0, 1) := by decide +kernel
theorem dL_isStepSo_143 : decode cL_isStepSo 143 = .ok (.invokevirtual 71, 3) := by decide +kernel
theorem dL_isStepSo_146 : decode cL_isStepSo 146 = .ok (.iload 8, 2) := by decide +kernel
theorem dL_isStepSo_148 : decode cL_isStepSo 148 = .ok (.iconst 1, 1) := by decide +kernel
theorem dL_isStepSo_149 : decode cL_isStepSo 149 = .ok (.iadd, 1) := by decide +kernel
theorem dL_isStepSo_150 : decode cL_isStepSo 150 = .ok (.if_icmp .ne 7, 3) := by decide +kernel
theorem dL_isStepSo_153 : decode cL_isStepSo 153 = .ok (.iconst 1, 1) := by decide +kernel
theorem dL_isStepSo_154 : decode cL_isStepSo 154 = .ok (.goto 4, 3) := by decide +kernel
theorem dL_isStepSo_157 : decode cL_isStepSo 157 = .ok (.iconst 0, 1) := by decide +kernel
theorem dL_isStepSo_158 : decode cL_isStepSo 158 = .ok (.istore 13, 2) := by decide +kernel
theorem dL_isStepSo_160 : decode cL_isStepSo 160 = .ok (.aload_n 0, 1) := by decide +kernel
theorem dL_isStepSo_161 : decode cL_isStepSo 161 = .ok (.invokevirtual 103, 3) := by decide +kernel
theorem dL_isStepSo_164 : decode cL_isStepSo 164 = .ok (.lload 5, 2) := by decide +kernel
theorem dL_isStepSo_166 : decode cL_isStepSo 166 = .ok (.lmul, 1) := by decide +kernel
theorem dL_isStepSo_167 : decode cL_isStepSo 167 = .ok (.lload_n 3, 1) := by decide +kernel
theorem dL_isStepSo_168 : decode cL_isStepSo 168 = .ok (.aload_n 0, 1) := by decide +kernel
theorem dL_isStepSo_169 : decode cL_isStepSo 169 = .ok (.invokevirtual 107, 3) := by decide +kernel
theorem dL_isStepSo_172 : decode cL_isStepSo 172 = .ok (.lmul, 1) := by decide +kernel
theorem dL_isStepSo_173 : decode cL_isStepSo 173 = .ok (.lsub, 1) := by decide +kernel
theorem dL_isStepSo_174 : decode cL_isStepSo 174 = .ok (.lstore 14, 2) := by decide +kernel
theorem dL_isStepSo_176 : decode cL_isStepSo 176 = .ok (.iload 13, 2) := by decide +kernel
theorem dL_isStepSo_178 : decode cL_isStepSo 178 = .ok (.ifCond .eq 88, 3) := by decide +kernel
theorem dL_isStepSo_181 : decode cL_isStepSo 181 = .ok (.lload 14, 2) := by decide +kernel
theorem dL_isStepSo_183 : decode cL_isStepSo 183 = .ok (.lconst 0, 1) := by decide +kernel
theorem dL_isStepSo_184 : decode cL_isStepSo 184 = .ok (.lcmp, 1) := by decide +kernel
theorem dL_isStepSo_185 : decode cL_isStepSo 185 = .ok (.ifCond .lt 81, 3) := by decide +kernel
theorem dL_isStepSo_188 : decode cL_isStepSo 188 = .ok (.aload_n 0, 1) := by decide +kernel
theorem dL_isStepSo_189 : decode cL_isStepSo 189 = .ok (.invokevirtual 77, 3) := by decide +kernel
theorem dL_isStepSo_192 : decode cL_isStepSo 192 = .ok (.iload 12, 2) := by decide +kernel
theorem dL_isStepSo_194 : decode cL_isStepSo 194 = .ok (.lload 14, 2) := by decide +kernel
theorem dL_isStepSo_196 : decode cL_isStepSo 196 = .ok (.lconst 0, 1) := by decide +kernel
theorem dL_isStepSo_197 : decode cL_isStepSo 197 = .ok (.lcmp, 1) := by decide +kernel
theorem dL_isStepSo_198 : decode cL_isStepSo 198 = .ok (.ifCond .ne 7, 3) := by decide +kernel
theorem dL_isStepSo_201 : decode cL_isStepSo 201 = .ok (.iconst 1, 1) := by decide +kernel
theorem dL_isStepSo_202 : decode cL_isStepSo 202 = .ok (.goto 4, 3) := by decide +kernel
theorem dL_isStepSo_205 : decode cL_isStepSo 205 = .ok (.iconst 0, 1) := by decide +kernel
theorem dL_isStepSo_206 : decode cL_isStepSo 206 = .ok (.iadd, 1) := by decide +kernel
theorem dL_isStepSo_207 : decode cL_isStepSo 207 = .ok (.if_icmp .ne 59, 3) := by decide +kernel
theorem dL_isStepSo_210 : decode cL_isStepSo 210 = .ok (.iload 7, 2) := by decide +kernel
theorem dL_isStepSo_212 : decode cL_isStepSo 212 = .ok (.bipush 40, 2) := by decide +kernel
theorem dL_isStepSo_214 : decode cL_isStepSo 214 = .ok (.if_icmp .eq 14, 3) := by decide +kernel
theorem dL_isStepSo_217 : decode cL_isStepSo 217 = .ok (.aload_n 0, 1) := by decide +kernel
theorem dL_isStepSo_218 : decode cL_isStepSo 218 = .ok (.invokevirtual 177, 3) := by decide +kernel
theorem dL_isStepSo_221 : decode cL_isStepSo 221 = .ok (.iload 7, 2) := by decide +kernel
theorem dL_isStepSo_223 : decode cL_isStepSo 223 = .ok (.iconst 1, 1) := by decide +kernel
theorem dL_isStepSo_224 : decode cL_isStepSo 224 = .ok (.isub, 1) := by decide +kernel
theorem dL_isStepSo_225 : decode cL_isStepSo 225 = .ok (.if_icmp .ne 41, 3) := by decide +kernel
theorem dL_isStepSo_228 : decode cL_isStepSo 228 = .ok (.aload_n 0, 1) := by decide +kernel
theorem dL_isStepSo_229 : decode cL_isStepSo 229 = .ok (.invokevirtual 186, 3) := by decide +kernel
theorem dL_isStepSo_232 : decode cL_isStepSo 232 = .ok (.ifCond .lt 34, 3) := by decide +kernel
theorem dL_isStepSo_235 : decode cL_isStepSo 235 = .ok (.aload_n 0, 1) := by decide +kernel
theorem dL_isStepSo_236 : decode cL_isStepSo 236 = .ok (.invokevirtual 34, 3) := by decide +kernel
theorem dL_isStepSo_239 : decode cL_isStepSo 239 = .ok (.iload 9, 2) := by decide +kernel
theorem dL_isStepSo_241 : decode cL_isStepSo 241 = .ok (.if_icmp .ne 25, 3) := by decide +kernel
theorem dL_isStepSo_244 : decode cL_isStepSo 244 = .ok (.aload_n 0, 1) := by decide +kernel
theorem dL_isStepSo_245 : decode cL_isStepSo 245 = .ok (.iload 10, 2) := by decide +kernel
theorem dL_isStepSo_247 : decode cL_isStepSo 247 = .ok (.invokevirtual 86, 3) := by decide +kernel
theorem dL_isStepSo_250 : decode cL_isStepSo 250 = .ok (.iload 9, 2) := by decide +kernel
theorem dL_isStepSo_252 : decode cL_isStepSo 252 = .ok (.if_icmp .ne 14, 3) := by decide +kernel
theorem dL_isStepSo_255 : decode cL_isStepSo 255 = .ok (.aload_n 0, 1) := by decide +kernel
theorem dL_isStepSo_256 : decode cL_isStepSo 256 = .ok (.invokevirtual 186, 3) := by decide +kernel
theorem dL_isStepSo_259 : decode cL_isStepSo 259 = .ok (.ifCond .lt 7, 3) := by decide +kernel
theorem dL_isStepSo_262 : decode cL_isStepSo 262 = .ok (.iconst 1, 1) := by decide +kernel
theorem dL_isStepSo_263 : decode cL_isStepSo 263 = .ok (.goto 4, 3) := by decide +kernel
theorem dL_isStepSo_266 : decode cL_isStepSo 266 = .ok (.iconst 0, 1) := by decide +kernel
theorem dL_isStepSo_267 : decode cL_isStepSo 267 = .ok (.istore 13, 2) := by decide +kernel
theorem dL_isStepSo_269 : decode cL_isStepSo 269 = .ok (.iload 13, 2) := by decide +kernel
theorem dL_isStepSo_271 : decode cL_isStepSo 271 = .ok (.ifCond .eq 62, 3) := by decide +kernel
theorem dL_isStepSo_274 : decode cL_isStepSo 274 = .ok (.aload_n 0, 1) := by decide +kernel
theorem dL_isStepSo_275 : decode cL_isStepSo 275 = .ok (.invokevirtual 38, 3) := by decide +kernel
theorem dL_isStepSo_278 : decode cL_isStepSo 278 = .ok (.iload 7, 2) := by decide +kernel
theorem dL_isStepSo_280 : decode cL_isStepSo 280 = .ok (.if_icmp .ne 53, 3) := by decide +kernel
theorem dL_isStepSo_283 : decode cL_isStepSo 283 = .ok (.iload 7, 2) := by decide +kernel
theorem dL_isStepSo_285 : decode cL_isStepSo 285 = .ok (.bipush 40, 2) := by decide +kernel
theorem dL_isStepSo_287 : decode cL_isStepSo 287 = .ok (.if_icmp .eq 17, 3) := by decide +kernel
theorem dL_isStepSo_290 : decode cL_isStepSo 290 = .ok (.aload_n 0, 1) := by decide +kernel
theorem dL_isStepSo_291 : decode cL_isStepSo 291 = .ok (.invokevirtual 146, 3) := by decide +kernel
theorem dL_isStepSo_294 : decode cL_isStepSo 294 = .ok (.ifCond .ne 10, 3) := by decide +kernel
theorem dL_isStepSo_297 : decode cL_isStepSo 297 = .ok (.aload_n 0, 1) := by decide +kernel
theorem dL_isStepSo_298 : decode cL_isStepSo 298 = .ok (.invokevirtual 150, 3) := by decide +kernel
theorem dL_isStepSo_301 : decode cL_isStepSo 301 = .ok (.ifCond .eq 32, 3) := by decide +kernel
theorem dL_isStepSo_304 : decode cL_isStepSo 304 = .ok (.aload_n 0, 1) := by decide +kernel
theorem dL_isStepSo_305 : decode cL_isStepSo 305 = .ok (.invokevirtual 186, 3) := by decide +kernel
theorem dL_isStepSo_308 : decode cL_isStepSo 308 = .ok (.ifCond .lt 25, 3) := by decide +kernel
theorem dL_isStepSo_311 : decode cL_isStepSo 311 = .ok (.aload_n 0, 1) := by decide +kernel
theorem dL_isStepSo_312 : decode cL_isStepSo 312 = .ok (.invokevirtual 71, 3) := by decide +kernel
theorem dL_isStepSo_315 : decode cL_isStepSo 315 = .ok (.iload 8, 2) := by decide +kernel
theorem dL_isStepSo_317 : decode cL_isStepSo 317 = .ok (.if_icmp .ne 16, 3) := by decide +kernel
theorem dL_isStepSo_320 : decode cL_isStepSo 320 = .ok (.aload_n 0, 1) := by decide +kernel
theorem dL_isStepSo_321 : decode cL_isStepSo 321 = .ok (.invokevirtual 103, 3) := by decide +kernel
theorem dL_isStepSo_324 : decode cL_isStepSo 324 = .ok (.lload_n 3, 1) := by decide +kernel
theorem dL_isStepSo_325 : decode cL_isStepSo 325 = .ok (.lcmp, 1) := by decide +kernel
theorem dL_isStepSo_326 : decode cL_isStepSo 326 = .ok (.ifCond .ne 7, 3) := by decide +kernel
theorem dL_isStepSo_329 : decode cL_isStepSo 329 = .ok (.iconst 1, 1) := by decide +kernel
theorem dL_isStepSo_330 : decode cL_isStepSo 330 = .ok (.goto 4, 3) := by decide +kernel
theorem dL_isStepSo_333 : decode cL_isStepSo 333 = .ok (.iconst 0, 1) := by decide +kernel
theorem dL_isStepSo_334 : decode cL_isStepSo 334 = .ok (.ireturn, 1) := by decide +kernel
theorem dL_law_0 : decode cL_law 0 = .ok (.new 9, 3) := by decide +kernel
theorem dL_law_3 : decode cL_law 3 = .ok (.dup, 1) := by decide +kernel
theorem dL_law_4 : decode cL_law 4 = .ok (.invokespecial 189, 3) := by decide +kernel
theorem dL_law_7 : decode cL_law 7 = .ok (.astore_n 1, 1) := by decide +kernel
theorem dL_law_8 : decode cL_law 8 = .ok (.new 9, 3) := by decide +kernel
theorem dL_law_11 : decode cL_law 11 = .ok (.dup, 1) := by decide +kernel
theorem dL_law_12 : decode cL_law 12 = .ok (.invokespecial 189, 3) := by decide +kernel
theorem dL_law_15 : decode cL_law 15 = .ok (.astore_n 2, 1) := by decide +kernel
theorem dL_law_16 : decode cL_law 16 = .ok (.iconst 1, 1) := by decide +kernel
theorem dL_law_17 : decode cL_law 17 = .ok (.newarray .int, 2) := by decide +kernel
theorem dL_law_19 : decode cL_law 19 = .ok (.astore_n 3, 1) := by decide +kernel
theorem dL_law_20 : decode cL_law 20 = .ok (.iconst 0, 1) := by decide +kernel
theorem dL_law_21 : decode cL_law 21 = .ok (.istore 4, 2) := by decide +kernel
theorem dL_law_23 : decode cL_law 23 = .ok (.iload 4, 2) := by decide +kernel
theorem dL_law_25 : decode cL_law 25 = .ok (.bipush 52, 2) := by decide +kernel
theorem dL_law_27 : decode cL_law 27 = .ok (.if_icmp .ge 210, 3) := by decide +kernel
theorem dL_law_30 : decode cL_law 30 = .ok (.aload_n 0, 1) := by decide +kernel
theorem dL_law_31 : decode cL_law 31 = .ok (.iload 4, 2) := by decide +kernel
theorem dL_law_33 : decode cL_law 33 = .ok (.invokestatic 190, 3) := by decide +kernel
theorem dL_law_36 : decode cL_law 36 = .ok (.istore 5, 2) := by decide +kernel
theorem dL_law_38 : decode cL_law 38 = .ok (.aload_n 1, 1) := by decide +kernel
theorem dL_law_39 : decode cL_law 39 = .ok (.invokevirtual 194, 3) := by decide +kernel
theorem dL_law_42 : decode cL_law 42 = .ok (.istore 6, 2) := by decide +kernel
theorem dL_law_44 : decode cL_law 44 = .ok (.aload_n 1, 1) := by decide +kernel
theorem dL_law_45 : decode cL_law 45 = .ok (.iload 5, 2) := by decide +kernel
theorem dL_law_47 : decode cL_law 47 = .ok (.aload_n 3, 1) := by decide +kernel
theorem dL_law_48 : decode cL_law 48 = .ok (.invokestatic 197, 3) := by decide +kernel
theorem dL_law_51 : decode cL_law 51 = .ok (.istore 7, 2) := by decide +kernel
theorem dL_law_53 : decode cL_law 53 = .ok (.aload_n 3, 1) := by decide +kernel
theorem dL_law_54 : decode cL_law 54 = .ok (.iconst 0, 1) := by decide +kernel
theorem dL_law_55 : decode cL_law 55 = .ok (.iaload, 1) := by decide +kernel
theorem dL_law_56 : decode cL_law 56 = .ok (.istore 8, 2) := by decide +kernel
theorem dL_law_58 : decode cL_law 58 = .ok (.iload 7, 2) := by decide +kernel
theorem dL_law_60 : decode cL_law 60 = .ok (.ifCond .eq 22, 3) := by decide +kernel
theorem dL_law_63 : decode cL_law 63 = .ok (.aload_n 1, 1) := by decide +kernel
theorem dL_law_64 : decode cL_law 64 = .ok (.aload_n 2, 1) := by decide +kernel
theorem dL_law_65 : decode cL_law 65 = .ok (.invokestatic 201, 3) := by decide +kernel
theorem dL_law_68 : decode cL_law 68 = .ok (.ifCond .eq 12, 3) := by decide +kernel
theorem dL_law_71 : decode cL_law 71 = .ok (.aload_n 1, 1) := by decide +kernel
theorem dL_law_72 : decode cL_law 72 = .ok (.invokevirtual 194, 3) := by decide +kernel
theorem dL_law_75 : decode cL_law 75 = .ok (.iload 6, 2) := by decide +kernel
theorem dL_law_77 : decode cL_law 77 = .ok (.if_icmp .eq 5, 3) := by decide +kernel
theorem dL_law_80 : decode cL_law 80 = .ok (.iconst 0, 1) := by decide +kernel
theorem dL_law_81 : decode cL_law 81 = .ok (.ireturn, 1) := by decide +kernel
theorem dL_law_82 : decode cL_law 82 = .ok (.iload 7, 2) := by decide +kernel
theorem dL_law_84 : decode cL_law 84 = .ok (.ifCond .ne 65, 3) := by decide +kernel
theorem dL_law_87 : decode cL_law 87 = .ok (.iload 5, 2) := by decide +kernel
theorem dL_law_89 : decode cL_law 89 = .ok (.bipush 9, 2) := by decide +kernel
theorem dL_law_91 : decode cL_law 91 = .ok (.ishr, 1) := by decide +kernel
theorem dL_law_92 : decode cL_law 92 = .ok (.iconst 1, 1) := by decide +kernel
theorem dL_law_93 : decode cL_law 93 = .ok (.iand, 1) := by decide +kernel
theorem dL_law_94 : decode cL_law 94 = .ok (.ifCond .ne 55, 3) := by decide +kernel
theorem dL_law_97 : decode cL_law 97 = .ok (.aload_n 1, 1) := by decide +kernel
theorem dL_law_98 : decode cL_law 98 = .ok (.invokevirtual 186, 3) := by decide +kernel
theorem dL_law_101 : decode cL_law 101 = .ok (.istore 9, 2) := by decide +kernel
theorem dL_law_103 : decode cL_law 103 = .ok (.iload 9, 2) := by decide +kernel
theorem dL_law_105 : decode cL_law 105 = .ok (.iload 6, 2) := by decide +kernel
theorem dL_law_107 : decode cL_law 107 = .ok (.bipush 6, 2) := by decide +kernel
theorem dL_law_109 : decode cL_law 109 = .ok (.if_icmp .ne 7, 3) := by decide +kernel
theorem dL_law_112 : decode cL_law 112 = .ok (.iconst 5, 1) := by decide +kernel
theorem dL_law_113 : decode cL_law 113 = .ok (.goto 5, 3) := by decide +kernel
theorem dL_law_116 : decode cL_law 116 = .ok (.iload 6, 2) := by decide +kernel
theorem dL_law_118 : decode cL_law 118 = .ok (.if_icmp .ne 29, 3) := by decide +kernel
theorem dL_law_121 : decode cL_law 121 = .ok (.aload_n 1, 1) := by decide +kernel
theorem dL_law_122 : decode cL_law 122 = .ok (.aload_n 2, 1) := by decide +kernel
theorem dL_law_123 : decode cL_law 123 = .ok (.invokestatic 201, 3) := by decide +kernel
theorem dL_law_126 : decode cL_law 126 = .ok (.ifCond .eq 21, 3) := by decide +kernel
theorem dL_law_129 : decode cL_law 129 = .ok (.aload_n 1, 1) := by decide +kernel
theorem dL_law_130 : decode cL_law 130 = .ok (.iload 5, 2) := by decide +kernel
theorem dL_law_132 : decode cL_law 132 = .ok (.aload_n 3, 1) := by decide +kernel
theorem dL_law_133 : decode cL_law 133 = .ok (.invokestatic 197, 3) := by decide +kernel
theorem dL_law_136 : decode cL_law 136 = .ok (.ifCond .ne 11, 3) := by decide +kernel
theorem dL_law_139 : decode cL_law 139 = .ok (.aload_n 3, 1) := by decide +kernel
theorem dL_law_140 : decode cL_law 140 = .ok (.iconst 0, 1) := by decide +kernel
theorem dL_law_141 : decode cL_law 141 = .ok (.iaload, 1) := by decide +kernel
theorem dL_law_142 : decode cL_law 142 = .ok (.iload 8, 2) := by decide +kernel
theorem dL_law_144 : decode cL_law 144 = .ok (.if_icmp .eq 5, 3) := by decide +kernel
theorem dL_law_147 : decode cL_law 147 = .ok (.iconst 0, 1) := by decide +kernel
theorem dL_law_148 : decode cL_law 148 = .ok (.ireturn, 1) := by decide +kernel
theorem dL_law_149 : decode cL_law 149 = .ok (.aload_n 2, 1) := by decide +kernel
theorem dL_law_150 : decode cL_law 150 = .ok (.iload 5, 2) := by decide +kernel
theorem dL_law_152 : decode cL_law 152 = .ok (.aload_n 3, 1) := by decide +kernel
theorem dL_law_153 : decode cL_law 153 = .ok (.invokestatic 197, 3) := by decide +kernel
theorem dL_law_156 : decode cL_law 156 = .ok (.iload 7, 2) := by decide +kernel
theorem dL_law_158 : decode cL_law 158 = .ok (.if_icmp .ne 24, 3) := by decide +kernel
theorem dL_law_161 : decode cL_law 161 = .ok (.iload 7, 2) := by decide +kernel
theorem dL_law_163 : decode cL_law 163 = .ok (.ifCond .ne 11, 3) := by decide +kernel
theorem dL_law_166 : decode cL_law 166 = .ok (.aload_n 3, 1) := by decide +kernel
theorem dL_law_167 : decode cL_law 167 = .ok (.iconst 0, 1) := by decide +kernel
theorem dL_law_168 : decode cL_law 168 = .ok (.iaload, 1) := by decide +kernel
theorem dL_law_169 : decode cL_law 169 = .ok (.iload 8, 2) := by decide +kernel
theorem dL_law_171 : decode cL_law 171 = .ok (.if_icmp .ne 11, 3) := by decide +kernel
theorem dL_law_174 : decode cL_law 174 = .ok (.aload_n 1, 1) := by decide +kernel
theorem dL_law_175 : decode cL_law 175 = .ok (.aload_n 2, 1) := by decide +kernel
theorem dL_law_176 : decode cL_law 176 = .ok (.invokestatic 201, 3) := by decide +kernel
theorem dL_law_179 : decode cL_law 179 = .ok (.ifCond .ne 5, 3) := by decide +kernel
theorem dL_law_182 : decode cL_law 182 = .ok (.iconst 0, 1) := by decide +kernel
theorem dL_law_183 : decode cL_law 183 = .ok (.ireturn, 1) := by decide +kernel
theorem dL_law_184 : decode cL_law 184 = .ok (.iload 4, 2) := by decide +kernel
theorem dL_law_186 : decode cL_law 186 = .ok (.iconst 3, 1) := by decide +kernel
theorem dL_law_187 : decode cL_law 187 = .ok (.irem, 1) := by decide +kernel
theorem dL_law_188 : decode cL_law 188 = .ok (.iconst 2, 1) := by decide +kernel
theorem dL_law_189 : decode cL_law 189 = .ok (.if_icmp .ne 42, 3) := by decide +kernel
theorem dL_law_192 : decode cL_law 192 = .ok (.aload_n 1, 1) := by decide +kernel
theorem dL_law_193 : decode cL_law 193 = .ok (.invokestatic 205, 3) := by decide +kernel
theorem dL_law_196 : decode cL_law 196 = .ok (.ifCond .eq 33, 3) := by decide +kernel
theorem dL_law_199 : decode cL_law 199 = .ok (.aload_n 1, 1) := by decide +kernel
theorem dL_law_200 : decode cL_law 200 = .ok (.invokestatic 209, 3) := by decide +kernel
theorem dL_law_203 : decode cL_law 203 = .ok (.ifCond .eq 26, 3) := by decide +kernel
theorem dL_law_206 : decode cL_law 206 = .ok (.aload_n 1, 1) := by decide +kernel
theorem dL_law_207 : decode cL_law 207 = .ok (.invokestatic 212, 3) := by decide +kernel
theorem dL_law_210 : decode cL_law 210 = .ok (.ifCond .eq 19, 3) := by decide +kernel
theorem dL_law_213 : decode cL_law 213 = .ok (.aload_n 1, 1) := by decide +kernel
theorem dL_law_214 : decode cL_law 214 = .ok (.aload_n 3, 1) := by decide +kernel
theorem dL_law_215 : decode cL_law 215 = .ok (.invokestatic 215, 3) := by decide +kernel
theorem dL_law_218 : decode cL_law 218 = .ok (.ifCond .eq 11, 3) := by decide +kernel
theorem dL_law_221 : decode cL_law 221 = .ok (.aload_n 1, 1) := by decide +kernel
theorem dL_law_222 : decode cL_law 222 = .ok (.aload_n 2, 1) := by decide +kernel
theorem dL_law_223 : decode cL_law 223 = .ok (.invokestatic 201, 3) := by decide +kernel
theorem dL_law_226 : decode cL_law 226 = .ok (.ifCond .ne 5, 3) := by decide +kernel
theorem dL_law_229 : decode cL_law 229 = .ok (.iconst 0, 1) := by decide +kernel
theorem dL_law_230 : decode cL_law 230 = .ok (.ireturn, 1) := by decide +kernel
theorem dL_law_231 : decode cL_law 231 = .ok (.iinc 4 1, 3) := by decide +kernel
theorem dL_law_234 : decode cL_law 234 = .ok (.goto (-211), 3) := by decide +kernel
theorem dL_law_237 : decode cL_law 237 = .ok (.aload_n 1, 1) := by decide +kernel
theorem dL_law_238 : decode cL_law 238 = .ok (.invokestatic 205, 3) := by decide +kernel
theorem dL_law_241 : decode cL_law 241 = .ok (.ireturn, 1) := by decide +kernel
