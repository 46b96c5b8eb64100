theorem dL_cell_0 : decode cL_cell 0 = .ok (.iload_n 1, 1) := by decide +kernel
theorem dL_cell_1 : decode cL_cell 1 = .ok (.aload_n 0, 1) := by decide +kernel
theorem dL_cell_2 : decode cL_cell 2 = .ok (.arraylength, 1) := by decide +kernel
theorem dL_cell_3 : decode cL_cell 3 = .ok (.if_icmp .ge 9, 3) := by decide +kernel
theorem dL_cell_6 : decode cL_cell 6 = .ok (.aload_n 0, 1) := by decide +kernel
theorem dL_cell_7 : decode cL_cell 7 = .ok (.iload_n 1, 1) := by decide +kernel
theorem dL_cell_8 : decode cL_cell 8 = .ok (.iaload, 1) := by decide +kernel
theorem dL_cell_9 : decode cL_cell 9 = .ok (.goto 9, 3) := by decide +kernel
theorem dL_cell_12 : decode cL_cell 12 = .ok (.ldc 7, 2) := by decide +kernel
theorem dL_cell_14 : decode cL_cell 14 = .ok (.iload_n 1, 1) := by decide +kernel
theorem dL_cell_15 : decode cL_cell 15 = .ok (.iconst 1, 1) := by decide +kernel
theorem dL_cell_16 : decode cL_cell 16 = .ok (.iadd, 1) := by decide +kernel
theorem dL_cell_17 : decode cL_cell 17 = .ok (.imul, 1) := by decide +kernel
theorem dL_cell_18 : decode cL_cell 18 = .ok (.ireturn, 1) := by decide +kernel
theorem dL_low_0 : decode cL_low 0 = .ok (.iload_n 0, 1) := by decide +kernel
theorem dL_low_1 : decode cL_low 1 = .ok (.ldc 8, 2) := by decide +kernel
theorem dL_low_3 : decode cL_low 3 = .ok (.iand, 1) := by decide +kernel
theorem dL_low_4 : decode cL_low 4 = .ok (.iload_n 1, 1) := by decide +kernel
theorem dL_low_5 : decode cL_low 5 = .ok (.irem, 1) := by decide +kernel
theorem dL_low_6 : decode cL_low 6 = .ok (.ireturn, 1) := by decide +kernel
theorem dL_mended_0 : decode cL_mended 0 = .ok (.aload_n 0, 1) := by decide +kernel
theorem dL_mended_1 : decode cL_mended 1 = .ok (.bipush 10, 2) := by decide +kernel
theorem dL_mended_3 : decode cL_mended 3 = .ok (.iload_n 3, 1) := by decide +kernel
theorem dL_mended_4 : decode cL_mended 4 = .ok (.imul, 1) := by decide +kernel
theorem dL_mended_5 : decode cL_mended 5 = .ok (.bipush 7, 2) := by decide +kernel
theorem dL_mended_7 : decode cL_mended 7 = .ok (.iadd, 1) := by decide +kernel
theorem dL_mended_8 : decode cL_mended 8 = .ok (.iaload, 1) := by decide +kernel
theorem dL_mended_9 : decode cL_mended 9 = .ok (.istore 5, 2) := by decide +kernel
theorem dL_mended_11 : decode cL_mended 11 = .ok (.iload 5, 2) := by decide +kernel
theorem dL_mended_13 : decode cL_mended 13 = .ok (.iconst 1, 1) := by decide +kernel
theorem dL_mended_14 : decode cL_mended 14 = .ok (.if_icmp .ge 6, 3) := by decide +kernel
theorem dL_mended_17 : decode cL_mended 17 = .ok (.ldc 11, 2) := by decide +kernel
theorem dL_mended_19 : decode cL_mended 19 = .ok (.ireturn, 1) := by decide +kernel
theorem dL_mended_20 : decode cL_mended 20 = .ok (.iload 5, 2) := by decide +kernel
theorem dL_mended_22 : decode cL_mended 22 = .ok (.iconst 2, 1) := by decide +kernel
theorem dL_mended_23 : decode cL_mended 23 = .ok (.if_icmp .ge 7, 3) := by decide +kernel
theorem dL_mended_26 : decode cL_mended 26 = .ok (.iconst 0, 1) := by decide +kernel
theorem dL_mended_27 : decode cL_mended 27 = .ok (.goto 39, 3) := by decide +kernel
theorem dL_mended_30 : decode cL_mended 30 = .ok (.aload_n 2, 1) := by decide +kernel
theorem dL_mended_31 : decode cL_mended 31 = .ok (.bipush 6, 2) := by decide +kernel
theorem dL_mended_33 : decode cL_mended 33 = .ok (.iload_n 3, 1) := by decide +kernel
theorem dL_mended_34 : decode cL_mended 34 = .ok (.imul, 1) := by decide +kernel
theorem dL_mended_35 : decode cL_mended 35 = .ok (.iaload, 1) := by decide +kernel
theorem dL_mended_36 : decode cL_mended 36 = .ok (.aload_n 2, 1) := by decide +kernel
theorem dL_mended_37 : decode cL_mended 37 = .ok (.bipush 6, 2) := by decide +kernel
theorem dL_mended_39 : decode cL_mended 39 = .ok (.iload_n 3, 1) := by decide +kernel
theorem dL_mended_40 : decode cL_mended 40 = .ok (.imul, 1) := by decide +kernel
theorem dL_mended_41 : decode cL_mended 41 = .ok (.iconst 1, 1) := by decide +kernel
theorem dL_mended_42 : decode cL_mended 42 = .ok (.iadd, 1) := by decide +kernel
theorem dL_mended_43 : decode cL_mended 43 = .ok (.iaload, 1) := by decide +kernel
theorem dL_mended_44 : decode cL_mended 44 = .ok (.isub, 1) := by decide +kernel
theorem dL_mended_45 : decode cL_mended 45 = .ok (.iload 4, 2) := by decide +kernel
theorem dL_mended_47 : decode cL_mended 47 = .ok (.iconst 1, 1) := by decide +kernel
theorem dL_mended_48 : decode cL_mended 48 = .ok (.isub, 1) := by decide +kernel
theorem dL_mended_49 : decode cL_mended 49 = .ok (.imul, 1) := by decide +kernel
theorem dL_mended_50 : decode cL_mended 50 = .ok (.aload_n 1, 1) := by decide +kernel
theorem dL_mended_51 : decode cL_mended 51 = .ok (.bipush 6, 2) := by decide +kernel
theorem dL_mended_53 : decode cL_mended 53 = .ok (.iload_n 3, 1) := by decide +kernel
theorem dL_mended_54 : decode cL_mended 54 = .ok (.imul, 1) := by decide +kernel
theorem dL_mended_55 : decode cL_mended 55 = .ok (.iaload, 1) := by decide +kernel
theorem dL_mended_56 : decode cL_mended 56 = .ok (.aload_n 1, 1) := by decide +kernel
theorem dL_mended_57 : decode cL_mended 57 = .ok (.bipush 6, 2) := by decide +kernel
theorem dL_mended_59 : decode cL_mended 59 = .ok (.iload_n 3, 1) := by decide +kernel
theorem dL_mended_60 : decode cL_mended 60 = .ok (.imul, 1) := by decide +kernel
theorem dL_mended_61 : decode cL_mended 61 = .ok (.iconst 1, 1) := by decide +kernel
theorem dL_mended_62 : decode cL_mended 62 = .ok (.iadd, 1) := by decide +kernel
theorem dL_mended_63 : decode cL_mended 63 = .ok (.iaload, 1) := by decide +kernel
theorem dL_mended_64 : decode cL_mended 64 = .ok (.isub, 1) := by decide +kernel
theorem dL_mended_65 : decode cL_mended 65 = .ok (.idiv, 1) := by decide +kernel
theorem dL_mended_66 : decode cL_mended 66 = .ok (.istore 6, 2) := by decide +kernel
theorem dL_mended_68 : decode cL_mended 68 = .ok (.aload_n 2, 1) := by decide +kernel
theorem dL_mended_69 : decode cL_mended 69 = .ok (.bipush 6, 2) := by decide +kernel
theorem dL_mended_71 : decode cL_mended 71 = .ok (.iload_n 3, 1) := by decide +kernel
theorem dL_mended_72 : decode cL_mended 72 = .ok (.imul, 1) := by decide +kernel
theorem dL_mended_73 : decode cL_mended 73 = .ok (.iaload, 1) := by decide +kernel
theorem dL_mended_74 : decode cL_mended 74 = .ok (.iload 6, 2) := by decide +kernel
theorem dL_mended_76 : decode cL_mended 76 = .ok (.iadd, 1) := by decide +kernel
theorem dL_mended_77 : decode cL_mended 77 = .ok (.aload_n 0, 1) := by decide +kernel
theorem dL_mended_78 : decode cL_mended 78 = .ok (.bipush 10, 2) := by decide +kernel
theorem dL_mended_80 : decode cL_mended 80 = .ok (.iload_n 3, 1) := by decide +kernel
theorem dL_mended_81 : decode cL_mended 81 = .ok (.imul, 1) := by decide +kernel
theorem dL_mended_82 : decode cL_mended 82 = .ok (.iconst 2, 1) := by decide +kernel
theorem dL_mended_83 : decode cL_mended 83 = .ok (.iadd, 1) := by decide +kernel
theorem dL_mended_84 : decode cL_mended 84 = .ok (.iaload, 1) := by decide +kernel
theorem dL_mended_85 : decode cL_mended 85 = .ok (.isub, 1) := by decide +kernel
theorem dL_mended_86 : decode cL_mended 86 = .ok (.ireturn, 1) := by decide +kernel
theorem dL_own_0 : decode cL_own 0 = .ok (.aload_n 0, 1) := by decide +kernel
theorem dL_own_1 : decode cL_own 1 = .ok (.aload_n 1, 1) := by decide +kernel
theorem dL_own_2 : decode cL_own 2 = .ok (.aload_n 2, 1) := by decide +kernel
theorem dL_own_3 : decode cL_own 3 = .ok (.iload_n 3, 1) := by decide +kernel
theorem dL_own_4 : decode cL_own 4 = .ok (.aload_n 0, 1) := by decide +kernel
theorem dL_own_5 : decode cL_own 5 = .ok (.bipush 10, 2) := by decide +kernel
theorem dL_own_7 : decode cL_own 7 = .ok (.iload_n 3, 1) := by decide +kernel
theorem dL_own_8 : decode cL_own 8 = .ok (.imul, 1) := by decide +kernel
theorem dL_own_9 : decode cL_own 9 = .ok (.iconst 1, 1) := by decide +kernel
theorem dL_own_10 : decode cL_own 10 = .ok (.iadd, 1) := by decide +kernel
theorem dL_own_11 : decode cL_own 11 = .ok (.iaload, 1) := by decide +kernel
theorem dL_own_12 : decode cL_own 12 = .ok (.invokestatic 12, 3) := by decide +kernel
theorem dL_own_15 : decode cL_own 15 = .ok (.ireturn, 1) := by decide +kernel
theorem dL_asked_0 : decode cL_asked 0 = .ok (.aload_n 0, 1) := by decide +kernel
theorem dL_asked_1 : decode cL_asked 1 = .ok (.bipush 10, 2) := by decide +kernel
theorem dL_asked_3 : decode cL_asked 3 = .ok (.iload_n 1, 1) := by decide +kernel
theorem dL_asked_4 : decode cL_asked 4 = .ok (.imul, 1) := by decide +kernel
theorem dL_asked_5 : decode cL_asked 5 = .ok (.bipush 7, 2) := by decide +kernel
theorem dL_asked_7 : decode cL_asked 7 = .ok (.iadd, 1) := by decide +kernel
theorem dL_asked_8 : decode cL_asked 8 = .ok (.iaload, 1) := by decide +kernel
theorem dL_asked_9 : decode cL_asked 9 = .ok (.ifCond .le 19, 3) := by decide +kernel
theorem dL_asked_12 : decode cL_asked 12 = .ok (.aload_n 0, 1) := by decide +kernel
theorem dL_asked_13 : decode cL_asked 13 = .ok (.bipush 10, 2) := by decide +kernel
theorem dL_asked_15 : decode cL_asked 15 = .ok (.iload_n 1, 1) := by decide +kernel
theorem dL_asked_16 : decode cL_asked 16 = .ok (.imul, 1) := by decide +kernel
theorem dL_asked_17 : decode cL_asked 17 = .ok (.bipush 6, 2) := by decide +kernel
theorem dL_asked_19 : decode cL_asked 19 = .ok (.iadd, 1) := by decide +kernel
theorem dL_asked_20 : decode cL_asked 20 = .ok (.iaload, 1) := by decide +kernel
theorem dL_asked_21 : decode cL_asked 21 = .ok (.ifCond .ne 7, 3) := by decide +kernel
theorem dL_asked_24 : decode cL_asked 24 = .ok (.iconst 1, 1) := by decide +kernel
theorem dL_asked_25 : decode cL_asked 25 = .ok (.goto 4, 3) := by decide +kernel
theorem dL_asked_28 : decode cL_asked 28 = .ok (.iconst 0, 1) := by decide +kernel
theorem dL_asked_29 : decode cL_asked 29 = .ok (.ireturn, 1) := by decide +kernel
theorem dL_middle_0 : decode cL_middle 0 = .ok (.iconst 0, 1) := by decide +kernel
theorem dL_middle_1 : decode cL_middle 1 = .ok (.istore 5, 2) := by decide +kernel
theorem dL_middle_3 : decode cL_middle 3 = .ok (.iconst 0, 1) := by decide +kernel
theorem dL_middle_4 : decode cL_middle 4 = .ok (.istore 6, 2) := by decide +kernel
theorem dL_middle_6 : decode cL_middle 6 = .ok (.iload 6, 2) := by decide +kernel
theorem dL_middle_8 : decode cL_middle 8 = .ok (.aload_n 3, 1) := by decide +kernel
theorem dL_middle_9 : decode cL_middle 9 = .ok (.bipush 15, 2) := by decide +kernel
theorem dL_middle_11 : decode cL_middle 11 = .ok (.iaload, 1) := by decide +kernel
theorem dL_middle_12 : decode cL_middle 12 = .ok (.if_icmp .ge 35, 3) := by decide +kernel
theorem dL_middle_15 : decode cL_middle 15 = .ok (.iload 5, 2) := by decide +kernel
theorem dL_middle_17 : decode cL_middle 17 = .ok (.iload 6, 2) := by decide +kernel
theorem dL_middle_19 : decode cL_middle 19 = .ok (.iload 4, 2) := by decide +kernel
theorem dL_middle_21 : decode cL_middle 21 = .ok (.if_icmp .eq 16, 3) := by decide +kernel
theorem dL_middle_24 : decode cL_middle 24 = .ok (.aload_n 0, 1) := by decide +kernel
theorem dL_middle_25 : decode cL_middle 25 = .ok (.iload 6, 2) := by decide +kernel
theorem dL_middle_27 : decode cL_middle 27 = .ok (.invokestatic 16, 3) := by decide +kernel
theorem dL_middle_30 : decode cL_middle 30 = .ok (.ifCond .eq 7, 3) := by decide +kernel
theorem dL_middle_33 : decode cL_middle 33 = .ok (.iconst 1, 1) := by decide +kernel
theorem dL_middle_34 : decode cL_middle 34 = .ok (.goto 4, 3) := by decide +kernel
theorem dL_middle_37 : decode cL_middle 37 = .ok (.iconst 0, 1) := by decide +kernel
theorem dL_middle_38 : decode cL_middle 38 = .ok (.iadd, 1) := by decide +kernel
theorem dL_middle_39 : decode cL_middle 39 = .ok (.istore 5, 2) := by decide +kernel
theorem dL_middle_41 : decode cL_middle 41 = .ok (.iinc 6 1, 3) := by decide +kernel
theorem dL_middle_44 : decode cL_middle 44 = .ok (.goto (-38), 3) := by decide +kernel
theorem dL_middle_47 : decode cL_middle 47 = .ok (.iconst 0, 1) := by decide +kernel
theorem dL_middle_48 : decode cL_middle 48 = .ok (.istore 6, 2) := by decide +kernel
theorem dL_middle_50 : decode cL_middle 50 = .ok (.iload 6, 2) := by decide +kernel
theorem dL_middle_52 : decode cL_middle 52 = .ok (.aload_n 3, 1) := by decide +kernel
theorem dL_middle_53 : decode cL_middle 53 = .ok (.bipush 15, 2) := by decide +kernel
theorem dL_middle_55 : decode cL_middle 55 = .ok (.iaload, 1) := by decide +kernel
theorem dL_middle_56 : decode cL_middle 56 = .ok (.if_icmp .ge 149, 3) := by decide +kernel
theorem dL_middle_59 : decode cL_middle 59 = .ok (.iload 6, 2) := by decide +kernel
theorem dL_middle_61 : decode cL_middle 61 = .ok (.iload 4, 2) := by decide +kernel
theorem dL_middle_63 : decode cL_middle 63 = .ok (.if_icmp .eq 136, 3) := by decide +kernel
theorem dL_middle_66 : decode cL_middle 66 = .ok (.aload_n 0, 1) := by decide +kernel
theorem dL_middle_67 : decode cL_middle 67 = .ok (.iload 6, 2) := by decide +kernel
theorem dL_middle_69 : decode cL_middle 69 = .ok (.invokestatic 16, 3) := by decide +kernel
theorem dL_middle_72 : decode cL_middle 72 = .ok (.ifCond .eq 127, 3) := by decide +kernel
theorem dL_middle_75 : decode cL_middle 75 = .ok (.iconst 0, 1) := by decide +kernel
theorem dL_middle_76 : decode cL_middle 76 = .ok (.istore 7, 2) := by decide +kernel
theorem dL_middle_78 : decode cL_middle 78 = .ok (.iconst 0, 1) := by decide +kernel
theorem dL_middle_79 : decode cL_middle 79 = .ok (.istore 8, 2) := by decide +kernel
theorem dL_middle_81 : decode cL_middle 81 = .ok (.iload 8, 2) := by decide +kernel
theorem dL_middle_83 : decode cL_middle 83 = .ok (.aload_n 3, 1) := by decide +kernel
theorem dL_middle_84 : decode cL_middle 84 = .ok (.bipush 15, 2) := by decide +kernel
theorem dL_middle_86 : decode cL_middle 86 = .ok (.iaload, 1) := by decide +kernel
theorem dL_middle_87 : decode cL_middle 87 = .ok (.if_icmp .ge 92, 3) := by decide +kernel
theorem dL_middle_90 : decode cL_middle 90 = .ok (.aload_n 0, 1) := by decide +kernel
theorem dL_middle_91 : decode cL_middle 91 = .ok (.aload_n 1, 1) := by decide +kernel
theorem dL_middle_92 : decode cL_middle 92 = .ok (.aload_n 2, 1) := by decide +kernel
theorem dL_middle_93 : decode cL_middle 93 = .ok (.iload 8, 2) := by decide +kernel
theorem dL_middle_95 : decode cL_middle 95 = .ok (.invokestatic 20, 3) := by decide +kernel
theorem dL_middle_98 : decode cL_middle 98 = .ok (.aload_n 0, 1) := by decide +kernel
theorem dL_middle_99 : decode cL_middle 99 = .ok (.aload_n 1, 1) := by decide +kernel
theorem dL_middle_100 : decode cL_middle 100 = .ok (.aload_n 2, 1) := by decide +kernel
theorem dL_middle_101 : decode cL_middle 101 = .ok (.iload 6, 2) := by decide +kernel
theorem dL_middle_103 : decode cL_middle 103 = .ok (.invokestatic 20, 3) := by decide +kernel
theorem dL_middle_106 : decode cL_middle 106 = .ok (.if_icmp .lt 29, 3) := by decide +kernel
theorem dL_middle_109 : decode cL_middle 109 = .ok (.aload_n 0, 1) := by decide +kernel
theorem dL_middle_110 : decode cL_middle 110 = .ok (.aload_n 1, 1) := by decide +kernel
theorem dL_middle_111 : decode cL_middle 111 = .ok (.aload_n 2, 1) := by decide +kernel
theorem dL_middle_112 : decode cL_middle 112 = .ok (.iload 8, 2) := by decide +kernel
theorem dL_middle_114 : decode cL_middle 114 = .ok (.invokestatic 20, 3) := by decide +kernel
theorem dL_middle_117 : decode cL_middle 117 = .ok (.aload_n 0, 1) := by decide +kernel
theorem dL_middle_118 : decode cL_middle 118 = .ok (.aload_n 1, 1) := by decide +kernel
theorem dL_middle_119 : decode cL_middle 119 = .ok (.aload_n 2, 1) := by decide +kernel
theorem dL_middle_120 : decode cL_middle 120 = .ok (.iload 6, 2) := by decide +kernel
theorem dL_middle_122 : decode cL_middle 122 = .ok (.invokestatic 20, 3) := by decide +kernel
theorem dL_middle_125 : decode cL_middle 125 = .ok (.if_icmp .ne 14, 3) := by decide +kernel
theorem dL_middle_128 : decode cL_middle 128 = .ok (.iload 8, 2) := by decide +kernel
theorem dL_middle_130 : decode cL_middle 130 = .ok (.iload 6, 2) := by decide +kernel
theorem dL_middle_132 : decode cL_middle 132 = .ok (.if_icmp .ge 7, 3) := by decide +kernel
theorem dL_middle_135 : decode cL_middle 135 = .ok (.iconst 1, 1) := by decide +kernel
theorem dL_middle_136 : decode cL_middle 136 = .ok (.goto 4, 3) := by decide +kernel
theorem dL_middle_139 : decode cL_middle 139 = .ok (.iconst 0, 1) := by decide +kernel
theorem dL_middle_140 : decode cL_middle 140 = .ok (.istore 9, 2) := by decide +kernel
theorem dL_middle_142 : decode cL_middle 142 = .ok (.iload 7, 2) := by decide +kernel
theorem dL_middle_144 : decode cL_middle 144 = .ok (.iload 8, 2) := by decide +kernel
theorem dL_middle_146 : decode cL_middle 146 = .ok (.iload 4, 2) := by decide +kernel
theorem dL_middle_148 : decode cL_middle 148 = .ok (.if_icmp .eq 21, 3) := by decide +kernel
theorem dL_middle_151 : decode cL_middle 151 = .ok (.aload_n 0, 1) := by decide +kernel
theorem dL_middle_152 : decode cL_middle 152 = .ok (.iload 8, 2) := by decide +kernel
theorem dL_middle_154 : decode cL_middle 154 = .ok (.invokestatic 16, 3) := by decide +kernel
theorem dL_middle_157 : decode cL_middle 157 = .ok (.ifCond .eq 12, 3) := by decide +kernel
theorem dL_middle_160 : decode cL_middle 160 = .ok (.iload 9, 2) := by decide +kernel
theorem dL_middle_162 : decode cL_middle 162 = .ok (.ifCond .eq 7, 3) := by decide +kernel
theorem dL_middle_165 : decode cL_middle 165 = .ok (.iconst 1, 1) := by decide +kernel
theorem dL_middle_166 : decode cL_middle 166 = .ok (.goto 4, 3) := by decide +kernel
theorem dL_middle_169 : decode cL_middle 169 = .ok (.iconst 0, 1) := by decide +kernel
theorem dL_middle_170 : decode cL_middle 170 = .ok (.iadd, 1) := by decide +kernel
theorem dL_middle_171 : decode cL_middle 171 = .ok (.istore 7, 2) := by decide +kernel
theorem dL_middle_173 : decode cL_middle 173 = .ok (.iinc 8 1, 3) := by decide +kernel
theorem dL_middle_176 : decode cL_middle 176 = .ok (.goto (-95), 3) := by decide +kernel
theorem dL_middle_179 : decode cL_middle 179 = .ok (.iload 7, 2) := by decide +kernel
theorem dL_middle_181 : decode cL_middle 181 = .ok (.iload 5, 2) := by decide +kernel
theorem dL_middle_183 : decode cL_middle 183 = .ok (.iconst 1, 1) := by decide +kernel
theorem dL_middle_184 : decode cL_middle 184 = .ok (.isub, 1) := by decide +kernel
theorem dL_middle_185 : decode cL_middle 185 = .ok (.iconst 2, 1) := by decide +kernel
theorem dL_middle_186 : decode cL_middle 186 = .ok (.idiv, 1) := by decide +kernel
theorem dL_middle_187 : decode cL_middle 187 = .ok (.if_icmp .ne 12, 3) := by decide +kernel
theorem dL_middle_190 : decode cL_middle 190 = .ok (.aload_n 0, 1) := by decide +kernel
theorem dL_middle_191 : decode cL_middle 191 = .ok (.aload_n 1, 1) := by decide +kernel
theorem dL_middle_192 : decode cL_middle 192 = .ok (.aload_n 2, 1) := by decide +kernel
theorem dL_middle_193 : decode cL_middle 193 = .ok (.iload 6, 2) := by decide +kernel
theorem dL_middle_195 : decode cL_middle 195 = .ok (.invokestatic 20, 3) := by decide +kernel
theorem dL_middle_198 : decode cL_middle 198 = .ok (.ireturn, 1) := by decide +kernel
theorem dL_middle_199 : decode cL_middle 199 = .ok (.iinc 6 1, 3) := by decide +kernel
theorem dL_middle_202 : decode cL_middle 202 = .ok (.goto (-152), 3) := by decide +kernel
theorem dL_middle_205 : decode cL_middle 205 = .ok (.ldc 11, 2) := by decide +kernel
theorem dL_middle_207 : decode cL_middle 207 = .ok (.ireturn, 1) := by decide +kernel
theorem dL_mean_0 : decode cL_mean 0 = .ok (.iconst 0, 1) := by decide +kernel
theorem dL_mean_1 : decode cL_mean 1 = .ok (.istore 4, 2) := by decide +kernel
theorem dL_mean_3 : decode cL_mean 3 = .ok (.iconst 0, 1) := by decide +kernel
theorem dL_mean_4 : decode cL_mean 4 = .ok (.istore 5, 2) := by decide +kernel
theorem dL_mean_6 : decode cL_mean 6 = .ok (.iconst 0, 1) := by decide +kernel
theorem dL_mean_7 : decode cL_mean 7 = .ok (.istore 6, 2) := by decide +kernel
theorem dL_mean_9 : decode cL_mean 9 = .ok (.iload 6, 2) := by decide +kernel
theorem dL_mean_11 : decode cL_mean 11 = .ok (.aload_n 3, 1) := by decide +kernel
theorem dL_mean_12 : decode cL_mean 12 = .ok (.bipush 15, 2) := by decide +kernel
theorem dL_mean_14 : decode cL_mean 14 = .ok (.iaload, 1) := by decide +kernel
theorem dL_mean_15 : decode cL_mean 15 = .ok (.if_icmp .ge 72, 3) := by decide +kernel
theorem dL_mean_18 : decode cL_mean 18 = .ok (.iload 4, 2) := by decide +kernel
theorem dL_mean_20 : decode cL_mean 20 = .ok (.aload_n 0, 1) := by decide +kernel
theorem dL_mean_21 : decode cL_mean 21 = .ok (.iload 6, 2) := by decide +kernel
theorem dL_mean_23 : decode cL_mean 23 = .ok (.invokestatic 16, 3) := by decide +kernel
theorem dL_mean_26 : decode cL_mean 26 = .ok (.ifCond .eq 24, 3) := by decide +kernel
theorem dL_mean_29 : decode cL_mean 29 = .ok (.aload_n 0, 1) := by decide +kernel
theorem dL_mean_30 : decode cL_mean 30 = .ok (.bipush 10, 2) := by decide +kernel
theorem dL_mean_32 : decode cL_mean 32 = .ok (.iload 6, 2) := by decide +kernel
theorem dL_mean_34 : decode cL_mean 34 = .ok (.imul, 1) := by decide +kernel
theorem dL_mean_35 : decode cL_mean 35 = .ok (.iconst 3, 1) := by decide +kernel
theorem dL_mean_36 : decode cL_mean 36 = .ok (.iadd, 1) := by decide +kernel
theorem dL_mean_37 : decode cL_mean 37 = .ok (.iaload, 1) := by decide +kernel
theorem dL_mean_38 : decode cL_mean 38 = .ok (.aload_n 0, 1) := by decide +kernel
theorem dL_mean_39 : decode cL_mean 39 = .ok (.aload_n 1, 1) := by decide +kernel
theorem dL_mean_40 : decode cL_mean 40 = .ok (.aload_n 2, 1) := by decide +kernel
theorem dL_mean_41 : decode cL_mean 41 = .ok (.iload 6, 2) := by decide +kernel
theorem dL_mean_43 : decode cL_mean 43 = .ok (.invokestatic 20, 3) := by decide +kernel
theorem dL_mean_46 : decode cL_mean 46 = .ok (.imul, 1) := by decide +kernel
theorem dL_mean_47 : decode cL_mean 47 = .ok (.goto 4, 3) := by decide +kernel
theorem dL_mean_50 : decode cL_mean 50 = .ok (.iconst 0, 1) := by decide +kernel
theorem dL_mean_51 : decode cL_mean 51 = .ok (.iadd, 1) := by decide +kernel
theorem dL_mean_52 : decode cL_mean 52 = .ok (.istore 4, 2) := by decide +kernel
theorem dL_mean_54 : decode cL_mean 54 = .ok (.iload 5, 2) := by decide +kernel
theorem dL_mean_56 : decode cL_mean 56 = .ok (.aload_n 0, 1) := by decide +kernel
theorem dL_mean_57 : decode cL_mean 57 = .ok (.iload 6, 2) := by decide +kernel
theorem dL_mean_59 : decode cL_mean 59 = .ok (.invokestatic 16, 3) := by decide +kernel
theorem dL_mean_62 : decode cL_mean 62 = .ok (.ifCond .eq 15, 3) := by decide +kernel
theorem dL_mean_65 : decode cL_mean 65 = .ok (.aload_n 0, 1) := by decide +kernel
theorem dL_mean_66 : decode cL_mean 66 = .ok (.bipush 10, 2) := by decide +kernel
theorem dL_mean_68 : decode cL_mean 68 = .ok (.iload 6, 2) := by decide +kernel
theorem dL_mean_70 : decode cL_mean 70 = .ok (.imul, 1) := by decide +kernel
theorem dL_mean_71 : decode cL_mean 71 = .ok (.iconst 3, 1) := by decide +kernel
theorem dL_mean_72 : decode cL_mean 72 = .ok (.iadd, 1) := by decide +kernel
theorem dL_mean_73 : decode cL_mean 73 = .ok (.iaload, 1) := by decide +kernel
theorem dL_mean_74 : decode cL_mean 74 = .ok (.goto 4, 3) := by decide +kernel
theorem dL_mean_77 : decode cL_mean 77 = .ok (.iconst 0, 1) := by decide +kernel
theorem dL_mean_78 : decode cL_mean 78 = .ok (.iadd, 1) := by decide +kernel
theorem dL_mean_79 : decode cL_mean 79 = .ok (.istore 5, 2) := by decide +kernel
theorem dL_mean_81 : decode cL_mean 81 = .ok (.iinc 6 1, 3) := by decide +kernel
theorem dL_mean_84 : decode cL_mean 84 = .ok (.goto (-75), 3) := by decide +kernel
theorem dL_mean_87 : decode cL_mean 87 = .ok (.iload 5, 2) := by decide +kernel
theorem dL_mean_89 : decode cL_mean 89 = .ok (.ifCond .le 11, 3) := by decide +kernel
theorem dL_mean_92 : decode cL_mean 92 = .ok (.iload 4, 2) := by decide +kernel
theorem dL_mean_94 : decode cL_mean 94 = .ok (.iload 5, 2) := by decide +kernel
theorem dL_mean_96 : decode cL_mean 96 = .ok (.idiv, 1) := by decide +kernel
theorem dL_mean_97 : decode cL_mean 97 = .ok (.goto 5, 3) := by decide +kernel
theorem dL_mean_100 : decode cL_mean 100 = .ok (.ldc 11, 2) := by decide +kernel
theorem dL_mean_102 : decode cL_mean 102 = .ok (.ireturn, 1) := by decide +kernel
theorem dL_size_0 : decode cL_size 0 = .ok (.iload_n 0, 1) := by decide +kernel
theorem dL_size_1 : decode cL_size 1 = .ok (.ifCond .ge 8, 3) := by decide +kernel
theorem dL_size_4 : decode cL_size 4 = .ok (.iload_n 0, 1) := by decide +kernel
theorem dL_size_5 : decode cL_size 5 = .ok (.ineg, 1) := by decide +kernel
theorem dL_size_6 : decode cL_size 6 = .ok (.goto 4, 3) := by decide +kernel
theorem dL_size_9 : decode cL_size 9 = .ok (.iload_n 0, 1) := by decide +kernel
theorem dL_size_10 : decode cL_size 10 = .ok (.ireturn, 1) := by decide +kernel
theorem dL_change_0 : decode cL_change 0 = .ok (.aload_n 1, 1) := by decide +kernel
theorem dL_change_1 : decode cL_change 1 = .ok (.iconst 1, 1) := by decide +kernel
theorem dL_change_2 : decode cL_change 2 = .ok (.iaload, 1) := by decide +kernel
theorem dL_change_3 : decode cL_change 3 = .ok (.aload_n 0, 1) := by decide +kernel
theorem dL_change_4 : decode cL_change 4 = .ok (.bipush 10, 2) := by decide +kernel
theorem dL_change_6 : decode cL_change 6 = .ok (.iload_n 2, 1) := by decide +kernel
theorem dL_change_7 : decode cL_change 7 = .ok (.imul, 1) := by decide +kernel
theorem dL_change_8 : decode cL_change 8 = .ok (.iconst 2, 1) := by decide +kernel
theorem dL_change_9 : decode cL_change 9 = .ok (.iadd, 1) := by decide +kernel
theorem dL_change_10 : decode cL_change 10 = .ok (.iaload, 1) := by decide +kernel
theorem dL_change_11 : decode cL_change 11 = .ok (.iadd, 1) := by decide +kernel
theorem dL_change_12 : decode cL_change 12 = .ok (.aload_n 0, 1) := by decide +kernel
theorem dL_change_13 : decode cL_change 13 = .ok (.bipush 10, 2) := by decide +kernel
theorem dL_change_15 : decode cL_change 15 = .ok (.iload_n 2, 1) := by decide +kernel
theorem dL_change_16 : decode cL_change 16 = .ok (.imul, 1) := by decide +kernel
theorem dL_change_17 : decode cL_change 17 = .ok (.iconst 4, 1) := by decide +kernel
theorem dL_change_18 : decode cL_change 18 = .ok (.iadd, 1) := by decide +kernel
theorem dL_change_19 : decode cL_change 19 = .ok (.iaload, 1) := by decide +kernel
theorem dL_change_20 : decode cL_change 20 = .ok (.isub, 1) := by decide +kernel
theorem dL_change_21 : decode cL_change 21 = .ok (.aload_n 0, 1) := by decide +kernel
theorem dL_change_22 : decode cL_change 22 = .ok (.bipush 10, 2) := by decide +kernel
theorem dL_change_24 : decode cL_change 24 = .ok (.iload_n 2, 1) := by decide +kernel
theorem dL_change_25 : decode cL_change 25 = .ok (.imul, 1) := by decide +kernel
theorem dL_change_26 : decode cL_change 26 = .ok (.iconst 1, 1) := by decide +kernel
theorem dL_change_27 : decode cL_change 27 = .ok (.iadd, 1) := by decide +kernel
theorem dL_change_28 : decode cL_change 28 = .ok (.iaload, 1) := by decide +kernel
theorem dL_change_29 : decode cL_change 29 = .ok (.idiv, 1) := by decide +kernel
theorem dL_change_30 : decode cL_change 30 = .ok (.ireturn, 1) := by decide +kernel
theorem dL_hour_0 : decode cL_hour 0 = .ok (.aload_n 3, 1) := by decide +kernel
theorem dL_hour_1 : decode cL_hour 1 = .ok (.bipush 14, 2) := by decide +kernel
theorem dL_hour_3 : decode cL_hour 3 = .ok (.aload_n 0, 1) := by decide +kernel
theorem dL_hour_4 : decode cL_hour 4 = .ok (.aload_n 1, 1) := by decide +kernel
theorem dL_hour_5 : decode cL_hour 5 = .ok (.aload_n 2, 1) := by decide +kernel
theorem dL_hour_6 : decode cL_hour 6 = .ok (.aload_n 3, 1) := by decide +kernel
theorem dL_hour_7 : decode cL_hour 7 = .ok (.invokestatic 24, 3) := by decide +kernel
theorem dL_hour_10 : decode cL_hour 10 = .ok (.iastore, 1) := by decide +kernel
theorem dL_hour_11 : decode cL_hour 11 = .ok (.aload_n 3, 1) := by decide +kernel
theorem dL_hour_12 : decode cL_hour 12 = .ok (.iconst 0, 1) := by decide +kernel
theorem dL_hour_13 : decode cL_hour 13 = .ok (.dup2, 1) := by decide +kernel
theorem dL_hour_14 : decode cL_hour 14 = .ok (.iaload, 1) := by decide +kernel
theorem dL_hour_15 : decode cL_hour 15 = .ok (.iconst 1, 1) := by decide +kernel
theorem dL_hour_16 : decode cL_hour 16 = .ok (.iadd, 1) := by decide +kernel
theorem dL_hour_17 : decode cL_hour 17 = .ok (.iastore, 1) := by decide +kernel
theorem dL_hour_18 : decode cL_hour 18 = .ok (.aload_n 3, 1) := by decide +kernel
theorem dL_hour_19 : decode cL_hour 19 = .ok (.iconst 1, 1) := by decide +kernel
theorem dL_hour_20 : decode cL_hour 20 = .ok (.iload 4, 2) := by decide +kernel
theorem dL_hour_22 : decode cL_hour 22 = .ok (.iastore, 1) := by decide +kernel
theorem dL_hour_23 : decode cL_hour 23 = .ok (.iconst 0, 1) := by decide +kernel
theorem dL_hour_24 : decode cL_hour 24 = .ok (.istore 5, 2) := by decide +kernel
theorem dL_hour_26 : decode cL_hour 26 = .ok (.iconst 0, 1) := by decide +kernel
theorem dL_hour_27 : decode cL_hour 27 = .ok (.istore 6, 2) := by decide +kernel
theorem dL_hour_29 : decode cL_hour 29 = .ok (.iload 6, 2) := by decide +kernel
theorem dL_hour_31 : decode cL_hour 31 = .ok (.iconst 4, 1) := by decide +kernel
theorem dL_hour_32 : decode cL_hour 32 = .ok (.if_icmp .ge 37, 3) := by decide +kernel
theorem dL_hour_35 : decode cL_hour 35 = .ok (.aload_n 3, 1) := by decide +kernel
theorem dL_hour_36 : decode cL_hour 36 = .ok (.bipush 8, 2) := by decide +kernel
theorem dL_hour_38 : decode cL_hour 38 = .ok (.iload 6, 2) := by decide +kernel
theorem dL_hour_40 : decode cL_hour 40 = .ok (.iadd, 1) := by decide +kernel
theorem dL_hour_41 : decode cL_hour 41 = .ok (.dup2, 1) := by decide +kernel
theorem dL_hour_42 : decode cL_hour 42 = .ok (.iaload, 1) := by decide +kernel
theorem dL_hour_43 : decode cL_hour 43 = .ok (.aload_n 3, 1) := by decide +kernel
theorem dL_hour_44 : decode cL_hour 44 = .ok (.iconst 0, 1) := by decide +kernel
theorem dL_hour_45 : decode cL_hour 45 = .ok (.iaload, 1) := by decide +kernel
theorem dL_hour_46 : decode cL_hour 46 = .ok (.aload_n 3, 1) := by decide +kernel
theorem dL_hour_47 : decode cL_hour 47 = .ok (.iconst 4, 1) := by decide +kernel
theorem dL_hour_48 : decode cL_hour 48 = .ok (.iload 6, 2) := by decide +kernel
theorem dL_hour_50 : decode cL_hour 50 = .ok (.iadd, 1) := by decide +kernel
theorem dL_hour_51 : decode cL_hour 51 = .ok (.iaload, 1) := by decide +kernel
theorem dL_hour_52 : decode cL_hour 52 = .ok (.irem, 1) := by decide +kernel
theorem dL_hour_53 : decode cL_hour 53 = .ok (.ifCond .ne 7, 3) := by decide +kernel
theorem dL_hour_56 : decode cL_hour 56 = .ok (.iconst 1, 1) := by decide +kernel
theorem dL_hour_57 : decode cL_hour 57 = .ok (.goto 4, 3) := by decide +kernel
theorem dL_hour_60 : decode cL_hour 60 = .ok (.iconst 0, 1) := by decide +kernel
theorem dL_hour_61 : decode cL_hour 61 = .ok (.iadd, 1) := by decide +kernel
theorem dL_hour_62 : decode cL_hour 62 = .ok (.iastore, 1) := by decide +kernel
theorem dL_hour_63 : decode cL_hour 63 = .ok (.iinc 6 1, 3) := by decide +kernel
theorem dL_hour_66 : decode cL_hour 66 = .ok (.goto (-37), 3) := by decide +kernel
theorem dL_hour_69 : decode cL_hour 69 = .ok (.iconst 0, 1) := by decide +kernel
theorem dL_hour_70 : decode cL_hour 70 = .ok (.istore 6, 2) := by decide +kernel
theorem dL_hour_72 : decode cL_hour 72 = .ok (.iload 6, 2) := by decide +kernel
theorem dL_hour_74 : decode cL_hour 74 = .ok (.aload_n 3, 1) := by decide +kernel
theorem dL_hour_75 : decode cL_hour 75 = .ok (.bipush 15, 2) := by decide +kernel
theorem dL_hour_77 : decode cL_hour 77 = .ok (.iaload, 1) := by decide +kernel
theorem dL_hour_78 : decode cL_hour 78 = .ok (.if_icmp .ge 158, 3) := by decide +kernel
theorem dL_hour_81 : decode cL_hour 81 = .ok (.bipush 10, 2) := by decide +kernel
theorem dL_hour_83 : decode cL_hour 83 = .ok (.iload 6, 2) := by decide +kernel
theorem dL_hour_85 : decode cL_hour 85 = .ok (.imul, 1) := by decide +kernel
theorem dL_hour_86 : decode cL_hour 86 = .ok (.istore 7, 2) := by decide +kernel
theorem dL_hour_88 : decode cL_hour 88 = .ok (.aload_n 0, 1) := by decide +kernel
theorem dL_hour_89 : decode cL_hour 89 = .ok (.iload 7, 2) := by decide +kernel
theorem dL_hour_91 : decode cL_hour 91 = .ok (.iconst 4, 1) := by decide +kernel
theorem dL_hour_92 : decode cL_hour 92 = .ok (.iadd, 1) := by decide +kernel
theorem dL_hour_93 : decode cL_hour 93 = .ok (.dup2, 1) := by decide +kernel
theorem dL_hour_94 : decode cL_hour 94 = .ok (.iaload, 1) := by decide +kernel
theorem dL_hour_95 : decode cL_hour 95 = .ok (.aload_n 0, 1) := by decide +kernel
theorem dL_hour_96 : decode cL_hour 96 = .ok (.aload_n 3, 1) := by decide +kernel
theorem dL_hour_97 : decode cL_hour 97 = .ok (.iload 6, 2) := by decide +kernel
theorem dL_hour_99 : decode cL_hour 99 = .ok (.invokestatic 28, 3) := by decide +kernel
theorem dL_hour_102 : decode cL_hour 102 = .ok (.iadd, 1) := by decide +kernel
theorem dL_hour_103 : decode cL_hour 103 = .ok (.iastore, 1) := by decide +kernel
theorem dL_hour_104 : decode cL_hour 104 = .ok (.aload_n 3, 1) := by decide +kernel
theorem dL_hour_105 : decode cL_hour 105 = .ok (.iconst 0, 1) := by decide +kernel
theorem dL_hour_106 : decode cL_hour 106 = .ok (.iaload, 1) := by decide +kernel
theorem dL_hour_107 : decode cL_hour 107 = .ok (.aload_n 3, 1) := by decide +kernel
theorem dL_hour_108 : decode cL_hour 108 = .ok (.iconst 4, 1) := by decide +kernel
theorem dL_hour_109 : decode cL_hour 109 = .ok (.aload_n 0, 1) := by decide +kernel
theorem dL_hour_110 : decode cL_hour 110 = .ok (.iload 7, 2) := by decide +kernel
theorem dL_hour_112 : decode cL_hour 112 = .ok (.iaload, 1) := by decide +kernel
theorem dL_hour_113 : decode cL_hour 113 = .ok (.iadd, 1) := by decide +kernel
theorem dL_hour_114 : decode cL_hour 114 = .ok (.iaload, 1) := by decide +kernel
theorem dL_hour_115 : decode cL_hour 115 = .ok (.irem, 1) := by decide +kernel
theorem dL_hour_116 : decode cL_hour 116 = .ok (.ifCond .ne 114, 3) := by decide +kernel
theorem dL_hour_119 : decode cL_hour 119 = .ok (.iconst 5, 1) := by decide +kernel
theorem dL_hour_120 : decode cL_hour 120 = .ok (.istore 8, 2) := by decide +kernel
theorem dL_hour_122 : decode cL_hour 122 = .ok (.iload 8, 2) := by decide +kernel
theorem dL_hour_124 : decode cL_hour 124 = .ok (.ifCond .le 53, 3) := by decide +kernel
theorem dL_hour_127 : decode cL_hour 127 = .ok (.aload_n 1, 1) := by decide +kernel
theorem dL_hour_128 : decode cL_hour 128 = .ok (.bipush 6, 2) := by decide +kernel
theorem dL_hour_130 : decode cL_hour 130 = .ok (.iload 6, 2) := by decide +kernel
theorem dL_hour_132 : decode cL_hour 132 = .ok (.imul, 1) := by decide +kernel
theorem dL_hour_133 : decode cL_hour 133 = .ok (.iload 8, 2) := by decide +kernel
theorem dL_hour_135 : decode cL_hour 135 = .ok (.iadd, 1) := by decide +kernel
theorem dL_hour_136 : decode cL_hour 136 = .ok (.aload_n 1, 1) := by decide +kernel
theorem dL_hour_137 : decode cL_hour 137 = .ok (.bipush 6, 2) := by decide +kernel
theorem dL_hour_139 : decode cL_hour 139 = .ok (.iload 6, 2) := by decide +kernel
theorem dL_hour_141 : decode cL_hour 141 = .ok (.imul, 1) := by decide +kernel
theorem dL_hour_142 : decode cL_hour 142 = .ok (.iload 8, 2) := by decide +kernel
theorem dL_hour_144 : decode cL_hour 144 = .ok (.iadd, 1) := by decide +kernel
theorem dL_hour_145 : decode cL_hour 145 = .ok (.iconst 1, 1) := by decide +kernel
theorem dL_hour_146 : decode cL_hour 146 = .ok (.isub, 1) := by decide +kernel
theorem dL_hour_147 : decode cL_hour 147 = .ok (.iaload, 1) := by decide +kernel
theorem dL_hour_148 : decode cL_hour 148 = .ok (.iastore, 1) := by decide +kernel
theorem dL_hour_149 : decode cL_hour 149 = .ok (.aload_n 2, 1) := by decide +kernel
theorem dL_hour_150 : decode cL_hour 150 = .ok (.bipush 6, 2) := by decide +kernel
theorem dL_hour_152 : decode cL_hour 152 = .ok (.iload 6, 2) := by decide +kernel
theorem dL_hour_154 : decode cL_hour 154 = .ok (.imul, 1) := by decide +kernel
theorem dL_hour_155 : decode cL_hour 155 = .ok (.iload 8, 2) := by decide +kernel
theorem dL_hour_157 : decode cL_hour 157 = .ok (.iadd, 1) := by decide +kernel
theorem dL_hour_158 : decode cL_hour 158 = .ok (.aload_n 2, 1) := by decide +kernel
theorem dL_hour_159 : decode cL_hour 159 = .ok (.bipush 6, 2) := by decide +kernel
theorem dL_hour_161 : decode cL_hour 161 = .ok (.iload 6, 2) := by decide +kernel
theorem dL_hour_163 : decode cL_hour 163 = .ok (.imul, 1) := by decide +kernel
theorem dL_hour_164 : decode cL_hour 164 = .ok (.iload 8, 2) := by decide +kernel
theorem dL_hour_166 : decode cL_hour 166 = .ok (.iadd, 1) := by decide +kernel
theorem dL_hour_167 : decode cL_hour 167 = .ok (.iconst 1, 1) := by decide +kernel
theorem dL_hour_168 : decode cL_hour 168 = .ok (.isub, 1) := by decide +kernel
theorem dL_hour_169 : decode cL_hour 169 = .ok (.iaload, 1) := by decide +kernel
theorem dL_hour_170 : decode cL_hour 170 = .ok (.iastore, 1) := by decide +kernel
theorem dL_hour_171 : decode cL_hour 171 = .ok (.iinc 8 (-1), 3) := by decide +kernel
theorem dL_hour_174 : decode cL_hour 174 = .ok (.goto (-52), 3) := by decide +kernel
theorem dL_hour_177 : decode cL_hour 177 = .ok (.aload_n 1, 1) := by decide +kernel
theorem dL_hour_178 : decode cL_hour 178 = .ok (.bipush 6, 2) := by decide +kernel
theorem dL_hour_180 : decode cL_hour 180 = .ok (.iload 6, 2) := by decide +kernel
theorem dL_hour_182 : decode cL_hour 182 = .ok (.imul, 1) := by decide +kernel
theorem dL_hour_183 : decode cL_hour 183 = .ok (.aload_n 3, 1) := by decide +kernel
theorem dL_hour_184 : decode cL_hour 184 = .ok (.iconst 0, 1) := by decide +kernel
theorem dL_hour_185 : decode cL_hour 185 = .ok (.iaload, 1) := by decide +kernel
theorem dL_hour_186 : decode cL_hour 186 = .ok (.iastore, 1) := by decide +kernel
theorem dL_hour_187 : decode cL_hour 187 = .ok (.aload_n 2, 1) := by decide +kernel
theorem dL_hour_188 : decode cL_hour 188 = .ok (.bipush 6, 2) := by decide +kernel
theorem dL_hour_190 : decode cL_hour 190 = .ok (.iload 6, 2) := by decide +kernel
theorem dL_hour_192 : decode cL_hour 192 = .ok (.imul, 1) := by decide +kernel
theorem dL_hour_193 : decode cL_hour 193 = .ok (.aload_n 0, 1) := by decide +kernel
theorem dL_hour_194 : decode cL_hour 194 = .ok (.iload 7, 2) := by decide +kernel
theorem dL_hour_196 : decode cL_hour 196 = .ok (.iconst 4, 1) := by decide +kernel
theorem dL_hour_197 : decode cL_hour 197 = .ok (.iadd, 1) := by decide +kernel
theorem dL_hour_198 : decode cL_hour 198 = .ok (.iaload, 1) := by decide +kernel
theorem dL_hour_199 : decode cL_hour 199 = .ok (.iastore, 1) := by decide +kernel
theorem dL_hour_200 : decode cL_hour 200 = .ok (.aload_n 0, 1) := by decide +kernel
theorem dL_hour_201 : decode cL_hour 201 = .ok (.iload 7, 2) := by decide +kernel
theorem dL_hour_203 : decode cL_hour 203 = .ok (.bipush 7, 2) := by decide +kernel
theorem dL_hour_205 : decode cL_hour 205 = .ok (.iadd, 1) := by decide +kernel
theorem dL_hour_206 : decode cL_hour 206 = .ok (.dup2, 1) := by decide +kernel
theorem dL_hour_207 : decode cL_hour 207 = .ok (.iaload, 1) := by decide +kernel
theorem dL_hour_208 : decode cL_hour 208 = .ok (.aload_n 0, 1) := by decide +kernel
theorem dL_hour_209 : decode cL_hour 209 = .ok (.iload 7, 2) := by decide +kernel
theorem dL_hour_211 : decode cL_hour 211 = .ok (.bipush 7, 2) := by decide +kernel
theorem dL_hour_213 : decode cL_hour 213 = .ok (.iadd, 1) := by decide +kernel
theorem dL_hour_214 : decode cL_hour 214 = .ok (.iaload, 1) := by decide +kernel
theorem dL_hour_215 : decode cL_hour 215 = .ok (.bipush 6, 2) := by decide +kernel
theorem dL_hour_217 : decode cL_hour 217 = .ok (.if_icmp .ge 7, 3) := by decide +kernel
theorem dL_hour_220 : decode cL_hour 220 = .ok (.iconst 1, 1) := by decide +kernel
theorem dL_hour_221 : decode cL_hour 221 = .ok (.goto 4, 3) := by decide +kernel
theorem dL_hour_224 : decode cL_hour 224 = .ok (.iconst 0, 1) := by decide +kernel
theorem dL_hour_225 : decode cL_hour 225 = .ok (.iadd, 1) := by decide +kernel
theorem dL_hour_226 : decode cL_hour 226 = .ok (.iastore, 1) := by decide +kernel
theorem dL_hour_227 : decode cL_hour 227 = .ok (.iinc 5 1, 3) := by decide +kernel
theorem dL_hour_230 : decode cL_hour 230 = .ok (.iinc 6 1, 3) := by decide +kernel
theorem dL_hour_233 : decode cL_hour 233 = .ok (.goto (-161), 3) := by decide +kernel
theorem dL_hour_236 : decode cL_hour 236 = .ok (.aload_n 3, 1) := by decide +kernel
theorem dL_hour_237 : decode cL_hour 237 = .ok (.bipush 12, 2) := by decide +kernel
theorem dL_hour_239 : decode cL_hour 239 = .ok (.dup2, 1) := by decide +kernel
theorem dL_hour_240 : decode cL_hour 240 = .ok (.iaload, 1) := by decide +kernel
theorem dL_hour_241 : decode cL_hour 241 = .ok (.iload 5, 2) := by decide +kernel
theorem dL_hour_243 : decode cL_hour 243 = .ok (.iadd, 1) := by decide +kernel
theorem dL_hour_244 : decode cL_hour 244 = .ok (.iastore, 1) := by decide +kernel
theorem dL_hour_245 : decode cL_hour 245 = .ok (.iconst 0, 1) := by decide +kernel
theorem dL_hour_246 : decode cL_hour 246 = .ok (.istore 6, 2) := by decide +kernel
theorem dL_hour_248 : decode cL_hour 248 = .ok (.iload 6, 2) := by decide +kernel
theorem dL_hour_250 : decode cL_hour 250 = .ok (.aload_n 3, 1) := by decide +kernel
theorem dL_hour_251 : decode cL_hour 251 = .ok (.bipush 15, 2) := by decide +kernel
theorem dL_hour_253 : decode cL_hour 253 = .ok (.iaload, 1) := by decide +kernel
theorem dL_hour_254 : decode cL_hour 254 = .ok (.if_icmp .ge 188, 3) := by decide +kernel
theorem dL_hour_257 : decode cL_hour 257 = .ok (.bipush 10, 2) := by decide +kernel
theorem dL_hour_259 : decode cL_hour 259 = .ok (.iload 6, 2) := by decide +kernel
theorem dL_hour_261 : decode cL_hour 261 = .ok (.imul, 1) := by decide +kernel
theorem dL_hour_262 : decode cL_hour 262 = .ok (.istore 7, 2) := by decide +kernel
theorem dL_hour_264 : decode cL_hour 264 = .ok (.aload_n 0, 1) := by decide +kernel
theorem dL_hour_265 : decode cL_hour 265 = .ok (.aload_n 1, 1) := by decide +kernel
theorem dL_hour_266 : decode cL_hour 266 = .ok (.aload_n 2, 1) := by decide +kernel
theorem dL_hour_267 : decode cL_hour 267 = .ok (.aload_n 3, 1) := by decide +kernel
theorem dL_hour_268 : decode cL_hour 268 = .ok (.iload 6, 2) := by decide +kernel
theorem dL_hour_270 : decode cL_hour 270 = .ok (.invokestatic 32, 3) := by decide +kernel
theorem dL_hour_273 : decode cL_hour 273 = .ok (.istore 8, 2) := by decide +kernel
theorem dL_hour_275 : decode cL_hour 275 = .ok (.aload_n 0, 1) := by decide +kernel
theorem dL_hour_276 : decode cL_hour 276 = .ok (.iload 7, 2) := by decide +kernel
theorem dL_hour_278 : decode cL_hour 278 = .ok (.bipush 9, 2) := by decide +kernel
theorem dL_hour_280 : decode cL_hour 280 = .ok (.iadd, 1) := by decide +kernel
theorem dL_hour_281 : decode cL_hour 281 = .ok (.aload_n 0, 1) := by decide +kernel
theorem dL_hour_282 : decode cL_hour 282 = .ok (.iload 6, 2) := by decide +kernel
theorem dL_hour_284 : decode cL_hour 284 = .ok (.invokestatic 16, 3) := by decide +kernel
theorem dL_hour_287 : decode cL_hour 287 = .ok (.ifCond .eq 29, 3) := by decide +kernel
theorem dL_hour_290 : decode cL_hour 290 = .ok (.aload_n 3, 1) := by decide +kernel
theorem dL_hour_291 : decode cL_hour 291 = .ok (.iconst 0, 1) := by decide +kernel
theorem dL_hour_292 : decode cL_hour 292 = .ok (.iaload, 1) := by decide +kernel
theorem dL_hour_293 : decode cL_hour 293 = .ok (.aload_n 3, 1) := by decide +kernel
theorem dL_hour_294 : decode cL_hour 294 = .ok (.iconst 4, 1) := by decide +kernel
theorem dL_hour_295 : decode cL_hour 295 = .ok (.aload_n 0, 1) := by decide +kernel
theorem dL_hour_296 : decode cL_hour 296 = .ok (.iload 7, 2) := by decide +kernel
theorem dL_hour_298 : decode cL_hour 298 = .ok (.iaload, 1) := by decide +kernel
theorem dL_hour_299 : decode cL_hour 299 = .ok (.iadd, 1) := by decide +kernel
theorem dL_hour_300 : decode cL_hour 300 = .ok (.iaload, 1) := by decide +kernel
theorem dL_hour_301 : decode cL_hour 301 = .ok (.irem, 1) := by decide +kernel
theorem dL_hour_302 : decode cL_hour 302 = .ok (.ifCond .ne 14, 3) := by decide +kernel
theorem dL_hour_305 : decode cL_hour 305 = .ok (.iload 8, 2) := by decide +kernel
theorem dL_hour_307 : decode cL_hour 307 = .ok (.ldc 11, 2) := by decide +kernel
theorem dL_hour_309 : decode cL_hour 309 = .ok (.if_icmp .eq 7, 3) := by decide +kernel
theorem dL_hour_312 : decode cL_hour 312 = .ok (.iconst 1, 1) := by decide +kernel
theorem dL_hour_313 : decode cL_hour 313 = .ok (.goto 4, 3) := by decide +kernel
theorem dL_hour_316 : decode cL_hour 316 = .ok (.iconst 0, 1) := by decide +kernel
theorem dL_hour_317 : decode cL_hour 317 = .ok (.iastore, 1) := by decide +kernel
theorem dL_hour_318 : decode cL_hour 318 = .ok (.aload_n 0, 1) := by decide +kernel
theorem dL_hour_319 : decode cL_hour 319 = .ok (.iload 7, 2) := by decide +kernel
theorem dL_hour_321 : decode cL_hour 321 = .ok (.bipush 9, 2) := by decide +kernel
theorem dL_hour_323 : decode cL_hour 323 = .ok (.iadd, 1) := by decide +kernel
theorem dL_hour_324 : decode cL_hour 324 = .ok (.iaload, 1) := by decide +kernel
theorem dL_hour_325 : decode cL_hour 325 = .ok (.iconst 1, 1) := by decide +kernel
theorem dL_hour_326 : decode cL_hour 326 = .ok (.if_icmp .ne 27, 3) := by decide +kernel
theorem dL_hour_329 : decode cL_hour 329 = .ok (.aload_n 0, 1) := by decide +kernel
theorem dL_hour_330 : decode cL_hour 330 = .ok (.aload_n 1, 1) := by decide +kernel
theorem dL_hour_331 : decode cL_hour 331 = .ok (.aload_n 2, 1) := by decide +kernel
theorem dL_hour_332 : decode cL_hour 332 = .ok (.iload 6, 2) := by decide +kernel
theorem dL_hour_334 : decode cL_hour 334 = .ok (.invokestatic 20, 3) := by decide +kernel
theorem dL_hour_337 : decode cL_hour 337 = .ok (.iload 8, 2) := by decide +kernel
theorem dL_hour_339 : decode cL_hour 339 = .ok (.isub, 1) := by decide +kernel
theorem dL_hour_340 : decode cL_hour 340 = .ok (.invokestatic 36, 3) := by decide +kernel
theorem dL_hour_343 : decode cL_hour 343 = .ok (.aload_n 3, 1) := by decide +kernel
theorem dL_hour_344 : decode cL_hour 344 = .ok (.iconst 2, 1) := by decide +kernel
theorem dL_hour_345 : decode cL_hour 345 = .ok (.iaload, 1) := by decide +kernel
theorem dL_hour_346 : decode cL_hour 346 = .ok (.if_icmp .le 7, 3) := by decide +kernel
theorem dL_hour_349 : decode cL_hour 349 = .ok (.iconst 1, 1) := by decide +kernel
theorem dL_hour_350 : decode cL_hour 350 = .ok (.goto 4, 3) := by decide +kernel
theorem dL_hour_353 : decode cL_hour 353 = .ok (.iconst 0, 1) := by decide +kernel
theorem dL_hour_354 : decode cL_hour 354 = .ok (.istore 9, 2) := by decide +kernel
theorem dL_hour_356 : decode cL_hour 356 = .ok (.aload_n 0, 1) := by decide +kernel
theorem dL_hour_357 : decode cL_hour 357 = .ok (.iload 7, 2) := by decide +kernel
theorem dL_hour_359 : decode cL_hour 359 = .ok (.iconst 5, 1) := by decide +kernel
theorem dL_hour_360 : decode cL_hour 360 = .ok (.iadd, 1) := by decide +kernel
theorem dL_hour_361 : decode cL_hour 361 = .ok (.iload 9, 2) := by decide +kernel
theorem dL_hour_363 : decode cL_hour 363 = .ok (.ifCond .eq 14, 3) := by decide +kernel
theorem dL_hour_366 : decode cL_hour 366 = .ok (.aload_n 0, 1) := by decide +kernel
theorem dL_hour_367 : decode cL_hour 367 = .ok (.iload 7, 2) := by decide +kernel
theorem dL_hour_369 : decode cL_hour 369 = .ok (.iconst 5, 1) := by decide +kernel
theorem dL_hour_370 : decode cL_hour 370 = .ok (.iadd, 1) := by decide +kernel
theorem dL_hour_371 : decode cL_hour 371 = .ok (.iaload, 1) := by decide +kernel
theorem dL_hour_372 : decode cL_hour 372 = .ok (.iconst 1, 1) := by decide +kernel
theorem dL_hour_373 : decode cL_hour 373 = .ok (.iadd, 1) := by decide +kernel
theorem dL_hour_374 : decode cL_hour 374 = .ok (.goto 24, 3) := by decide +kernel
theorem dL_hour_377 : decode cL_hour 377 = .ok (.aload_n 0, 1) := by decide +kernel
theorem dL_hour_378 : decode cL_hour 378 = .ok (.iload 7, 2) := by decide +kernel
theorem dL_hour_380 : decode cL_hour 380 = .ok (.bipush 9, 2) := by decide +kernel
theorem dL_hour_382 : decode cL_hour 382 = .ok (.iadd, 1) := by decide +kernel
theorem dL_hour_383 : decode cL_hour 383 = .ok (.iaload, 1) := by decide +kernel
theorem dL_hour_384 : decode cL_hour 384 = .ok (.iconst 1, 1) := by decide +kernel
theorem dL_hour_385 : decode cL_hour 385 = .ok (.if_icmp .ne 7, 3) := by decide +kernel
theorem dL_hour_388 : decode cL_hour 388 = .ok (.iconst 0, 1) := by decide +kernel
theorem dL_hour_389 : decode cL_hour 389 = .ok (.goto 9, 3) := by decide +kernel
theorem dL_hour_392 : decode cL_hour 392 = .ok (.aload_n 0, 1) := by decide +kernel
theorem dL_hour_393 : decode cL_hour 393 = .ok (.iload 7, 2) := by decide +kernel
theorem dL_hour_395 : decode cL_hour 395 = .ok (.iconst 5, 1) := by decide +kernel
theorem dL_hour_396 : decode cL_hour 396 = .ok (.iadd, 1) := by decide +kernel
theorem dL_hour_397 : decode cL_hour 397 = .ok (.iaload, 1) := by decide +kernel
theorem dL_hour_398 : decode cL_hour 398 = .ok (.iastore, 1) := by decide +kernel
theorem dL_hour_399 : decode cL_hour 399 = .ok (.aload_n 0, 1) := by decide +kernel
theorem dL_hour_400 : decode cL_hour 400 = .ok (.iload 7, 2) := by decide +kernel
theorem dL_hour_402 : decode cL_hour 402 = .ok (.bipush 8, 2) := by decide +kernel
theorem dL_hour_404 : decode cL_hour 404 = .ok (.iadd, 1) := by decide +kernel
theorem dL_hour_405 : decode cL_hour 405 = .ok (.dup2, 1) := by decide +kernel
theorem dL_hour_406 : decode cL_hour 406 = .ok (.iaload, 1) := by decide +kernel
theorem dL_hour_407 : decode cL_hour 407 = .ok (.iload 9, 2) := by decide +kernel
theorem dL_hour_409 : decode cL_hour 409 = .ok (.ifCond .eq 7, 3) := by decide +kernel
theorem dL_hour_412 : decode cL_hour 412 = .ok (.iconst 1, 1) := by decide +kernel
theorem dL_hour_413 : decode cL_hour 413 = .ok (.goto 4, 3) := by decide +kernel
theorem dL_hour_416 : decode cL_hour 416 = .ok (.iconst 0, 1) := by decide +kernel
theorem dL_hour_417 : decode cL_hour 417 = .ok (.iadd, 1) := by decide +kernel
theorem dL_hour_418 : decode cL_hour 418 = .ok (.iastore, 1) := by decide +kernel
theorem dL_hour_419 : decode cL_hour 419 = .ok (.aload_n 3, 1) := by decide +kernel
theorem dL_hour_420 : decode cL_hour 420 = .ok (.bipush 13, 2) := by decide +kernel
theorem dL_hour_422 : decode cL_hour 422 = .ok (.dup2, 1) := by decide +kernel
theorem dL_hour_423 : decode cL_hour 423 = .ok (.iaload, 1) := by decide +kernel
theorem dL_hour_424 : decode cL_hour 424 = .ok (.iload 9, 2) := by decide +kernel
theorem dL_hour_426 : decode cL_hour 426 = .ok (.ifCond .eq 7, 3) := by decide +kernel
theorem dL_hour_429 : decode cL_hour 429 = .ok (.iconst 1, 1) := by decide +kernel
theorem dL_hour_430 : decode cL_hour 430 = .ok (.goto 4, 3) := by decide +kernel
theorem dL_hour_433 : decode cL_hour 433 = .ok (.iconst 0, 1) := by decide +kernel
theorem dL_hour_434 : decode cL_hour 434 = .ok (.iadd, 1) := by decide +kernel
theorem dL_hour_435 : decode cL_hour 435 = .ok (.iastore, 1) := by decide +kernel
theorem dL_hour_436 : decode cL_hour 436 = .ok (.iinc 6 1, 3) := by decide +kernel
theorem dL_hour_439 : decode cL_hour 439 = .ok (.goto (-191), 3) := by decide +kernel
theorem dL_hour_442 : decode cL_hour 442 = .ok (.iconst 0, 1) := by decide +kernel
theorem dL_hour_443 : decode cL_hour 443 = .ok (.istore 6, 2) := by decide +kernel
theorem dL_hour_445 : decode cL_hour 445 = .ok (.iload 6, 2) := by decide +kernel
theorem dL_hour_447 : decode cL_hour 447 = .ok (.aload_n 3, 1) := by decide +kernel
theorem dL_hour_448 : decode cL_hour 448 = .ok (.bipush 15, 2) := by decide +kernel
theorem dL_hour_450 : decode cL_hour 450 = .ok (.iaload, 1) := by decide +kernel
theorem dL_hour_451 : decode cL_hour 451 = .ok (.if_icmp .ge 62, 3) := by decide +kernel
theorem dL_hour_454 : decode cL_hour 454 = .ok (.aload_n 0, 1) := by decide +kernel
theorem dL_hour_455 : decode cL_hour 455 = .ok (.bipush 10, 2) := by decide +kernel
theorem dL_hour_457 : decode cL_hour 457 = .ok (.iload 6, 2) := by decide +kernel
theorem dL_hour_459 : decode cL_hour 459 = .ok (.imul, 1) := by decide +kernel
theorem dL_hour_460 : decode cL_hour 460 = .ok (.bipush 6, 2) := by decide +kernel
theorem dL_hour_462 : decode cL_hour 462 = .ok (.iadd, 1) := by decide +kernel
theorem dL_hour_463 : decode cL_hour 463 = .ok (.aload_n 0, 1) := by decide +kernel
theorem dL_hour_464 : decode cL_hour 464 = .ok (.bipush 10, 2) := by decide +kernel
theorem dL_hour_466 : decode cL_hour 466 = .ok (.iload 6, 2) := by decide +kernel
theorem dL_hour_468 : decode cL_hour 468 = .ok (.imul, 1) := by decide +kernel
theorem dL_hour_469 : decode cL_hour 469 = .ok (.bipush 9, 2) := by decide +kernel
theorem dL_hour_471 : decode cL_hour 471 = .ok (.iadd, 1) := by decide +kernel
theorem dL_hour_472 : decode cL_hour 472 = .ok (.iaload, 1) := by decide +kernel
theorem dL_hour_473 : decode cL_hour 473 = .ok (.iconst 1, 1) := by decide +kernel
theorem dL_hour_474 : decode cL_hour 474 = .ok (.if_icmp .ne 22, 3) := by decide +kernel
theorem dL_hour_477 : decode cL_hour 477 = .ok (.aload_n 0, 1) := by decide +kernel
theorem dL_hour_478 : decode cL_hour 478 = .ok (.bipush 10, 2) := by decide +kernel
theorem dL_hour_480 : decode cL_hour 480 = .ok (.iload 6, 2) := by decide +kernel
theorem dL_hour_482 : decode cL_hour 482 = .ok (.imul, 1) := by decide +kernel
theorem dL_hour_483 : decode cL_hour 483 = .ok (.iconst 5, 1) := by decide +kernel
theorem dL_hour_484 : decode cL_hour 484 = .ok (.iadd, 1) := by decide +kernel
theorem dL_hour_485 : decode cL_hour 485 = .ok (.iaload, 1) := by decide +kernel
theorem dL_hour_486 : decode cL_hour 486 = .ok (.aload_n 3, 1) := by decide +kernel
theorem dL_hour_487 : decode cL_hour 487 = .ok (.iconst 3, 1) := by decide +kernel
theorem dL_hour_488 : decode cL_hour 488 = .ok (.iaload, 1) := by decide +kernel
theorem dL_hour_489 : decode cL_hour 489 = .ok (.if_icmp .lt 7, 3) := by decide +kernel
theorem dL_hour_492 : decode cL_hour 492 = .ok (.iconst 1, 1) := by decide +kernel
theorem dL_hour_493 : decode cL_hour 493 = .ok (.goto 13, 3) := by decide +kernel
theorem dL_hour_496 : decode cL_hour 496 = .ok (.aload_n 0, 1) := by decide +kernel
theorem dL_hour_497 : decode cL_hour 497 = .ok (.bipush 10, 2) := by decide +kernel
theorem dL_hour_499 : decode cL_hour 499 = .ok (.iload 6, 2) := by decide +kernel
theorem dL_hour_501 : decode cL_hour 501 = .ok (.imul, 1) := by decide +kernel
theorem dL_hour_502 : decode cL_hour 502 = .ok (.bipush 6, 2) := by decide +kernel
theorem dL_hour_504 : decode cL_hour 504 = .ok (.iadd, 1) := by decide +kernel
theorem dL_hour_505 : decode cL_hour 505 = .ok (.iaload, 1) := by decide +kernel
theorem dL_hour_506 : decode cL_hour 506 = .ok (.iastore, 1) := by decide +kernel
theorem dL_hour_507 : decode cL_hour 507 = .ok (.iinc 6 1, 3) := by decide +kernel
theorem dL_hour_510 : decode cL_hour 510 = .ok (.goto (-65), 3) := by decide +kernel
theorem dL_hour_513 : decode cL_hour 513 = .ok (.iload 5, 2) := by decide +kernel
theorem dL_hour_515 : decode cL_hour 515 = .ok (.ireturn, 1) := by decide +kernel
theorem dL_areThermometers_0 : decode cL_areThermometers 0 = .ok (.iconst 0, 1) := by decide +kernel
theorem dL_areThermometers_1 : decode cL_areThermometers 1 = .ok (.istore 5, 2) := by decide +kernel
theorem dL_areThermometers_3 : decode cL_areThermometers 3 = .ok (.iconst 0, 1) := by decide +kernel
theorem dL_areThermometers_4 : decode cL_areThermometers 4 = .ok (.istore 6, 2) := by decide +kernel
theorem dL_areThermometers_6 : decode cL_areThermometers 6 = .ok (.iconst 0, 1) := by decide +kernel
theorem dL_areThermometers_7 : decode cL_areThermometers 7 = .ok (.istore 7, 2) := by decide +kernel
theorem dL_areThermometers_9 : decode cL_areThermometers 9 = .ok (.iconst 0, 1) := by decide +kernel
theorem dL_areThermometers_10 : decode cL_areThermometers 10 = .ok (.istore 8, 2) := by decide +kernel
theorem dL_areThermometers_12 : decode cL_areThermometers 12 = .ok (.aload_n 0, 1) := by decide +kernel
theorem dL_areThermometers_13 : decode cL_areThermometers 13 = .ok (.iconst 1, 1) := by decide +kernel
theorem dL_areThermometers_14 : decode cL_areThermometers 14 = .ok (.invokevirtual 40, 3) := by decide +kernel
theorem dL_areThermometers_17 : decode cL_areThermometers 17 = .ok (.aload 4, 2) := by decide +kernel
theorem dL_areThermometers_19 : decode cL_areThermometers 19 = .ok (.bipush 15, 2) := by decide +kernel
theorem dL_areThermometers_21 : decode cL_areThermometers 21 = .ok (.iaload, 1) := by decide +kernel
theorem dL_areThermometers_22 : decode cL_areThermometers 22 = .ok (.if_icmp .ne 7, 3) := by decide +kernel
theorem dL_areThermometers_25 : decode cL_areThermometers 25 = .ok (.iconst 1, 1) := by decide +kernel
theorem dL_areThermometers_26 : decode cL_areThermometers 26 = .ok (.goto 4, 3) := by decide +kernel
theorem dL_areThermometers_29 : decode cL_areThermometers 29 = .ok (.iconst 0, 1) := by decide +kernel
theorem dL_areThermometers_30 : decode cL_areThermometers 30 = .ok (.istore 9, 2) := by decide +kernel
theorem dL_areThermometers_32 : decode cL_areThermometers 32 = .ok (.iconst 0, 1) := by decide +kernel
theorem dL_areThermometers_33 : decode cL_areThermometers 33 = .ok (.istore 10, 2) := by decide +kernel
theorem dL_areThermometers_35 : decode cL_areThermometers 35 = .ok (.iload 10, 2) := by decide +kernel
theorem dL_areThermometers_37 : decode cL_areThermometers 37 = .ok (.aload 4, 2) := by decide +kernel
theorem dL_areThermometers_39 : decode cL_areThermometers 39 = .ok (.bipush 15, 2) := by decide +kernel
theorem dL_areThermometers_41 : decode cL_areThermometers 41 = .ok (.iaload, 1) := by decide +kernel
theorem dL_areThermometers_42 : decode cL_areThermometers 42 = .ok (.if_icmp .ge 286, 3) := by decide +kernel
theorem dL_areThermometers_45 : decode cL_areThermometers 45 = .ok (.iload 9, 2) := by decide +kernel
theorem dL_areThermometers_47 : decode cL_areThermometers 47 = .ok (.ifCond .eq 281, 3) := by decide +kernel
theorem dL_areThermometers_50 : decode cL_areThermometers 50 = .ok (.bipush 10, 2) := by decide +kernel
theorem dL_areThermometers_52 : decode cL_areThermometers 52 = .ok (.iload 10, 2) := by decide +kernel
theorem dL_areThermometers_54 : decode cL_areThermometers 54 = .ok (.imul, 1) := by decide +kernel
theorem dL_areThermometers_55 : decode cL_areThermometers 55 = .ok (.istore 11, 2) := by decide +kernel
theorem dL_areThermometers_57 : decode cL_areThermometers 57 = .ok (.iconst 0, 1) := by decide +kernel
theorem dL_areThermometers_58 : decode cL_areThermometers 58 = .ok (.istore 12, 2) := by decide +kernel
theorem dL_areThermometers_60 : decode cL_areThermometers 60 = .ok (.iload 12, 2) := by decide +kernel
theorem dL_areThermometers_62 : decode cL_areThermometers 62 = .ok (.bipush 9, 2) := by decide +kernel
theorem dL_areThermometers_64 : decode cL_areThermometers 64 = .ok (.if_icmp .ge 39, 3) := by decide +kernel
theorem dL_areThermometers_67 : decode cL_areThermometers 67 = .ok (.iload 9, 2) := by decide +kernel
theorem dL_areThermometers_69 : decode cL_areThermometers 69 = .ok (.ifCond .eq 25, 3) := by decide +kernel
theorem dL_areThermometers_72 : decode cL_areThermometers 72 = .ok (.aload_n 0, 1) := by decide +kernel
theorem dL_areThermometers_73 : decode cL_areThermometers 73 = .ok (.iload 10, 2) := by decide +kernel
theorem dL_areThermometers_75 : decode cL_areThermometers 75 = .ok (.iload 12, 2) := by decide +kernel
theorem dL_areThermometers_77 : decode cL_areThermometers 77 = .ok (.invokevirtual 45, 3) := by decide +kernel
theorem dL_areThermometers_80 : decode cL_areThermometers 80 = .ok (.aload_n 1, 1) := by decide +kernel
theorem dL_areThermometers_81 : decode cL_areThermometers 81 = .ok (.iload 11, 2) := by decide +kernel
theorem dL_areThermometers_83 : decode cL_areThermometers 83 = .ok (.iload 12, 2) := by decide +kernel
theorem dL_areThermometers_85 : decode cL_areThermometers 85 = .ok (.iadd, 1) := by decide +kernel
theorem dL_areThermometers_86 : decode cL_areThermometers 86 = .ok (.iaload, 1) := by decide +kernel
theorem dL_areThermometers_87 : decode cL_areThermometers 87 = .ok (.if_icmp .ne 7, 3) := by decide +kernel
theorem dL_areThermometers_90 : decode cL_areThermometers 90 = .ok (.iconst 1, 1) := by decide +kernel
theorem dL_areThermometers_91 : decode cL_areThermometers 91 = .ok (.goto 4, 3) := by decide +kernel
theorem dL_areThermometers_94 : decode cL_areThermometers 94 = .ok (.iconst 0, 1) := by decide +kernel
theorem dL_areThermometers_95 : decode cL_areThermometers 95 = .ok (.istore 9, 2) := by decide +kernel
theorem dL_areThermometers_97 : decode cL_areThermometers 97 = .ok (.iinc 12 1, 3) := by decide +kernel
theorem dL_areThermometers_100 : decode cL_areThermometers 100 = .ok (.goto (-40), 3) := by decide +kernel
theorem dL_areThermometers_103 : decode cL_areThermometers 103 = .ok (.iload 9, 2) := by decide +kernel
theorem dL_areThermometers_105 : decode cL_areThermometers 105 = .ok (.ifCond .eq 45, 3) := by decide +kernel
theorem dL_areThermometers_108 : decode cL_areThermometers 108 = .ok (.aload_n 0, 1) := by decide +kernel
theorem dL_areThermometers_109 : decode cL_areThermometers 109 = .ok (.iload 10, 2) := by decide +kernel
theorem dL_areThermometers_111 : decode cL_areThermometers 111 = .ok (.bipush 9, 2) := by decide +kernel
theorem dL_areThermometers_113 : decode cL_areThermometers 113 = .ok (.invokevirtual 45, 3) := by decide +kernel
theorem dL_areThermometers_116 : decode cL_areThermometers 116 = .ok (.aload_n 1, 1) := by decide +kernel
theorem dL_areThermometers_117 : decode cL_areThermometers 117 = .ok (.aload_n 2, 1) := by decide +kernel
theorem dL_areThermometers_118 : decode cL_areThermometers 118 = .ok (.aload_n 3, 1) := by decide +kernel
theorem dL_areThermometers_119 : decode cL_areThermometers 119 = .ok (.iload 10, 2) := by decide +kernel
theorem dL_areThermometers_121 : decode cL_areThermometers 121 = .ok (.invokestatic 20, 3) := by decide +kernel
theorem dL_areThermometers_124 : decode cL_areThermometers 124 = .ok (.if_icmp .ne 26, 3) := by decide +kernel
theorem dL_areThermometers_127 : decode cL_areThermometers 127 = .ok (.aload_n 0, 1) := by decide +kernel
theorem dL_areThermometers_128 : decode cL_areThermometers 128 = .ok (.iload 10, 2) := by decide +kernel
theorem dL_areThermometers_130 : decode cL_areThermometers 130 = .ok (.aload_n 1, 1) := by decide +kernel
theorem dL_areThermometers_131 : decode cL_areThermometers 131 = .ok (.iload 11, 2) := by decide +kernel
theorem dL_areThermometers_133 : decode cL_areThermometers 133 = .ok (.bipush 7, 2) := by decide +kernel
theorem dL_areThermometers_135 : decode cL_areThermometers 135 = .ok (.iadd, 1) := by decide +kernel
theorem dL_areThermometers_136 : decode cL_areThermometers 136 = .ok (.iaload, 1) := by decide +kernel
theorem dL_areThermometers_137 : decode cL_areThermometers 137 = .ok (.iconst 0, 1) := by decide +kernel
theorem dL_areThermometers_138 : decode cL_areThermometers 138 = .ok (.invokevirtual 49, 3) := by decide +kernel
theorem dL_areThermometers_141 : decode cL_areThermometers 141 = .ok (.ldc 11, 2) := by decide +kernel
theorem dL_areThermometers_143 : decode cL_areThermometers 143 = .ok (.if_icmp .ne 7, 3) := by decide +kernel
theorem dL_areThermometers_146 : decode cL_areThermometers 146 = .ok (.iconst 1, 1) := by decide +kernel
theorem dL_areThermometers_147 : decode cL_areThermometers 147 = .ok (.goto 4, 3) := by decide +kernel
theorem dL_areThermometers_150 : decode cL_areThermometers 150 = .ok (.iconst 0, 1) := by decide +kernel
theorem dL_areThermometers_151 : decode cL_areThermometers 151 = .ok (.istore 9, 2) := by decide +kernel
theorem dL_areThermometers_153 : decode cL_areThermometers 153 = .ok (.iconst 0, 1) := by decide +kernel
theorem dL_areThermometers_154 : decode cL_areThermometers 154 = .ok (.istore 12, 2) := by decide +kernel
theorem dL_areThermometers_156 : decode cL_areThermometers 156 = .ok (.iload 12, 2) := by decide +kernel
theorem dL_areThermometers_158 : decode cL_areThermometers 158 = .ok (.aload_n 1, 1) := by decide +kernel
theorem dL_areThermometers_159 : decode cL_areThermometers 159 = .ok (.iload 11, 2) := by decide +kernel
theorem dL_areThermometers_161 : decode cL_areThermometers 161 = .ok (.bipush 7, 2) := by decide +kernel
theorem dL_areThermometers_163 : decode cL_areThermometers 163 = .ok (.iadd, 1) := by decide +kernel
theorem dL_areThermometers_164 : decode cL_areThermometers 164 = .ok (.iaload, 1) := by decide +kernel
theorem dL_areThermometers_165 : decode cL_areThermometers 165 = .ok (.if_icmp .ge 65, 3) := by decide +kernel
theorem dL_areThermometers_168 : decode cL_areThermometers 168 = .ok (.iload 9, 2) := by decide +kernel
theorem dL_areThermometers_170 : decode cL_areThermometers 170 = .ok (.ifCond .eq 51, 3) := by decide +kernel
theorem dL_areThermometers_173 : decode cL_areThermometers 173 = .ok (.aload_n 0, 1) := by decide +kernel
theorem dL_areThermometers_174 : decode cL_areThermometers 174 = .ok (.iload 10, 2) := by decide +kernel
theorem dL_areThermometers_176 : decode cL_areThermometers 176 = .ok (.iload 12, 2) := by decide +kernel
theorem dL_areThermometers_178 : decode cL_areThermometers 178 = .ok (.iconst 0, 1) := by decide +kernel
theorem dL_areThermometers_179 : decode cL_areThermometers 179 = .ok (.invokevirtual 49, 3) := by decide +kernel
theorem dL_areThermometers_182 : decode cL_areThermometers 182 = .ok (.aload_n 2, 1) := by decide +kernel
theorem dL_areThermometers_183 : decode cL_areThermometers 183 = .ok (.bipush 6, 2) := by decide +kernel
theorem dL_areThermometers_185 : decode cL_areThermometers 185 = .ok (.iload 10, 2) := by decide +kernel
theorem dL_areThermometers_187 : decode cL_areThermometers 187 = .ok (.imul, 1) := by decide +kernel
theorem dL_areThermometers_188 : decode cL_areThermometers 188 = .ok (.iload 12, 2) := by decide +kernel
theorem dL_areThermometers_190 : decode cL_areThermometers 190 = .ok (.iadd, 1) := by decide +kernel
theorem dL_areThermometers_191 : decode cL_areThermometers 191 = .ok (.iaload, 1) := by decide +kernel
theorem dL_areThermometers_192 : decode cL_areThermometers 192 = .ok (.if_icmp .ne 29, 3) := by decide +kernel
theorem dL_areThermometers_195 : decode cL_areThermometers 195 = .ok (.aload_n 0, 1) := by decide +kernel
theorem dL_areThermometers_196 : decode cL_areThermometers 196 = .ok (.iload 10, 2) := by decide +kernel
theorem dL_areThermometers_198 : decode cL_areThermometers 198 = .ok (.iload 12, 2) := by decide +kernel
theorem dL_areThermometers_200 : decode cL_areThermometers 200 = .ok (.iconst 1, 1) := by decide +kernel
theorem dL_areThermometers_201 : decode cL_areThermometers 201 = .ok (.invokevirtual 49, 3) := by decide +kernel
theorem dL_areThermometers_204 : decode cL_areThermometers 204 = .ok (.aload_n 3, 1) := by decide +kernel
theorem dL_areThermometers_205 : decode cL_areThermometers 205 = .ok (.bipush 6, 2) := by decide +kernel
theorem dL_areThermometers_207 : decode cL_areThermometers 207 = .ok (.iload 10, 2) := by decide +kernel
theorem dL_areThermometers_209 : decode cL_areThermometers 209 = .ok (.imul, 1) := by decide +kernel
theorem dL_areThermometers_210 : decode cL_areThermometers 210 = .ok (.iload 12, 2) := by decide +kernel
theorem dL_areThermometers_212 : decode cL_areThermometers 212 = .ok (.iadd, 1) := by decide +kernel
theorem dL_areThermometers_213 : decode cL_areThermometers 213 = .ok (.iaload, 1) := by decide +kernel
theorem dL_areThermometers_214 : decode cL_areThermometers 214 = .ok (.if_icmp .ne 7, 3) := by decide +kernel
theorem dL_areThermometers_217 : decode cL_areThermometers 217 = .ok (.iconst 1, 1) := by decide +kernel
theorem dL_areThermometers_218 : decode cL_areThermometers 218 = .ok (.goto 4, 3) := by decide +kernel
theorem dL_areThermometers_221 : decode cL_areThermometers 221 = .ok (.iconst 0, 1) := by decide +kernel
theorem dL_areThermometers_222 : decode cL_areThermometers 222 = .ok (.istore 9, 2) := by decide +kernel
theorem dL_areThermometers_224 : decode cL_areThermometers 224 = .ok (.iinc 12 1, 3) := by decide +kernel
theorem dL_areThermometers_227 : decode cL_areThermometers 227 = .ok (.goto (-71), 3) := by decide +kernel
theorem dL_areThermometers_230 : decode cL_areThermometers 230 = .ok (.iload 5, 2) := by decide +kernel
theorem dL_areThermometers_232 : decode cL_areThermometers 232 = .ok (.aload_n 1, 1) := by decide +kernel
theorem dL_areThermometers_233 : decode cL_areThermometers 233 = .ok (.iload 10, 2) := by decide +kernel
theorem dL_areThermometers_235 : decode cL_areThermometers 235 = .ok (.invokestatic 16, 3) := by decide +kernel
theorem dL_areThermometers_238 : decode cL_areThermometers 238 = .ok (.ifCond .eq 10, 3) := by decide +kernel
theorem dL_areThermometers_241 : decode cL_areThermometers 241 = .ok (.iconst 1, 1) := by decide +kernel
theorem dL_areThermometers_242 : decode cL_areThermometers 242 = .ok (.iload 10, 2) := by decide +kernel
theorem dL_areThermometers_244 : decode cL_areThermometers 244 = .ok (.ishl, 1) := by decide +kernel
theorem dL_areThermometers_245 : decode cL_areThermometers 245 = .ok (.goto 4, 3) := by decide +kernel
theorem dL_areThermometers_248 : decode cL_areThermometers 248 = .ok (.iconst 0, 1) := by decide +kernel
theorem dL_areThermometers_249 : decode cL_areThermometers 249 = .ok (.ior, 1) := by decide +kernel
theorem dL_areThermometers_250 : decode cL_areThermometers 250 = .ok (.istore 5, 2) := by decide +kernel
theorem dL_areThermometers_252 : decode cL_areThermometers 252 = .ok (.iload 6, 2) := by decide +kernel
theorem dL_areThermometers_254 : decode cL_areThermometers 254 = .ok (.aload_n 1, 1) := by decide +kernel
theorem dL_areThermometers_255 : decode cL_areThermometers 255 = .ok (.iload 11, 2) := by decide +kernel
theorem dL_areThermometers_257 : decode cL_areThermometers 257 = .ok (.bipush 6, 2) := by decide +kernel
theorem dL_areThermometers_259 : decode cL_areThermometers 259 = .ok (.iadd, 1) := by decide +kernel
theorem dL_areThermometers_260 : decode cL_areThermometers 260 = .ok (.iaload, 1) := by decide +kernel
theorem dL_areThermometers_261 : decode cL_areThermometers 261 = .ok (.iload 10, 2) := by decide +kernel
theorem dL_areThermometers_263 : decode cL_areThermometers 263 = .ok (.ishl, 1) := by decide +kernel
theorem dL_areThermometers_264 : decode cL_areThermometers 264 = .ok (.ior, 1) := by decide +kernel
theorem dL_areThermometers_265 : decode cL_areThermometers 265 = .ok (.istore 6, 2) := by decide +kernel
theorem dL_areThermometers_267 : decode cL_areThermometers 267 = .ok (.iload 7, 2) := by decide +kernel
theorem dL_areThermometers_269 : decode cL_areThermometers 269 = .ok (.aload_n 1, 1) := by decide +kernel
theorem dL_areThermometers_270 : decode cL_areThermometers 270 = .ok (.iload 11, 2) := by decide +kernel
theorem dL_areThermometers_272 : decode cL_areThermometers 272 = .ok (.bipush 7, 2) := by decide +kernel
theorem dL_areThermometers_274 : decode cL_areThermometers 274 = .ok (.iadd, 1) := by decide +kernel
theorem dL_areThermometers_275 : decode cL_areThermometers 275 = .ok (.iaload, 1) := by decide +kernel
theorem dL_areThermometers_276 : decode cL_areThermometers 276 = .ok (.ifCond .le 22, 3) := by decide +kernel
theorem dL_areThermometers_279 : decode cL_areThermometers 279 = .ok (.aload_n 1, 1) := by decide +kernel
theorem dL_areThermometers_280 : decode cL_areThermometers 280 = .ok (.aload_n 2, 1) := by decide +kernel
theorem dL_areThermometers_281 : decode cL_areThermometers 281 = .ok (.aload_n 3, 1) := by decide +kernel
theorem dL_areThermometers_282 : decode cL_areThermometers 282 = .ok (.iload 10, 2) := by decide +kernel
theorem dL_areThermometers_284 : decode cL_areThermometers 284 = .ok (.invokestatic 20, 3) := by decide +kernel
theorem dL_areThermometers_287 : decode cL_areThermometers 287 = .ok (.aload 4, 2) := by decide +kernel
theorem dL_areThermometers_289 : decode cL_areThermometers 289 = .ok (.iconst 1, 1) := by decide +kernel
theorem dL_areThermometers_290 : decode cL_areThermometers 290 = .ok (.iaload, 1) := by decide +kernel
theorem dL_areThermometers_291 : decode cL_areThermometers 291 = .ok (.isub, 1) := by decide +kernel
theorem dL_areThermometers_292 : decode cL_areThermometers 292 = .ok (.invokestatic 36, 3) := by decide +kernel
theorem dL_areThermometers_295 : decode cL_areThermometers 295 = .ok (.goto 4, 3) := by decide +kernel
theorem dL_areThermometers_298 : decode cL_areThermometers 298 = .ok (.iconst 0, 1) := by decide +kernel
theorem dL_areThermometers_299 : decode cL_areThermometers 299 = .ok (.iadd, 1) := by decide +kernel
theorem dL_areThermometers_300 : decode cL_areThermometers 300 = .ok (.istore 7, 2) := by decide +kernel
theorem dL_areThermometers_302 : decode cL_areThermometers 302 = .ok (.iload 8, 2) := by decide +kernel
theorem dL_areThermometers_304 : decode cL_areThermometers 304 = .ok (.aload_n 1, 1) := by decide +kernel
theorem dL_areThermometers_305 : decode cL_areThermometers 305 = .ok (.iload 11, 2) := by decide +kernel
theorem dL_areThermometers_307 : decode cL_areThermometers 307 = .ok (.bipush 7, 2) := by decide +kernel
theorem dL_areThermometers_309 : decode cL_areThermometers 309 = .ok (.iadd, 1) := by decide +kernel
theorem dL_areThermometers_310 : decode cL_areThermometers 310 = .ok (.iaload, 1) := by decide +kernel
theorem dL_areThermometers_311 : decode cL_areThermometers 311 = .ok (.ifCond .le 7, 3) := by decide +kernel
theorem dL_areThermometers_314 : decode cL_areThermometers 314 = .ok (.iconst 1, 1) := by decide +kernel
theorem dL_areThermometers_315 : decode cL_areThermometers 315 = .ok (.goto 4, 3) := by decide +kernel
theorem dL_areThermometers_318 : decode cL_areThermometers 318 = .ok (.iconst 0, 1) := by decide +kernel
theorem dL_areThermometers_319 : decode cL_areThermometers 319 = .ok (.iadd, 1) := by decide +kernel
theorem dL_areThermometers_320 : decode cL_areThermometers 320 = .ok (.istore 8, 2) := by decide +kernel
theorem dL_areThermometers_322 : decode cL_areThermometers 322 = .ok (.iinc 10 1, 3) := by decide +kernel
theorem dL_areThermometers_325 : decode cL_areThermometers 325 = .ok (.goto (-290), 3) := by decide +kernel
theorem dL_areThermometers_328 : decode cL_areThermometers 328 = .ok (.iload 9, 2) := by decide +kernel
theorem dL_areThermometers_330 : decode cL_areThermometers 330 = .ok (.ifCond .eq 51, 3) := by decide +kernel
theorem dL_areThermometers_333 : decode cL_areThermometers 333 = .ok (.aload_n 0, 1) := by decide +kernel
theorem dL_areThermometers_334 : decode cL_areThermometers 334 = .ok (.iconst 3, 1) := by decide +kernel
theorem dL_areThermometers_335 : decode cL_areThermometers 335 = .ok (.invokevirtual 40, 3) := by decide +kernel
theorem dL_areThermometers_338 : decode cL_areThermometers 338 = .ok (.iload 5, 2) := by decide +kernel
theorem dL_areThermometers_340 : decode cL_areThermometers 340 = .ok (.if_icmp .ne 41, 3) := by decide +kernel
theorem dL_areThermometers_343 : decode cL_areThermometers 343 = .ok (.aload_n 0, 1) := by decide +kernel
theorem dL_areThermometers_344 : decode cL_areThermometers 344 = .ok (.iconst 4, 1) := by decide +kernel
theorem dL_areThermometers_345 : decode cL_areThermometers 345 = .ok (.invokevirtual 40, 3) := by decide +kernel
theorem dL_areThermometers_348 : decode cL_areThermometers 348 = .ok (.iload 6, 2) := by decide +kernel
theorem dL_areThermometers_350 : decode cL_areThermometers 350 = .ok (.if_icmp .ne 31, 3) := by decide +kernel
theorem dL_areThermometers_353 : decode cL_areThermometers 353 = .ok (.aload_n 0, 1) := by decide +kernel
theorem dL_areThermometers_354 : decode cL_areThermometers 354 = .ok (.invokevirtual 53, 3) := by decide +kernel
theorem dL_areThermometers_357 : decode cL_areThermometers 357 = .ok (.iload 8, 2) := by decide +kernel
theorem dL_areThermometers_359 : decode cL_areThermometers 359 = .ok (.ifCond .ne 7, 3) := by decide +kernel
theorem dL_areThermometers_362 : decode cL_areThermometers 362 = .ok (.dconst 0, 1) := by decide +kernel
theorem dL_areThermometers_363 : decode cL_areThermometers 363 = .ok (.goto 10, 3) := by decide +kernel
theorem dL_areThermometers_366 : decode cL_areThermometers 366 = .ok (.iload 7, 2) := by decide +kernel
theorem dL_areThermometers_368 : decode cL_areThermometers 368 = .ok (.i2d, 1) := by decide +kernel
theorem dL_areThermometers_369 : decode cL_areThermometers 369 = .ok (.iload 8, 2) := by decide +kernel
theorem dL_areThermometers_371 : decode cL_areThermometers 371 = .ok (.i2d, 1) := by decide +kernel
theorem dL_areThermometers_372 : decode cL_areThermometers 372 = .ok (.ddiv, 1) := by decide +kernel
theorem dL_areThermometers_373 : decode cL_areThermometers 373 = .ok (.dcmp .l, 1) := by decide +kernel
theorem dL_areThermometers_374 : decode cL_areThermometers 374 = .ok (.ifCond .ne 7, 3) := by decide +kernel
theorem dL_areThermometers_377 : decode cL_areThermometers 377 = .ok (.iconst 1, 1) := by decide +kernel
theorem dL_areThermometers_378 : decode cL_areThermometers 378 = .ok (.goto 4, 3) := by decide +kernel
theorem dL_areThermometers_381 : decode cL_areThermometers 381 = .ok (.iconst 0, 1) := by decide +kernel
theorem dL_areThermometers_382 : decode cL_areThermometers 382 = .ok (.ireturn, 1) := by decide +kernel
theorem dL_areNumbers_0 : decode cL_areNumbers 0 = .ok (.aload_n 1, 1) := by decide +kernel
theorem dL_areNumbers_1 : decode cL_areNumbers 1 = .ok (.aload_n 2, 1) := by decide +kernel
theorem dL_areNumbers_2 : decode cL_areNumbers 2 = .ok (.aload_n 3, 1) := by decide +kernel
theorem dL_areNumbers_3 : decode cL_areNumbers 3 = .ok (.aload 4, 2) := by decide +kernel
theorem dL_areNumbers_5 : decode cL_areNumbers 5 = .ok (.invokestatic 24, 3) := by decide +kernel
theorem dL_areNumbers_8 : decode cL_areNumbers 8 = .ok (.istore 5, 2) := by decide +kernel
theorem dL_areNumbers_10 : decode cL_areNumbers 10 = .ok (.aload_n 0, 1) := by decide +kernel
theorem dL_areNumbers_11 : decode cL_areNumbers 11 = .ok (.iconst 0, 1) := by decide +kernel
theorem dL_areNumbers_12 : decode cL_areNumbers 12 = .ok (.invokevirtual 40, 3) := by decide +kernel
theorem dL_areNumbers_15 : decode cL_areNumbers 15 = .ok (.aload 4, 2) := by decide +kernel
theorem dL_areNumbers_17 : decode cL_areNumbers 17 = .ok (.iconst 0, 1) := by decide +kernel
theorem dL_areNumbers_18 : decode cL_areNumbers 18 = .ok (.iaload, 1) := by decide +kernel
theorem dL_areNumbers_19 : decode cL_areNumbers 19 = .ok (.if_icmp .ne 140, 3) := by decide +kernel
theorem dL_areNumbers_22 : decode cL_areNumbers 22 = .ok (.aload_n 0, 1) := by decide +kernel
theorem dL_areNumbers_23 : decode cL_areNumbers 23 = .ok (.iconst 2, 1) := by decide +kernel
theorem dL_areNumbers_24 : decode cL_areNumbers 24 = .ok (.invokevirtual 40, 3) := by decide +kernel
theorem dL_areNumbers_27 : decode cL_areNumbers 27 = .ok (.aload 4, 2) := by decide +kernel
theorem dL_areNumbers_29 : decode cL_areNumbers 29 = .ok (.iconst 1, 1) := by decide +kernel
theorem dL_areNumbers_30 : decode cL_areNumbers 30 = .ok (.iaload, 1) := by decide +kernel
theorem dL_areNumbers_31 : decode cL_areNumbers 31 = .ok (.if_icmp .ne 128, 3) := by decide +kernel
theorem dL_areNumbers_34 : decode cL_areNumbers 34 = .ok (.aload_n 0, 1) := by decide +kernel
theorem dL_areNumbers_35 : decode cL_areNumbers 35 = .ok (.iconst 5, 1) := by decide +kernel
theorem dL_areNumbers_36 : decode cL_areNumbers 36 = .ok (.invokevirtual 40, 3) := by decide +kernel
theorem dL_areNumbers_39 : decode cL_areNumbers 39 = .ok (.iload 5, 2) := by decide +kernel
theorem dL_areNumbers_41 : decode cL_areNumbers 41 = .ok (.if_icmp .ne 118, 3) := by decide +kernel
theorem dL_areNumbers_44 : decode cL_areNumbers 44 = .ok (.aload_n 0, 1) := by decide +kernel
theorem dL_areNumbers_45 : decode cL_areNumbers 45 = .ok (.bipush 6, 2) := by decide +kernel
theorem dL_areNumbers_47 : decode cL_areNumbers 47 = .ok (.invokevirtual 40, 3) := by decide +kernel
theorem dL_areNumbers_50 : decode cL_areNumbers 50 = .ok (.iload 5, 2) := by decide +kernel
theorem dL_areNumbers_52 : decode cL_areNumbers 52 = .ok (.ldc 11, 2) := by decide +kernel
theorem dL_areNumbers_54 : decode cL_areNumbers 54 = .ok (.if_icmp .eq 13, 3) := by decide +kernel
theorem dL_areNumbers_57 : decode cL_areNumbers 57 = .ok (.aload 4, 2) := by decide +kernel
theorem dL_areNumbers_59 : decode cL_areNumbers 59 = .ok (.bipush 14, 2) := by decide +kernel
theorem dL_areNumbers_61 : decode cL_areNumbers 61 = .ok (.iaload, 1) := by decide +kernel
theorem dL_areNumbers_62 : decode cL_areNumbers 62 = .ok (.ldc 11, 2) := by decide +kernel
theorem dL_areNumbers_64 : decode cL_areNumbers 64 = .ok (.if_icmp .ne 8, 3) := by decide +kernel
theorem dL_areNumbers_67 : decode cL_areNumbers 67 = .ok (.ldc 11, 2) := by decide +kernel
theorem dL_areNumbers_69 : decode cL_areNumbers 69 = .ok (.goto 11, 3) := by decide +kernel
theorem dL_areNumbers_72 : decode cL_areNumbers 72 = .ok (.iload 5, 2) := by decide +kernel
theorem dL_areNumbers_74 : decode cL_areNumbers 74 = .ok (.aload 4, 2) := by decide +kernel
theorem dL_areNumbers_76 : decode cL_areNumbers 76 = .ok (.bipush 14, 2) := by decide +kernel
theorem dL_areNumbers_78 : decode cL_areNumbers 78 = .ok (.iaload, 1) := by decide +kernel
theorem dL_areNumbers_79 : decode cL_areNumbers 79 = .ok (.isub, 1) := by decide +kernel
theorem dL_areNumbers_80 : decode cL_areNumbers 80 = .ok (.if_icmp .ne 79, 3) := by decide +kernel
theorem dL_areNumbers_83 : decode cL_areNumbers 83 = .ok (.aload_n 0, 1) := by decide +kernel
theorem dL_areNumbers_84 : decode cL_areNumbers 84 = .ok (.bipush 7, 2) := by decide +kernel
theorem dL_areNumbers_86 : decode cL_areNumbers 86 = .ok (.invokevirtual 40, 3) := by decide +kernel
theorem dL_areNumbers_89 : decode cL_areNumbers 89 = .ok (.aload_n 1, 1) := by decide +kernel
theorem dL_areNumbers_90 : decode cL_areNumbers 90 = .ok (.aload_n 2, 1) := by decide +kernel
theorem dL_areNumbers_91 : decode cL_areNumbers 91 = .ok (.aload_n 3, 1) := by decide +kernel
theorem dL_areNumbers_92 : decode cL_areNumbers 92 = .ok (.aload 4, 2) := by decide +kernel
theorem dL_areNumbers_94 : decode cL_areNumbers 94 = .ok (.iconst (-1), 1) := by decide +kernel
theorem dL_areNumbers_95 : decode cL_areNumbers 95 = .ok (.invokestatic 32, 3) := by decide +kernel
theorem dL_areNumbers_98 : decode cL_areNumbers 98 = .ok (.if_icmp .ne 61, 3) := by decide +kernel
theorem dL_areNumbers_101 : decode cL_areNumbers 101 = .ok (.aload_n 0, 1) := by decide +kernel
theorem dL_areNumbers_102 : decode cL_areNumbers 102 = .ok (.bipush 8, 2) := by decide +kernel
theorem dL_areNumbers_104 : decode cL_areNumbers 104 = .ok (.invokevirtual 40, 3) := by decide +kernel
theorem dL_areNumbers_107 : decode cL_areNumbers 107 = .ok (.aload 4, 2) := by decide +kernel
theorem dL_areNumbers_109 : decode cL_areNumbers 109 = .ok (.bipush 12, 2) := by decide +kernel
theorem dL_areNumbers_111 : decode cL_areNumbers 111 = .ok (.iaload, 1) := by decide +kernel
theorem dL_areNumbers_112 : decode cL_areNumbers 112 = .ok (.if_icmp .ne 47, 3) := by decide +kernel
theorem dL_areNumbers_115 : decode cL_areNumbers 115 = .ok (.aload_n 0, 1) := by decide +kernel
theorem dL_areNumbers_116 : decode cL_areNumbers 116 = .ok (.bipush 9, 2) := by decide +kernel
theorem dL_areNumbers_118 : decode cL_areNumbers 118 = .ok (.invokevirtual 40, 3) := by decide +kernel
theorem dL_areNumbers_121 : decode cL_areNumbers 121 = .ok (.aload 4, 2) := by decide +kernel
theorem dL_areNumbers_123 : decode cL_areNumbers 123 = .ok (.bipush 13, 2) := by decide +kernel
theorem dL_areNumbers_125 : decode cL_areNumbers 125 = .ok (.iaload, 1) := by decide +kernel
theorem dL_areNumbers_126 : decode cL_areNumbers 126 = .ok (.if_icmp .ne 33, 3) := by decide +kernel
theorem dL_areNumbers_129 : decode cL_areNumbers 129 = .ok (.aload_n 0, 1) := by decide +kernel
theorem dL_areNumbers_130 : decode cL_areNumbers 130 = .ok (.bipush 12, 2) := by decide +kernel
theorem dL_areNumbers_132 : decode cL_areNumbers 132 = .ok (.invokevirtual 40, 3) := by decide +kernel
theorem dL_areNumbers_135 : decode cL_areNumbers 135 = .ok (.aload 4, 2) := by decide +kernel
theorem dL_areNumbers_137 : decode cL_areNumbers 137 = .ok (.iconst 2, 1) := by decide +kernel
theorem dL_areNumbers_138 : decode cL_areNumbers 138 = .ok (.iaload, 1) := by decide +kernel
theorem dL_areNumbers_139 : decode cL_areNumbers 139 = .ok (.if_icmp .ne 20, 3) := by decide +kernel
theorem dL_areNumbers_142 : decode cL_areNumbers 142 = .ok (.aload_n 0, 1) := by decide +kernel
theorem dL_areNumbers_143 : decode cL_areNumbers 143 = .ok (.bipush 13, 2) := by decide +kernel
theorem dL_areNumbers_145 : decode cL_areNumbers 145 = .ok (.invokevirtual 40, 3) := by decide +kernel
theorem dL_areNumbers_148 : decode cL_areNumbers 148 = .ok (.aload 4, 2) := by decide +kernel
theorem dL_areNumbers_150 : decode cL_areNumbers 150 = .ok (.iconst 3, 1) := by decide +kernel
theorem dL_areNumbers_151 : decode cL_areNumbers 151 = .ok (.iaload, 1) := by decide +kernel
theorem dL_areNumbers_152 : decode cL_areNumbers 152 = .ok (.if_icmp .ne 7, 3) := by decide +kernel
theorem dL_areNumbers_155 : decode cL_areNumbers 155 = .ok (.iconst 1, 1) := by decide +kernel
theorem dL_areNumbers_156 : decode cL_areNumbers 156 = .ok (.goto 4, 3) := by decide +kernel
theorem dL_areNumbers_159 : decode cL_areNumbers 159 = .ok (.iconst 0, 1) := by decide +kernel
theorem dL_areNumbers_160 : decode cL_areNumbers 160 = .ok (.istore 6, 2) := by decide +kernel
theorem dL_areNumbers_162 : decode cL_areNumbers 162 = .ok (.iconst 0, 1) := by decide +kernel
theorem dL_areNumbers_163 : decode cL_areNumbers 163 = .ok (.istore 7, 2) := by decide +kernel
theorem dL_areNumbers_165 : decode cL_areNumbers 165 = .ok (.iload 7, 2) := by decide +kernel
theorem dL_areNumbers_167 : decode cL_areNumbers 167 = .ok (.iconst 4, 1) := by decide +kernel
theorem dL_areNumbers_168 : decode cL_areNumbers 168 = .ok (.if_icmp .ge 151, 3) := by decide +kernel
theorem dL_areNumbers_171 : decode cL_areNumbers 171 = .ok (.iconst 0, 1) := by decide +kernel
theorem dL_areNumbers_172 : decode cL_areNumbers 172 = .ok (.istore 8, 2) := by decide +kernel
theorem dL_areNumbers_174 : decode cL_areNumbers 174 = .ok (.iconst 1, 1) := by decide +kernel
theorem dL_areNumbers_175 : decode cL_areNumbers 175 = .ok (.istore 9, 2) := by decide +kernel
theorem dL_areNumbers_177 : decode cL_areNumbers 177 = .ok (.aload 4, 2) := by decide +kernel
theorem dL_areNumbers_179 : decode cL_areNumbers 179 = .ok (.iconst 0, 1) := by decide +kernel
theorem dL_areNumbers_180 : decode cL_areNumbers 180 = .ok (.iaload, 1) := by decide +kernel
theorem dL_areNumbers_181 : decode cL_areNumbers 181 = .ok (.iload 9, 2) := by decide +kernel
theorem dL_areNumbers_183 : decode cL_areNumbers 183 = .ok (.iadd, 1) := by decide +kernel
theorem dL_areNumbers_184 : decode cL_areNumbers 184 = .ok (.aload 4, 2) := by decide +kernel
theorem dL_areNumbers_186 : decode cL_areNumbers 186 = .ok (.iconst 4, 1) := by decide +kernel
theorem dL_areNumbers_187 : decode cL_areNumbers 187 = .ok (.iload 7, 2) := by decide +kernel
theorem dL_areNumbers_189 : decode cL_areNumbers 189 = .ok (.iadd, 1) := by decide +kernel
theorem dL_areNumbers_190 : decode cL_areNumbers 190 = .ok (.iaload, 1) := by decide +kernel
theorem dL_areNumbers_191 : decode cL_areNumbers 191 = .ok (.irem, 1) := by decide +kernel
theorem dL_areNumbers_192 : decode cL_areNumbers 192 = .ok (.ifCond .le 9, 3) := by decide +kernel
theorem dL_areNumbers_195 : decode cL_areNumbers 195 = .ok (.iinc 9 1, 3) := by decide +kernel
theorem dL_areNumbers_198 : decode cL_areNumbers 198 = .ok (.goto (-21), 3) := by decide +kernel
theorem dL_areNumbers_201 : decode cL_areNumbers 201 = .ok (.iconst 0, 1) := by decide +kernel
theorem dL_areNumbers_202 : decode cL_areNumbers 202 = .ok (.istore 10, 2) := by decide +kernel
theorem dL_areNumbers_204 : decode cL_areNumbers 204 = .ok (.iload 10, 2) := by decide +kernel
theorem dL_areNumbers_206 : decode cL_areNumbers 206 = .ok (.aload 4, 2) := by decide +kernel
theorem dL_areNumbers_208 : decode cL_areNumbers 208 = .ok (.bipush 15, 2) := by decide +kernel
theorem dL_areNumbers_210 : decode cL_areNumbers 210 = .ok (.iaload, 1) := by decide +kernel
theorem dL_areNumbers_211 : decode cL_areNumbers 211 = .ok (.if_icmp .ge 31, 3) := by decide +kernel
theorem dL_areNumbers_214 : decode cL_areNumbers 214 = .ok (.iload 8, 2) := by decide +kernel
theorem dL_areNumbers_216 : decode cL_areNumbers 216 = .ok (.aload_n 1, 1) := by decide +kernel
theorem dL_areNumbers_217 : decode cL_areNumbers 217 = .ok (.bipush 10, 2) := by decide +kernel
theorem dL_areNumbers_219 : decode cL_areNumbers 219 = .ok (.iload 10, 2) := by decide +kernel
theorem dL_areNumbers_221 : decode cL_areNumbers 221 = .ok (.imul, 1) := by decide +kernel
theorem dL_areNumbers_222 : decode cL_areNumbers 222 = .ok (.iaload, 1) := by decide +kernel
theorem dL_areNumbers_223 : decode cL_areNumbers 223 = .ok (.iload 7, 2) := by decide +kernel
theorem dL_areNumbers_225 : decode cL_areNumbers 225 = .ok (.if_icmp .ne 7, 3) := by decide +kernel
theorem dL_areNumbers_228 : decode cL_areNumbers 228 = .ok (.iconst 1, 1) := by decide +kernel
theorem dL_areNumbers_229 : decode cL_areNumbers 229 = .ok (.goto 4, 3) := by decide +kernel
theorem dL_areNumbers_232 : decode cL_areNumbers 232 = .ok (.iconst 0, 1) := by decide +kernel
theorem dL_areNumbers_233 : decode cL_areNumbers 233 = .ok (.iadd, 1) := by decide +kernel
theorem dL_areNumbers_234 : decode cL_areNumbers 234 = .ok (.istore 8, 2) := by decide +kernel
theorem dL_areNumbers_236 : decode cL_areNumbers 236 = .ok (.iinc 10 1, 3) := by decide +kernel
theorem dL_areNumbers_239 : decode cL_areNumbers 239 = .ok (.goto (-35), 3) := by decide +kernel
theorem dL_areNumbers_242 : decode cL_areNumbers 242 = .ok (.iload 6, 2) := by decide +kernel
theorem dL_areNumbers_244 : decode cL_areNumbers 244 = .ok (.ifCond .eq 66, 3) := by decide +kernel
theorem dL_areNumbers_247 : decode cL_areNumbers 247 = .ok (.aload_n 0, 1) := by decide +kernel
theorem dL_areNumbers_248 : decode cL_areNumbers 248 = .ok (.iload 7, 2) := by decide +kernel
theorem dL_areNumbers_250 : decode cL_areNumbers 250 = .ok (.iconst 0, 1) := by decide +kernel
theorem dL_areNumbers_251 : decode cL_areNumbers 251 = .ok (.invokevirtual 57, 3) := by decide +kernel
theorem dL_areNumbers_254 : decode cL_areNumbers 254 = .ok (.aload 4, 2) := by decide +kernel
theorem dL_areNumbers_256 : decode cL_areNumbers 256 = .ok (.iconst 4, 1) := by decide +kernel
theorem dL_areNumbers_257 : decode cL_areNumbers 257 = .ok (.iload 7, 2) := by decide +kernel
theorem dL_areNumbers_259 : decode cL_areNumbers 259 = .ok (.iadd, 1) := by decide +kernel
theorem dL_areNumbers_260 : decode cL_areNumbers 260 = .ok (.iaload, 1) := by decide +kernel
theorem dL_areNumbers_261 : decode cL_areNumbers 261 = .ok (.if_icmp .ne 49, 3) := by decide +kernel
theorem dL_areNumbers_264 : decode cL_areNumbers 264 = .ok (.aload_n 0, 1) := by decide +kernel
theorem dL_areNumbers_265 : decode cL_areNumbers 265 = .ok (.iload 7, 2) := by decide +kernel
theorem dL_areNumbers_267 : decode cL_areNumbers 267 = .ok (.iconst 1, 1) := by decide +kernel
theorem dL_areNumbers_268 : decode cL_areNumbers 268 = .ok (.invokevirtual 57, 3) := by decide +kernel
theorem dL_areNumbers_271 : decode cL_areNumbers 271 = .ok (.iload 8, 2) := by decide +kernel
theorem dL_areNumbers_273 : decode cL_areNumbers 273 = .ok (.if_icmp .ne 37, 3) := by decide +kernel
theorem dL_areNumbers_276 : decode cL_areNumbers 276 = .ok (.aload_n 0, 1) := by decide +kernel
theorem dL_areNumbers_277 : decode cL_areNumbers 277 = .ok (.iload 7, 2) := by decide +kernel
theorem dL_areNumbers_279 : decode cL_areNumbers 279 = .ok (.iconst 2, 1) := by decide +kernel
theorem dL_areNumbers_280 : decode cL_areNumbers 280 = .ok (.invokevirtual 57, 3) := by decide +kernel
theorem dL_areNumbers_283 : decode cL_areNumbers 283 = .ok (.iload 9, 2) := by decide +kernel
theorem dL_areNumbers_285 : decode cL_areNumbers 285 = .ok (.if_icmp .ne 25, 3) := by decide +kernel
theorem dL_areNumbers_288 : decode cL_areNumbers 288 = .ok (.aload_n 0, 1) := by decide +kernel
theorem dL_areNumbers_289 : decode cL_areNumbers 289 = .ok (.iload 7, 2) := by decide +kernel
theorem dL_areNumbers_291 : decode cL_areNumbers 291 = .ok (.iconst 3, 1) := by decide +kernel
theorem dL_areNumbers_292 : decode cL_areNumbers 292 = .ok (.invokevirtual 57, 3) := by decide +kernel
theorem dL_areNumbers_295 : decode cL_areNumbers 295 = .ok (.aload 4, 2) := by decide +kernel
theorem dL_areNumbers_297 : decode cL_areNumbers 297 = .ok (.bipush 8, 2) := by decide +kernel
theorem dL_areNumbers_299 : decode cL_areNumbers 299 = .ok (.iload 7, 2) := by decide +kernel
theorem dL_areNumbers_301 : decode cL_areNumbers 301 = .ok (.iadd, 1) := by decide +kernel
theorem dL_areNumbers_302 : decode cL_areNumbers 302 = .ok (.iaload, 1) := by decide +kernel
theorem dL_areNumbers_303 : decode cL_areNumbers 303 = .ok (.if_icmp .ne 7, 3) := by decide +kernel
theorem dL_areNumbers_306 : decode cL_areNumbers 306 = .ok (.iconst 1, 1) := by decide +kernel
theorem dL_areNumbers_307 : decode cL_areNumbers 307 = .ok (.goto 4, 3) := by decide +kernel
theorem dL_areNumbers_310 : decode cL_areNumbers 310 = .ok (.iconst 0, 1) := by decide +kernel
theorem dL_areNumbers_311 : decode cL_areNumbers 311 = .ok (.istore 6, 2) := by decide +kernel
theorem dL_areNumbers_313 : decode cL_areNumbers 313 = .ok (.iinc 7 1, 3) := by decide +kernel
theorem dL_areNumbers_316 : decode cL_areNumbers 316 = .ok (.goto (-151), 3) := by decide +kernel
theorem dL_areNumbers_319 : decode cL_areNumbers 319 = .ok (.iload 6, 2) := by decide +kernel
theorem dL_areNumbers_321 : decode cL_areNumbers 321 = .ok (.ireturn, 1) := by decide +kernel
theorem dL_areRanked_0 : decode cL_areRanked 0 = .ok (.iconst 0, 1) := by decide +kernel
theorem dL_areRanked_1 : decode cL_areRanked 1 = .ok (.istore 8, 2) := by decide +kernel
theorem dL_areRanked_3 : decode cL_areRanked 3 = .ok (.iconst 0, 1) := by decide +kernel
theorem dL_areRanked_4 : decode cL_areRanked 4 = .ok (.istore 9, 2) := by decide +kernel
theorem dL_areRanked_6 : decode cL_areRanked 6 = .ok (.iconst 0, 1) := by decide +kernel
theorem dL_areRanked_7 : decode cL_areRanked 7 = .ok (.istore 10, 2) := by decide +kernel
theorem dL_areRanked_9 : decode cL_areRanked 9 = .ok (.iload 10, 2) := by decide +kernel
theorem dL_areRanked_11 : decode cL_areRanked 11 = .ok (.aload 4, 2) := by decide +kernel
theorem dL_areRanked_13 : decode cL_areRanked 13 = .ok (.bipush 15, 2) := by decide +kernel
theorem dL_areRanked_15 : decode cL_areRanked 15 = .ok (.iaload, 1) := by decide +kernel
theorem dL_areRanked_16 : decode cL_areRanked 16 = .ok (.if_icmp .ge 81, 3) := by decide +kernel
theorem dL_areRanked_19 : decode cL_areRanked 19 = .ok (.iload 8, 2) := by decide +kernel
theorem dL_areRanked_21 : decode cL_areRanked 21 = .ok (.aload_n 1, 1) := by decide +kernel
theorem dL_areRanked_22 : decode cL_areRanked 22 = .ok (.bipush 10, 2) := by decide +kernel
theorem dL_areRanked_24 : decode cL_areRanked 24 = .ok (.iload 10, 2) := by decide +kernel
theorem dL_areRanked_26 : decode cL_areRanked 26 = .ok (.imul, 1) := by decide +kernel
theorem dL_areRanked_27 : decode cL_areRanked 27 = .ok (.bipush 7, 2) := by decide +kernel
theorem dL_areRanked_29 : decode cL_areRanked 29 = .ok (.iadd, 1) := by decide +kernel
theorem dL_areRanked_30 : decode cL_areRanked 30 = .ok (.iaload, 1) := by decide +kernel
theorem dL_areRanked_31 : decode cL_areRanked 31 = .ok (.ifCond .le 7, 3) := by decide +kernel
theorem dL_areRanked_34 : decode cL_areRanked 34 = .ok (.iconst 1, 1) := by decide +kernel
theorem dL_areRanked_35 : decode cL_areRanked 35 = .ok (.goto 4, 3) := by decide +kernel
theorem dL_areRanked_38 : decode cL_areRanked 38 = .ok (.iconst 0, 1) := by decide +kernel
theorem dL_areRanked_39 : decode cL_areRanked 39 = .ok (.iadd, 1) := by decide +kernel
theorem dL_areRanked_40 : decode cL_areRanked 40 = .ok (.istore 8, 2) := by decide +kernel
theorem dL_areRanked_42 : decode cL_areRanked 42 = .ok (.iload 9, 2) := by decide +kernel
theorem dL_areRanked_44 : decode cL_areRanked 44 = .ok (.aload_n 1, 1) := by decide +kernel
theorem dL_areRanked_45 : decode cL_areRanked 45 = .ok (.bipush 10, 2) := by decide +kernel
theorem dL_areRanked_47 : decode cL_areRanked 47 = .ok (.iload 10, 2) := by decide +kernel
theorem dL_areRanked_49 : decode cL_areRanked 49 = .ok (.imul, 1) := by decide +kernel
theorem dL_areRanked_50 : decode cL_areRanked 50 = .ok (.bipush 7, 2) := by decide +kernel
theorem dL_areRanked_52 : decode cL_areRanked 52 = .ok (.iadd, 1) := by decide +kernel
theorem dL_areRanked_53 : decode cL_areRanked 53 = .ok (.iaload, 1) := by decide +kernel
theorem dL_areRanked_54 : decode cL_areRanked 54 = .ok (.ifCond .le 33, 3) := by decide +kernel
theorem dL_areRanked_57 : decode cL_areRanked 57 = .ok (.aload_n 1, 1) := by decide +kernel
theorem dL_areRanked_58 : decode cL_areRanked 58 = .ok (.aload_n 2, 1) := by decide +kernel
theorem dL_areRanked_59 : decode cL_areRanked 59 = .ok (.aload_n 3, 1) := by decide +kernel
theorem dL_areRanked_60 : decode cL_areRanked 60 = .ok (.iload 10, 2) := by decide +kernel
theorem dL_areRanked_62 : decode cL_areRanked 62 = .ok (.invokestatic 20, 3) := by decide +kernel
theorem dL_areRanked_65 : decode cL_areRanked 65 = .ok (.iload 6, 2) := by decide +kernel
theorem dL_areRanked_67 : decode cL_areRanked 67 = .ok (.if_icmp .lt 20, 3) := by decide +kernel
theorem dL_areRanked_70 : decode cL_areRanked 70 = .ok (.aload_n 1, 1) := by decide +kernel
theorem dL_areRanked_71 : decode cL_areRanked 71 = .ok (.aload_n 2, 1) := by decide +kernel
theorem dL_areRanked_72 : decode cL_areRanked 72 = .ok (.aload_n 3, 1) := by decide +kernel
theorem dL_areRanked_73 : decode cL_areRanked 73 = .ok (.iload 10, 2) := by decide +kernel
theorem dL_areRanked_75 : decode cL_areRanked 75 = .ok (.invokestatic 20, 3) := by decide +kernel
theorem dL_areRanked_78 : decode cL_areRanked 78 = .ok (.iload 7, 2) := by decide +kernel
theorem dL_areRanked_80 : decode cL_areRanked 80 = .ok (.if_icmp .gt 7, 3) := by decide +kernel
theorem dL_areRanked_83 : decode cL_areRanked 83 = .ok (.iconst 1, 1) := by decide +kernel
theorem dL_areRanked_84 : decode cL_areRanked 84 = .ok (.goto 4, 3) := by decide +kernel
theorem dL_areRanked_87 : decode cL_areRanked 87 = .ok (.iconst 0, 1) := by decide +kernel
theorem dL_areRanked_88 : decode cL_areRanked 88 = .ok (.iadd, 1) := by decide +kernel
theorem dL_areRanked_89 : decode cL_areRanked 89 = .ok (.istore 9, 2) := by decide +kernel
theorem dL_areRanked_91 : decode cL_areRanked 91 = .ok (.iinc 10 1, 3) := by decide +kernel
theorem dL_areRanked_94 : decode cL_areRanked 94 = .ok (.goto (-85), 3) := by decide +kernel
theorem dL_areRanked_97 : decode cL_areRanked 97 = .ok (.aload_n 0, 1) := by decide +kernel
theorem dL_areRanked_98 : decode cL_areRanked 98 = .ok (.iload 5, 2) := by decide +kernel
theorem dL_areRanked_100 : decode cL_areRanked 100 = .ok (.iload 8, 2) := by decide +kernel
theorem dL_areRanked_102 : decode cL_areRanked 102 = .ok (.invokevirtual 60, 3) := by decide +kernel
theorem dL_areRanked_105 : decode cL_areRanked 105 = .ok (.ldc 11, 2) := by decide +kernel
theorem dL_areRanked_107 : decode cL_areRanked 107 = .ok (.if_icmp .ne 20, 3) := by decide +kernel
theorem dL_areRanked_110 : decode cL_areRanked 110 = .ok (.aload_n 0, 1) := by decide +kernel
theorem dL_areRanked_111 : decode cL_areRanked 111 = .ok (.iload 6, 2) := by decide +kernel
theorem dL_areRanked_113 : decode cL_areRanked 113 = .ok (.iload 7, 2) := by decide +kernel
theorem dL_areRanked_115 : decode cL_areRanked 115 = .ok (.invokevirtual 63, 3) := by decide +kernel
theorem dL_areRanked_118 : decode cL_areRanked 118 = .ok (.iload 9, 2) := by decide +kernel
theorem dL_areRanked_120 : decode cL_areRanked 120 = .ok (.if_icmp .ne 7, 3) := by decide +kernel
theorem dL_areRanked_123 : decode cL_areRanked 123 = .ok (.iconst 1, 1) := by decide +kernel
theorem dL_areRanked_124 : decode cL_areRanked 124 = .ok (.goto 4, 3) := by decide +kernel
theorem dL_areRanked_127 : decode cL_areRanked 127 = .ok (.iconst 0, 1) := by decide +kernel
theorem dL_areRanked_128 : decode cL_areRanked 128 = .ok (.istore 10, 2) := by decide +kernel
theorem dL_areRanked_130 : decode cL_areRanked 130 = .ok (.ldc 66, 2) := by decide +kernel
theorem dL_areRanked_132 : decode cL_areRanked 132 = .ok (.istore 11, 2) := by decide +kernel
theorem dL_areRanked_134 : decode cL_areRanked 134 = .ok (.iconst (-1), 1) := by decide +kernel
theorem dL_areRanked_135 : decode cL_areRanked 135 = .ok (.istore 12, 2) := by decide +kernel
theorem dL_areRanked_137 : decode cL_areRanked 137 = .ok (.iconst 0, 1) := by decide +kernel
theorem dL_areRanked_138 : decode cL_areRanked 138 = .ok (.istore 13, 2) := by decide +kernel
theorem dL_areRanked_140 : decode cL_areRanked 140 = .ok (.iload 13, 2) := by decide +kernel
theorem dL_areRanked_142 : decode cL_areRanked 142 = .ok (.iload 8, 2) := by decide +kernel
theorem dL_areRanked_144 : decode cL_areRanked 144 = .ok (.if_icmp .ge 144, 3) := by decide +kernel
theorem dL_areRanked_147 : decode cL_areRanked 147 = .ok (.iload 10, 2) := by decide +kernel
theorem dL_areRanked_149 : decode cL_areRanked 149 = .ok (.ifCond .eq 139, 3) := by decide +kernel
theorem dL_areRanked_152 : decode cL_areRanked 152 = .ok (.aload_n 0, 1) := by decide +kernel
theorem dL_areRanked_153 : decode cL_areRanked 153 = .ok (.iload 5, 2) := by decide +kernel
theorem dL_areRanked_155 : decode cL_areRanked 155 = .ok (.iload 13, 2) := by decide +kernel
theorem dL_areRanked_157 : decode cL_areRanked 157 = .ok (.invokevirtual 60, 3) := by decide +kernel
theorem dL_areRanked_160 : decode cL_areRanked 160 = .ok (.istore 14, 2) := by decide +kernel
theorem dL_areRanked_162 : decode cL_areRanked 162 = .ok (.iload 14, 2) := by decide +kernel
theorem dL_areRanked_164 : decode cL_areRanked 164 = .ok (.ifCond .lt 30, 3) := by decide +kernel
theorem dL_areRanked_167 : decode cL_areRanked 167 = .ok (.iload 14, 2) := by decide +kernel
theorem dL_areRanked_169 : decode cL_areRanked 169 = .ok (.aload 4, 2) := by decide +kernel
theorem dL_areRanked_171 : decode cL_areRanked 171 = .ok (.bipush 15, 2) := by decide +kernel
theorem dL_areRanked_173 : decode cL_areRanked 173 = .ok (.iaload, 1) := by decide +kernel
theorem dL_areRanked_174 : decode cL_areRanked 174 = .ok (.if_icmp .ge 20, 3) := by decide +kernel
theorem dL_areRanked_177 : decode cL_areRanked 177 = .ok (.aload_n 1, 1) := by decide +kernel
theorem dL_areRanked_178 : decode cL_areRanked 178 = .ok (.bipush 10, 2) := by decide +kernel
theorem dL_areRanked_180 : decode cL_areRanked 180 = .ok (.iload 14, 2) := by decide +kernel
theorem dL_areRanked_182 : decode cL_areRanked 182 = .ok (.imul, 1) := by decide +kernel
theorem dL_areRanked_183 : decode cL_areRanked 183 = .ok (.bipush 7, 2) := by decide +kernel
theorem dL_areRanked_185 : decode cL_areRanked 185 = .ok (.iadd, 1) := by decide +kernel
theorem dL_areRanked_186 : decode cL_areRanked 186 = .ok (.iaload, 1) := by decide +kernel
theorem dL_areRanked_187 : decode cL_areRanked 187 = .ok (.ifCond .le 7, 3) := by decide +kernel
theorem dL_areRanked_190 : decode cL_areRanked 190 = .ok (.iconst 1, 1) := by decide +kernel
theorem dL_areRanked_191 : decode cL_areRanked 191 = .ok (.goto 4, 3) := by decide +kernel
theorem dL_areRanked_194 : decode cL_areRanked 194 = .ok (.iconst 0, 1) := by decide +kernel
theorem dL_areRanked_195 : decode cL_areRanked 195 = .ok (.istore 10, 2) := by decide +kernel
theorem dL_areRanked_197 : decode cL_areRanked 197 = .ok (.iload 10, 2) := by decide +kernel
theorem dL_areRanked_199 : decode cL_areRanked 199 = .ok (.ifCond .ne 7, 3) := by decide +kernel
theorem dL_areRanked_202 : decode cL_areRanked 202 = .ok (.iconst 0, 1) := by decide +kernel
theorem dL_areRanked_203 : decode cL_areRanked 203 = .ok (.goto 36, 3) := by decide +kernel
theorem dL_areRanked_206 : decode cL_areRanked 206 = .ok (.iload 5, 2) := by decide +kernel
theorem dL_areRanked_208 : decode cL_areRanked 208 = .ok (.ifCond .ne 14, 3) := by decide +kernel
theorem dL_areRanked_211 : decode cL_areRanked 211 = .ok (.aload_n 1, 1) := by decide +kernel
theorem dL_areRanked_212 : decode cL_areRanked 212 = .ok (.aload_n 2, 1) := by decide +kernel
theorem dL_areRanked_213 : decode cL_areRanked 213 = .ok (.aload_n 3, 1) := by decide +kernel
theorem dL_areRanked_214 : decode cL_areRanked 214 = .ok (.iload 14, 2) := by decide +kernel
theorem dL_areRanked_216 : decode cL_areRanked 216 = .ok (.invokestatic 20, 3) := by decide +kernel
theorem dL_areRanked_219 : decode cL_areRanked 219 = .ok (.goto 20, 3) := by decide +kernel
theorem dL_areRanked_222 : decode cL_areRanked 222 = .ok (.aload_n 1, 1) := by decide +kernel
theorem dL_areRanked_223 : decode cL_areRanked 223 = .ok (.aload_n 2, 1) := by decide +kernel
theorem dL_areRanked_224 : decode cL_areRanked 224 = .ok (.aload_n 3, 1) := by decide +kernel
theorem dL_areRanked_225 : decode cL_areRanked 225 = .ok (.iload 14, 2) := by decide +kernel
theorem dL_areRanked_227 : decode cL_areRanked 227 = .ok (.invokestatic 20, 3) := by decide +kernel
theorem dL_areRanked_230 : decode cL_areRanked 230 = .ok (.aload 4, 2) := by decide +kernel
theorem dL_areRanked_232 : decode cL_areRanked 232 = .ok (.iconst 1, 1) := by decide +kernel
theorem dL_areRanked_233 : decode cL_areRanked 233 = .ok (.iaload, 1) := by decide +kernel
theorem dL_areRanked_234 : decode cL_areRanked 234 = .ok (.isub, 1) := by decide +kernel
theorem dL_areRanked_235 : decode cL_areRanked 235 = .ok (.invokestatic 36, 3) := by decide +kernel
theorem dL_areRanked_238 : decode cL_areRanked 238 = .ok (.ineg, 1) := by decide +kernel
theorem dL_areRanked_239 : decode cL_areRanked 239 = .ok (.istore 15, 2) := by decide +kernel
theorem dL_areRanked_241 : decode cL_areRanked 241 = .ok (.iload 10, 2) := by decide +kernel
theorem dL_areRanked_243 : decode cL_areRanked 243 = .ok (.ifCond .eq 28, 3) := by decide +kernel
theorem dL_areRanked_246 : decode cL_areRanked 246 = .ok (.iload 15, 2) := by decide +kernel
theorem dL_areRanked_248 : decode cL_areRanked 248 = .ok (.iload 11, 2) := by decide +kernel
theorem dL_areRanked_250 : decode cL_areRanked 250 = .ok (.if_icmp .gt 17, 3) := by decide +kernel
theorem dL_areRanked_253 : decode cL_areRanked 253 = .ok (.iload 15, 2) := by decide +kernel
theorem dL_areRanked_255 : decode cL_areRanked 255 = .ok (.iload 11, 2) := by decide +kernel
theorem dL_areRanked_257 : decode cL_areRanked 257 = .ok (.if_icmp .ne 14, 3) := by decide +kernel
theorem dL_areRanked_260 : decode cL_areRanked 260 = .ok (.iload 14, 2) := by decide +kernel
theorem dL_areRanked_262 : decode cL_areRanked 262 = .ok (.iload 12, 2) := by decide +kernel
theorem dL_areRanked_264 : decode cL_areRanked 264 = .ok (.if_icmp .le 7, 3) := by decide +kernel
theorem dL_areRanked_267 : decode cL_areRanked 267 = .ok (.iconst 1, 1) := by decide +kernel
theorem dL_areRanked_268 : decode cL_areRanked 268 = .ok (.goto 4, 3) := by decide +kernel
theorem dL_areRanked_271 : decode cL_areRanked 271 = .ok (.iconst 0, 1) := by decide +kernel
theorem dL_areRanked_272 : decode cL_areRanked 272 = .ok (.istore 10, 2) := by decide +kernel
theorem dL_areRanked_274 : decode cL_areRanked 274 = .ok (.iload 15, 2) := by decide +kernel
theorem dL_areRanked_276 : decode cL_areRanked 276 = .ok (.istore 11, 2) := by decide +kernel
theorem dL_areRanked_278 : decode cL_areRanked 278 = .ok (.iload 14, 2) := by decide +kernel
theorem dL_areRanked_280 : decode cL_areRanked 280 = .ok (.istore 12, 2) := by decide +kernel
theorem dL_areRanked_282 : decode cL_areRanked 282 = .ok (.iinc 13 1, 3) := by decide +kernel
theorem dL_areRanked_285 : decode cL_areRanked 285 = .ok (.goto (-145), 3) := by decide +kernel
theorem dL_areRanked_288 : decode cL_areRanked 288 = .ok (.iload 10, 2) := by decide +kernel
theorem dL_areRanked_290 : decode cL_areRanked 290 = .ok (.ireturn, 1) := by decide +kernel
theorem dL_copy_0 : decode cL_copy 0 = .ok (.iconst 0, 1) := by decide +kernel
theorem dL_copy_1 : decode cL_copy 1 = .ok (.istore_n 2, 1) := by decide +kernel
theorem dL_copy_2 : decode cL_copy 2 = .ok (.iload_n 2, 1) := by decide +kernel
theorem dL_copy_3 : decode cL_copy 3 = .ok (.aload_n 0, 1) := by decide +kernel
theorem dL_copy_4 : decode cL_copy 4 = .ok (.arraylength, 1) := by decide +kernel
theorem dL_copy_5 : decode cL_copy 5 = .ok (.if_icmp .ge 15, 3) := by decide +kernel
theorem dL_copy_8 : decode cL_copy 8 = .ok (.aload_n 1, 1) := by decide +kernel
theorem dL_copy_9 : decode cL_copy 9 = .ok (.iload_n 2, 1) := by decide +kernel
theorem dL_copy_10 : decode cL_copy 10 = .ok (.aload_n 0, 1) := by decide +kernel
theorem dL_copy_11 : decode cL_copy 11 = .ok (.iload_n 2, 1) := by decide +kernel
theorem dL_copy_12 : decode cL_copy 12 = .ok (.iaload, 1) := by decide +kernel
theorem dL_copy_13 : decode cL_copy 13 = .ok (.iastore, 1) := by decide +kernel
theorem dL_copy_14 : decode cL_copy 14 = .ok (.iinc 2 1, 3) := by decide +kernel
theorem dL_copy_17 : decode cL_copy 17 = .ok (.goto (-15), 3) := by decide +kernel
theorem dL_copy_20 : decode cL_copy 20 = .ok (.return_, 1) := by decide +kernel
theorem dL_would_0 : decode cL_would 0 = .ok (.bipush 60, 2) := by decide +kernel
theorem dL_would_2 : decode cL_would 2 = .ok (.newarray .int, 2) := by decide +kernel
theorem dL_would_4 : decode cL_would 4 = .ok (.astore 6, 2) := by decide +kernel
theorem dL_would_6 : decode cL_would 6 = .ok (.bipush 36, 2) := by decide +kernel
theorem dL_would_8 : decode cL_would 8 = .ok (.newarray .int, 2) := by decide +kernel
theorem dL_would_10 : decode cL_would 10 = .ok (.astore 7, 2) := by decide +kernel
theorem dL_would_12 : decode cL_would 12 = .ok (.bipush 36, 2) := by decide +kernel
theorem dL_would_14 : decode cL_would 14 = .ok (.newarray .int, 2) := by decide +kernel
theorem dL_would_16 : decode cL_would 16 = .ok (.astore 8, 2) := by decide +kernel
theorem dL_would_18 : decode cL_would 18 = .ok (.bipush 16, 2) := by decide +kernel
theorem dL_would_20 : decode cL_would 20 = .ok (.newarray .int, 2) := by decide +kernel
theorem dL_would_22 : decode cL_would 22 = .ok (.astore 9, 2) := by decide +kernel
theorem dL_would_24 : decode cL_would 24 = .ok (.aload_n 1, 1) := by decide +kernel
theorem dL_would_25 : decode cL_would 25 = .ok (.aload 6, 2) := by decide +kernel
theorem dL_would_27 : decode cL_would 27 = .ok (.invokestatic 67, 3) := by decide +kernel
theorem dL_would_30 : decode cL_would 30 = .ok (.aload_n 2, 1) := by decide +kernel
theorem dL_would_31 : decode cL_would 31 = .ok (.aload 7, 2) := by decide +kernel
theorem dL_would_33 : decode cL_would 33 = .ok (.invokestatic 67, 3) := by decide +kernel
theorem dL_would_36 : decode cL_would 36 = .ok (.aload_n 3, 1) := by decide +kernel
theorem dL_would_37 : decode cL_would 37 = .ok (.aload 8, 2) := by decide +kernel
theorem dL_would_39 : decode cL_would 39 = .ok (.invokestatic 67, 3) := by decide +kernel
theorem dL_would_42 : decode cL_would 42 = .ok (.aload 4, 2) := by decide +kernel
theorem dL_would_44 : decode cL_would 44 = .ok (.aload 9, 2) := by decide +kernel
theorem dL_would_46 : decode cL_would 46 = .ok (.invokestatic 67, 3) := by decide +kernel
theorem dL_would_49 : decode cL_would 49 = .ok (.iconst 0, 1) := by decide +kernel
theorem dL_would_50 : decode cL_would 50 = .ok (.istore 10, 2) := by decide +kernel
theorem dL_would_52 : decode cL_would 52 = .ok (.iload 10, 2) := by decide +kernel
theorem dL_would_54 : decode cL_would 54 = .ok (.iload 5, 2) := by decide +kernel
theorem dL_would_56 : decode cL_would 56 = .ok (.if_icmp .ge 26, 3) := by decide +kernel
theorem dL_would_59 : decode cL_would 59 = .ok (.aload 6, 2) := by decide +kernel
theorem dL_would_61 : decode cL_would 61 = .ok (.aload 7, 2) := by decide +kernel
theorem dL_would_63 : decode cL_would 63 = .ok (.aload 8, 2) := by decide +kernel
theorem dL_would_65 : decode cL_would 65 = .ok (.aload 9, 2) := by decide +kernel
theorem dL_would_67 : decode cL_would 67 = .ok (.aload 9, 2) := by decide +kernel
theorem dL_would_69 : decode cL_would 69 = .ok (.iconst 1, 1) := by decide +kernel
theorem dL_would_70 : decode cL_would 70 = .ok (.iaload, 1) := by decide +kernel
theorem dL_would_71 : decode cL_would 71 = .ok (.invokestatic 71, 3) := by decide +kernel
theorem dL_would_74 : decode cL_would 74 = .ok (.istore 11, 2) := by decide +kernel
theorem dL_would_76 : decode cL_would 76 = .ok (.iinc 10 1, 3) := by decide +kernel
theorem dL_would_79 : decode cL_would 79 = .ok (.goto (-27), 3) := by decide +kernel
theorem dL_would_82 : decode cL_would 82 = .ok (.iconst 0, 1) := by decide +kernel
theorem dL_would_83 : decode cL_would 83 = .ok (.istore 10, 2) := by decide +kernel
theorem dL_would_85 : decode cL_would 85 = .ok (.iconst 0, 1) := by decide +kernel
theorem dL_would_86 : decode cL_would 86 = .ok (.istore 11, 2) := by decide +kernel
theorem dL_would_88 : decode cL_would 88 = .ok (.iconst 0, 1) := by decide +kernel
theorem dL_would_89 : decode cL_would 89 = .ok (.istore 12, 2) := by decide +kernel
theorem dL_would_91 : decode cL_would 91 = .ok (.iload 12, 2) := by decide +kernel
theorem dL_would_93 : decode cL_would 93 = .ok (.aload 4, 2) := by decide +kernel
theorem dL_would_95 : decode cL_would 95 = .ok (.bipush 15, 2) := by decide +kernel
theorem dL_would_97 : decode cL_would 97 = .ok (.iaload, 1) := by decide +kernel
theorem dL_would_98 : decode cL_would 98 = .ok (.if_icmp .ge 75, 3) := by decide +kernel
theorem dL_would_101 : decode cL_would 101 = .ok (.iload 10, 2) := by decide +kernel
theorem dL_would_103 : decode cL_would 103 = .ok (.aload 6, 2) := by decide +kernel
theorem dL_would_105 : decode cL_would 105 = .ok (.bipush 10, 2) := by decide +kernel
theorem dL_would_107 : decode cL_would 107 = .ok (.iload 12, 2) := by decide +kernel
theorem dL_would_109 : decode cL_would 109 = .ok (.imul, 1) := by decide +kernel
theorem dL_would_110 : decode cL_would 110 = .ok (.bipush 6, 2) := by decide +kernel
theorem dL_would_112 : decode cL_would 112 = .ok (.iadd, 1) := by decide +kernel
theorem dL_would_113 : decode cL_would 113 = .ok (.iaload, 1) := by decide +kernel
theorem dL_would_114 : decode cL_would 114 = .ok (.iload 12, 2) := by decide +kernel
theorem dL_would_116 : decode cL_would 116 = .ok (.ishl, 1) := by decide +kernel
theorem dL_would_117 : decode cL_would 117 = .ok (.ior, 1) := by decide +kernel
theorem dL_would_118 : decode cL_would 118 = .ok (.istore 10, 2) := by decide +kernel
theorem dL_would_120 : decode cL_would 120 = .ok (.aload 6, 2) := by decide +kernel
theorem dL_would_122 : decode cL_would 122 = .ok (.bipush 10, 2) := by decide +kernel
theorem dL_would_124 : decode cL_would 124 = .ok (.iload 12, 2) := by decide +kernel
theorem dL_would_126 : decode cL_would 126 = .ok (.imul, 1) := by decide +kernel
theorem dL_would_127 : decode cL_would 127 = .ok (.iconst 4, 1) := by decide +kernel
theorem dL_would_128 : decode cL_would 128 = .ok (.iadd, 1) := by decide +kernel
theorem dL_would_129 : decode cL_would 129 = .ok (.iaload, 1) := by decide +kernel
theorem dL_would_130 : decode cL_would 130 = .ok (.aload 6, 2) := by decide +kernel
theorem dL_would_132 : decode cL_would 132 = .ok (.bipush 10, 2) := by decide +kernel
theorem dL_would_134 : decode cL_would 134 = .ok (.iload 12, 2) := by decide +kernel
theorem dL_would_136 : decode cL_would 136 = .ok (.imul, 1) := by decide +kernel
theorem dL_would_137 : decode cL_would 137 = .ok (.iconst 2, 1) := by decide +kernel
theorem dL_would_138 : decode cL_would 138 = .ok (.iadd, 1) := by decide +kernel
theorem dL_would_139 : decode cL_would 139 = .ok (.iaload, 1) := by decide +kernel
theorem dL_would_140 : decode cL_would 140 = .ok (.isub, 1) := by decide +kernel
theorem dL_would_141 : decode cL_would 141 = .ok (.aload 4, 2) := by decide +kernel
theorem dL_would_143 : decode cL_would 143 = .ok (.iconst 1, 1) := by decide +kernel
theorem dL_would_144 : decode cL_would 144 = .ok (.iaload, 1) := by decide +kernel
theorem dL_would_145 : decode cL_would 145 = .ok (.isub, 1) := by decide +kernel
theorem dL_would_146 : decode cL_would 146 = .ok (.invokestatic 36, 3) := by decide +kernel
theorem dL_would_149 : decode cL_would 149 = .ok (.istore 13, 2) := by decide +kernel
theorem dL_would_151 : decode cL_would 151 = .ok (.iload 13, 2) := by decide +kernel
theorem dL_would_153 : decode cL_would 153 = .ok (.iload 11, 2) := by decide +kernel
theorem dL_would_155 : decode cL_would 155 = .ok (.if_icmp .le 8, 3) := by decide +kernel
theorem dL_would_158 : decode cL_would 158 = .ok (.iload 13, 2) := by decide +kernel
theorem dL_would_160 : decode cL_would 160 = .ok (.goto 5, 3) := by decide +kernel
theorem dL_would_163 : decode cL_would 163 = .ok (.iload 11, 2) := by decide +kernel
theorem dL_would_165 : decode cL_would 165 = .ok (.istore 11, 2) := by decide +kernel
theorem dL_would_167 : decode cL_would 167 = .ok (.iinc 12 1, 3) := by decide +kernel
theorem dL_would_170 : decode cL_would 170 = .ok (.goto (-79), 3) := by decide +kernel
theorem dL_would_173 : decode cL_would 173 = .ok (.aload_n 0, 1) := by decide +kernel
theorem dL_would_174 : decode cL_would 174 = .ok (.iload 5, 2) := by decide +kernel
theorem dL_would_176 : decode cL_would 176 = .ok (.iconst 0, 1) := by decide +kernel
theorem dL_would_177 : decode cL_would 177 = .ok (.invokevirtual 74, 3) := by decide +kernel
theorem dL_would_180 : decode cL_would 180 = .ok (.aload 6, 2) := by decide +kernel
theorem dL_would_182 : decode cL_would 182 = .ok (.aload 7, 2) := by decide +kernel
theorem dL_would_184 : decode cL_would 184 = .ok (.aload 8, 2) := by decide +kernel
theorem dL_would_186 : decode cL_would 186 = .ok (.aload 9, 2) := by decide +kernel
theorem dL_would_188 : decode cL_would 188 = .ok (.invokestatic 24, 3) := by decide +kernel
theorem dL_would_191 : decode cL_would 191 = .ok (.if_icmp .ne 52, 3) := by decide +kernel
theorem dL_would_194 : decode cL_would 194 = .ok (.aload_n 0, 1) := by decide +kernel
theorem dL_would_195 : decode cL_would 195 = .ok (.iload 5, 2) := by decide +kernel
theorem dL_would_197 : decode cL_would 197 = .ok (.iconst 1, 1) := by decide +kernel
theorem dL_would_198 : decode cL_would 198 = .ok (.invokevirtual 74, 3) := by decide +kernel
theorem dL_would_201 : decode cL_would 201 = .ok (.iload 10, 2) := by decide +kernel
theorem dL_would_203 : decode cL_would 203 = .ok (.if_icmp .ne 40, 3) := by decide +kernel
theorem dL_would_206 : decode cL_would 206 = .ok (.aload_n 0, 1) := by decide +kernel
theorem dL_would_207 : decode cL_would 207 = .ok (.iload 5, 2) := by decide +kernel
theorem dL_would_209 : decode cL_would 209 = .ok (.iconst 2, 1) := by decide +kernel
theorem dL_would_210 : decode cL_would 210 = .ok (.invokevirtual 74, 3) := by decide +kernel
theorem dL_would_213 : decode cL_would 213 = .ok (.aload 9, 2) := by decide +kernel
theorem dL_would_215 : decode cL_would 215 = .ok (.bipush 13, 2) := by decide +kernel
theorem dL_would_217 : decode cL_would 217 = .ok (.iaload, 1) := by decide +kernel
theorem dL_would_218 : decode cL_would 218 = .ok (.aload 4, 2) := by decide +kernel
theorem dL_would_220 : decode cL_would 220 = .ok (.bipush 13, 2) := by decide +kernel
theorem dL_would_222 : decode cL_would 222 = .ok (.iaload, 1) := by decide +kernel
theorem dL_would_223 : decode cL_would 223 = .ok (.isub, 1) := by decide +kernel
theorem dL_would_224 : decode cL_would 224 = .ok (.if_icmp .ne 19, 3) := by decide +kernel
theorem dL_would_227 : decode cL_would 227 = .ok (.aload_n 0, 1) := by decide +kernel
theorem dL_would_228 : decode cL_would 228 = .ok (.iload 5, 2) := by decide +kernel
theorem dL_would_230 : decode cL_would 230 = .ok (.iconst 3, 1) := by decide +kernel
theorem dL_would_231 : decode cL_would 231 = .ok (.invokevirtual 74, 3) := by decide +kernel
theorem dL_would_234 : decode cL_would 234 = .ok (.iload 11, 2) := by decide +kernel
theorem dL_would_236 : decode cL_would 236 = .ok (.if_icmp .ne 7, 3) := by decide +kernel
theorem dL_would_239 : decode cL_would 239 = .ok (.iconst 1, 1) := by decide +kernel
theorem dL_would_240 : decode cL_would 240 = .ok (.goto 4, 3) := by decide +kernel
theorem dL_would_243 : decode cL_would 243 = .ok (.iconst 0, 1) := by decide +kernel
theorem dL_would_244 : decode cL_would 244 = .ok (.ireturn, 1) := by decide +kernel
theorem dL_wouldOne_0 : decode cL_wouldOne 0 = .ok (.ldc 11, 2) := by decide +kernel
theorem dL_wouldOne_2 : decode cL_wouldOne 2 = .ok (.istore 6, 2) := by decide +kernel
theorem dL_wouldOne_4 : decode cL_wouldOne 4 = .ok (.iconst 0, 1) := by decide +kernel
theorem dL_wouldOne_5 : decode cL_wouldOne 5 = .ok (.istore 7, 2) := by decide +kernel
theorem dL_wouldOne_7 : decode cL_wouldOne 7 = .ok (.iconst 1, 1) := by decide +kernel
theorem dL_wouldOne_8 : decode cL_wouldOne 8 = .ok (.istore 8, 2) := by decide +kernel
theorem dL_wouldOne_10 : decode cL_wouldOne 10 = .ok (.bipush 9, 2) := by decide +kernel
theorem dL_wouldOne_12 : decode cL_wouldOne 12 = .ok (.istore 9, 2) := by decide +kernel
theorem dL_wouldOne_14 : decode cL_wouldOne 14 = .ok (.iload 9, 2) := by decide +kernel
theorem dL_wouldOne_16 : decode cL_wouldOne 16 = .ok (.ifCond .le 104, 3) := by decide +kernel
theorem dL_wouldOne_19 : decode cL_wouldOne 19 = .ok (.aload_n 1, 1) := by decide +kernel
theorem dL_wouldOne_20 : decode cL_wouldOne 20 = .ok (.aload_n 2, 1) := by decide +kernel
theorem dL_wouldOne_21 : decode cL_wouldOne 21 = .ok (.aload_n 3, 1) := by decide +kernel
theorem dL_wouldOne_22 : decode cL_wouldOne 22 = .ok (.iload 5, 2) := by decide +kernel
theorem dL_wouldOne_24 : decode cL_wouldOne 24 = .ok (.iload 9, 2) := by decide +kernel
theorem dL_wouldOne_26 : decode cL_wouldOne 26 = .ok (.invokestatic 12, 3) := by decide +kernel
theorem dL_wouldOne_29 : decode cL_wouldOne 29 = .ok (.istore 10, 2) := by decide +kernel
theorem dL_wouldOne_31 : decode cL_wouldOne 31 = .ok (.iload 8, 2) := by decide +kernel
theorem dL_wouldOne_33 : decode cL_wouldOne 33 = .ok (.ifCond .eq 20, 3) := by decide +kernel
theorem dL_wouldOne_36 : decode cL_wouldOne 36 = .ok (.aload_n 0, 1) := by decide +kernel
theorem dL_wouldOne_37 : decode cL_wouldOne 37 = .ok (.iload 5, 2) := by decide +kernel
theorem dL_wouldOne_39 : decode cL_wouldOne 39 = .ok (.iload 9, 2) := by decide +kernel
theorem dL_wouldOne_41 : decode cL_wouldOne 41 = .ok (.invokevirtual 77, 3) := by decide +kernel
theorem dL_wouldOne_44 : decode cL_wouldOne 44 = .ok (.iload 10, 2) := by decide +kernel
theorem dL_wouldOne_46 : decode cL_wouldOne 46 = .ok (.if_icmp .ne 7, 3) := by decide +kernel
theorem dL_wouldOne_49 : decode cL_wouldOne 49 = .ok (.iconst 1, 1) := by decide +kernel
theorem dL_wouldOne_50 : decode cL_wouldOne 50 = .ok (.goto 4, 3) := by decide +kernel
theorem dL_wouldOne_53 : decode cL_wouldOne 53 = .ok (.iconst 0, 1) := by decide +kernel
theorem dL_wouldOne_54 : decode cL_wouldOne 54 = .ok (.istore 8, 2) := by decide +kernel
theorem dL_wouldOne_56 : decode cL_wouldOne 56 = .ok (.iload 10, 2) := by decide +kernel
theorem dL_wouldOne_58 : decode cL_wouldOne 58 = .ok (.aload 4, 2) := by decide +kernel
theorem dL_wouldOne_60 : decode cL_wouldOne 60 = .ok (.iconst 1, 1) := by decide +kernel
theorem dL_wouldOne_61 : decode cL_wouldOne 61 = .ok (.iaload, 1) := by decide +kernel
theorem dL_wouldOne_62 : decode cL_wouldOne 62 = .ok (.isub, 1) := by decide +kernel
theorem dL_wouldOne_63 : decode cL_wouldOne 63 = .ok (.invokestatic 36, 3) := by decide +kernel
theorem dL_wouldOne_66 : decode cL_wouldOne 66 = .ok (.istore 11, 2) := by decide +kernel
theorem dL_wouldOne_68 : decode cL_wouldOne 68 = .ok (.iload 10, 2) := by decide +kernel
theorem dL_wouldOne_70 : decode cL_wouldOne 70 = .ok (.ldc 11, 2) := by decide +kernel
theorem dL_wouldOne_72 : decode cL_wouldOne 72 = .ok (.if_icmp .eq 22, 3) := by decide +kernel
theorem dL_wouldOne_75 : decode cL_wouldOne 75 = .ok (.iload 6, 2) := by decide +kernel
theorem dL_wouldOne_77 : decode cL_wouldOne 77 = .ok (.ldc 11, 2) := by decide +kernel
theorem dL_wouldOne_79 : decode cL_wouldOne 79 = .ok (.if_icmp .eq 10, 3) := by decide +kernel
theorem dL_wouldOne_82 : decode cL_wouldOne 82 = .ok (.iload 11, 2) := by decide +kernel
theorem dL_wouldOne_84 : decode cL_wouldOne 84 = .ok (.iload 7, 2) := by decide +kernel
theorem dL_wouldOne_86 : decode cL_wouldOne 86 = .ok (.if_icmp .gt 8, 3) := by decide +kernel
theorem dL_wouldOne_89 : decode cL_wouldOne 89 = .ok (.iload 9, 2) := by decide +kernel
theorem dL_wouldOne_91 : decode cL_wouldOne 91 = .ok (.goto 5, 3) := by decide +kernel
theorem dL_wouldOne_94 : decode cL_wouldOne 94 = .ok (.iload 6, 2) := by decide +kernel
theorem dL_wouldOne_96 : decode cL_wouldOne 96 = .ok (.istore 6, 2) := by decide +kernel
theorem dL_wouldOne_98 : decode cL_wouldOne 98 = .ok (.iload 6, 2) := by decide +kernel
theorem dL_wouldOne_100 : decode cL_wouldOne 100 = .ok (.iload 9, 2) := by decide +kernel
theorem dL_wouldOne_102 : decode cL_wouldOne 102 = .ok (.if_icmp .ne 8, 3) := by decide +kernel
theorem dL_wouldOne_105 : decode cL_wouldOne 105 = .ok (.iload 11, 2) := by decide +kernel
theorem dL_wouldOne_107 : decode cL_wouldOne 107 = .ok (.goto 5, 3) := by decide +kernel
theorem dL_wouldOne_110 : decode cL_wouldOne 110 = .ok (.iload 7, 2) := by decide +kernel
theorem dL_wouldOne_112 : decode cL_wouldOne 112 = .ok (.istore 7, 2) := by decide +kernel
theorem dL_wouldOne_114 : decode cL_wouldOne 114 = .ok (.iinc 9 (-1), 3) := by decide +kernel
theorem dL_wouldOne_117 : decode cL_wouldOne 117 = .ok (.goto (-103), 3) := by decide +kernel
theorem dL_wouldOne_120 : decode cL_wouldOne 120 = .ok (.bipush 10, 2) := by decide +kernel
theorem dL_wouldOne_122 : decode cL_wouldOne 122 = .ok (.iload 5, 2) := by decide +kernel
theorem dL_wouldOne_124 : decode cL_wouldOne 124 = .ok (.imul, 1) := by decide +kernel
theorem dL_wouldOne_125 : decode cL_wouldOne 125 = .ok (.istore 9, 2) := by decide +kernel
theorem dL_wouldOne_127 : decode cL_wouldOne 127 = .ok (.aload_n 1, 1) := by decide +kernel
theorem dL_wouldOne_128 : decode cL_wouldOne 128 = .ok (.iload 9, 2) := by decide +kernel
theorem dL_wouldOne_130 : decode cL_wouldOne 130 = .ok (.iconst 4, 1) := by decide +kernel
theorem dL_wouldOne_131 : decode cL_wouldOne 131 = .ok (.iadd, 1) := by decide +kernel
theorem dL_wouldOne_132 : decode cL_wouldOne 132 = .ok (.iaload, 1) := by decide +kernel
theorem dL_wouldOne_133 : decode cL_wouldOne 133 = .ok (.istore 10, 2) := by decide +kernel
theorem dL_wouldOne_135 : decode cL_wouldOne 135 = .ok (.iconst 0, 1) := by decide +kernel
theorem dL_wouldOne_136 : decode cL_wouldOne 136 = .ok (.istore 11, 2) := by decide +kernel
theorem dL_wouldOne_138 : decode cL_wouldOne 138 = .ok (.aload 4, 2) := by decide +kernel
theorem dL_wouldOne_140 : decode cL_wouldOne 140 = .ok (.iconst 1, 1) := by decide +kernel
theorem dL_wouldOne_141 : decode cL_wouldOne 141 = .ok (.iaload, 1) := by decide +kernel
theorem dL_wouldOne_142 : decode cL_wouldOne 142 = .ok (.aload_n 1, 1) := by decide +kernel
theorem dL_wouldOne_143 : decode cL_wouldOne 143 = .ok (.iload 9, 2) := by decide +kernel
theorem dL_wouldOne_145 : decode cL_wouldOne 145 = .ok (.iconst 2, 1) := by decide +kernel
theorem dL_wouldOne_146 : decode cL_wouldOne 146 = .ok (.iadd, 1) := by decide +kernel
theorem dL_wouldOne_147 : decode cL_wouldOne 147 = .ok (.iaload, 1) := by decide +kernel
theorem dL_wouldOne_148 : decode cL_wouldOne 148 = .ok (.iadd, 1) := by decide +kernel
theorem dL_wouldOne_149 : decode cL_wouldOne 149 = .ok (.iload 10, 2) := by decide +kernel
theorem dL_wouldOne_151 : decode cL_wouldOne 151 = .ok (.isub, 1) := by decide +kernel
theorem dL_wouldOne_152 : decode cL_wouldOne 152 = .ok (.invokestatic 36, 3) := by decide +kernel
theorem dL_wouldOne_155 : decode cL_wouldOne 155 = .ok (.aload_n 1, 1) := by decide +kernel
theorem dL_wouldOne_156 : decode cL_wouldOne 156 = .ok (.iload 9, 2) := by decide +kernel
theorem dL_wouldOne_158 : decode cL_wouldOne 158 = .ok (.iconst 1, 1) := by decide +kernel
theorem dL_wouldOne_159 : decode cL_wouldOne 159 = .ok (.iadd, 1) := by decide +kernel
theorem dL_wouldOne_160 : decode cL_wouldOne 160 = .ok (.iaload, 1) := by decide +kernel
theorem dL_wouldOne_161 : decode cL_wouldOne 161 = .ok (.if_icmp .lt 35, 3) := by decide +kernel
theorem dL_wouldOne_164 : decode cL_wouldOne 164 = .ok (.iload 10, 2) := by decide +kernel
theorem dL_wouldOne_166 : decode cL_wouldOne 166 = .ok (.aload 4, 2) := by decide +kernel
theorem dL_wouldOne_168 : decode cL_wouldOne 168 = .ok (.iconst 1, 1) := by decide +kernel
theorem dL_wouldOne_169 : decode cL_wouldOne 169 = .ok (.iaload, 1) := by decide +kernel
theorem dL_wouldOne_170 : decode cL_wouldOne 170 = .ok (.aload_n 1, 1) := by decide +kernel
theorem dL_wouldOne_171 : decode cL_wouldOne 171 = .ok (.iload 9, 2) := by decide +kernel
theorem dL_wouldOne_173 : decode cL_wouldOne 173 = .ok (.iconst 2, 1) := by decide +kernel
theorem dL_wouldOne_174 : decode cL_wouldOne 174 = .ok (.iadd, 1) := by decide +kernel
theorem dL_wouldOne_175 : decode cL_wouldOne 175 = .ok (.iaload, 1) := by decide +kernel
theorem dL_wouldOne_176 : decode cL_wouldOne 176 = .ok (.iadd, 1) := by decide +kernel
theorem dL_wouldOne_177 : decode cL_wouldOne 177 = .ok (.iload 10, 2) := by decide +kernel
theorem dL_wouldOne_179 : decode cL_wouldOne 179 = .ok (.isub, 1) := by decide +kernel
theorem dL_wouldOne_180 : decode cL_wouldOne 180 = .ok (.aload_n 1, 1) := by decide +kernel
theorem dL_wouldOne_181 : decode cL_wouldOne 181 = .ok (.iload 9, 2) := by decide +kernel
theorem dL_wouldOne_183 : decode cL_wouldOne 183 = .ok (.iconst 1, 1) := by decide +kernel
theorem dL_wouldOne_184 : decode cL_wouldOne 184 = .ok (.iadd, 1) := by decide +kernel
theorem dL_wouldOne_185 : decode cL_wouldOne 185 = .ok (.iaload, 1) := by decide +kernel
theorem dL_wouldOne_186 : decode cL_wouldOne 186 = .ok (.idiv, 1) := by decide +kernel
theorem dL_wouldOne_187 : decode cL_wouldOne 187 = .ok (.iadd, 1) := by decide +kernel
theorem dL_wouldOne_188 : decode cL_wouldOne 188 = .ok (.istore 10, 2) := by decide +kernel
theorem dL_wouldOne_190 : decode cL_wouldOne 190 = .ok (.iinc 11 1, 3) := by decide +kernel
theorem dL_wouldOne_193 : decode cL_wouldOne 193 = .ok (.goto (-55), 3) := by decide +kernel
theorem dL_wouldOne_196 : decode cL_wouldOne 196 = .ok (.iload 8, 2) := by decide +kernel
theorem dL_wouldOne_198 : decode cL_wouldOne 198 = .ok (.ifCond .eq 29, 3) := by decide +kernel
theorem dL_wouldOne_201 : decode cL_wouldOne 201 = .ok (.aload_n 0, 1) := by decide +kernel
theorem dL_wouldOne_202 : decode cL_wouldOne 202 = .ok (.iload 5, 2) := by decide +kernel
theorem dL_wouldOne_204 : decode cL_wouldOne 204 = .ok (.invokevirtual 80, 3) := by decide +kernel
theorem dL_wouldOne_207 : decode cL_wouldOne 207 = .ok (.iload 6, 2) := by decide +kernel
theorem dL_wouldOne_209 : decode cL_wouldOne 209 = .ok (.if_icmp .ne 18, 3) := by decide +kernel
theorem dL_wouldOne_212 : decode cL_wouldOne 212 = .ok (.aload_n 0, 1) := by decide +kernel
theorem dL_wouldOne_213 : decode cL_wouldOne 213 = .ok (.iload 5, 2) := by decide +kernel
theorem dL_wouldOne_215 : decode cL_wouldOne 215 = .ok (.invokevirtual 83, 3) := by decide +kernel
theorem dL_wouldOne_218 : decode cL_wouldOne 218 = .ok (.iload 11, 2) := by decide +kernel
theorem dL_wouldOne_220 : decode cL_wouldOne 220 = .ok (.if_icmp .ne 7, 3) := by decide +kernel
theorem dL_wouldOne_223 : decode cL_wouldOne 223 = .ok (.iconst 1, 1) := by decide +kernel
theorem dL_wouldOne_224 : decode cL_wouldOne 224 = .ok (.goto 4, 3) := by decide +kernel
theorem dL_wouldOne_227 : decode cL_wouldOne 227 = .ok (.iconst 0, 1) := by decide +kernel
theorem dL_wouldOne_228 : decode cL_wouldOne 228 = .ok (.ireturn, 1) := by decide +kernel
theorem dL_adds_0 : decode cL_adds 0 = .ok (.aload_n 2, 1) := by decide +kernel
theorem dL_adds_1 : decode cL_adds 1 = .ok (.bipush 15, 2) := by decide +kernel
theorem dL_adds_3 : decode cL_adds 3 = .ok (.iaload, 1) := by decide +kernel
theorem dL_adds_4 : decode cL_adds 4 = .ok (.bipush 6, 2) := by decide +kernel
theorem dL_adds_6 : decode cL_adds 6 = .ok (.if_icmp .ne 19, 3) := by decide +kernel
theorem dL_adds_9 : decode cL_adds 9 = .ok (.aload_n 0, 1) := by decide +kernel
theorem dL_adds_10 : decode cL_adds 10 = .ok (.iconst 1, 1) := by decide +kernel
theorem dL_adds_11 : decode cL_adds 11 = .ok (.invokevirtual 40, 3) := by decide +kernel
theorem dL_adds_14 : decode cL_adds 14 = .ok (.bipush 6, 2) := by decide +kernel
theorem dL_adds_16 : decode cL_adds 16 = .ok (.if_icmp .ne 7, 3) := by decide +kernel
theorem dL_adds_19 : decode cL_adds 19 = .ok (.iconst 1, 1) := by decide +kernel
theorem dL_adds_20 : decode cL_adds 20 = .ok (.goto 4, 3) := by decide +kernel
theorem dL_adds_23 : decode cL_adds 23 = .ok (.iconst 0, 1) := by decide +kernel
theorem dL_adds_24 : decode cL_adds 24 = .ok (.ireturn, 1) := by decide +kernel
theorem dL_adds_25 : decode cL_adds 25 = .ok (.bipush 10, 2) := by decide +kernel
theorem dL_adds_27 : decode cL_adds 27 = .ok (.aload_n 2, 1) := by decide +kernel
theorem dL_adds_28 : decode cL_adds 28 = .ok (.bipush 15, 2) := by decide +kernel
theorem dL_adds_30 : decode cL_adds 30 = .ok (.iaload, 1) := by decide +kernel
theorem dL_adds_31 : decode cL_adds 31 = .ok (.imul, 1) := by decide +kernel
theorem dL_adds_32 : decode cL_adds 32 = .ok (.istore 4, 2) := by decide +kernel
theorem dL_adds_34 : decode cL_adds 34 = .ok (.iconst 0, 1) := by decide +kernel
theorem dL_adds_35 : decode cL_adds 35 = .ok (.istore 5, 2) := by decide +kernel
theorem dL_adds_37 : decode cL_adds 37 = .ok (.iload 5, 2) := by decide +kernel
theorem dL_adds_39 : decode cL_adds 39 = .ok (.bipush 10, 2) := by decide +kernel
theorem dL_adds_41 : decode cL_adds 41 = .ok (.if_icmp .ge 17, 3) := by decide +kernel
theorem dL_adds_44 : decode cL_adds 44 = .ok (.aload_n 1, 1) := by decide +kernel
theorem dL_adds_45 : decode cL_adds 45 = .ok (.iload 4, 2) := by decide +kernel
theorem dL_adds_47 : decode cL_adds 47 = .ok (.iload 5, 2) := by decide +kernel
theorem dL_adds_49 : decode cL_adds 49 = .ok (.iadd, 1) := by decide +kernel
theorem dL_adds_50 : decode cL_adds 50 = .ok (.iconst 0, 1) := by decide +kernel
theorem dL_adds_51 : decode cL_adds 51 = .ok (.iastore, 1) := by decide +kernel
theorem dL_adds_52 : decode cL_adds 52 = .ok (.iinc 5 1, 3) := by decide +kernel
theorem dL_adds_55 : decode cL_adds 55 = .ok (.goto (-18), 3) := by decide +kernel
theorem dL_adds_58 : decode cL_adds 58 = .ok (.aload_n 1, 1) := by decide +kernel
theorem dL_adds_59 : decode cL_adds 59 = .ok (.iload 4, 2) := by decide +kernel
theorem dL_adds_61 : decode cL_adds 61 = .ok (.iload_n 3, 1) := by decide +kernel
theorem dL_adds_62 : decode cL_adds 62 = .ok (.iconst 5, 1) := by decide +kernel
theorem dL_adds_63 : decode cL_adds 63 = .ok (.invokestatic 86, 3) := by decide +kernel
theorem dL_adds_66 : decode cL_adds 66 = .ok (.iconst 4, 1) := by decide +kernel
theorem dL_adds_67 : decode cL_adds 67 = .ok (.irem, 1) := by decide +kernel
theorem dL_adds_68 : decode cL_adds 68 = .ok (.iastore, 1) := by decide +kernel
theorem dL_adds_69 : decode cL_adds 69 = .ok (.aload_n 1, 1) := by decide +kernel
theorem dL_adds_70 : decode cL_adds 70 = .ok (.iload 4, 2) := by decide +kernel
theorem dL_adds_72 : decode cL_adds 72 = .ok (.iconst 1, 1) := by decide +kernel
theorem dL_adds_73 : decode cL_adds 73 = .ok (.iadd, 1) := by decide +kernel
theorem dL_adds_74 : decode cL_adds 74 = .ok (.iconst 1, 1) := by decide +kernel
theorem dL_adds_75 : decode cL_adds 75 = .ok (.iload_n 3, 1) := by decide +kernel
theorem dL_adds_76 : decode cL_adds 76 = .ok (.iconst 3, 1) := by decide +kernel
theorem dL_adds_77 : decode cL_adds 77 = .ok (.ishr, 1) := by decide +kernel
theorem dL_adds_78 : decode cL_adds 78 = .ok (.bipush 9, 2) := by decide +kernel
theorem dL_adds_80 : decode cL_adds 80 = .ok (.invokestatic 86, 3) := by decide +kernel
theorem dL_adds_83 : decode cL_adds 83 = .ok (.iadd, 1) := by decide +kernel
theorem dL_adds_84 : decode cL_adds 84 = .ok (.iastore, 1) := by decide +kernel
theorem dL_adds_85 : decode cL_adds 85 = .ok (.aload_n 1, 1) := by decide +kernel
theorem dL_adds_86 : decode cL_adds 86 = .ok (.iload 4, 2) := by decide +kernel
theorem dL_adds_88 : decode cL_adds 88 = .ok (.iconst 2, 1) := by decide +kernel
theorem dL_adds_89 : decode cL_adds 89 = .ok (.iadd, 1) := by decide +kernel
theorem dL_adds_90 : decode cL_adds 90 = .ok (.iload_n 3, 1) := by decide +kernel
theorem dL_adds_91 : decode cL_adds 91 = .ok (.bipush 7, 2) := by decide +kernel
theorem dL_adds_93 : decode cL_adds 93 = .ok (.ishr, 1) := by decide +kernel
theorem dL_adds_94 : decode cL_adds 94 = .ok (.sipush 401, 3) := by decide +kernel
theorem dL_adds_97 : decode cL_adds 97 = .ok (.invokestatic 86, 3) := by decide +kernel
theorem dL_adds_100 : decode cL_adds 100 = .ok (.sipush 200, 3) := by decide +kernel
theorem dL_adds_103 : decode cL_adds 103 = .ok (.isub, 1) := by decide +kernel
theorem dL_adds_104 : decode cL_adds 104 = .ok (.iastore, 1) := by decide +kernel
theorem dL_adds_105 : decode cL_adds 105 = .ok (.aload_n 1, 1) := by decide +kernel
theorem dL_adds_106 : decode cL_adds 106 = .ok (.iload 4, 2) := by decide +kernel
theorem dL_adds_108 : decode cL_adds 108 = .ok (.iconst 3, 1) := by decide +kernel
theorem dL_adds_109 : decode cL_adds 109 = .ok (.iadd, 1) := by decide +kernel
theorem dL_adds_110 : decode cL_adds 110 = .ok (.iconst 1, 1) := by decide +kernel
theorem dL_adds_111 : decode cL_adds 111 = .ok (.iload_n 3, 1) := by decide +kernel
theorem dL_adds_112 : decode cL_adds 112 = .ok (.bipush 12, 2) := by decide +kernel
theorem dL_adds_114 : decode cL_adds 114 = .ok (.ishr, 1) := by decide +kernel
theorem dL_adds_115 : decode cL_adds 115 = .ok (.iconst 5, 1) := by decide +kernel
theorem dL_adds_116 : decode cL_adds 116 = .ok (.invokestatic 86, 3) := by decide +kernel
theorem dL_adds_119 : decode cL_adds 119 = .ok (.iadd, 1) := by decide +kernel
theorem dL_adds_120 : decode cL_adds 120 = .ok (.iastore, 1) := by decide +kernel
theorem dL_adds_121 : decode cL_adds 121 = .ok (.aload_n 1, 1) := by decide +kernel
theorem dL_adds_122 : decode cL_adds 122 = .ok (.iload 4, 2) := by decide +kernel
theorem dL_adds_124 : decode cL_adds 124 = .ok (.iconst 4, 1) := by decide +kernel
theorem dL_adds_125 : decode cL_adds 125 = .ok (.iadd, 1) := by decide +kernel
theorem dL_adds_126 : decode cL_adds 126 = .ok (.aload_n 2, 1) := by decide +kernel
theorem dL_adds_127 : decode cL_adds 127 = .ok (.iconst 1, 1) := by decide +kernel
theorem dL_adds_128 : decode cL_adds 128 = .ok (.iaload, 1) := by decide +kernel
theorem dL_adds_129 : decode cL_adds 129 = .ok (.aload_n 1, 1) := by decide +kernel
theorem dL_adds_130 : decode cL_adds 130 = .ok (.iload 4, 2) := by decide +kernel
theorem dL_adds_132 : decode cL_adds 132 = .ok (.iconst 2, 1) := by decide +kernel
theorem dL_adds_133 : decode cL_adds 133 = .ok (.iadd, 1) := by decide +kernel
theorem dL_adds_134 : decode cL_adds 134 = .ok (.iaload, 1) := by decide +kernel
theorem dL_adds_135 : decode cL_adds 135 = .ok (.iadd, 1) := by decide +kernel
theorem dL_adds_136 : decode cL_adds 136 = .ok (.iastore, 1) := by decide +kernel
theorem dL_adds_137 : decode cL_adds 137 = .ok (.aload_n 2, 1) := by decide +kernel
theorem dL_adds_138 : decode cL_adds 138 = .ok (.bipush 15, 2) := by decide +kernel
theorem dL_adds_140 : decode cL_adds 140 = .ok (.dup2, 1) := by decide +kernel
theorem dL_adds_141 : decode cL_adds 141 = .ok (.iaload, 1) := by decide +kernel
theorem dL_adds_142 : decode cL_adds 142 = .ok (.iconst 1, 1) := by decide +kernel
theorem dL_adds_143 : decode cL_adds 143 = .ok (.iadd, 1) := by decide +kernel
theorem dL_adds_144 : decode cL_adds 144 = .ok (.iastore, 1) := by decide +kernel
theorem dL_adds_145 : decode cL_adds 145 = .ok (.aload_n 0, 1) := by decide +kernel
theorem dL_adds_146 : decode cL_adds 146 = .ok (.aload_n 1, 1) := by decide +kernel
theorem dL_adds_147 : decode cL_adds 147 = .ok (.iload 4, 2) := by decide +kernel
theorem dL_adds_149 : decode cL_adds 149 = .ok (.iaload, 1) := by decide +kernel
theorem dL_adds_150 : decode cL_adds 150 = .ok (.aload_n 1, 1) := by decide +kernel
theorem dL_adds_151 : decode cL_adds 151 = .ok (.iload 4, 2) := by decide +kernel
theorem dL_adds_153 : decode cL_adds 153 = .ok (.iconst 1, 1) := by decide +kernel
theorem dL_adds_154 : decode cL_adds 154 = .ok (.iadd, 1) := by decide +kernel
theorem dL_adds_155 : decode cL_adds 155 = .ok (.iaload, 1) := by decide +kernel
theorem dL_adds_156 : decode cL_adds 156 = .ok (.aload_n 1, 1) := by decide +kernel
theorem dL_adds_157 : decode cL_adds 157 = .ok (.iload 4, 2) := by decide +kernel
theorem dL_adds_159 : decode cL_adds 159 = .ok (.iconst 2, 1) := by decide +kernel
theorem dL_adds_160 : decode cL_adds 160 = .ok (.iadd, 1) := by decide +kernel
theorem dL_adds_161 : decode cL_adds 161 = .ok (.iaload, 1) := by decide +kernel
theorem dL_adds_162 : decode cL_adds 162 = .ok (.aload_n 1, 1) := by decide +kernel
theorem dL_adds_163 : decode cL_adds 163 = .ok (.iload 4, 2) := by decide +kernel
theorem dL_adds_165 : decode cL_adds 165 = .ok (.iconst 3, 1) := by decide +kernel
theorem dL_adds_166 : decode cL_adds 166 = .ok (.iadd, 1) := by decide +kernel
theorem dL_adds_167 : decode cL_adds 167 = .ok (.iaload, 1) := by decide +kernel
theorem dL_adds_168 : decode cL_adds 168 = .ok (.invokevirtual 89, 3) := by decide +kernel
theorem dL_adds_171 : decode cL_adds 171 = .ok (.aload_n 2, 1) := by decide +kernel
theorem dL_adds_172 : decode cL_adds 172 = .ok (.bipush 15, 2) := by decide +kernel
theorem dL_adds_174 : decode cL_adds 174 = .ok (.iaload, 1) := by decide +kernel
theorem dL_adds_175 : decode cL_adds 175 = .ok (.iconst 1, 1) := by decide +kernel
theorem dL_adds_176 : decode cL_adds 176 = .ok (.isub, 1) := by decide +kernel
theorem dL_adds_177 : decode cL_adds 177 = .ok (.if_icmp .ne 7, 3) := by decide +kernel
theorem dL_adds_180 : decode cL_adds 180 = .ok (.iconst 1, 1) := by decide +kernel
theorem dL_adds_181 : decode cL_adds 181 = .ok (.goto 4, 3) := by decide +kernel
theorem dL_adds_184 : decode cL_adds 184 = .ok (.iconst 0, 1) := by decide +kernel
theorem dL_adds_185 : decode cL_adds 185 = .ok (.ireturn, 1) := by decide +kernel
theorem dL_acts_0 : decode cL_acts 0 = .ok (.aload 4, 2) := by decide +kernel
theorem dL_acts_2 : decode cL_acts 2 = .ok (.bipush 15, 2) := by decide +kernel
theorem dL_acts_4 : decode cL_acts 4 = .ok (.iaload, 1) := by decide +kernel
theorem dL_acts_5 : decode cL_acts 5 = .ok (.ifCond .ne 7, 3) := by decide +kernel
theorem dL_acts_8 : decode cL_acts 8 = .ok (.iconst 0, 1) := by decide +kernel
theorem dL_acts_9 : decode cL_acts 9 = .ok (.goto 13, 3) := by decide +kernel
theorem dL_acts_12 : decode cL_acts 12 = .ok (.iload 6, 2) := by decide +kernel
theorem dL_acts_14 : decode cL_acts 14 = .ok (.aload 4, 2) := by decide +kernel
theorem dL_acts_16 : decode cL_acts 16 = .ok (.bipush 15, 2) := by decide +kernel
theorem dL_acts_18 : decode cL_acts 18 = .ok (.iaload, 1) := by decide +kernel
theorem dL_acts_19 : decode cL_acts 19 = .ok (.invokestatic 86, 3) := by decide +kernel
theorem dL_acts_22 : decode cL_acts 22 = .ok (.istore 7, 2) := by decide +kernel
theorem dL_acts_24 : decode cL_acts 24 = .ok (.iload 5, 2) := by decide +kernel
theorem dL_acts_26 : decode cL_acts 26 = .ok (.tableswitch 546 0 8 #[50, 60, 119, 202, 202, 202, 337, 434, 434], 50) := by decide +kernel
theorem dL_acts_76 : decode cL_acts 76 = .ok (.aload_n 0, 1) := by decide +kernel
theorem dL_acts_77 : decode cL_acts 77 = .ok (.aload_n 1, 1) := by decide +kernel
theorem dL_acts_78 : decode cL_acts 78 = .ok (.aload 4, 2) := by decide +kernel
theorem dL_acts_80 : decode cL_acts 80 = .ok (.iload 6, 2) := by decide +kernel
theorem dL_acts_82 : decode cL_acts 82 = .ok (.invokestatic 93, 3) := by decide +kernel
theorem dL_acts_85 : decode cL_acts 85 = .ok (.ireturn, 1) := by decide +kernel
theorem dL_acts_86 : decode cL_acts 86 = .ok (.iload 6, 2) := by decide +kernel
theorem dL_acts_88 : decode cL_acts 88 = .ok (.iconst 4, 1) := by decide +kernel
theorem dL_acts_89 : decode cL_acts 89 = .ok (.invokestatic 86, 3) := by decide +kernel
theorem dL_acts_92 : decode cL_acts 92 = .ok (.istore 8, 2) := by decide +kernel
theorem dL_acts_94 : decode cL_acts 94 = .ok (.aload 4, 2) := by decide +kernel
theorem dL_acts_96 : decode cL_acts 96 = .ok (.iconst 4, 1) := by decide +kernel
theorem dL_acts_97 : decode cL_acts 97 = .ok (.iload 8, 2) := by decide +kernel
theorem dL_acts_99 : decode cL_acts 99 = .ok (.iadd, 1) := by decide +kernel
theorem dL_acts_100 : decode cL_acts 100 = .ok (.iaload, 1) := by decide +kernel
theorem dL_acts_101 : decode cL_acts 101 = .ok (.istore 9, 2) := by decide +kernel
theorem dL_acts_103 : decode cL_acts 103 = .ok (.aload 4, 2) := by decide +kernel
theorem dL_acts_105 : decode cL_acts 105 = .ok (.iconst 4, 1) := by decide +kernel
theorem dL_acts_106 : decode cL_acts 106 = .ok (.iload 8, 2) := by decide +kernel
theorem dL_acts_108 : decode cL_acts 108 = .ok (.iadd, 1) := by decide +kernel
theorem dL_acts_109 : decode cL_acts 109 = .ok (.iconst 1, 1) := by decide +kernel
theorem dL_acts_110 : decode cL_acts 110 = .ok (.iload 6, 2) := by decide +kernel
theorem dL_acts_112 : decode cL_acts 112 = .ok (.iconst 2, 1) := by decide +kernel
theorem dL_acts_113 : decode cL_acts 113 = .ok (.ishr, 1) := by decide +kernel
theorem dL_acts_114 : decode cL_acts 114 = .ok (.bipush 6, 2) := by decide +kernel
theorem dL_acts_116 : decode cL_acts 116 = .ok (.invokestatic 86, 3) := by decide +kernel
theorem dL_acts_119 : decode cL_acts 119 = .ok (.iadd, 1) := by decide +kernel
theorem dL_acts_120 : decode cL_acts 120 = .ok (.iastore, 1) := by decide +kernel
theorem dL_acts_121 : decode cL_acts 121 = .ok (.aload_n 0, 1) := by decide +kernel
theorem dL_acts_122 : decode cL_acts 122 = .ok (.iload 8, 2) := by decide +kernel
theorem dL_acts_124 : decode cL_acts 124 = .ok (.aload 4, 2) := by decide +kernel
theorem dL_acts_126 : decode cL_acts 126 = .ok (.iconst 4, 1) := by decide +kernel
theorem dL_acts_127 : decode cL_acts 127 = .ok (.iload 8, 2) := by decide +kernel
theorem dL_acts_129 : decode cL_acts 129 = .ok (.iadd, 1) := by decide +kernel
theorem dL_acts_130 : decode cL_acts 130 = .ok (.iaload, 1) := by decide +kernel
theorem dL_acts_131 : decode cL_acts 131 = .ok (.invokevirtual 97, 3) := by decide +kernel
theorem dL_acts_134 : decode cL_acts 134 = .ok (.iload 9, 2) := by decide +kernel
theorem dL_acts_136 : decode cL_acts 136 = .ok (.if_icmp .ne 7, 3) := by decide +kernel
theorem dL_acts_139 : decode cL_acts 139 = .ok (.iconst 1, 1) := by decide +kernel
theorem dL_acts_140 : decode cL_acts 140 = .ok (.goto 4, 3) := by decide +kernel
theorem dL_acts_143 : decode cL_acts 143 = .ok (.iconst 0, 1) := by decide +kernel
theorem dL_acts_144 : decode cL_acts 144 = .ok (.ireturn, 1) := by decide +kernel
theorem dL_acts_145 : decode cL_acts 145 = .ok (.aload_n 1, 1) := by decide +kernel
theorem dL_acts_146 : decode cL_acts 146 = .ok (.bipush 10, 2) := by decide +kernel
theorem dL_acts_148 : decode cL_acts 148 = .ok (.iload 7, 2) := by decide +kernel
theorem dL_acts_150 : decode cL_acts 150 = .ok (.imul, 1) := by decide +kernel
theorem dL_acts_151 : decode cL_acts 151 = .ok (.iconst 5, 1) := by decide +kernel
theorem dL_acts_152 : decode cL_acts 152 = .ok (.iadd, 1) := by decide +kernel
theorem dL_acts_153 : decode cL_acts 153 = .ok (.iaload, 1) := by decide +kernel
theorem dL_acts_154 : decode cL_acts 154 = .ok (.istore 10, 2) := by decide +kernel
theorem dL_acts_156 : decode cL_acts 156 = .ok (.aload_n 1, 1) := by decide +kernel
theorem dL_acts_157 : decode cL_acts 157 = .ok (.bipush 10, 2) := by decide +kernel
theorem dL_acts_159 : decode cL_acts 159 = .ok (.iload 7, 2) := by decide +kernel
theorem dL_acts_161 : decode cL_acts 161 = .ok (.imul, 1) := by decide +kernel
theorem dL_acts_162 : decode cL_acts 162 = .ok (.iconst 4, 1) := by decide +kernel
theorem dL_acts_163 : decode cL_acts 163 = .ok (.iadd, 1) := by decide +kernel
theorem dL_acts_164 : decode cL_acts 164 = .ok (.aload 4, 2) := by decide +kernel
theorem dL_acts_166 : decode cL_acts 166 = .ok (.iconst 1, 1) := by decide +kernel
theorem dL_acts_167 : decode cL_acts 167 = .ok (.iaload, 1) := by decide +kernel
theorem dL_acts_168 : decode cL_acts 168 = .ok (.aload_n 1, 1) := by decide +kernel
theorem dL_acts_169 : decode cL_acts 169 = .ok (.bipush 10, 2) := by decide +kernel
theorem dL_acts_171 : decode cL_acts 171 = .ok (.iload 7, 2) := by decide +kernel
theorem dL_acts_173 : decode cL_acts 173 = .ok (.imul, 1) := by decide +kernel
theorem dL_acts_174 : decode cL_acts 174 = .ok (.iconst 2, 1) := by decide +kernel
theorem dL_acts_175 : decode cL_acts 175 = .ok (.iadd, 1) := by decide +kernel
theorem dL_acts_176 : decode cL_acts 176 = .ok (.iaload, 1) := by decide +kernel
theorem dL_acts_177 : decode cL_acts 177 = .ok (.iadd, 1) := by decide +kernel
theorem dL_acts_178 : decode cL_acts 178 = .ok (.iastore, 1) := by decide +kernel
theorem dL_acts_179 : decode cL_acts 179 = .ok (.aload_n 1, 1) := by decide +kernel
theorem dL_acts_180 : decode cL_acts 180 = .ok (.bipush 10, 2) := by decide +kernel
theorem dL_acts_182 : decode cL_acts 182 = .ok (.iload 7, 2) := by decide +kernel
theorem dL_acts_184 : decode cL_acts 184 = .ok (.imul, 1) := by decide +kernel
theorem dL_acts_185 : decode cL_acts 185 = .ok (.iconst 5, 1) := by decide +kernel
theorem dL_acts_186 : decode cL_acts 186 = .ok (.iadd, 1) := by decide +kernel
theorem dL_acts_187 : decode cL_acts 187 = .ok (.iconst 0, 1) := by decide +kernel
theorem dL_acts_188 : decode cL_acts 188 = .ok (.iastore, 1) := by decide +kernel
theorem dL_acts_189 : decode cL_acts 189 = .ok (.aload_n 1, 1) := by decide +kernel
theorem dL_acts_190 : decode cL_acts 190 = .ok (.bipush 10, 2) := by decide +kernel
theorem dL_acts_192 : decode cL_acts 192 = .ok (.iload 7, 2) := by decide +kernel
theorem dL_acts_194 : decode cL_acts 194 = .ok (.imul, 1) := by decide +kernel
theorem dL_acts_195 : decode cL_acts 195 = .ok (.bipush 6, 2) := by decide +kernel
theorem dL_acts_197 : decode cL_acts 197 = .ok (.iadd, 1) := by decide +kernel
theorem dL_acts_198 : decode cL_acts 198 = .ok (.iconst 0, 1) := by decide +kernel
theorem dL_acts_199 : decode cL_acts 199 = .ok (.iastore, 1) := by decide +kernel
theorem dL_acts_200 : decode cL_acts 200 = .ok (.aload_n 1, 1) := by decide +kernel
theorem dL_acts_201 : decode cL_acts 201 = .ok (.bipush 10, 2) := by decide +kernel
theorem dL_acts_203 : decode cL_acts 203 = .ok (.iload 7, 2) := by decide +kernel
theorem dL_acts_205 : decode cL_acts 205 = .ok (.imul, 1) := by decide +kernel
theorem dL_acts_206 : decode cL_acts 206 = .ok (.bipush 7, 2) := by decide +kernel
theorem dL_acts_208 : decode cL_acts 208 = .ok (.iadd, 1) := by decide +kernel
theorem dL_acts_209 : decode cL_acts 209 = .ok (.iconst 0, 1) := by decide +kernel
theorem dL_acts_210 : decode cL_acts 210 = .ok (.iastore, 1) := by decide +kernel
theorem dL_acts_211 : decode cL_acts 211 = .ok (.aload_n 0, 1) := by decide +kernel
theorem dL_acts_212 : decode cL_acts 212 = .ok (.iload 7, 2) := by decide +kernel
theorem dL_acts_214 : decode cL_acts 214 = .ok (.invokevirtual 100, 3) := by decide +kernel
theorem dL_acts_217 : decode cL_acts 217 = .ok (.iload 10, 2) := by decide +kernel
theorem dL_acts_219 : decode cL_acts 219 = .ok (.if_icmp .ne 7, 3) := by decide +kernel
theorem dL_acts_222 : decode cL_acts 222 = .ok (.iconst 1, 1) := by decide +kernel
theorem dL_acts_223 : decode cL_acts 223 = .ok (.goto 4, 3) := by decide +kernel
theorem dL_acts_226 : decode cL_acts 226 = .ok (.iconst 0, 1) := by decide +kernel
theorem dL_acts_227 : decode cL_acts 227 = .ok (.ireturn, 1) := by decide +kernel
theorem dL_acts_228 : decode cL_acts 228 = .ok (.iload 6, 2) := by decide +kernel
theorem dL_acts_230 : decode cL_acts 230 = .ok (.iconst 4, 1) := by decide +kernel
theorem dL_acts_231 : decode cL_acts 231 = .ok (.ishr, 1) := by decide +kernel
theorem dL_acts_232 : decode cL_acts 232 = .ok (.iconst 3, 1) := by decide +kernel
theorem dL_acts_233 : decode cL_acts 233 = .ok (.invokestatic 86, 3) := by decide +kernel
theorem dL_acts_236 : decode cL_acts 236 = .ok (.ifCond .ne 21, 3) := by decide +kernel
theorem dL_acts_239 : decode cL_acts 239 = .ok (.iload 6, 2) := by decide +kernel
theorem dL_acts_241 : decode cL_acts 241 = .ok (.bipush 6, 2) := by decide +kernel
theorem dL_acts_243 : decode cL_acts 243 = .ok (.ishr, 1) := by decide +kernel
theorem dL_acts_244 : decode cL_acts 244 = .ok (.sipush 6001, 3) := by decide +kernel
theorem dL_acts_247 : decode cL_acts 247 = .ok (.invokestatic 86, 3) := by decide +kernel
theorem dL_acts_250 : decode cL_acts 250 = .ok (.sipush 3000, 3) := by decide +kernel
theorem dL_acts_253 : decode cL_acts 253 = .ok (.isub, 1) := by decide +kernel
theorem dL_acts_254 : decode cL_acts 254 = .ok (.goto 18, 3) := by decide +kernel
theorem dL_acts_257 : decode cL_acts 257 = .ok (.iload 6, 2) := by decide +kernel
theorem dL_acts_259 : decode cL_acts 259 = .ok (.bipush 6, 2) := by decide +kernel
theorem dL_acts_261 : decode cL_acts 261 = .ok (.ishr, 1) := by decide +kernel
theorem dL_acts_262 : decode cL_acts 262 = .ok (.sipush 800, 3) := by decide +kernel
theorem dL_acts_265 : decode cL_acts 265 = .ok (.invokestatic 86, 3) := by decide +kernel
theorem dL_acts_268 : decode cL_acts 268 = .ok (.sipush 400, 3) := by decide +kernel
theorem dL_acts_271 : decode cL_acts 271 = .ok (.isub, 1) := by decide +kernel
theorem dL_acts_272 : decode cL_acts 272 = .ok (.istore 11, 2) := by decide +kernel
theorem dL_acts_274 : decode cL_acts 274 = .ok (.aload_n 1, 1) := by decide +kernel
theorem dL_acts_275 : decode cL_acts 275 = .ok (.bipush 10, 2) := by decide +kernel
theorem dL_acts_277 : decode cL_acts 277 = .ok (.iload 7, 2) := by decide +kernel
theorem dL_acts_279 : decode cL_acts 279 = .ok (.imul, 1) := by decide +kernel
theorem dL_acts_280 : decode cL_acts 280 = .ok (.iconst 4, 1) := by decide +kernel
theorem dL_acts_281 : decode cL_acts 281 = .ok (.iadd, 1) := by decide +kernel
theorem dL_acts_282 : decode cL_acts 282 = .ok (.iaload, 1) := by decide +kernel
theorem dL_acts_283 : decode cL_acts 283 = .ok (.iload 11, 2) := by decide +kernel
theorem dL_acts_285 : decode cL_acts 285 = .ok (.iadd, 1) := by decide +kernel
theorem dL_acts_286 : decode cL_acts 286 = .ok (.invokestatic 36, 3) := by decide +kernel
theorem dL_acts_289 : decode cL_acts 289 = .ok (.sipush 20000, 3) := by decide +kernel
theorem dL_acts_292 : decode cL_acts 292 = .ok (.if_icmp .le 28, 3) := by decide +kernel
theorem dL_acts_295 : decode cL_acts 295 = .ok (.aload_n 0, 1) := by decide +kernel
theorem dL_acts_296 : decode cL_acts 296 = .ok (.iload 7, 2) := by decide +kernel
theorem dL_acts_298 : decode cL_acts 298 = .ok (.iconst 4, 1) := by decide +kernel
theorem dL_acts_299 : decode cL_acts 299 = .ok (.invokevirtual 45, 3) := by decide +kernel
theorem dL_acts_302 : decode cL_acts 302 = .ok (.aload_n 1, 1) := by decide +kernel
theorem dL_acts_303 : decode cL_acts 303 = .ok (.bipush 10, 2) := by decide +kernel
theorem dL_acts_305 : decode cL_acts 305 = .ok (.iload 7, 2) := by decide +kernel
theorem dL_acts_307 : decode cL_acts 307 = .ok (.imul, 1) := by decide +kernel
theorem dL_acts_308 : decode cL_acts 308 = .ok (.iconst 4, 1) := by decide +kernel
theorem dL_acts_309 : decode cL_acts 309 = .ok (.iadd, 1) := by decide +kernel
theorem dL_acts_310 : decode cL_acts 310 = .ok (.iaload, 1) := by decide +kernel
theorem dL_acts_311 : decode cL_acts 311 = .ok (.if_icmp .ne 7, 3) := by decide +kernel
theorem dL_acts_314 : decode cL_acts 314 = .ok (.iconst 1, 1) := by decide +kernel
theorem dL_acts_315 : decode cL_acts 315 = .ok (.goto 4, 3) := by decide +kernel
theorem dL_acts_318 : decode cL_acts 318 = .ok (.iconst 0, 1) := by decide +kernel
theorem dL_acts_319 : decode cL_acts 319 = .ok (.ireturn, 1) := by decide +kernel
theorem dL_acts_320 : decode cL_acts 320 = .ok (.aload_n 1, 1) := by decide +kernel
theorem dL_acts_321 : decode cL_acts 321 = .ok (.bipush 10, 2) := by decide +kernel
theorem dL_acts_323 : decode cL_acts 323 = .ok (.iload 7, 2) := by decide +kernel
theorem dL_acts_325 : decode cL_acts 325 = .ok (.imul, 1) := by decide +kernel
theorem dL_acts_326 : decode cL_acts 326 = .ok (.iconst 4, 1) := by decide +kernel
theorem dL_acts_327 : decode cL_acts 327 = .ok (.iadd, 1) := by decide +kernel
theorem dL_acts_328 : decode cL_acts 328 = .ok (.dup2, 1) := by decide +kernel
theorem dL_acts_329 : decode cL_acts 329 = .ok (.iaload, 1) := by decide +kernel
theorem dL_acts_330 : decode cL_acts 330 = .ok (.iload 11, 2) := by decide +kernel
theorem dL_acts_332 : decode cL_acts 332 = .ok (.iadd, 1) := by decide +kernel
theorem dL_acts_333 : decode cL_acts 333 = .ok (.iastore, 1) := by decide +kernel
theorem dL_acts_334 : decode cL_acts 334 = .ok (.aload_n 0, 1) := by decide +kernel
theorem dL_acts_335 : decode cL_acts 335 = .ok (.iload 7, 2) := by decide +kernel
theorem dL_acts_337 : decode cL_acts 337 = .ok (.iload 11, 2) := by decide +kernel
theorem dL_acts_339 : decode cL_acts 339 = .ok (.invokevirtual 103, 3) := by decide +kernel
theorem dL_acts_342 : decode cL_acts 342 = .ok (.aload_n 1, 1) := by decide +kernel
theorem dL_acts_343 : decode cL_acts 343 = .ok (.bipush 10, 2) := by decide +kernel
theorem dL_acts_345 : decode cL_acts 345 = .ok (.iload 7, 2) := by decide +kernel
theorem dL_acts_347 : decode cL_acts 347 = .ok (.imul, 1) := by decide +kernel
theorem dL_acts_348 : decode cL_acts 348 = .ok (.iconst 4, 1) := by decide +kernel
theorem dL_acts_349 : decode cL_acts 349 = .ok (.iadd, 1) := by decide +kernel
theorem dL_acts_350 : decode cL_acts 350 = .ok (.iaload, 1) := by decide +kernel
theorem dL_acts_351 : decode cL_acts 351 = .ok (.ldc 106, 2) := by decide +kernel
theorem dL_acts_353 : decode cL_acts 353 = .ok (.iadd, 1) := by decide +kernel
theorem dL_acts_354 : decode cL_acts 354 = .ok (.if_icmp .ne 7, 3) := by decide +kernel
theorem dL_acts_357 : decode cL_acts 357 = .ok (.iconst 1, 1) := by decide +kernel
theorem dL_acts_358 : decode cL_acts 358 = .ok (.goto 4, 3) := by decide +kernel
theorem dL_acts_361 : decode cL_acts 361 = .ok (.iconst 0, 1) := by decide +kernel
theorem dL_acts_362 : decode cL_acts 362 = .ok (.ireturn, 1) := by decide +kernel
theorem dL_acts_363 : decode cL_acts 363 = .ok (.iload 6, 2) := by decide +kernel
theorem dL_acts_365 : decode cL_acts 365 = .ok (.iconst 2, 1) := by decide +kernel
theorem dL_acts_366 : decode cL_acts 366 = .ok (.invokestatic 86, 3) := by decide +kernel
theorem dL_acts_369 : decode cL_acts 369 = .ok (.istore 12, 2) := by decide +kernel
theorem dL_acts_371 : decode cL_acts 371 = .ok (.aload 4, 2) := by decide +kernel
theorem dL_acts_373 : decode cL_acts 373 = .ok (.iconst 2, 1) := by decide +kernel
theorem dL_acts_374 : decode cL_acts 374 = .ok (.iload 12, 2) := by decide +kernel
theorem dL_acts_376 : decode cL_acts 376 = .ok (.iadd, 1) := by decide +kernel
theorem dL_acts_377 : decode cL_acts 377 = .ok (.iaload, 1) := by decide +kernel
theorem dL_acts_378 : decode cL_acts 378 = .ok (.istore 13, 2) := by decide +kernel
theorem dL_acts_380 : decode cL_acts 380 = .ok (.aload 4, 2) := by decide +kernel
theorem dL_acts_382 : decode cL_acts 382 = .ok (.iconst 2, 1) := by decide +kernel
theorem dL_acts_383 : decode cL_acts 383 = .ok (.iload 12, 2) := by decide +kernel
theorem dL_acts_385 : decode cL_acts 385 = .ok (.iadd, 1) := by decide +kernel
theorem dL_acts_386 : decode cL_acts 386 = .ok (.iload 12, 2) := by decide +kernel
theorem dL_acts_388 : decode cL_acts 388 = .ok (.ifCond .ne 37, 3) := by decide +kernel
theorem dL_acts_391 : decode cL_acts 391 = .ok (.bipush 10, 2) := by decide +kernel
theorem dL_acts_393 : decode cL_acts 393 = .ok (.iload 6, 2) := by decide +kernel
theorem dL_acts_395 : decode cL_acts 395 = .ok (.iconst 1, 1) := by decide +kernel
theorem dL_acts_396 : decode cL_acts 396 = .ok (.ishr, 1) := by decide +kernel
theorem dL_acts_397 : decode cL_acts 397 = .ok (.iload 6, 2) := by decide +kernel
theorem dL_acts_399 : decode cL_acts 399 = .ok (.bipush 12, 2) := by decide +kernel
theorem dL_acts_401 : decode cL_acts 401 = .ok (.ishr, 1) := by decide +kernel
theorem dL_acts_402 : decode cL_acts 402 = .ok (.iconst 2, 1) := by decide +kernel
theorem dL_acts_403 : decode cL_acts 403 = .ok (.invokestatic 86, 3) := by decide +kernel
theorem dL_acts_406 : decode cL_acts 406 = .ok (.ifCond .ne 9, 3) := by decide +kernel
theorem dL_acts_409 : decode cL_acts 409 = .ok (.sipush 1991, 3) := by decide +kernel
theorem dL_acts_412 : decode cL_acts 412 = .ok (.goto 6, 3) := by decide +kernel
theorem dL_acts_415 : decode cL_acts 415 = .ok (.sipush 200, 3) := by decide +kernel
theorem dL_acts_418 : decode cL_acts 418 = .ok (.invokestatic 86, 3) := by decide +kernel
theorem dL_acts_421 : decode cL_acts 421 = .ok (.iadd, 1) := by decide +kernel
theorem dL_acts_422 : decode cL_acts 422 = .ok (.goto 13, 3) := by decide +kernel
theorem dL_acts_425 : decode cL_acts 425 = .ok (.iconst 1, 1) := by decide +kernel
theorem dL_acts_426 : decode cL_acts 426 = .ok (.iload 6, 2) := by decide +kernel
theorem dL_acts_428 : decode cL_acts 428 = .ok (.iconst 1, 1) := by decide +kernel
theorem dL_acts_429 : decode cL_acts 429 = .ok (.ishr, 1) := by decide +kernel
theorem dL_acts_430 : decode cL_acts 430 = .ok (.iconst 5, 1) := by decide +kernel
theorem dL_acts_431 : decode cL_acts 431 = .ok (.invokestatic 86, 3) := by decide +kernel
theorem dL_acts_434 : decode cL_acts 434 = .ok (.iadd, 1) := by decide +kernel
theorem dL_acts_435 : decode cL_acts 435 = .ok (.iastore, 1) := by decide +kernel
theorem dL_acts_436 : decode cL_acts 436 = .ok (.aload_n 0, 1) := by decide +kernel
theorem dL_acts_437 : decode cL_acts 437 = .ok (.iload 12, 2) := by decide +kernel
theorem dL_acts_439 : decode cL_acts 439 = .ok (.aload 4, 2) := by decide +kernel
theorem dL_acts_441 : decode cL_acts 441 = .ok (.iconst 2, 1) := by decide +kernel
theorem dL_acts_442 : decode cL_acts 442 = .ok (.iload 12, 2) := by decide +kernel
theorem dL_acts_444 : decode cL_acts 444 = .ok (.iadd, 1) := by decide +kernel
theorem dL_acts_445 : decode cL_acts 445 = .ok (.iaload, 1) := by decide +kernel
theorem dL_acts_446 : decode cL_acts 446 = .ok (.invokevirtual 107, 3) := by decide +kernel
theorem dL_acts_449 : decode cL_acts 449 = .ok (.iload 13, 2) := by decide +kernel
theorem dL_acts_451 : decode cL_acts 451 = .ok (.if_icmp .ne 7, 3) := by decide +kernel
theorem dL_acts_454 : decode cL_acts 454 = .ok (.iconst 1, 1) := by decide +kernel
theorem dL_acts_455 : decode cL_acts 455 = .ok (.goto 4, 3) := by decide +kernel
theorem dL_acts_458 : decode cL_acts 458 = .ok (.iconst 0, 1) := by decide +kernel
theorem dL_acts_459 : decode cL_acts 459 = .ok (.ireturn, 1) := by decide +kernel
theorem dL_acts_460 : decode cL_acts 460 = .ok (.iconst 1, 1) := by decide +kernel
theorem dL_acts_461 : decode cL_acts 461 = .ok (.iload 6, 2) := by decide +kernel
theorem dL_acts_463 : decode cL_acts 463 = .ok (.bipush 24, 2) := by decide +kernel
theorem dL_acts_465 : decode cL_acts 465 = .ok (.invokestatic 86, 3) := by decide +kernel
theorem dL_acts_468 : decode cL_acts 468 = .ok (.iadd, 1) := by decide +kernel
theorem dL_acts_469 : decode cL_acts 469 = .ok (.istore 14, 2) := by decide +kernel
theorem dL_acts_471 : decode cL_acts 471 = .ok (.iload 6, 2) := by decide +kernel
theorem dL_acts_473 : decode cL_acts 473 = .ok (.iconst 5, 1) := by decide +kernel
theorem dL_acts_474 : decode cL_acts 474 = .ok (.ishr, 1) := by decide +kernel
theorem dL_acts_475 : decode cL_acts 475 = .ok (.sipush 201, 3) := by decide +kernel
theorem dL_acts_478 : decode cL_acts 478 = .ok (.invokestatic 86, 3) := by decide +kernel
theorem dL_acts_481 : decode cL_acts 481 = .ok (.bipush 100, 2) := by decide +kernel
theorem dL_acts_483 : decode cL_acts 483 = .ok (.isub, 1) := by decide +kernel
theorem dL_acts_484 : decode cL_acts 484 = .ok (.istore 15, 2) := by decide +kernel
theorem dL_acts_486 : decode cL_acts 486 = .ok (.iconst 0, 1) := by decide +kernel
theorem dL_acts_487 : decode cL_acts 487 = .ok (.istore 16, 2) := by decide +kernel
theorem dL_acts_489 : decode cL_acts 489 = .ok (.iload 16, 2) := by decide +kernel
theorem dL_acts_491 : decode cL_acts 491 = .ok (.iload 14, 2) := by decide +kernel
theorem dL_acts_493 : decode cL_acts 493 = .ok (.if_icmp .ge 58, 3) := by decide +kernel
theorem dL_acts_496 : decode cL_acts 496 = .ok (.aload 4, 2) := by decide +kernel
theorem dL_acts_498 : decode cL_acts 498 = .ok (.iconst 1, 1) := by decide +kernel
theorem dL_acts_499 : decode cL_acts 499 = .ok (.iaload, 1) := by decide +kernel
theorem dL_acts_500 : decode cL_acts 500 = .ok (.iload 15, 2) := by decide +kernel
theorem dL_acts_502 : decode cL_acts 502 = .ok (.iadd, 1) := by decide +kernel
theorem dL_acts_503 : decode cL_acts 503 = .ok (.istore 17, 2) := by decide +kernel
theorem dL_acts_505 : decode cL_acts 505 = .ok (.aload_n 1, 1) := by decide +kernel
theorem dL_acts_506 : decode cL_acts 506 = .ok (.aload_n 2, 1) := by decide +kernel
theorem dL_acts_507 : decode cL_acts 507 = .ok (.aload_n 3, 1) := by decide +kernel
theorem dL_acts_508 : decode cL_acts 508 = .ok (.aload 4, 2) := by decide +kernel
theorem dL_acts_510 : decode cL_acts 510 = .ok (.iload 17, 2) := by decide +kernel
theorem dL_acts_512 : decode cL_acts 512 = .ok (.sipush 5000, 3) := by decide +kernel
theorem dL_acts_515 : decode cL_acts 515 = .ok (.if_icmp .le 9, 3) := by decide +kernel
theorem dL_acts_518 : decode cL_acts 518 = .ok (.sipush 5000, 3) := by decide +kernel
theorem dL_acts_521 : decode cL_acts 521 = .ok (.goto 19, 3) := by decide +kernel
theorem dL_acts_524 : decode cL_acts 524 = .ok (.iload 17, 2) := by decide +kernel
theorem dL_acts_526 : decode cL_acts 526 = .ok (.sipush (-5000), 3) := by decide +kernel
theorem dL_acts_529 : decode cL_acts 529 = .ok (.if_icmp .ge 9, 3) := by decide +kernel
theorem dL_acts_532 : decode cL_acts 532 = .ok (.sipush (-5000), 3) := by decide +kernel
theorem dL_acts_535 : decode cL_acts 535 = .ok (.goto 5, 3) := by decide +kernel
theorem dL_acts_538 : decode cL_acts 538 = .ok (.iload 17, 2) := by decide +kernel
theorem dL_acts_540 : decode cL_acts 540 = .ok (.invokestatic 71, 3) := by decide +kernel
theorem dL_acts_543 : decode cL_acts 543 = .ok (.istore 18, 2) := by decide +kernel
theorem dL_acts_545 : decode cL_acts 545 = .ok (.iinc 16 1, 3) := by decide +kernel
theorem dL_acts_548 : decode cL_acts 548 = .ok (.goto (-59), 3) := by decide +kernel
theorem dL_acts_551 : decode cL_acts 551 = .ok (.aload_n 0, 1) := by decide +kernel
theorem dL_acts_552 : decode cL_acts 552 = .ok (.iload 14, 2) := by decide +kernel
theorem dL_acts_554 : decode cL_acts 554 = .ok (.iload 15, 2) := by decide +kernel
theorem dL_acts_556 : decode cL_acts 556 = .ok (.invokevirtual 110, 3) := by decide +kernel
theorem dL_acts_559 : decode cL_acts 559 = .ok (.aload 4, 2) := by decide +kernel
theorem dL_acts_561 : decode cL_acts 561 = .ok (.iconst 1, 1) := by decide +kernel
theorem dL_acts_562 : decode cL_acts 562 = .ok (.iaload, 1) := by decide +kernel
theorem dL_acts_563 : decode cL_acts 563 = .ok (.if_icmp .ne 7, 3) := by decide +kernel
theorem dL_acts_566 : decode cL_acts 566 = .ok (.iconst 1, 1) := by decide +kernel
theorem dL_acts_567 : decode cL_acts 567 = .ok (.goto 4, 3) := by decide +kernel
theorem dL_acts_570 : decode cL_acts 570 = .ok (.iconst 0, 1) := by decide +kernel
theorem dL_acts_571 : decode cL_acts 571 = .ok (.ireturn, 1) := by decide +kernel
theorem dL_acts_572 : decode cL_acts 572 = .ok (.iload 6, 2) := by decide +kernel
theorem dL_acts_574 : decode cL_acts 574 = .ok (.iconst 3, 1) := by decide +kernel
theorem dL_acts_575 : decode cL_acts 575 = .ok (.invokestatic 86, 3) := by decide +kernel
theorem dL_acts_578 : decode cL_acts 578 = .ok (.ifCond .ne 20, 3) := by decide +kernel
theorem dL_acts_581 : decode cL_acts 581 = .ok (.iload 6, 2) := by decide +kernel
theorem dL_acts_583 : decode cL_acts 583 = .ok (.iconst 2, 1) := by decide +kernel
theorem dL_acts_584 : decode cL_acts 584 = .ok (.ishr, 1) := by decide +kernel
theorem dL_acts_585 : decode cL_acts 585 = .ok (.sipush 10001, 3) := by decide +kernel
theorem dL_acts_588 : decode cL_acts 588 = .ok (.invokestatic 86, 3) := by decide +kernel
theorem dL_acts_591 : decode cL_acts 591 = .ok (.sipush 5000, 3) := by decide +kernel
theorem dL_acts_594 : decode cL_acts 594 = .ok (.isub, 1) := by decide +kernel
theorem dL_acts_595 : decode cL_acts 595 = .ok (.goto 21, 3) := by decide +kernel
theorem dL_acts_598 : decode cL_acts 598 = .ok (.aload 4, 2) := by decide +kernel
theorem dL_acts_600 : decode cL_acts 600 = .ok (.iconst 1, 1) := by decide +kernel
theorem dL_acts_601 : decode cL_acts 601 = .ok (.iaload, 1) := by decide +kernel
theorem dL_acts_602 : decode cL_acts 602 = .ok (.iload 6, 2) := by decide +kernel
theorem dL_acts_604 : decode cL_acts 604 = .ok (.iconst 2, 1) := by decide +kernel
theorem dL_acts_605 : decode cL_acts 605 = .ok (.ishr, 1) := by decide +kernel
theorem dL_acts_606 : decode cL_acts 606 = .ok (.sipush 201, 3) := by decide +kernel
theorem dL_acts_609 : decode cL_acts 609 = .ok (.invokestatic 86, 3) := by decide +kernel
theorem dL_acts_612 : decode cL_acts 612 = .ok (.iadd, 1) := by decide +kernel
theorem dL_acts_613 : decode cL_acts 613 = .ok (.bipush 100, 2) := by decide +kernel
theorem dL_acts_615 : decode cL_acts 615 = .ok (.isub, 1) := by decide +kernel
theorem dL_acts_616 : decode cL_acts 616 = .ok (.istore 16, 2) := by decide +kernel
theorem dL_acts_618 : decode cL_acts 618 = .ok (.iload 16, 2) := by decide +kernel
theorem dL_acts_620 : decode cL_acts 620 = .ok (.sipush 5000, 3) := by decide +kernel
theorem dL_acts_623 : decode cL_acts 623 = .ok (.if_icmp .le 9, 3) := by decide +kernel
theorem dL_acts_626 : decode cL_acts 626 = .ok (.sipush 5000, 3) := by decide +kernel
theorem dL_acts_629 : decode cL_acts 629 = .ok (.goto 19, 3) := by decide +kernel
theorem dL_acts_632 : decode cL_acts 632 = .ok (.iload 16, 2) := by decide +kernel
theorem dL_acts_634 : decode cL_acts 634 = .ok (.sipush (-5000), 3) := by decide +kernel
theorem dL_acts_637 : decode cL_acts 637 = .ok (.if_icmp .ge 9, 3) := by decide +kernel
theorem dL_acts_640 : decode cL_acts 640 = .ok (.sipush (-5000), 3) := by decide +kernel
theorem dL_acts_643 : decode cL_acts 643 = .ok (.goto 5, 3) := by decide +kernel
theorem dL_acts_646 : decode cL_acts 646 = .ok (.iload 16, 2) := by decide +kernel
theorem dL_acts_648 : decode cL_acts 648 = .ok (.istore 16, 2) := by decide +kernel
theorem dL_acts_650 : decode cL_acts 650 = .ok (.aload_n 0, 1) := by decide +kernel
theorem dL_acts_651 : decode cL_acts 651 = .ok (.iload 16, 2) := by decide +kernel
theorem dL_acts_653 : decode cL_acts 653 = .ok (.invokevirtual 113, 3) := by decide +kernel
theorem dL_acts_656 : decode cL_acts 656 = .ok (.istore 17, 2) := by decide +kernel
theorem dL_acts_658 : decode cL_acts 658 = .ok (.iload 17, 2) := by decide +kernel
theorem dL_acts_660 : decode cL_acts 660 = .ok (.aload_n 1, 1) := by decide +kernel
theorem dL_acts_661 : decode cL_acts 661 = .ok (.aload_n 2, 1) := by decide +kernel
theorem dL_acts_662 : decode cL_acts 662 = .ok (.aload_n 3, 1) := by decide +kernel
theorem dL_acts_663 : decode cL_acts 663 = .ok (.aload 4, 2) := by decide +kernel
theorem dL_acts_665 : decode cL_acts 665 = .ok (.iload 16, 2) := by decide +kernel
theorem dL_acts_667 : decode cL_acts 667 = .ok (.invokestatic 71, 3) := by decide +kernel
theorem dL_acts_670 : decode cL_acts 670 = .ok (.if_icmp .ne 7, 3) := by decide +kernel
theorem dL_acts_673 : decode cL_acts 673 = .ok (.iconst 1, 1) := by decide +kernel
theorem dL_acts_674 : decode cL_acts 674 = .ok (.goto 4, 3) := by decide +kernel
theorem dL_acts_677 : decode cL_acts 677 = .ok (.iconst 0, 1) := by decide +kernel
theorem dL_acts_678 : decode cL_acts 678 = .ok (.ireturn, 1) := by decide +kernel
theorem dL_law_0 : decode cL_law 0 = .ok (.new 41, 3) := by decide +kernel
theorem dL_law_3 : decode cL_law 3 = .ok (.dup, 1) := by decide +kernel
theorem dL_law_4 : decode cL_law 4 = .ok (.invokespecial 115, 3) := by decide +kernel
theorem dL_law_7 : decode cL_law 7 = .ok (.astore_n 1, 1) := by decide +kernel
theorem dL_law_8 : decode cL_law 8 = .ok (.bipush 60, 2) := by decide +kernel
theorem dL_law_10 : decode cL_law 10 = .ok (.newarray .int, 2) := by decide +kernel
theorem dL_law_12 : decode cL_law 12 = .ok (.astore_n 2, 1) := by decide +kernel
theorem dL_law_13 : decode cL_law 13 = .ok (.bipush 36, 2) := by decide +kernel
theorem dL_law_15 : decode cL_law 15 = .ok (.newarray .int, 2) := by decide +kernel
theorem dL_law_17 : decode cL_law 17 = .ok (.astore_n 3, 1) := by decide +kernel
theorem dL_law_18 : decode cL_law 18 = .ok (.bipush 36, 2) := by decide +kernel
theorem dL_law_20 : decode cL_law 20 = .ok (.newarray .int, 2) := by decide +kernel
theorem dL_law_22 : decode cL_law 22 = .ok (.astore 4, 2) := by decide +kernel
theorem dL_law_24 : decode cL_law 24 = .ok (.bipush 16, 2) := by decide +kernel
theorem dL_law_26 : decode cL_law 26 = .ok (.newarray .int, 2) := by decide +kernel
theorem dL_law_28 : decode cL_law 28 = .ok (.astore 5, 2) := by decide +kernel
theorem dL_law_30 : decode cL_law 30 = .ok (.aload 5, 2) := by decide +kernel
theorem dL_law_32 : decode cL_law 32 = .ok (.iconst 1, 1) := by decide +kernel
theorem dL_law_33 : decode cL_law 33 = .ok (.sipush 1000, 3) := by decide +kernel
theorem dL_law_36 : decode cL_law 36 = .ok (.iastore, 1) := by decide +kernel
theorem dL_law_37 : decode cL_law 37 = .ok (.aload 5, 2) := by decide +kernel
theorem dL_law_39 : decode cL_law 39 = .ok (.iconst 2, 1) := by decide +kernel
theorem dL_law_40 : decode cL_law 40 = .ok (.sipush 300, 3) := by decide +kernel
theorem dL_law_43 : decode cL_law 43 = .ok (.iastore, 1) := by decide +kernel
theorem dL_law_44 : decode cL_law 44 = .ok (.aload 5, 2) := by decide +kernel
theorem dL_law_46 : decode cL_law 46 = .ok (.iconst 3, 1) := by decide +kernel
theorem dL_law_47 : decode cL_law 47 = .ok (.iconst 2, 1) := by decide +kernel
theorem dL_law_48 : decode cL_law 48 = .ok (.iastore, 1) := by decide +kernel
theorem dL_law_49 : decode cL_law 49 = .ok (.aload 5, 2) := by decide +kernel
theorem dL_law_51 : decode cL_law 51 = .ok (.bipush 14, 2) := by decide +kernel
theorem dL_law_53 : decode cL_law 53 = .ok (.ldc 11, 2) := by decide +kernel
theorem dL_law_55 : decode cL_law 55 = .ok (.iastore, 1) := by decide +kernel
theorem dL_law_56 : decode cL_law 56 = .ok (.iconst 0, 1) := by decide +kernel
theorem dL_law_57 : decode cL_law 57 = .ok (.istore 6, 2) := by decide +kernel
theorem dL_law_59 : decode cL_law 59 = .ok (.iload 6, 2) := by decide +kernel
theorem dL_law_61 : decode cL_law 61 = .ok (.iconst 4, 1) := by decide +kernel
theorem dL_law_62 : decode cL_law 62 = .ok (.if_icmp .ge 17, 3) := by decide +kernel
theorem dL_law_65 : decode cL_law 65 = .ok (.aload 5, 2) := by decide +kernel
theorem dL_law_67 : decode cL_law 67 = .ok (.iconst 4, 1) := by decide +kernel
theorem dL_law_68 : decode cL_law 68 = .ok (.iload 6, 2) := by decide +kernel
theorem dL_law_70 : decode cL_law 70 = .ok (.iadd, 1) := by decide +kernel
theorem dL_law_71 : decode cL_law 71 = .ok (.iconst 1, 1) := by decide +kernel
theorem dL_law_72 : decode cL_law 72 = .ok (.iastore, 1) := by decide +kernel
theorem dL_law_73 : decode cL_law 73 = .ok (.iinc 6 1, 3) := by decide +kernel
theorem dL_law_76 : decode cL_law 76 = .ok (.goto (-17), 3) := by decide +kernel
theorem dL_law_79 : decode cL_law 79 = .ok (.aload_n 1, 1) := by decide +kernel
theorem dL_law_80 : decode cL_law 80 = .ok (.aload_n 2, 1) := by decide +kernel
theorem dL_law_81 : decode cL_law 81 = .ok (.aload_n 3, 1) := by decide +kernel
theorem dL_law_82 : decode cL_law 82 = .ok (.aload 4, 2) := by decide +kernel
theorem dL_law_84 : decode cL_law 84 = .ok (.aload 5, 2) := by decide +kernel
theorem dL_law_86 : decode cL_law 86 = .ok (.invokestatic 116, 3) := by decide +kernel
theorem dL_law_89 : decode cL_law 89 = .ok (.ifCond .eq 35, 3) := by decide +kernel
theorem dL_law_92 : decode cL_law 92 = .ok (.aload_n 1, 1) := by decide +kernel
theorem dL_law_93 : decode cL_law 93 = .ok (.aload_n 2, 1) := by decide +kernel
theorem dL_law_94 : decode cL_law 94 = .ok (.aload_n 3, 1) := by decide +kernel
theorem dL_law_95 : decode cL_law 95 = .ok (.aload 4, 2) := by decide +kernel
theorem dL_law_97 : decode cL_law 97 = .ok (.aload 5, 2) := by decide +kernel
theorem dL_law_99 : decode cL_law 99 = .ok (.invokestatic 120, 3) := by decide +kernel
theorem dL_law_102 : decode cL_law 102 = .ok (.ifCond .eq 22, 3) := by decide +kernel
theorem dL_law_105 : decode cL_law 105 = .ok (.aload_n 1, 1) := by decide +kernel
theorem dL_law_106 : decode cL_law 106 = .ok (.aload_n 2, 1) := by decide +kernel
theorem dL_law_107 : decode cL_law 107 = .ok (.aload 5, 2) := by decide +kernel
theorem dL_law_109 : decode cL_law 109 = .ok (.aload_n 0, 1) := by decide +kernel
theorem dL_law_110 : decode cL_law 110 = .ok (.iconst 0, 1) := by decide +kernel
theorem dL_law_111 : decode cL_law 111 = .ok (.invokestatic 123, 3) := by decide +kernel
theorem dL_law_114 : decode cL_law 114 = .ok (.invokestatic 93, 3) := by decide +kernel
theorem dL_law_117 : decode cL_law 117 = .ok (.ifCond .eq 7, 3) := by decide +kernel
theorem dL_law_120 : decode cL_law 120 = .ok (.iconst 1, 1) := by decide +kernel
theorem dL_law_121 : decode cL_law 121 = .ok (.goto 4, 3) := by decide +kernel
theorem dL_law_124 : decode cL_law 124 = .ok (.iconst 0, 1) := by decide +kernel
theorem dL_law_125 : decode cL_law 125 = .ok (.istore 6, 2) := by decide +kernel
theorem dL_law_127 : decode cL_law 127 = .ok (.iconst 0, 1) := by decide +kernel
theorem dL_law_128 : decode cL_law 128 = .ok (.istore 7, 2) := by decide +kernel
theorem dL_law_130 : decode cL_law 130 = .ok (.iload 7, 2) := by decide +kernel
theorem dL_law_132 : decode cL_law 132 = .ok (.bipush 40, 2) := by decide +kernel
theorem dL_law_134 : decode cL_law 134 = .ok (.if_icmp .ge 199, 3) := by decide +kernel
theorem dL_law_137 : decode cL_law 137 = .ok (.iload 6, 2) := by decide +kernel
theorem dL_law_139 : decode cL_law 139 = .ok (.ifCond .eq 194, 3) := by decide +kernel
theorem dL_law_142 : decode cL_law 142 = .ok (.aload_n 0, 1) := by decide +kernel
theorem dL_law_143 : decode cL_law 143 = .ok (.iconst 1, 1) := by decide +kernel
theorem dL_law_144 : decode cL_law 144 = .ok (.iload 7, 2) := by decide +kernel
theorem dL_law_146 : decode cL_law 146 = .ok (.iadd, 1) := by decide +kernel
theorem dL_law_147 : decode cL_law 147 = .ok (.invokestatic 123, 3) := by decide +kernel
theorem dL_law_150 : decode cL_law 150 = .ok (.istore 8, 2) := by decide +kernel
theorem dL_law_152 : decode cL_law 152 = .ok (.aload_n 1, 1) := by decide +kernel
theorem dL_law_153 : decode cL_law 153 = .ok (.aload_n 2, 1) := by decide +kernel
theorem dL_law_154 : decode cL_law 154 = .ok (.aload_n 3, 1) := by decide +kernel
theorem dL_law_155 : decode cL_law 155 = .ok (.aload 4, 2) := by decide +kernel
theorem dL_law_157 : decode cL_law 157 = .ok (.aload 5, 2) := by decide +kernel
theorem dL_law_159 : decode cL_law 159 = .ok (.iload 7, 2) := by decide +kernel
theorem dL_law_161 : decode cL_law 161 = .ok (.iconst 4, 1) := by decide +kernel
theorem dL_law_162 : decode cL_law 162 = .ok (.if_icmp .ge 7, 3) := by decide +kernel
theorem dL_law_165 : decode cL_law 165 = .ok (.iconst 0, 1) := by decide +kernel
theorem dL_law_166 : decode cL_law 166 = .ok (.goto 13, 3) := by decide +kernel
theorem dL_law_169 : decode cL_law 169 = .ok (.iload 8, 2) := by decide +kernel
theorem dL_law_171 : decode cL_law 171 = .ok (.bipush 18, 2) := by decide +kernel
theorem dL_law_173 : decode cL_law 173 = .ok (.ishr, 1) := by decide +kernel
theorem dL_law_174 : decode cL_law 174 = .ok (.bipush 15, 2) := by decide +kernel
theorem dL_law_176 : decode cL_law 176 = .ok (.invokestatic 86, 3) := by decide +kernel
theorem dL_law_179 : decode cL_law 179 = .ok (.iload 8, 2) := by decide +kernel
theorem dL_law_181 : decode cL_law 181 = .ok (.invokestatic 127, 3) := by decide +kernel
theorem dL_law_184 : decode cL_law 184 = .ok (.ifCond .eq 140, 3) := by decide +kernel
theorem dL_law_187 : decode cL_law 187 = .ok (.aload_n 1, 1) := by decide +kernel
theorem dL_law_188 : decode cL_law 188 = .ok (.aload_n 2, 1) := by decide +kernel
theorem dL_law_189 : decode cL_law 189 = .ok (.aload_n 3, 1) := by decide +kernel
theorem dL_law_190 : decode cL_law 190 = .ok (.aload 4, 2) := by decide +kernel
theorem dL_law_192 : decode cL_law 192 = .ok (.aload 5, 2) := by decide +kernel
theorem dL_law_194 : decode cL_law 194 = .ok (.invokestatic 116, 3) := by decide +kernel
theorem dL_law_197 : decode cL_law 197 = .ok (.ifCond .eq 127, 3) := by decide +kernel
theorem dL_law_200 : decode cL_law 200 = .ok (.aload_n 1, 1) := by decide +kernel
theorem dL_law_201 : decode cL_law 201 = .ok (.aload_n 2, 1) := by decide +kernel
theorem dL_law_202 : decode cL_law 202 = .ok (.aload_n 3, 1) := by decide +kernel
theorem dL_law_203 : decode cL_law 203 = .ok (.aload 4, 2) := by decide +kernel
theorem dL_law_205 : decode cL_law 205 = .ok (.aload 5, 2) := by decide +kernel
theorem dL_law_207 : decode cL_law 207 = .ok (.invokestatic 120, 3) := by decide +kernel
theorem dL_law_210 : decode cL_law 210 = .ok (.ifCond .eq 114, 3) := by decide +kernel
theorem dL_law_213 : decode cL_law 213 = .ok (.aload_n 1, 1) := by decide +kernel
theorem dL_law_214 : decode cL_law 214 = .ok (.aload_n 2, 1) := by decide +kernel
theorem dL_law_215 : decode cL_law 215 = .ok (.aload_n 3, 1) := by decide +kernel
theorem dL_law_216 : decode cL_law 216 = .ok (.aload 4, 2) := by decide +kernel
theorem dL_law_218 : decode cL_law 218 = .ok (.aload 5, 2) := by decide +kernel
theorem dL_law_220 : decode cL_law 220 = .ok (.iload 8, 2) := by decide +kernel
theorem dL_law_222 : decode cL_law 222 = .ok (.iconst 3, 1) := by decide +kernel
theorem dL_law_223 : decode cL_law 223 = .ok (.ishr, 1) := by decide +kernel
theorem dL_law_224 : decode cL_law 224 = .ok (.iconst 2, 1) := by decide +kernel
theorem dL_law_225 : decode cL_law 225 = .ok (.invokestatic 86, 3) := by decide +kernel
theorem dL_law_228 : decode cL_law 228 = .ok (.iload 8, 2) := by decide +kernel
theorem dL_law_230 : decode cL_law 230 = .ok (.iconst 5, 1) := by decide +kernel
theorem dL_law_231 : decode cL_law 231 = .ok (.ishr, 1) := by decide +kernel
theorem dL_law_232 : decode cL_law 232 = .ok (.sipush 6000, 3) := by decide +kernel
theorem dL_law_235 : decode cL_law 235 = .ok (.invokestatic 86, 3) := by decide +kernel
theorem dL_law_238 : decode cL_law 238 = .ok (.sipush 3000, 3) := by decide +kernel
theorem dL_law_241 : decode cL_law 241 = .ok (.isub, 1) := by decide +kernel
theorem dL_law_242 : decode cL_law 242 = .ok (.iload 8, 2) := by decide +kernel
theorem dL_law_244 : decode cL_law 244 = .ok (.bipush 8, 2) := by decide +kernel
theorem dL_law_246 : decode cL_law 246 = .ok (.ishr, 1) := by decide +kernel
theorem dL_law_247 : decode cL_law 247 = .ok (.sipush 6000, 3) := by decide +kernel
theorem dL_law_250 : decode cL_law 250 = .ok (.invokestatic 86, 3) := by decide +kernel
theorem dL_law_253 : decode cL_law 253 = .ok (.sipush 1000, 3) := by decide +kernel
theorem dL_law_256 : decode cL_law 256 = .ok (.isub, 1) := by decide +kernel
theorem dL_law_257 : decode cL_law 257 = .ok (.invokestatic 131, 3) := by decide +kernel
theorem dL_law_260 : decode cL_law 260 = .ok (.ifCond .eq 64, 3) := by decide +kernel
theorem dL_law_263 : decode cL_law 263 = .ok (.aload_n 1, 1) := by decide +kernel
theorem dL_law_264 : decode cL_law 264 = .ok (.aload_n 2, 1) := by decide +kernel
theorem dL_law_265 : decode cL_law 265 = .ok (.aload_n 3, 1) := by decide +kernel
theorem dL_law_266 : decode cL_law 266 = .ok (.aload 4, 2) := by decide +kernel
theorem dL_law_268 : decode cL_law 268 = .ok (.aload 5, 2) := by decide +kernel
theorem dL_law_270 : decode cL_law 270 = .ok (.iload 8, 2) := by decide +kernel
theorem dL_law_272 : decode cL_law 272 = .ok (.iconst 4, 1) := by decide +kernel
theorem dL_law_273 : decode cL_law 273 = .ok (.ishr, 1) := by decide +kernel
theorem dL_law_274 : decode cL_law 274 = .ok (.aload 5, 2) := by decide +kernel
theorem dL_law_276 : decode cL_law 276 = .ok (.bipush 15, 2) := by decide +kernel
theorem dL_law_278 : decode cL_law 278 = .ok (.iaload, 1) := by decide +kernel
theorem dL_law_279 : decode cL_law 279 = .ok (.invokestatic 86, 3) := by decide +kernel
theorem dL_law_282 : decode cL_law 282 = .ok (.invokestatic 135, 3) := by decide +kernel
theorem dL_law_285 : decode cL_law 285 = .ok (.ifCond .eq 39, 3) := by decide +kernel
theorem dL_law_288 : decode cL_law 288 = .ok (.iload 7, 2) := by decide +kernel
theorem dL_law_290 : decode cL_law 290 = .ok (.iconst 2, 1) := by decide +kernel
theorem dL_law_291 : decode cL_law 291 = .ok (.irem, 1) := by decide +kernel
theorem dL_law_292 : decode cL_law 292 = .ok (.ifCond .eq 28, 3) := by decide +kernel
theorem dL_law_295 : decode cL_law 295 = .ok (.aload_n 1, 1) := by decide +kernel
theorem dL_law_296 : decode cL_law 296 = .ok (.aload_n 2, 1) := by decide +kernel
theorem dL_law_297 : decode cL_law 297 = .ok (.aload_n 3, 1) := by decide +kernel
theorem dL_law_298 : decode cL_law 298 = .ok (.aload 4, 2) := by decide +kernel
theorem dL_law_300 : decode cL_law 300 = .ok (.aload 5, 2) := by decide +kernel
theorem dL_law_302 : decode cL_law 302 = .ok (.iconst 1, 1) := by decide +kernel
theorem dL_law_303 : decode cL_law 303 = .ok (.iload 8, 2) := by decide +kernel
theorem dL_law_305 : decode cL_law 305 = .ok (.bipush 7, 2) := by decide +kernel
theorem dL_law_307 : decode cL_law 307 = .ok (.ishr, 1) := by decide +kernel
theorem dL_law_308 : decode cL_law 308 = .ok (.bipush 48, 2) := by decide +kernel
theorem dL_law_310 : decode cL_law 310 = .ok (.invokestatic 86, 3) := by decide +kernel
theorem dL_law_313 : decode cL_law 313 = .ok (.iadd, 1) := by decide +kernel
theorem dL_law_314 : decode cL_law 314 = .ok (.invokestatic 139, 3) := by decide +kernel
theorem dL_law_317 : decode cL_law 317 = .ok (.ifCond .eq 7, 3) := by decide +kernel
theorem dL_law_320 : decode cL_law 320 = .ok (.iconst 1, 1) := by decide +kernel
theorem dL_law_321 : decode cL_law 321 = .ok (.goto 4, 3) := by decide +kernel
theorem dL_law_324 : decode cL_law 324 = .ok (.iconst 0, 1) := by decide +kernel
theorem dL_law_325 : decode cL_law 325 = .ok (.istore 6, 2) := by decide +kernel
theorem dL_law_327 : decode cL_law 327 = .ok (.iinc 7 1, 3) := by decide +kernel
theorem dL_law_330 : decode cL_law 330 = .ok (.goto (-200), 3) := by decide +kernel
theorem dL_law_333 : decode cL_law 333 = .ok (.iload 6, 2) := by decide +kernel
theorem dL_law_335 : decode cL_law 335 = .ok (.ireturn, 1) := by decide +kernel
