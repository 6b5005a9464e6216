/-! Methods as functions, 35: X6_readStatement -/
theorem dX6_readAlts_0 : decode cX6_readAlts 0 = .ok (.aload_n 0, 1) := by decide +kernel
theorem dX6_readAlts_1 : decode cX6_readAlts 1 = .ok (.iload_n 1, 1) := by decide +kernel
theorem dX6_readAlts_2 : decode cX6_readAlts 2 = .ok (.iload_n 2, 1) := by decide +kernel
theorem dX6_readAlts_3 : decode cX6_readAlts 3 = .ok (.iconst 1, 1) := by decide +kernel
theorem dX6_readAlts_4 : decode cX6_readAlts 4 = .ok (.invokevirtual 521, 3) := by decide +kernel
theorem dX6_readAlts_7 : decode cX6_readAlts 7 = .ok (.ireturn, 1) := by decide +kernel
theorem dX6_readBlock_0 : decode cX6_readBlock 0 = .ok (.aload_n 0, 1) := by decide +kernel
theorem dX6_readBlock_1 : decode cX6_readBlock 1 = .ok (.iload_n 1, 1) := by decide +kernel
theorem dX6_readBlock_2 : decode cX6_readBlock 2 = .ok (.iload_n 2, 1) := by decide +kernel
theorem dX6_readBlock_3 : decode cX6_readBlock 3 = .ok (.iconst 0, 1) := by decide +kernel
theorem dX6_readBlock_4 : decode cX6_readBlock 4 = .ok (.invokevirtual 521, 3) := by decide +kernel
theorem dX6_readBlock_7 : decode cX6_readBlock 7 = .ok (.ireturn, 1) := by decide +kernel
theorem dX6_readBraces_0 : decode cX6_readBraces 0 = .ok (.aload_n 0, 1) := by decide +kernel
theorem dX6_readBraces_1 : decode cX6_readBraces 1 = .ok (.getfield 28, 3) := by decide +kernel
theorem dX6_readBraces_101 : decode cX6_readBraces 101 = .ok (.iload 4, 2) := by decide +kernel
theorem dX6_readBraces_103 : decode cX6_readBraces 103 = .ok (.ifCond .ge 10, 3) := by decide +kernel
theorem dX6_readBraces_106 : decode cX6_readBraces 106 = .ok (.iload 7, 2) := by decide +kernel
theorem dX6_readBraces_108 : decode cX6_readBraces 108 = .ok (.istore 4, 2) := by decide +kernel
theorem dX6_readBraces_110 : decode cX6_readBraces 110 = .ok (.goto 22, 3) := by decide +kernel
theorem dX6_readBraces_113 : decode cX6_readBraces 113 = .ok (.iload 5, 2) := by decide +kernel
theorem dX6_readBraces_115 : decode cX6_readBraces 115 = .ok (.ifCond .lt 17, 3) := by decide +kernel
theorem dX6_readBraces_118 : decode cX6_readBraces 118 = .ok (.aload_n 0, 1) := by decide +kernel
theorem dX6_readBraces_119 : decode cX6_readBraces 119 = .ok (.getfield 48, 3) := by decide +kernel
theorem dX6_readBraces_12 : decode cX6_readBraces 12 = .ok (.aload_n 0, 1) := by decide +kernel
theorem dX6_readBraces_122 : decode cX6_readBraces 122 = .ok (.getfield 531, 3) := by decide +kernel
theorem dX6_readBraces_125 : decode cX6_readBraces 125 = .ok (.iload 5, 2) := by decide +kernel
theorem dX6_readBraces_127 : decode cX6_readBraces 127 = .ok (.aaload, 1) := by decide +kernel
theorem dX6_readBraces_128 : decode cX6_readBraces 128 = .ok (.iconst 1, 1) := by decide +kernel
theorem dX6_readBraces_129 : decode cX6_readBraces 129 = .ok (.iload 7, 2) := by decide +kernel
theorem dX6_readBraces_13 : decode cX6_readBraces 13 = .ok (.getfield 28, 3) := by decide +kernel
theorem dX6_readBraces_131 : decode cX6_readBraces 131 = .ok (.iastore, 1) := by decide +kernel
theorem dX6_readBraces_132 : decode cX6_readBraces 132 = .ok (.iload 7, 2) := by decide +kernel
theorem dX6_readBraces_134 : decode cX6_readBraces 134 = .ok (.istore 5, 2) := by decide +kernel
theorem dX6_readBraces_136 : decode cX6_readBraces 136 = .ok (.iinc 6 1, 3) := by decide +kernel
theorem dX6_readBraces_139 : decode cX6_readBraces 139 = .ok (.goto (-89), 3) := by decide +kernel
theorem dX6_readBraces_142 : decode cX6_readBraces 142 = .ok (.aload_n 0, 1) := by decide +kernel
theorem dX6_readBraces_143 : decode cX6_readBraces 143 = .ok (.getfield 28, 3) := by decide +kernel
theorem dX6_readBraces_146 : decode cX6_readBraces 146 = .ok (.bipush 125, 2) := by decide +kernel
theorem dX6_readBraces_148 : decode cX6_readBraces 148 = .ok (.invokevirtual 184, 3) := by decide +kernel
theorem dX6_readBraces_151 : decode cX6_readBraces 151 = .ok (.iload 4, 2) := by decide +kernel
theorem dX6_readBraces_153 : decode cX6_readBraces 153 = .ok (.ireturn, 1) := by decide +kernel
theorem dX6_readBraces_16 : decode cX6_readBraces 16 = .ok (.iconst 2, 1) := by decide +kernel
theorem dX6_readBraces_17 : decode cX6_readBraces 17 = .ok (.invokevirtual 100, 3) := by decide +kernel
theorem dX6_readBraces_20 : decode cX6_readBraces 20 = .ok (.iload_n 1, 1) := by decide +kernel
theorem dX6_readBraces_21 : decode cX6_readBraces 21 = .ok (.bipush 16, 2) := by decide +kernel
theorem dX6_readBraces_23 : decode cX6_readBraces 23 = .ok (.if_icmp .le 11, 3) := by decide +kernel
theorem dX6_readBraces_26 : decode cX6_readBraces 26 = .ok (.aload_n 0, 1) := by decide +kernel
theorem dX6_readBraces_27 : decode cX6_readBraces 27 = .ok (.getfield 28, 3) := by decide +kernel
theorem dX6_readBraces_30 : decode cX6_readBraces 30 = .ok (.iconst 5, 1) := by decide +kernel
theorem dX6_readBraces_31 : decode cX6_readBraces 31 = .ok (.invokevirtual 100, 3) := by decide +kernel
theorem dX6_readBraces_34 : decode cX6_readBraces 34 = .ok (.aload_n 0, 1) := by decide +kernel
theorem dX6_readBraces_35 : decode cX6_readBraces 35 = .ok (.getfield 28, 3) := by decide +kernel
theorem dX6_readBraces_38 : decode cX6_readBraces 38 = .ok (.invokevirtual 170, 3) := by decide +kernel
theorem dX6_readBraces_4 : decode cX6_readBraces 4 = .ok (.getfield 85, 3) := by decide +kernel
theorem dX6_readBraces_41 : decode cX6_readBraces 41 = .ok (.iconst (-1), 1) := by decide +kernel
theorem dX6_readBraces_42 : decode cX6_readBraces 42 = .ok (.istore 4, 2) := by decide +kernel
theorem dX6_readBraces_44 : decode cX6_readBraces 44 = .ok (.iconst (-1), 1) := by decide +kernel
theorem dX6_readBraces_45 : decode cX6_readBraces 45 = .ok (.istore 5, 2) := by decide +kernel
theorem dX6_readBraces_47 : decode cX6_readBraces 47 = .ok (.iconst 0, 1) := by decide +kernel
theorem dX6_readBraces_48 : decode cX6_readBraces 48 = .ok (.istore 6, 2) := by decide +kernel
theorem dX6_readBraces_50 : decode cX6_readBraces 50 = .ok (.iload 6, 2) := by decide +kernel
theorem dX6_readBraces_52 : decode cX6_readBraces 52 = .ok (.sipush 400, 3) := by decide +kernel
theorem dX6_readBraces_55 : decode cX6_readBraces 55 = .ok (.if_icmp .gt 87, 3) := by decide +kernel
theorem dX6_readBraces_58 : decode cX6_readBraces 58 = .ok (.aload_n 0, 1) := by decide +kernel
theorem dX6_readBraces_59 : decode cX6_readBraces 59 = .ok (.getfield 28, 3) := by decide +kernel
theorem dX6_readBraces_62 : decode cX6_readBraces 62 = .ok (.getfield 82, 3) := by decide +kernel
theorem dX6_readBraces_65 : decode cX6_readBraces 65 = .ok (.ifCond .ne 77, 3) := by decide +kernel
theorem dX6_readBraces_68 : decode cX6_readBraces 68 = .ok (.aload_n 0, 1) := by decide +kernel
theorem dX6_readBraces_69 : decode cX6_readBraces 69 = .ok (.getfield 28, 3) := by decide +kernel
theorem dX6_readBraces_7 : decode cX6_readBraces 7 = .ok (.bipush 123, 2) := by decide +kernel
theorem dX6_readBraces_72 : decode cX6_readBraces 72 = .ok (.getfield 85, 3) := by decide +kernel
theorem dX6_readBraces_75 : decode cX6_readBraces 75 = .ok (.bipush 125, 2) := by decide +kernel
theorem dX6_readBraces_77 : decode cX6_readBraces 77 = .ok (.if_icmp .eq 65, 3) := by decide +kernel
theorem dX6_readBraces_80 : decode cX6_readBraces 80 = .ok (.iload_n 3, 1) := by decide +kernel
theorem dX6_readBraces_81 : decode cX6_readBraces 81 = .ok (.ifCond .eq 12, 3) := by decide +kernel
theorem dX6_readBraces_84 : decode cX6_readBraces 84 = .ok (.aload_n 0, 1) := by decide +kernel
theorem dX6_readBraces_85 : decode cX6_readBraces 85 = .ok (.iload_n 1, 1) := by decide +kernel
theorem dX6_readBraces_86 : decode cX6_readBraces 86 = .ok (.iload_n 2, 1) := by decide +kernel
theorem dX6_readBraces_87 : decode cX6_readBraces 87 = .ok (.invokevirtual 525, 3) := by decide +kernel
theorem dX6_readBraces_9 : decode cX6_readBraces 9 = .ok (.if_icmp .eq 11, 3) := by decide +kernel
theorem dX6_readBraces_90 : decode cX6_readBraces 90 = .ok (.goto 9, 3) := by decide +kernel
theorem dX6_readBraces_93 : decode cX6_readBraces 93 = .ok (.aload_n 0, 1) := by decide +kernel
theorem dX6_readBraces_94 : decode cX6_readBraces 94 = .ok (.iload_n 1, 1) := by decide +kernel
theorem dX6_readBraces_95 : decode cX6_readBraces 95 = .ok (.iload_n 2, 1) := by decide +kernel
theorem dX6_readBraces_96 : decode cX6_readBraces 96 = .ok (.invokevirtual 528, 3) := by decide +kernel
theorem dX6_readBraces_99 : decode cX6_readBraces 99 = .ok (.istore 7, 2) := by decide +kernel
theorem dX6_readBranch_0 : decode cX6_readBranch 0 = .ok (.aload_n 0, 1) := by decide +kernel
theorem dX6_readBranch_1 : decode cX6_readBranch 1 = .ok (.getfield 28, 3) := by decide +kernel
theorem dX6_readBranch_101 : decode cX6_readBranch 101 = .ok (.invokevirtual 184, 3) := by decide +kernel
theorem dX6_readBranch_104 : decode cX6_readBranch 104 = .ok (.aload 4, 2) := by decide +kernel
theorem dX6_readBranch_106 : decode cX6_readBranch 106 = .ok (.iconst 3, 1) := by decide +kernel
theorem dX6_readBranch_107 : decode cX6_readBranch 107 = .ok (.aload_n 0, 1) := by decide +kernel
theorem dX6_readBranch_108 : decode cX6_readBranch 108 = .ok (.iload_n 1, 1) := by decide +kernel
theorem dX6_readBranch_109 : decode cX6_readBranch 109 = .ok (.iconst 1, 1) := by decide +kernel
theorem dX6_readBranch_110 : decode cX6_readBranch 110 = .ok (.iadd, 1) := by decide +kernel
theorem dX6_readBranch_111 : decode cX6_readBranch 111 = .ok (.iload_n 3, 1) := by decide +kernel
theorem dX6_readBranch_112 : decode cX6_readBranch 112 = .ok (.invokevirtual 276, 3) := by decide +kernel
theorem dX6_readBranch_115 : decode cX6_readBranch 115 = .ok (.iastore, 1) := by decide +kernel
theorem dX6_readBranch_116 : decode cX6_readBranch 116 = .ok (.iload_n 3, 1) := by decide +kernel
theorem dX6_readBranch_117 : decode cX6_readBranch 117 = .ok (.ireturn, 1) := by decide +kernel
theorem dX6_readBranch_118 : decode cX6_readBranch 118 = .ok (.aload_n 0, 1) := by decide +kernel
theorem dX6_readBranch_119 : decode cX6_readBranch 119 = .ok (.getfield 28, 3) := by decide +kernel
theorem dX6_readBranch_12 : decode cX6_readBranch 12 = .ok (.aload_n 0, 1) := by decide +kernel
theorem dX6_readBranch_122 : decode cX6_readBranch 122 = .ok (.getfield 85, 3) := by decide +kernel
theorem dX6_readBranch_125 : decode cX6_readBranch 125 = .ok (.bipush 93, 2) := by decide +kernel
theorem dX6_readBranch_127 : decode cX6_readBranch 127 = .ok (.if_icmp .eq 13, 3) := by decide +kernel
theorem dX6_readBranch_13 : decode cX6_readBranch 13 = .ok (.getfield 28, 3) := by decide +kernel
theorem dX6_readBranch_130 : decode cX6_readBranch 130 = .ok (.aload 4, 2) := by decide +kernel
theorem dX6_readBranch_132 : decode cX6_readBranch 132 = .ok (.bipush 11, 2) := by decide +kernel
theorem dX6_readBranch_134 : decode cX6_readBranch 134 = .ok (.aload_n 0, 1) := by decide +kernel
theorem dX6_readBranch_135 : decode cX6_readBranch 135 = .ok (.iconst (-1), 1) := by decide +kernel
theorem dX6_readBranch_136 : decode cX6_readBranch 136 = .ok (.invokevirtual 120, 3) := by decide +kernel
theorem dX6_readBranch_139 : decode cX6_readBranch 139 = .ok (.iastore, 1) := by decide +kernel
theorem dX6_readBranch_140 : decode cX6_readBranch 140 = .ok (.aload_n 0, 1) := by decide +kernel
theorem dX6_readBranch_141 : decode cX6_readBranch 141 = .ok (.getfield 28, 3) := by decide +kernel
theorem dX6_readBranch_144 : decode cX6_readBranch 144 = .ok (.bipush 93, 2) := by decide +kernel
theorem dX6_readBranch_146 : decode cX6_readBranch 146 = .ok (.invokevirtual 184, 3) := by decide +kernel
theorem dX6_readBranch_149 : decode cX6_readBranch 149 = .ok (.aload_n 0, 1) := by decide +kernel
theorem dX6_readBranch_150 : decode cX6_readBranch 150 = .ok (.getfield 28, 3) := by decide +kernel
theorem dX6_readBranch_153 : decode cX6_readBranch 153 = .ok (.sipush 261, 3) := by decide +kernel
theorem dX6_readBranch_156 : decode cX6_readBranch 156 = .ok (.invokevirtual 246, 3) := by decide +kernel
theorem dX6_readBranch_159 : decode cX6_readBranch 159 = .ok (.ifCond .eq 27, 3) := by decide +kernel
theorem dX6_readBranch_16 : decode cX6_readBranch 16 = .ok (.iconst 2, 1) := by decide +kernel
theorem dX6_readBranch_162 : decode cX6_readBranch 162 = .ok (.aload 4, 2) := by decide +kernel
theorem dX6_readBranch_164 : decode cX6_readBranch 164 = .ok (.iconst 0, 1) := by decide +kernel
theorem dX6_readBranch_165 : decode cX6_readBranch 165 = .ok (.bipush 23, 2) := by decide +kernel
theorem dX6_readBranch_167 : decode cX6_readBranch 167 = .ok (.iastore, 1) := by decide +kernel
theorem dX6_readBranch_168 : decode cX6_readBranch 168 = .ok (.aload_n 0, 1) := by decide +kernel
theorem dX6_readBranch_169 : decode cX6_readBranch 169 = .ok (.iload_n 3, 1) := by decide +kernel
theorem dX6_readBranch_17 : decode cX6_readBranch 17 = .ok (.invokevirtual 100, 3) := by decide +kernel
theorem dX6_readBranch_170 : decode cX6_readBranch 170 = .ok (.bipush 10, 2) := by decide +kernel
theorem dX6_readBranch_172 : decode cX6_readBranch 172 = .ok (.invokevirtual 561, 3) := by decide +kernel
theorem dX6_readBranch_175 : decode cX6_readBranch 175 = .ok (.aload_n 0, 1) := by decide +kernel
theorem dX6_readBranch_176 : decode cX6_readBranch 176 = .ok (.getfield 28, 3) := by decide +kernel
theorem dX6_readBranch_179 : decode cX6_readBranch 179 = .ok (.bipush 59, 2) := by decide +kernel
theorem dX6_readBranch_181 : decode cX6_readBranch 181 = .ok (.invokevirtual 184, 3) := by decide +kernel
theorem dX6_readBranch_184 : decode cX6_readBranch 184 = .ok (.iload_n 3, 1) := by decide +kernel
theorem dX6_readBranch_185 : decode cX6_readBranch 185 = .ok (.ireturn, 1) := by decide +kernel
theorem dX6_readBranch_186 : decode cX6_readBranch 186 = .ok (.aload_n 0, 1) := by decide +kernel
theorem dX6_readBranch_187 : decode cX6_readBranch 187 = .ok (.getfield 28, 3) := by decide +kernel
theorem dX6_readBranch_190 : decode cX6_readBranch 190 = .ok (.getfield 85, 3) := by decide +kernel
theorem dX6_readBranch_193 : decode cX6_readBranch 193 = .ok (.invokestatic 534, 3) := by decide +kernel
theorem dX6_readBranch_196 : decode cX6_readBranch 196 = .ok (.invokestatic 543, 3) := by decide +kernel
theorem dX6_readBranch_199 : decode cX6_readBranch 199 = .ok (.ifCond .ne 11, 3) := by decide +kernel
theorem dX6_readBranch_20 : decode cX6_readBranch 20 = .ok (.aload_n 0, 1) := by decide +kernel
theorem dX6_readBranch_202 : decode cX6_readBranch 202 = .ok (.aload_n 0, 1) := by decide +kernel
theorem dX6_readBranch_203 : decode cX6_readBranch 203 = .ok (.getfield 28, 3) := by decide +kernel
theorem dX6_readBranch_206 : decode cX6_readBranch 206 = .ok (.iconst 2, 1) := by decide +kernel
theorem dX6_readBranch_207 : decode cX6_readBranch 207 = .ok (.invokevirtual 100, 3) := by decide +kernel
theorem dX6_readBranch_21 : decode cX6_readBranch 21 = .ok (.getfield 48, 3) := by decide +kernel
theorem dX6_readBranch_210 : decode cX6_readBranch 210 = .ok (.aload_n 0, 1) := by decide +kernel
theorem dX6_readBranch_211 : decode cX6_readBranch 211 = .ok (.iload_n 3, 1) := by decide +kernel
theorem dX6_readBranch_212 : decode cX6_readBranch 212 = .ok (.invokevirtual 549, 3) := by decide +kernel
theorem dX6_readBranch_215 : decode cX6_readBranch 215 = .ok (.aload 4, 2) := by decide +kernel
theorem dX6_readBranch_217 : decode cX6_readBranch 217 = .ok (.iconst 3, 1) := by decide +kernel
theorem dX6_readBranch_218 : decode cX6_readBranch 218 = .ok (.aload_n 0, 1) := by decide +kernel
theorem dX6_readBranch_219 : decode cX6_readBranch 219 = .ok (.iload_n 1, 1) := by decide +kernel
theorem dX6_readBranch_220 : decode cX6_readBranch 220 = .ok (.iconst 1, 1) := by decide +kernel
theorem dX6_readBranch_221 : decode cX6_readBranch 221 = .ok (.iadd, 1) := by decide +kernel
theorem dX6_readBranch_222 : decode cX6_readBranch 222 = .ok (.iload_n 3, 1) := by decide +kernel
theorem dX6_readBranch_223 : decode cX6_readBranch 223 = .ok (.invokevirtual 276, 3) := by decide +kernel
theorem dX6_readBranch_226 : decode cX6_readBranch 226 = .ok (.iastore, 1) := by decide +kernel
theorem dX6_readBranch_227 : decode cX6_readBranch 227 = .ok (.iload_n 3, 1) := by decide +kernel
theorem dX6_readBranch_228 : decode cX6_readBranch 228 = .ok (.ireturn, 1) := by decide +kernel
theorem dX6_readBranch_24 : decode cX6_readBranch 24 = .ok (.getfield 537, 3) := by decide +kernel
theorem dX6_readBranch_27 : decode cX6_readBranch 27 = .ok (.sipush 400, 3) := by decide +kernel
theorem dX6_readBranch_30 : decode cX6_readBranch 30 = .ok (.if_icmp .lt 11, 3) := by decide +kernel
theorem dX6_readBranch_33 : decode cX6_readBranch 33 = .ok (.aload_n 0, 1) := by decide +kernel
theorem dX6_readBranch_34 : decode cX6_readBranch 34 = .ok (.getfield 28, 3) := by decide +kernel
theorem dX6_readBranch_37 : decode cX6_readBranch 37 = .ok (.iconst 5, 1) := by decide +kernel
theorem dX6_readBranch_38 : decode cX6_readBranch 38 = .ok (.invokevirtual 100, 3) := by decide +kernel
theorem dX6_readBranch_4 : decode cX6_readBranch 4 = .ok (.getfield 85, 3) := by decide +kernel
theorem dX6_readBranch_41 : decode cX6_readBranch 41 = .ok (.aload_n 0, 1) := by decide +kernel
theorem dX6_readBranch_42 : decode cX6_readBranch 42 = .ok (.getfield 28, 3) := by decide +kernel
theorem dX6_readBranch_45 : decode cX6_readBranch 45 = .ok (.getfield 82, 3) := by decide +kernel
theorem dX6_readBranch_48 : decode cX6_readBranch 48 = .ok (.ifCond .eq 5, 3) := by decide +kernel
theorem dX6_readBranch_51 : decode cX6_readBranch 51 = .ok (.iconst (-1), 1) := by decide +kernel
theorem dX6_readBranch_52 : decode cX6_readBranch 52 = .ok (.ireturn, 1) := by decide +kernel
theorem dX6_readBranch_53 : decode cX6_readBranch 53 = .ok (.aload_n 0, 1) := by decide +kernel
theorem dX6_readBranch_54 : decode cX6_readBranch 54 = .ok (.getfield 48, 3) := by decide +kernel
theorem dX6_readBranch_57 : decode cX6_readBranch 57 = .ok (.bipush 22, 2) := by decide +kernel
theorem dX6_readBranch_59 : decode cX6_readBranch 59 = .ok (.iload_n 2, 1) := by decide +kernel
theorem dX6_readBranch_60 : decode cX6_readBranch 60 = .ok (.invokevirtual 540, 3) := by decide +kernel
theorem dX6_readBranch_63 : decode cX6_readBranch 63 = .ok (.istore_n 3, 1) := by decide +kernel
theorem dX6_readBranch_64 : decode cX6_readBranch 64 = .ok (.aload_n 0, 1) := by decide +kernel
theorem dX6_readBranch_65 : decode cX6_readBranch 65 = .ok (.getfield 48, 3) := by decide +kernel
theorem dX6_readBranch_68 : decode cX6_readBranch 68 = .ok (.getfield 531, 3) := by decide +kernel
theorem dX6_readBranch_7 : decode cX6_readBranch 7 = .ok (.bipush 91, 2) := by decide +kernel
theorem dX6_readBranch_71 : decode cX6_readBranch 71 = .ok (.iload_n 3, 1) := by decide +kernel
theorem dX6_readBranch_72 : decode cX6_readBranch 72 = .ok (.aaload, 1) := by decide +kernel
theorem dX6_readBranch_73 : decode cX6_readBranch 73 = .ok (.astore 4, 2) := by decide +kernel
theorem dX6_readBranch_75 : decode cX6_readBranch 75 = .ok (.aload_n 0, 1) := by decide +kernel
theorem dX6_readBranch_76 : decode cX6_readBranch 76 = .ok (.getfield 28, 3) := by decide +kernel
theorem dX6_readBranch_79 : decode cX6_readBranch 79 = .ok (.invokevirtual 170, 3) := by decide +kernel
theorem dX6_readBranch_82 : decode cX6_readBranch 82 = .ok (.aload_n 0, 1) := by decide +kernel
theorem dX6_readBranch_83 : decode cX6_readBranch 83 = .ok (.getfield 28, 3) := by decide +kernel
theorem dX6_readBranch_86 : decode cX6_readBranch 86 = .ok (.sipush 238, 3) := by decide +kernel
theorem dX6_readBranch_89 : decode cX6_readBranch 89 = .ok (.invokevirtual 246, 3) := by decide +kernel
theorem dX6_readBranch_9 : decode cX6_readBranch 9 = .ok (.if_icmp .eq 11, 3) := by decide +kernel
theorem dX6_readBranch_92 : decode cX6_readBranch 92 = .ok (.ifCond .eq 26, 3) := by decide +kernel
theorem dX6_readBranch_95 : decode cX6_readBranch 95 = .ok (.aload_n 0, 1) := by decide +kernel
theorem dX6_readBranch_96 : decode cX6_readBranch 96 = .ok (.getfield 28, 3) := by decide +kernel
theorem dX6_readBranch_99 : decode cX6_readBranch 99 = .ok (.bipush 93, 2) := by decide +kernel
theorem dX6_readStatement_0 : decode cX6_readStatement 0 = .ok (.aload_n 0, 1) := by decide +kernel
theorem dX6_readStatement_1 : decode cX6_readStatement 1 = .ok (.getfield 28, 3) := by decide +kernel
theorem dX6_readStatement_10 : decode cX6_readStatement 10 = .ok (.istore_n 3, 1) := by decide +kernel
theorem dX6_readStatement_11 : decode cX6_readStatement 11 = .ok (.iload_n 3, 1) := by decide +kernel
theorem dX6_readStatement_12 : decode cX6_readStatement 12 = .ok (.ifCond .ne 11, 3) := by decide +kernel
theorem dX6_readStatement_15 : decode cX6_readStatement 15 = .ok (.aload_n 0, 1) := by decide +kernel
theorem dX6_readStatement_16 : decode cX6_readStatement 16 = .ok (.getfield 28, 3) := by decide +kernel
theorem dX6_readStatement_188 : decode cX6_readStatement 188 = .ok (.aload_n 0, 1) := by decide +kernel
theorem dX6_readStatement_189 : decode cX6_readStatement 189 = .ok (.iload 4, 2) := by decide +kernel
theorem dX6_readStatement_19 : decode cX6_readStatement 19 = .ok (.iconst 2, 1) := by decide +kernel
theorem dX6_readStatement_191 : decode cX6_readStatement 191 = .ok (.invokevirtual 546, 3) := by decide +kernel
theorem dX6_readStatement_194 : decode cX6_readStatement 194 = .ok (.iload 4, 2) := by decide +kernel
theorem dX6_readStatement_196 : decode cX6_readStatement 196 = .ok (.ireturn, 1) := by decide +kernel
theorem dX6_readStatement_197 : decode cX6_readStatement 197 = .ok (.aload 5, 2) := by decide +kernel
theorem dX6_readStatement_199 : decode cX6_readStatement 199 = .ok (.iconst 5, 1) := by decide +kernel
theorem dX6_readStatement_20 : decode cX6_readStatement 20 = .ok (.invokevirtual 100, 3) := by decide +kernel
theorem dX6_readStatement_200 : decode cX6_readStatement 200 = .ok (.aload_n 0, 1) := by decide +kernel
theorem dX6_readStatement_201 : decode cX6_readStatement 201 = .ok (.iconst (-1), 1) := by decide +kernel
theorem dX6_readStatement_202 : decode cX6_readStatement 202 = .ok (.invokevirtual 120, 3) := by decide +kernel
theorem dX6_readStatement_205 : decode cX6_readStatement 205 = .ok (.iastore, 1) := by decide +kernel
theorem dX6_readStatement_206 : decode cX6_readStatement 206 = .ok (.aload 5, 2) := by decide +kernel
theorem dX6_readStatement_208 : decode cX6_readStatement 208 = .ok (.iconst 3, 1) := by decide +kernel
theorem dX6_readStatement_209 : decode cX6_readStatement 209 = .ok (.aload_n 0, 1) := by decide +kernel
theorem dX6_readStatement_210 : decode cX6_readStatement 210 = .ok (.iload_n 1, 1) := by decide +kernel
theorem dX6_readStatement_211 : decode cX6_readStatement 211 = .ok (.iconst 1, 1) := by decide +kernel
theorem dX6_readStatement_212 : decode cX6_readStatement 212 = .ok (.iadd, 1) := by decide +kernel
theorem dX6_readStatement_213 : decode cX6_readStatement 213 = .ok (.iload 4, 2) := by decide +kernel
theorem dX6_readStatement_215 : decode cX6_readStatement 215 = .ok (.invokevirtual 276, 3) := by decide +kernel
theorem dX6_readStatement_218 : decode cX6_readStatement 218 = .ok (.iastore, 1) := by decide +kernel
theorem dX6_readStatement_219 : decode cX6_readStatement 219 = .ok (.aload_n 0, 1) := by decide +kernel
theorem dX6_readStatement_220 : decode cX6_readStatement 220 = .ok (.getfield 28, 3) := by decide +kernel
theorem dX6_readStatement_223 : decode cX6_readStatement 223 = .ok (.sipush 238, 3) := by decide +kernel
theorem dX6_readStatement_226 : decode cX6_readStatement 226 = .ok (.invokevirtual 246, 3) := by decide +kernel
theorem dX6_readStatement_229 : decode cX6_readStatement 229 = .ok (.ifCond .eq 16, 3) := by decide +kernel
theorem dX6_readStatement_23 : decode cX6_readStatement 23 = .ok (.aload_n 0, 1) := by decide +kernel
theorem dX6_readStatement_232 : decode cX6_readStatement 232 = .ok (.aload 5, 2) := by decide +kernel
theorem dX6_readStatement_234 : decode cX6_readStatement 234 = .ok (.iconst 4, 1) := by decide +kernel
theorem dX6_readStatement_235 : decode cX6_readStatement 235 = .ok (.aload_n 0, 1) := by decide +kernel
theorem dX6_readStatement_236 : decode cX6_readStatement 236 = .ok (.iload_n 1, 1) := by decide +kernel
theorem dX6_readStatement_237 : decode cX6_readStatement 237 = .ok (.iconst 1, 1) := by decide +kernel
theorem dX6_readStatement_238 : decode cX6_readStatement 238 = .ok (.iadd, 1) := by decide +kernel
theorem dX6_readStatement_239 : decode cX6_readStatement 239 = .ok (.iload 4, 2) := by decide +kernel
theorem dX6_readStatement_24 : decode cX6_readStatement 24 = .ok (.getfield 48, 3) := by decide +kernel
theorem dX6_readStatement_241 : decode cX6_readStatement 241 = .ok (.invokevirtual 276, 3) := by decide +kernel
theorem dX6_readStatement_244 : decode cX6_readStatement 244 = .ok (.iastore, 1) := by decide +kernel
theorem dX6_readStatement_245 : decode cX6_readStatement 245 = .ok (.iload 4, 2) := by decide +kernel
theorem dX6_readStatement_247 : decode cX6_readStatement 247 = .ok (.ireturn, 1) := by decide +kernel
theorem dX6_readStatement_248 : decode cX6_readStatement 248 = .ok (.aload 5, 2) := by decide +kernel
theorem dX6_readStatement_250 : decode cX6_readStatement 250 = .ok (.iconst 5, 1) := by decide +kernel
theorem dX6_readStatement_251 : decode cX6_readStatement 251 = .ok (.aload_n 0, 1) := by decide +kernel
theorem dX6_readStatement_252 : decode cX6_readStatement 252 = .ok (.iconst (-1), 1) := by decide +kernel
theorem dX6_readStatement_253 : decode cX6_readStatement 253 = .ok (.invokevirtual 120, 3) := by decide +kernel
theorem dX6_readStatement_256 : decode cX6_readStatement 256 = .ok (.iastore, 1) := by decide +kernel
theorem dX6_readStatement_257 : decode cX6_readStatement 257 = .ok (.aload 5, 2) := by decide +kernel
theorem dX6_readStatement_259 : decode cX6_readStatement 259 = .ok (.iconst 3, 1) := by decide +kernel
theorem dX6_readStatement_260 : decode cX6_readStatement 260 = .ok (.aload_n 0, 1) := by decide +kernel
theorem dX6_readStatement_261 : decode cX6_readStatement 261 = .ok (.iload_n 1, 1) := by decide +kernel
theorem dX6_readStatement_262 : decode cX6_readStatement 262 = .ok (.iconst 1, 1) := by decide +kernel
theorem dX6_readStatement_263 : decode cX6_readStatement 263 = .ok (.iadd, 1) := by decide +kernel
theorem dX6_readStatement_264 : decode cX6_readStatement 264 = .ok (.iload 4, 2) := by decide +kernel
theorem dX6_readStatement_266 : decode cX6_readStatement 266 = .ok (.invokevirtual 276, 3) := by decide +kernel
theorem dX6_readStatement_269 : decode cX6_readStatement 269 = .ok (.iastore, 1) := by decide +kernel
theorem dX6_readStatement_27 : decode cX6_readStatement 27 = .ok (.getfield 537, 3) := by decide +kernel
theorem dX6_readStatement_270 : decode cX6_readStatement 270 = .ok (.iload 4, 2) := by decide +kernel
theorem dX6_readStatement_272 : decode cX6_readStatement 272 = .ok (.ireturn, 1) := by decide +kernel
theorem dX6_readStatement_273 : decode cX6_readStatement 273 = .ok (.aload 5, 2) := by decide +kernel
theorem dX6_readStatement_275 : decode cX6_readStatement 275 = .ok (.iconst 3, 1) := by decide +kernel
theorem dX6_readStatement_276 : decode cX6_readStatement 276 = .ok (.aload_n 0, 1) := by decide +kernel
theorem dX6_readStatement_277 : decode cX6_readStatement 277 = .ok (.iload_n 1, 1) := by decide +kernel
theorem dX6_readStatement_278 : decode cX6_readStatement 278 = .ok (.iconst 1, 1) := by decide +kernel
theorem dX6_readStatement_279 : decode cX6_readStatement 279 = .ok (.iadd, 1) := by decide +kernel
theorem dX6_readStatement_280 : decode cX6_readStatement 280 = .ok (.iload 4, 2) := by decide +kernel
theorem dX6_readStatement_282 : decode cX6_readStatement 282 = .ok (.invokevirtual 273, 3) := by decide +kernel
theorem dX6_readStatement_285 : decode cX6_readStatement 285 = .ok (.iastore, 1) := by decide +kernel
theorem dX6_readStatement_286 : decode cX6_readStatement 286 = .ok (.iload 4, 2) := by decide +kernel
theorem dX6_readStatement_288 : decode cX6_readStatement 288 = .ok (.ireturn, 1) := by decide +kernel
theorem dX6_readStatement_289 : decode cX6_readStatement 289 = .ok (.aload_n 0, 1) := by decide +kernel
theorem dX6_readStatement_290 : decode cX6_readStatement 290 = .ok (.iload 4, 2) := by decide +kernel
theorem dX6_readStatement_292 : decode cX6_readStatement 292 = .ok (.invokevirtual 549, 3) := by decide +kernel
theorem dX6_readStatement_295 : decode cX6_readStatement 295 = .ok (.goto 20, 3) := by decide +kernel
theorem dX6_readStatement_298 : decode cX6_readStatement 298 = .ok (.aload_n 0, 1) := by decide +kernel
theorem dX6_readStatement_299 : decode cX6_readStatement 299 = .ok (.iload 4, 2) := by decide +kernel
theorem dX6_readStatement_30 : decode cX6_readStatement 30 = .ok (.sipush 400, 3) := by decide +kernel
theorem dX6_readStatement_301 : decode cX6_readStatement 301 = .ok (.iload_n 3, 1) := by decide +kernel
theorem dX6_readStatement_302 : decode cX6_readStatement 302 = .ok (.invokevirtual 552, 3) := by decide +kernel
theorem dX6_readStatement_305 : decode cX6_readStatement 305 = .ok (.goto 10, 3) := by decide +kernel
theorem dX6_readStatement_308 : decode cX6_readStatement 308 = .ok (.aload_n 0, 1) := by decide +kernel
theorem dX6_readStatement_309 : decode cX6_readStatement 309 = .ok (.iload 4, 2) := by decide +kernel
theorem dX6_readStatement_311 : decode cX6_readStatement 311 = .ok (.iload_n 3, 1) := by decide +kernel
theorem dX6_readStatement_312 : decode cX6_readStatement 312 = .ok (.invokevirtual 555, 3) := by decide +kernel
theorem dX6_readStatement_315 : decode cX6_readStatement 315 = .ok (.aload_n 0, 1) := by decide +kernel
theorem dX6_readStatement_316 : decode cX6_readStatement 316 = .ok (.getfield 28, 3) := by decide +kernel
theorem dX6_readStatement_319 : decode cX6_readStatement 319 = .ok (.bipush 59, 2) := by decide +kernel
theorem dX6_readStatement_321 : decode cX6_readStatement 321 = .ok (.invokevirtual 184, 3) := by decide +kernel
theorem dX6_readStatement_324 : decode cX6_readStatement 324 = .ok (.iload 4, 2) := by decide +kernel
theorem dX6_readStatement_326 : decode cX6_readStatement 326 = .ok (.ireturn, 1) := by decide +kernel
theorem dX6_readStatement_33 : decode cX6_readStatement 33 = .ok (.if_icmp .lt 11, 3) := by decide +kernel
theorem dX6_readStatement_36 : decode cX6_readStatement 36 = .ok (.aload_n 0, 1) := by decide +kernel
theorem dX6_readStatement_37 : decode cX6_readStatement 37 = .ok (.getfield 28, 3) := by decide +kernel
theorem dX6_readStatement_4 : decode cX6_readStatement 4 = .ok (.getfield 85, 3) := by decide +kernel
theorem dX6_readStatement_40 : decode cX6_readStatement 40 = .ok (.iconst 5, 1) := by decide +kernel
theorem dX6_readStatement_41 : decode cX6_readStatement 41 = .ok (.invokevirtual 100, 3) := by decide +kernel
theorem dX6_readStatement_44 : decode cX6_readStatement 44 = .ok (.aload_n 0, 1) := by decide +kernel
theorem dX6_readStatement_45 : decode cX6_readStatement 45 = .ok (.getfield 28, 3) := by decide +kernel
theorem dX6_readStatement_48 : decode cX6_readStatement 48 = .ok (.getfield 82, 3) := by decide +kernel
theorem dX6_readStatement_51 : decode cX6_readStatement 51 = .ok (.ifCond .eq 5, 3) := by decide +kernel
theorem dX6_readStatement_54 : decode cX6_readStatement 54 = .ok (.iconst (-1), 1) := by decide +kernel
theorem dX6_readStatement_55 : decode cX6_readStatement 55 = .ok (.ireturn, 1) := by decide +kernel
theorem dX6_readStatement_56 : decode cX6_readStatement 56 = .ok (.aload_n 0, 1) := by decide +kernel
theorem dX6_readStatement_57 : decode cX6_readStatement 57 = .ok (.getfield 48, 3) := by decide +kernel
theorem dX6_readStatement_60 : decode cX6_readStatement 60 = .ok (.iload_n 3, 1) := by decide +kernel
theorem dX6_readStatement_61 : decode cX6_readStatement 61 = .ok (.iload_n 2, 1) := by decide +kernel
theorem dX6_readStatement_62 : decode cX6_readStatement 62 = .ok (.invokevirtual 540, 3) := by decide +kernel
theorem dX6_readStatement_65 : decode cX6_readStatement 65 = .ok (.istore 4, 2) := by decide +kernel
theorem dX6_readStatement_67 : decode cX6_readStatement 67 = .ok (.aload_n 0, 1) := by decide +kernel
theorem dX6_readStatement_68 : decode cX6_readStatement 68 = .ok (.getfield 48, 3) := by decide +kernel
theorem dX6_readStatement_7 : decode cX6_readStatement 7 = .ok (.invokestatic 534, 3) := by decide +kernel
theorem dX6_readStatement_71 : decode cX6_readStatement 71 = .ok (.getfield 531, 3) := by decide +kernel
theorem dX6_readStatement_74 : decode cX6_readStatement 74 = .ok (.iload 4, 2) := by decide +kernel
theorem dX6_readStatement_76 : decode cX6_readStatement 76 = .ok (.aaload, 1) := by decide +kernel
theorem dX6_readStatement_77 : decode cX6_readStatement 77 = .ok (.astore 5, 2) := by decide +kernel
theorem dX6_readStatement_79 : decode cX6_readStatement 79 = .ok (.iload_n 3, 1) := by decide +kernel
theorem dX6_readStatement_80 : decode cX6_readStatement 80 = .ok (.iconst 2, 1) := by decide +kernel
theorem dX6_readStatement_81 : decode cX6_readStatement 81 = .ok (.if_icmp .eq 17, 3) := by decide +kernel
theorem dX6_readStatement_84 : decode cX6_readStatement 84 = .ok (.iload_n 3, 1) := by decide +kernel
theorem dX6_readStatement_85 : decode cX6_readStatement 85 = .ok (.invokestatic 543, 3) := by decide +kernel
theorem dX6_readStatement_88 : decode cX6_readStatement 88 = .ok (.ifCond .ne 10, 3) := by decide +kernel
theorem dX6_readStatement_91 : decode cX6_readStatement 91 = .ok (.aload_n 0, 1) := by decide +kernel
theorem dX6_readStatement_92 : decode cX6_readStatement 92 = .ok (.getfield 28, 3) := by decide +kernel
theorem dX6_readStatement_95 : decode cX6_readStatement 95 = .ok (.invokevirtual 170, 3) := by decide +kernel
theorem dX6_readStatement_98 : decode cX6_readStatement 98 = .ok (.iload_n 3, 1) := by decide +kernel
theorem dX6_readStatement_99 : decode cX6_readStatement 99 = .ok (.tableswitch 209 2 20 #[89, 98, 149, 209, 209, 209, 209, 209, 174, 190, 190, 190, 209, 209, 199, 199, 199, 209, 199], 89) := by decide +kernel
abbrev RT_X6_readAlts : Type := (Int32 → Int32 → t_S → Option (Int32 × t_S)) × (Int32 → Int32 → t_S → Option (Int32 × t_S)) × (Int32 → Int32 → Int32 → t_S → Option (Int32 × t_S)) × (Int32 → Int32 → t_S → Option (Int32 × t_S)) × (Int32 → Int32 → t_S → Option (Int32 × t_S))
def RH_X6_readAlts (rc : RT_X6_readAlts) (k : Nat) : Prop := (∀ (x1 : Int32) (x2 : Int32) (s : t_S) (r : Int32 × t_S), rc.1 x1 x2 s = some r → t_C yX6_readAlts cX6_readAlts 3 (some .int) (256 + k) [.ref 845, .int x1, .int x2] s (fun v s' => v = some (.int r.1) ∧ s' = r.2)) ∧ (∀ (x1 : Int32) (x2 : Int32) (s : t_S) (r : Int32 × t_S), rc.2.1 x1 x2 s = some r → t_C yX6_readBlock cX6_readBlock 3 (some .int) (256 + k) [.ref 845, .int x1, .int x2] s (fun v s' => v = some (.int r.1) ∧ s' = r.2)) ∧ (∀ (x1 : Int32) (x2 : Int32) (x3 : Int32) (s : t_S) (r : Int32 × t_S), rc.2.2.1 x1 x2 x3 s = some r → t_C yX6_readBraces cX6_readBraces 8 (some .int) (256 + k) [.ref 845, .int x1, .int x2, .int x3] s (fun v s' => v = some (.int r.1) ∧ s' = r.2)) ∧ (∀ (x1 : Int32) (x2 : Int32) (s : t_S) (r : Int32 × t_S), rc.2.2.2.1 x1 x2 s = some r → t_C yX6_readBranch cX6_readBranch 5 (some .int) (256 + k) [.ref 845, .int x1, .int x2] s (fun v s' => v = some (.int r.1) ∧ s' = r.2)) ∧ (∀ (x1 : Int32) (x2 : Int32) (s : t_S) (r : Int32 × t_S), rc.2.2.2.2 x1 x2 s = some r → t_C yX6_readStatement cX6_readStatement 6 (some .int) (256 + k) [.ref 845, .int x1, .int x2] s (fun v s' => v = some (.int r.1) ∧ s' = r.2))
noncomputable def m_X6_readAlts (rc : RT_X6_readAlts) (x1 : Int32) (x2 : Int32) (s : t_S) : Option (Int32 × t_S) :=
 (rc.2.2.1 x1 x2 (1 : Int32) s).bind (fun r1 =>
 some (r1.1, r1.2))
set_option maxRecDepth 4000 in
set_option maxHeartbeats 1000000 in
theorem E_X6_readAlts (rc : RT_X6_readAlts) {k : Nat} (H : RH_X6_readAlts rc k) (x1 : Int32) (x2 : Int32) (s : t_S) (r : Int32 × t_S) (hr : m_X6_readAlts rc x1 x2 s = some r) : t_C yX6_readAlts cX6_readAlts 3 (some .int) (256 + (k + 1)) [.ref 845, .int x1, .int x2] s (fun v s' => v = some (.int r.1) ∧ s' = r.2) := by
  refine t_C.imp (P := fun v s' => ∃ x, v = some (.int x) ∧ (fun q => q = r) ((x, s'))) (t_C.of (by decide +kernel) (Nat.le_of_ble_eq_true rfl) ?_) (fun v s' hp => by obtain ⟨x, rfl, rfl⟩ := hp; exact ⟨rfl, rfl⟩)
  intro D cy ad bs X
  have hk : t_hk (m_X6_readAlts rc x1 x2 s) (fun q => q = r) := ⟨r, hr, rfl⟩
  show mj_G D cy ad bs X cX6_readAlts 3 yX6_readAlts.cls (some .int) yX6_readAlts.name (256 + (k + 1)) 0 0 1065 (t_P (fun v s' => ∃ x, v = some (.int x) ∧ (fun q => q = r) ((x, s')))) 0 [(0, .ref 845), (1, .int x1), (2, .int x2)] [] (t_m s) 1065 0 0
  refine mj_aload_n dX6_readAlts_0 0 rfl ?_
  refine mj_iload_n dX6_readAlts_1 1 rfl ?_
  refine mj_iload_n dX6_readAlts_2 2 rfl ?_
  refine mj_iconst (v := 1) dX6_readAlts_3 (by decide) ?_
  refine t_bndK hk (fun r1 er1 hk => ?_)
  refine t_callViE dX6_readAlts_4 M_X6_readBraces (H.2.2.1 _ _ _ _ _ er1) ML_X6_521 IM_X6_readBraces SE_X6_readBraces qc_845 rfl (As := [.int x1, .int x2, .int 1]) rfl rfl (by omega) (Nat.le_of_ble_eq_true rfl) (Nat.le_of_ble_eq_true rfl) (Nat.le_of_ble_eq_true rfl) ?_
  exact t_somK hk (fun hf => t_iret dX6_readAlts_7 rfl rfl ⟨_, rfl, hf⟩ (Nat.le_of_ble_eq_true rfl) (Nat.le_of_ble_eq_true rfl))
noncomputable def m_X6_readBlock (rc : RT_X6_readAlts) (x1 : Int32) (x2 : Int32) (s : t_S) : Option (Int32 × t_S) :=
 (rc.2.2.1 x1 x2 (0 : Int32) s).bind (fun r1 =>
 some (r1.1, r1.2))
set_option maxRecDepth 4000 in
set_option maxHeartbeats 1000000 in
theorem E_X6_readBlock (rc : RT_X6_readAlts) {k : Nat} (H : RH_X6_readAlts rc k) (x1 : Int32) (x2 : Int32) (s : t_S) (r : Int32 × t_S) (hr : m_X6_readBlock rc x1 x2 s = some r) : t_C yX6_readBlock cX6_readBlock 3 (some .int) (256 + (k + 1)) [.ref 845, .int x1, .int x2] s (fun v s' => v = some (.int r.1) ∧ s' = r.2) := by
  refine t_C.imp (P := fun v s' => ∃ x, v = some (.int x) ∧ (fun q => q = r) ((x, s'))) (t_C.of (by decide +kernel) (Nat.le_of_ble_eq_true rfl) ?_) (fun v s' hp => by obtain ⟨x, rfl, rfl⟩ := hp; exact ⟨rfl, rfl⟩)
  intro D cy ad bs X
  have hk : t_hk (m_X6_readBlock rc x1 x2 s) (fun q => q = r) := ⟨r, hr, rfl⟩
  show mj_G D cy ad bs X cX6_readBlock 3 yX6_readBlock.cls (some .int) yX6_readBlock.name (256 + (k + 1)) 0 0 1065 (t_P (fun v s' => ∃ x, v = some (.int x) ∧ (fun q => q = r) ((x, s')))) 0 [(0, .ref 845), (1, .int x1), (2, .int x2)] [] (t_m s) 1065 0 0
  refine mj_aload_n dX6_readBlock_0 0 rfl ?_
  refine mj_iload_n dX6_readBlock_1 1 rfl ?_
  refine mj_iload_n dX6_readBlock_2 2 rfl ?_
  refine mj_iconst (v := 0) dX6_readBlock_3 (by decide) ?_
  refine t_bndK hk (fun r1 er1 hk => ?_)
  refine t_callViE dX6_readBlock_4 M_X6_readBraces (H.2.2.1 _ _ _ _ _ er1) ML_X6_521 IM_X6_readBraces SE_X6_readBraces qc_845 rfl (As := [.int x1, .int x2, .int 0]) rfl rfl (by omega) (Nat.le_of_ble_eq_true rfl) (Nat.le_of_ble_eq_true rfl) (Nat.le_of_ble_eq_true rfl) ?_
  exact t_somK hk (fun hf => t_iret dX6_readBlock_7 rfl rfl ⟨_, rfl, hf⟩ (Nat.le_of_ble_eq_true rfl) (Nat.le_of_ble_eq_true rfl))
noncomputable def k_X6_readBraces_132 (rc : RT_X6_readAlts) (l1 : Int32) (l2 : Int32) (l3 : Int32) (l4 : Int32) (l6 : Int32) (l7 : Int32) (s : t_S) : Option ((Int32 × Int32 × Int32 × Int32 × Int32 × Int32 × t_S) ⊕ (Int32 × t_S)) :=
 some (.inl (l1, l2, l3, l4, l7, (l6 + 1), s))
set_option maxRecDepth 4000 in
set_option maxHeartbeats 1000000 in
theorem B_X6_readBraces_132 {D : va_G} {cy : Nat → ClassId} {ad : Nat → Nat} {bs : Nat} {X : State → Heap → Prop} (rc : RT_X6_readAlts) {k : Nat} (H : RH_X6_readAlts rc k) (l1 : Int32) (l2 : Int32) (l3 : Int32) (l4 : Int32) (l6 : Int32) (l7 : Int32) (s : t_S) (Q : (Int32 × Int32 × Int32 × Int32 × Int32 × Int32 × t_S) ⊕ (Int32 × t_S) → Prop) (Hb50 : ∀ (y0 : Int32) (y1 : Int32) (y2 : Int32) (y3 : Int32) (y4 : Int32) (y5 : Int32) (y6 : t_S), Q (.inl (y0, y1, y2, y3, y4, y5, y6)) → mj_G D cy ad bs X cX6_readBraces 8 yX6_readBraces.cls (some .int) yX6_readBraces.name (256 + (k + 1)) 0 0 1065 (t_P (fun v s' => ∃ x, v = some (.int x) ∧ Q (.inr ((x, s'))))) 50 [(0, .ref 845), (1, .int (y0)), (2, .int (y1)), (3, .int (y2)), (4, .int (y3)), (5, .int (y4)), (6, .int (y5))] [] (t_m y6) 1065 0 0) (hk : t_hk (k_X6_readBraces_132 rc l1 l2 l3 l4 l6 l7 s) Q) : mj_G D cy ad bs X cX6_readBraces 8 yX6_readBraces.cls (some .int) yX6_readBraces.name (256 + (k + 1)) 0 0 1065 (t_P (fun v s' => ∃ x, v = some (.int x) ∧ Q (.inr ((x, s'))))) 132 [(0, .ref 845), (1, .int l1), (2, .int l2), (3, .int l3), (4, .int l4), (6, .int l6), (7, .int l7)] [] (t_m s) 1065 0 0 := by
  refine mj_iload dX6_readBraces_132 6 rfl ?_
  refine mj_istore (lv2 := [(5, .int l7), (0, .ref 845), (1, .int l1), (2, .int l2), (3, .int l3), (4, .int l4), (6, .int l6), (7, .int l7)]) dX6_readBraces_134 (by decide) rfl ?_
  refine mj_iinc (k := 6) (v := (l6 + 1)) (lv2 := [(6, .int (l6 + 1)), (5, .int l7), (0, .ref 845), (1, .int l1), (2, .int l2), (3, .int l3), (4, .int l4), (7, .int l7)]) dX6_readBraces_136 rfl rfl (by decide) rfl ?_
  refine mj_goto 50 dX6_readBraces_139 (by decide) ?_
  refine mj_sublv [(0, .ref 845), (1, .int l1), (2, .int l2), (3, .int l3), (4, .int l4), (5, .int l7), (6, .int (l6 + 1))] [2, 3, 4, 5, 6, 1, 0] rfl ?_
  exact t_somK hk (fun hf => Hb50 l1 l2 l3 l4 l7 (l6 + 1) s hf)
noncomputable def k_X6_readBraces_99 (rc : RT_X6_readAlts) (l1 : Int32) (l2 : Int32) (l3 : Int32) (l4 : Int32) (l5 : Int32) (l6 : Int32) (k0 : Int32) (s : t_S) : Option ((Int32 × Int32 × Int32 × Int32 × Int32 × Int32 × t_S) ⊕ (Int32 × t_S)) :=
 if (0 : Int32) ≤ l4 then (if l5 < (0 : Int32) then (k_X6_readBraces_132 rc l1 l2 l3 l4 l6 k0 s)
 else (if t_ix l5 400 = true then
  t_let (t_setI s (445 + 1 * (l5.toNatClampNeg)) ((1 : Int32).toNatClampNeg) k0) (fun s1 =>
 k_X6_readBraces_132 rc l1 l2 l3 l4 l6 k0 s1)
else none))
 else (k_X6_readBraces_132 rc l1 l2 l3 k0 l6 k0 s)
set_option maxRecDepth 4000 in
set_option maxHeartbeats 1000000 in
theorem B_X6_readBraces_99 {D : va_G} {cy : Nat → ClassId} {ad : Nat → Nat} {bs : Nat} {X : State → Heap → Prop} (rc : RT_X6_readAlts) {k : Nat} (H : RH_X6_readAlts rc k) (l1 : Int32) (l2 : Int32) (l3 : Int32) (l4 : Int32) (l5 : Int32) (l6 : Int32) (k0 : Int32) (s : t_S) (Q : (Int32 × Int32 × Int32 × Int32 × Int32 × Int32 × t_S) ⊕ (Int32 × t_S) → Prop) (Hb50 : ∀ (y0 : Int32) (y1 : Int32) (y2 : Int32) (y3 : Int32) (y4 : Int32) (y5 : Int32) (y6 : t_S), Q (.inl (y0, y1, y2, y3, y4, y5, y6)) → mj_G D cy ad bs X cX6_readBraces 8 yX6_readBraces.cls (some .int) yX6_readBraces.name (256 + (k + 1)) 0 0 1065 (t_P (fun v s' => ∃ x, v = some (.int x) ∧ Q (.inr ((x, s'))))) 50 [(0, .ref 845), (1, .int (y0)), (2, .int (y1)), (3, .int (y2)), (4, .int (y3)), (5, .int (y4)), (6, .int (y5))] [] (t_m y6) 1065 0 0) (hk : t_hk (k_X6_readBraces_99 rc l1 l2 l3 l4 l5 l6 k0 s) Q) : mj_G D cy ad bs X cX6_readBraces 8 yX6_readBraces.cls (some .int) yX6_readBraces.name (256 + (k + 1)) 0 0 1065 (t_P (fun v s' => ∃ x, v = some (.int x) ∧ Q (.inr ((x, s'))))) 99 [(0, .ref 845), (1, .int l1), (2, .int l2), (3, .int l3), (4, .int l4), (5, .int l5), (6, .int l6)] [.int k0] (t_m s) 1065 0 0 := by
  refine mj_istore (lv2 := [(7, .int k0), (0, .ref 845), (1, .int l1), (2, .int l2), (3, .int l3), (4, .int l4), (5, .int l5), (6, .int l6)]) dX6_readBraces_99 (by decide) rfl ?_
  refine mj_iload dX6_readBraces_101 5 rfl ?_
  refine mj_if_ge 113 dX6_readBraces_103 (by decide) (fun z => t_posK hk z (fun hk => ?_)) (fun z => t_negK hk z (fun hk => ?_))
  · refine mj_iload dX6_readBraces_113 6 rfl ?_
    refine mj_if_lt 132 dX6_readBraces_115 (by decide) (fun z => t_posK hk z (fun hk => ?_)) (fun z => t_negK hk z (fun hk => ?_))
    · refine mj_sublv [(0, .ref 845), (1, .int l1), (2, .int l2), (3, .int l3), (4, .int l4), (6, .int l6), (7, .int k0)] [1, 2, 3, 4, 5, 7, 0] rfl ?_
      exact B_X6_readBraces_132 rc H _ _ _ _ _ _ _ _ (fun y0 y1 y2 y3 y4 y5 y6 hx => Hb50 y0 y1 y2 y3 y4 y5 y6 hx) hk
    · refine mj_aload_n dX6_readBraces_118 1 rfl ?_
      refine t_getR 428 dX6_readBraces_119 F_X6_48 qr_845_4 ?_
      refine t_getR 444 dX6_readBraces_122 F_X6_531 qr_428_17 ?_
      refine mj_iload dX6_readBraces_125 6 rfl ?_
      refine t_chkK hk (fun c0 hk => ?_)
      refine t_aaldI dX6_readBraces_127 qq_444 (t_ixv c0) ?_
      refine mj_iconst (v := 1) dX6_readBraces_128 (by decide) ?_
      refine mj_iload dX6_readBraces_129 0 rfl ?_
      refine t_iastK dX6_readBraces_131 (t_row445 (t_ixn c0)) (by unfold vp_in; decide) (fun s1 ws1 => t_letE hk ws1 (fun hk => ?_))
      refine mj_sublv [(0, .ref 845), (1, .int l1), (2, .int l2), (3, .int l3), (4, .int l4), (6, .int l6), (7, .int k0)] [1, 2, 3, 4, 5, 7, 0] rfl ?_
      exact B_X6_readBraces_132 rc H _ _ _ _ _ _ _ _ (fun y0 y1 y2 y3 y4 y5 y6 hx => Hb50 y0 y1 y2 y3 y4 y5 y6 hx) hk
  · refine mj_iload dX6_readBraces_106 0 rfl ?_
    refine mj_istore (lv2 := [(4, .int k0), (7, .int k0), (0, .ref 845), (1, .int l1), (2, .int l2), (3, .int l3), (5, .int l5), (6, .int l6)]) dX6_readBraces_108 (by decide) rfl ?_
    refine mj_goto 132 dX6_readBraces_110 (by decide) ?_
    refine mj_sublv [(0, .ref 845), (1, .int l1), (2, .int l2), (3, .int l3), (4, .int k0), (6, .int l6), (7, .int k0)] [2, 3, 4, 5, 0, 7, 1] rfl ?_
    exact B_X6_readBraces_132 rc H _ _ _ _ _ _ _ _ (fun y0 y1 y2 y3 y4 y5 y6 hx => Hb50 y0 y1 y2 y3 y4 y5 y6 hx) hk
noncomputable def k_X6_readBraces_142 (rc : RT_X6_readAlts) (l4 : Int32) (s : t_S) : Option (Int32 × t_S) :=
 (f_X2_need (125 : Int32) s).bind (fun r1 =>
 some (l4, r1))
set_option maxRecDepth 4000 in
set_option maxHeartbeats 1000000 in
theorem B_X6_readBraces_142 {D : va_G} {cy : Nat → ClassId} {ad : Nat → Nat} {bs : Nat} {X : State → Heap → Prop} (rc : RT_X6_readAlts) {k : Nat} (H : RH_X6_readAlts rc k) (l4 : Int32) (s : t_S) (Q : Int32 × t_S → Prop) (hk : t_hk (k_X6_readBraces_142 rc l4 s) Q) : mj_G D cy ad bs X cX6_readBraces 8 yX6_readBraces.cls (some .int) yX6_readBraces.name (256 + (k + 1)) 0 0 1065 (t_P (fun v s' => ∃ x, v = some (.int x) ∧ Q ((x, s')))) 142 [(0, .ref 845), (4, .int l4)] [] (t_m s) 1065 0 0 := by
  refine mj_aload_n dX6_readBraces_142 0 rfl ?_
  refine t_getR 1 dX6_readBraces_143 F_X6_28 qr_845_0 ?_
  refine mj_bipush (v := 125) dX6_readBraces_146 (by decide) ?_
  refine t_bndK hk (fun r1 er1 hk => ?_)
  refine t_callVvE dX6_readBraces_148 M_X2_need (C_X2_need _ _ _ er1) ML_X6_184 IM_X2_need SE_X2_need qc_1 rfl (As := [.int 125]) rfl rfl (by omega) (Nat.le_of_ble_eq_true rfl) (Nat.le_of_ble_eq_true rfl) (Nat.le_of_ble_eq_true rfl) ?_
  refine mj_iload dX6_readBraces_151 1 rfl ?_
  exact t_somK hk (fun hf => t_iret dX6_readBraces_153 rfl rfl ⟨_, rfl, hf⟩ (Nat.le_of_ble_eq_true rfl) (Nat.le_of_ble_eq_true rfl))
noncomputable def k_X6_readBraces_50 (rc : RT_X6_readAlts) (l1 : Int32) (l2 : Int32) (l3 : Int32) (l4 : Int32) (l5 : Int32) (l6 : Int32) (s : t_S) : Option ((Int32 × Int32 × Int32 × Int32 × Int32 × Int32 × t_S) ⊕ (Int32 × t_S)) :=
 if (400 : Int32) < l6 then ((k_X6_readBraces_142 rc l4 s).map Sum.inr)
 else (if (s.1 1 11) = (0 : Int32) then (if (s.1 1 8) = (125 : Int32) then ((k_X6_readBraces_142 rc l4 s).map Sum.inr)
 else (if l3 = (0 : Int32) then ((rc.2.2.2.2 l1 l2 s).bind (fun r1 =>
 k_X6_readBraces_99 rc l1 l2 l3 l4 l5 l6 r1.1 r1.2))
 else ((rc.2.2.2.1 l1 l2 s).bind (fun r2 =>
 k_X6_readBraces_99 rc l1 l2 l3 l4 l5 l6 r2.1 r2.2))))
 else ((k_X6_readBraces_142 rc l4 s).map Sum.inr))
set_option maxRecDepth 4000 in
set_option maxHeartbeats 1000000 in
theorem B_X6_readBraces_50 {D : va_G} {cy : Nat → ClassId} {ad : Nat → Nat} {bs : Nat} {X : State → Heap → Prop} (rc : RT_X6_readAlts) {k : Nat} (H : RH_X6_readAlts rc k) (l1 : Int32) (l2 : Int32) (l3 : Int32) (l4 : Int32) (l5 : Int32) (l6 : Int32) (s : t_S) (Q : (Int32 × Int32 × Int32 × Int32 × Int32 × Int32 × t_S) ⊕ (Int32 × t_S) → Prop) (Hb50 : ∀ (y0 : Int32) (y1 : Int32) (y2 : Int32) (y3 : Int32) (y4 : Int32) (y5 : Int32) (y6 : t_S), Q (.inl (y0, y1, y2, y3, y4, y5, y6)) → mj_G D cy ad bs X cX6_readBraces 8 yX6_readBraces.cls (some .int) yX6_readBraces.name (256 + (k + 1)) 0 0 1065 (t_P (fun v s' => ∃ x, v = some (.int x) ∧ Q (.inr ((x, s'))))) 50 [(0, .ref 845), (1, .int (y0)), (2, .int (y1)), (3, .int (y2)), (4, .int (y3)), (5, .int (y4)), (6, .int (y5))] [] (t_m y6) 1065 0 0) (hk : t_hk (k_X6_readBraces_50 rc l1 l2 l3 l4 l5 l6 s) Q) : mj_G D cy ad bs X cX6_readBraces 8 yX6_readBraces.cls (some .int) yX6_readBraces.name (256 + (k + 1)) 0 0 1065 (t_P (fun v s' => ∃ x, v = some (.int x) ∧ Q (.inr ((x, s'))))) 50 [(0, .ref 845), (1, .int l1), (2, .int l2), (3, .int l3), (4, .int l4), (5, .int l5), (6, .int l6)] [] (t_m s) 1065 0 0 := by
  refine mj_iload dX6_readBraces_50 6 rfl ?_
  refine mj_sipush (v := 400) dX6_readBraces_52 (by decide) ?_
  refine mj_icmp_gt 142 dX6_readBraces_55 (by decide) (fun z => t_posK hk z (fun hk => ?_)) (fun z => t_negK hk z (fun hk => ?_))
  · refine mj_sublv [(0, .ref 845), (4, .int l4)] [0, 4] rfl ?_
    refine t_mapK hk (fun hk => ?_)
    exact B_X6_readBraces_142 rc H _ _ _ hk
  · refine mj_aload_n dX6_readBraces_58 0 rfl ?_
    refine t_getR 1 dX6_readBraces_59 F_X6_28 qr_845_0 ?_
    refine t_getI dX6_readBraces_62 F_X6_82 qf_1_11 ?_
    refine mj_if_ne 142 dX6_readBraces_65 (by decide) (fun z => t_negK hk z (fun hk => ?_)) (fun z => t_posK hk z (fun hk => ?_))
    · refine mj_sublv [(0, .ref 845), (4, .int l4)] [0, 4] rfl ?_
      refine t_mapK hk (fun hk => ?_)
      exact B_X6_readBraces_142 rc H _ _ _ hk
    · refine mj_aload_n dX6_readBraces_68 0 rfl ?_
      refine t_getR 1 dX6_readBraces_69 F_X6_28 qr_845_0 ?_
      refine t_getI dX6_readBraces_72 F_X6_85 qf_1_8 ?_
      refine mj_bipush (v := 125) dX6_readBraces_75 (by decide) ?_
      refine mj_icmp_eq 142 dX6_readBraces_77 (by decide) (fun z => t_posK hk z (fun hk => ?_)) (fun z => t_negK hk z (fun hk => ?_))
      · refine mj_sublv [(0, .ref 845), (4, .int l4)] [0, 4] rfl ?_
        refine t_mapK hk (fun hk => ?_)
        exact B_X6_readBraces_142 rc H _ _ _ hk
      · refine mj_iload_n dX6_readBraces_80 3 rfl ?_
        refine mj_if_eq 93 dX6_readBraces_81 (by decide) (fun z => t_posK hk z (fun hk => ?_)) (fun z => t_negK hk z (fun hk => ?_))
        · refine mj_aload_n dX6_readBraces_93 0 rfl ?_
          refine mj_iload_n dX6_readBraces_94 1 rfl ?_
          refine mj_iload_n dX6_readBraces_95 2 rfl ?_
          refine t_bndK hk (fun r1 er1 hk => ?_)
          refine t_callViE dX6_readBraces_96 M_X6_readStatement (H.2.2.2.2 _ _ _ _ er1) ML_X6_528 IM_X6_readStatement SE_X6_readStatement qc_845 rfl (As := [.int l1, .int l2]) rfl rfl (by omega) (Nat.le_of_ble_eq_true rfl) (Nat.le_of_ble_eq_true rfl) (Nat.le_of_ble_eq_true rfl) ?_
          exact B_X6_readBraces_99 rc H _ _ _ _ _ _ _ _ _ (fun y0 y1 y2 y3 y4 y5 y6 hx => Hb50 y0 y1 y2 y3 y4 y5 y6 hx) hk
        · refine mj_aload_n dX6_readBraces_84 0 rfl ?_
          refine mj_iload_n dX6_readBraces_85 1 rfl ?_
          refine mj_iload_n dX6_readBraces_86 2 rfl ?_
          refine t_bndK hk (fun r2 er2 hk => ?_)
          refine t_callViE dX6_readBraces_87 M_X6_readBranch (H.2.2.2.1 _ _ _ _ er2) ML_X6_525 IM_X6_readBranch SE_X6_readBranch qc_845 rfl (As := [.int l1, .int l2]) rfl rfl (by omega) (Nat.le_of_ble_eq_true rfl) (Nat.le_of_ble_eq_true rfl) (Nat.le_of_ble_eq_true rfl) ?_
          refine mj_goto 99 dX6_readBraces_90 (by decide) ?_
          exact B_X6_readBraces_99 rc H _ _ _ _ _ _ _ _ _ (fun y0 y1 y2 y3 y4 y5 y6 hx => Hb50 y0 y1 y2 y3 y4 y5 y6 hx) hk
noncomputable def b_X6_readBraces_50 (rc : RT_X6_readAlts) (x : Int32 × Int32 × Int32 × Int32 × Int32 × Int32 × t_S) : Option ((Int32 × Int32 × Int32 × Int32 × Int32 × Int32 × t_S) ⊕ (Int32 × t_S)) := k_X6_readBraces_50 rc x.1 x.2.1 x.2.2.1 x.2.2.2.1 x.2.2.2.2.1 x.2.2.2.2.2.1 x.2.2.2.2.2.2
set_option maxRecDepth 4000 in
set_option maxHeartbeats 1000000 in
theorem LH_X6_readBraces_50 {D : va_G} {cy : Nat → ClassId} {ad : Nat → Nat} {bs : Nat} {X : State → Heap → Prop} (rc : RT_X6_readAlts) {k : Nat} (H : RH_X6_readAlts rc k) : ∀ (n : Nat) (y0 : Int32) (y1 : Int32) (y2 : Int32) (y3 : Int32) (y4 : Int32) (y5 : Int32) (y6 : t_S) (Q : Int32 × t_S → Prop) (hk : t_hk (t_loop (b_X6_readBraces_50 rc) n (y0, y1, y2, y3, y4, y5, y6)) Q), mj_G D cy ad bs X cX6_readBraces 8 yX6_readBraces.cls (some .int) yX6_readBraces.name (256 + (k + 1)) 0 0 1065 (t_P (fun v s' => ∃ x, v = some (.int x) ∧ Q ((x, s')))) 50 [(0, .ref 845), (1, .int (y0)), (2, .int (y1)), (3, .int (y2)), (4, .int (y3)), (5, .int (y4)), (6, .int (y5))] [] (t_m y6) 1065 0 0 := by
  intro n
  induction n with
  | zero => intro y0 y1 y2 y3 y4 y5 y6 Q hk; obtain ⟨r, hr, _⟩ := hk; cases hr
  | succ n ih =>
    intro y0 y1 y2 y3 y4 y5 y6 Q hk
    exact B_X6_readBraces_50 rc H y0 y1 y2 y3 y4 y5 y6 (fun y => t_lq (b_X6_readBraces_50 rc) n Q y) (fun y0' y1' y2' y3' y4' y5' y6' hy => ih y0' y1' y2' y3' y4' y5' y6' Q hy) (t_lp hk)
noncomputable def k_X6_readBraces_34 (rc : RT_X6_readAlts) (l1 : Int32) (l2 : Int32) (l3 : Int32) (s : t_S) : Option (Int32 × t_S) :=
 (f_X2_advance s).bind (fun r1 =>
 t_loop (b_X6_readBraces_50 rc) t_N (l1, l2, l3, (-1), (-1), 0, r1))
set_option maxRecDepth 4000 in
set_option maxHeartbeats 1000000 in
theorem B_X6_readBraces_34 {D : va_G} {cy : Nat → ClassId} {ad : Nat → Nat} {bs : Nat} {X : State → Heap → Prop} (rc : RT_X6_readAlts) {k : Nat} (H : RH_X6_readAlts rc k) (l1 : Int32) (l2 : Int32) (l3 : Int32) (s : t_S) (Q : Int32 × t_S → Prop) (hk : t_hk (k_X6_readBraces_34 rc l1 l2 l3 s) Q) : mj_G D cy ad bs X cX6_readBraces 8 yX6_readBraces.cls (some .int) yX6_readBraces.name (256 + (k + 1)) 0 0 1065 (t_P (fun v s' => ∃ x, v = some (.int x) ∧ Q ((x, s')))) 34 [(0, .ref 845), (1, .int l1), (2, .int l2), (3, .int l3)] [] (t_m s) 1065 0 0 := by
  refine mj_aload_n dX6_readBraces_34 0 rfl ?_
  refine t_getR 1 dX6_readBraces_35 F_X6_28 qr_845_0 ?_
  refine t_bndK hk (fun r1 er1 hk => ?_)
  refine t_callVvE dX6_readBraces_38 M_X2_advance (C_X2_advance _ _ er1) ML_X6_170 IM_X2_advance SE_X2_advance qc_1 rfl (As := []) rfl rfl (by omega) (Nat.le_of_ble_eq_true rfl) (Nat.le_of_ble_eq_true rfl) (Nat.le_of_ble_eq_true rfl) ?_
  refine mj_iconst (v := (-1)) dX6_readBraces_41 (by decide) ?_
  refine mj_istore (lv2 := [(4, .int (-1)), (0, .ref 845), (1, .int l1), (2, .int l2), (3, .int l3)]) dX6_readBraces_42 (by decide) rfl ?_
  refine mj_iconst (v := (-1)) dX6_readBraces_44 (by decide) ?_
  refine mj_istore (lv2 := [(5, .int (-1)), (4, .int (-1)), (0, .ref 845), (1, .int l1), (2, .int l2), (3, .int l3)]) dX6_readBraces_45 (by decide) rfl ?_
  refine mj_iconst (v := 0) dX6_readBraces_47 (by decide) ?_
  refine mj_istore (lv2 := [(6, .int 0), (5, .int (-1)), (4, .int (-1)), (0, .ref 845), (1, .int l1), (2, .int l2), (3, .int l3)]) dX6_readBraces_48 (by decide) rfl ?_
  refine mj_sublv [(0, .ref 845), (1, .int l1), (2, .int l2), (3, .int l3), (4, .int (-1)), (5, .int (-1)), (6, .int 0)] [3, 4, 5, 6, 2, 1, 0] rfl ?_
  exact LH_X6_readBraces_50 rc H _ l1 l2 l3 (-1) (-1) 0 r1 _ hk
noncomputable def k_X6_readBraces_20 (rc : RT_X6_readAlts) (l1 : Int32) (l2 : Int32) (l3 : Int32) (s : t_S) : Option (Int32 × t_S) :=
 if l1 ≤ (16 : Int32) then (k_X6_readBraces_34 rc l1 l2 l3 s)
 else ((f_X2_fail (5 : Int32) s).bind (fun r1 =>
 k_X6_readBraces_34 rc l1 l2 l3 r1))
set_option maxRecDepth 4000 in
set_option maxHeartbeats 1000000 in
theorem B_X6_readBraces_20 {D : va_G} {cy : Nat → ClassId} {ad : Nat → Nat} {bs : Nat} {X : State → Heap → Prop} (rc : RT_X6_readAlts) {k : Nat} (H : RH_X6_readAlts rc k) (l1 : Int32) (l2 : Int32) (l3 : Int32) (s : t_S) (Q : Int32 × t_S → Prop) (hk : t_hk (k_X6_readBraces_20 rc l1 l2 l3 s) Q) : mj_G D cy ad bs X cX6_readBraces 8 yX6_readBraces.cls (some .int) yX6_readBraces.name (256 + (k + 1)) 0 0 1065 (t_P (fun v s' => ∃ x, v = some (.int x) ∧ Q ((x, s')))) 20 [(0, .ref 845), (1, .int l1), (2, .int l2), (3, .int l3)] [] (t_m s) 1065 0 0 := by
  refine mj_iload_n dX6_readBraces_20 1 rfl ?_
  refine mj_bipush (v := 16) dX6_readBraces_21 (by decide) ?_
  refine mj_icmp_le 34 dX6_readBraces_23 (by decide) (fun z => t_posK hk z (fun hk => ?_)) (fun z => t_negK hk z (fun hk => ?_))
  · exact B_X6_readBraces_34 rc H _ _ _ _ _ hk
  · refine mj_aload_n dX6_readBraces_26 0 rfl ?_
    refine t_getR 1 dX6_readBraces_27 F_X6_28 qr_845_0 ?_
    refine mj_iconst (v := 5) dX6_readBraces_30 (by decide) ?_
    refine t_bndK hk (fun r1 er1 hk => ?_)
    refine t_callVvE dX6_readBraces_31 M_X2_fail (C_X2_fail _ _ _ er1) ML_X6_100 IM_X2_fail SE_X2_fail qc_1 rfl (As := [.int 5]) rfl rfl (by omega) (Nat.le_of_ble_eq_true rfl) (Nat.le_of_ble_eq_true rfl) (Nat.le_of_ble_eq_true rfl) ?_
    exact B_X6_readBraces_34 rc H _ _ _ _ _ hk
noncomputable def m_X6_readBraces (rc : RT_X6_readAlts) (x1 : Int32) (x2 : Int32) (x3 : Int32) (s : t_S) : Option (Int32 × t_S) :=
 if (s.1 1 8) = (123 : Int32) then (k_X6_readBraces_20 rc x1 x2 x3 s)
 else ((f_X2_fail (2 : Int32) s).bind (fun r1 =>
 k_X6_readBraces_20 rc x1 x2 x3 r1))
set_option maxRecDepth 4000 in
set_option maxHeartbeats 1000000 in
theorem E_X6_readBraces (rc : RT_X6_readAlts) {k : Nat} (H : RH_X6_readAlts rc k) (x1 : Int32) (x2 : Int32) (x3 : Int32) (s : t_S) (r : Int32 × t_S) (hr : m_X6_readBraces rc x1 x2 x3 s = some r) : t_C yX6_readBraces cX6_readBraces 8 (some .int) (256 + (k + 1)) [.ref 845, .int x1, .int x2, .int x3] s (fun v s' => v = some (.int r.1) ∧ s' = r.2) := by
  refine t_C.imp (P := fun v s' => ∃ x, v = some (.int x) ∧ (fun q => q = r) ((x, s'))) (t_C.of (by decide +kernel) (Nat.le_of_ble_eq_true rfl) ?_) (fun v s' hp => by obtain ⟨x, rfl, rfl⟩ := hp; exact ⟨rfl, rfl⟩)
  intro D cy ad bs X
  have hk : t_hk (m_X6_readBraces rc x1 x2 x3 s) (fun q => q = r) := ⟨r, hr, rfl⟩
  show mj_G D cy ad bs X cX6_readBraces 8 yX6_readBraces.cls (some .int) yX6_readBraces.name (256 + (k + 1)) 0 0 1065 (t_P (fun v s' => ∃ x, v = some (.int x) ∧ (fun q => q = r) ((x, s')))) 0 [(0, .ref 845), (1, .int x1), (2, .int x2), (3, .int x3)] [] (t_m s) 1065 0 0
  refine mj_aload_n dX6_readBraces_0 0 rfl ?_
  refine t_getR 1 dX6_readBraces_1 F_X6_28 qr_845_0 ?_
  refine t_getI dX6_readBraces_4 F_X6_85 qf_1_8 ?_
  refine mj_bipush (v := 123) dX6_readBraces_7 (by decide) ?_
  refine mj_icmp_eq 20 dX6_readBraces_9 (by decide) (fun z => t_posK hk z (fun hk => ?_)) (fun z => t_negK hk z (fun hk => ?_))
  · exact B_X6_readBraces_20 rc H _ _ _ _ _ hk
  · refine mj_aload_n dX6_readBraces_12 0 rfl ?_
    refine t_getR 1 dX6_readBraces_13 F_X6_28 qr_845_0 ?_
    refine mj_iconst (v := 2) dX6_readBraces_16 (by decide) ?_
    refine t_bndK hk (fun r1 er1 hk => ?_)
    refine t_callVvE dX6_readBraces_17 M_X2_fail (C_X2_fail _ _ _ er1) ML_X6_100 IM_X2_fail SE_X2_fail qc_1 rfl (As := [.int 2]) rfl rfl (by omega) (Nat.le_of_ble_eq_true rfl) (Nat.le_of_ble_eq_true rfl) (Nat.le_of_ble_eq_true rfl) ?_
    exact B_X6_readBraces_20 rc H _ _ _ _ _ hk
noncomputable def k_X6_readBranch_210 (rc : RT_X6_readAlts) (l1 : Int32) (l3 : Int32) (l4 : Nat) (s : t_S) : Option (Int32 × t_S) :=
 (f_X6_readEvent l3 s).bind (fun r1 =>
 (rc.2.1 (l1 + (1 : Int32)) l3 r1).bind (fun r2 =>
 if t_oka l4 1 (t_ln l4) = true then
  if t_ix (3 : Int32) (t_ln l4) = true then
  t_let (t_setI r2.2 l4 ((3 : Int32).toNatClampNeg) r2.1) (fun s1 =>
 some (l3, s1))
else none
else none))
set_option maxRecDepth 4000 in
set_option maxHeartbeats 1000000 in
theorem B_X6_readBranch_210 {D : va_G} {cy : Nat → ClassId} {ad : Nat → Nat} {bs : Nat} {X : State → Heap → Prop} (rc : RT_X6_readAlts) {k : Nat} (H : RH_X6_readAlts rc k) (l1 : Int32) (l3 : Int32) (l4 : Nat) (s : t_S) (Q : Int32 × t_S → Prop) (hk : t_hk (k_X6_readBranch_210 rc l1 l3 l4 s) Q) : mj_G D cy ad bs X cX6_readBranch 5 yX6_readBranch.cls (some .int) yX6_readBranch.name (256 + (k + 1)) 0 0 1065 (t_P (fun v s' => ∃ x, v = some (.int x) ∧ Q ((x, s')))) 210 [(0, .ref 845), (1, .int l1), (3, .int l3), (4, .ref l4)] [] (t_m s) 1065 0 0 := by
  refine mj_aload_n dX6_readBranch_210 0 rfl ?_
  refine mj_iload_n dX6_readBranch_211 2 rfl ?_
  refine t_bndK hk (fun r1 er1 hk => ?_)
  refine t_callVvE dX6_readBranch_212 M_X6_readEvent (C_X6_readEvent _ _ _ er1) ML_X6_549 IM_X6_readEvent SE_X6_readEvent qc_845 rfl (As := [.int l3]) rfl rfl (by omega) (Nat.le_of_ble_eq_true rfl) (Nat.le_of_ble_eq_true rfl) (Nat.le_of_ble_eq_true rfl) ?_
  refine mj_aload dX6_readBranch_215 3 rfl ?_
  refine mj_iconst (v := 3) dX6_readBranch_217 (by decide) ?_
  refine mj_aload_n dX6_readBranch_218 0 rfl ?_
  refine mj_iload_n dX6_readBranch_219 1 rfl ?_
  refine mj_iconst (v := 1) dX6_readBranch_220 (by decide) ?_
  refine mj_iadd dX6_readBranch_221 ?_
  refine mj_iload_n dX6_readBranch_222 2 rfl ?_
  refine t_bndK hk (fun r2 er2 hk => ?_)
  refine t_callViE dX6_readBranch_223 M_X6_readBlock (H.2.1 _ _ _ _ er2) ML_X6_276 IM_X6_readBlock SE_X6_readBlock qc_845 rfl (As := [.int (l1 + (1 : Int32)), .int l3]) rfl rfl (by omega) (Nat.le_of_ble_eq_true rfl) (Nat.le_of_ble_eq_true rfl) (Nat.le_of_ble_eq_true rfl) ?_
  refine t_chkK hk (fun c2 hk => ?_)
  refine t_chkK hk (fun c3 hk => ?_)
  refine t_iastK dX6_readBranch_226 c2 (t_ixv c3) (fun s1 ws1 => t_letE hk ws1 (fun hk => ?_))
  refine mj_iload_n dX6_readBranch_227 2 rfl ?_
  exact t_somK hk (fun hf => t_iret dX6_readBranch_228 rfl rfl ⟨_, rfl, hf⟩ (Nat.le_of_ble_eq_true rfl) (Nat.le_of_ble_eq_true rfl))
noncomputable def k_X6_readBranch_140 (rc : RT_X6_readAlts) (l1 : Int32) (l3 : Int32) (l4 : Nat) (s : t_S) : Option (Int32 × t_S) :=
 (f_X2_need (93 : Int32) s).bind (fun r1 =>
 (f_X2_take (261 : Int32) r1).bind (fun r2 =>
 if r2.1 = (0 : Int32) then (if (f_X6_isEvent (f_X6_sortOf (r2.2.1 1 8) r2.2) r2.2) = (0 : Int32) then ((f_X2_fail (2 : Int32) r2.2).bind (fun r5 =>
 k_X6_readBranch_210 rc l1 l3 l4 r5))
 else (k_X6_readBranch_210 rc l1 l3 l4 r2.2))
 else (if t_oka l4 1 (t_ln l4) = true then
  if t_ix (0 : Int32) (t_ln l4) = true then
  t_let (t_setI r2.2 l4 ((0 : Int32).toNatClampNeg) (23 : Int32)) (fun s1 =>
 (f_X6_readCall l3 (10 : Int32) s1).bind (fun r8 =>
 (f_X2_need (59 : Int32) r8).bind (fun r9 =>
 some (l3, r9))))
else none
else none)))
set_option maxRecDepth 4000 in
set_option maxHeartbeats 1000000 in
theorem B_X6_readBranch_140 {D : va_G} {cy : Nat → ClassId} {ad : Nat → Nat} {bs : Nat} {X : State → Heap → Prop} (rc : RT_X6_readAlts) {k : Nat} (H : RH_X6_readAlts rc k) (l1 : Int32) (l3 : Int32) (l4 : Nat) (s : t_S) (Q : Int32 × t_S → Prop) (hk : t_hk (k_X6_readBranch_140 rc l1 l3 l4 s) Q) : mj_G D cy ad bs X cX6_readBranch 5 yX6_readBranch.cls (some .int) yX6_readBranch.name (256 + (k + 1)) 0 0 1065 (t_P (fun v s' => ∃ x, v = some (.int x) ∧ Q ((x, s')))) 140 [(0, .ref 845), (1, .int l1), (3, .int l3), (4, .ref l4)] [] (t_m s) 1065 0 0 := by
  refine mj_aload_n dX6_readBranch_140 0 rfl ?_
  refine t_getR 1 dX6_readBranch_141 F_X6_28 qr_845_0 ?_
  refine mj_bipush (v := 93) dX6_readBranch_144 (by decide) ?_
  refine t_bndK hk (fun r1 er1 hk => ?_)
  refine t_callVvE dX6_readBranch_146 M_X2_need (C_X2_need _ _ _ er1) ML_X6_184 IM_X2_need SE_X2_need qc_1 rfl (As := [.int 93]) rfl rfl (by omega) (Nat.le_of_ble_eq_true rfl) (Nat.le_of_ble_eq_true rfl) (Nat.le_of_ble_eq_true rfl) ?_
  refine mj_aload_n dX6_readBranch_149 0 rfl ?_
  refine t_getR 1 dX6_readBranch_150 F_X6_28 qr_845_0 ?_
  refine mj_sipush (v := 261) dX6_readBranch_153 (by decide) ?_
  refine t_bndK hk (fun r2 er2 hk => ?_)
  refine t_callViE dX6_readBranch_156 M_X2_take (C_X2_take _ _ _ er2) ML_X6_246 IM_X2_take SE_X2_take qc_1 rfl (As := [.int 261]) rfl rfl (by omega) (Nat.le_of_ble_eq_true rfl) (Nat.le_of_ble_eq_true rfl) (Nat.le_of_ble_eq_true rfl) ?_
  refine mj_if_eq 186 dX6_readBranch_159 (by decide) (fun z => t_posK hk z (fun hk => ?_)) (fun z => t_negK hk z (fun hk => ?_))
  · refine mj_aload_n dX6_readBranch_186 0 rfl ?_
    refine t_getR 1 dX6_readBranch_187 F_X6_28 qr_845_0 ?_
    refine t_getI dX6_readBranch_190 F_X6_85 qf_1_8 ?_
    refine t_callSiP dX6_readBranch_193 M_X6_sortOf (C_X6_sortOf _ _) ML_X6_534 SM_X6_sortOf (As := [.int (r2.2.1 1 8)]) rfl rfl (by omega) (Nat.le_of_ble_eq_true rfl) (Nat.le_of_ble_eq_true rfl) (Nat.le_of_ble_eq_true rfl) ?_
    refine t_callSiP dX6_readBranch_196 M_X6_isEvent (C_X6_isEvent _ _) ML_X6_543 SM_X6_isEvent (As := [.int (f_X6_sortOf (r2.2.1 1 8) r2.2)]) rfl rfl (by omega) (Nat.le_of_ble_eq_true rfl) (Nat.le_of_ble_eq_true rfl) (Nat.le_of_ble_eq_true rfl) ?_
    refine mj_if_ne 210 dX6_readBranch_199 (by decide) (fun z => t_negK hk z (fun hk => ?_)) (fun z => t_posK hk z (fun hk => ?_))
    · exact B_X6_readBranch_210 rc H _ _ _ _ _ hk
    · refine mj_aload_n dX6_readBranch_202 0 rfl ?_
      refine t_getR 1 dX6_readBranch_203 F_X6_28 qr_845_0 ?_
      refine mj_iconst (v := 2) dX6_readBranch_206 (by decide) ?_
      refine t_bndK hk (fun r5 er5 hk => ?_)
      refine t_callVvE dX6_readBranch_207 M_X2_fail (C_X2_fail _ _ _ er5) ML_X6_100 IM_X2_fail SE_X2_fail qc_1 rfl (As := [.int 2]) rfl rfl (by omega) (Nat.le_of_ble_eq_true rfl) (Nat.le_of_ble_eq_true rfl) (Nat.le_of_ble_eq_true rfl) ?_
      exact B_X6_readBranch_210 rc H _ _ _ _ _ hk
  · refine mj_aload dX6_readBranch_162 3 rfl ?_
    refine mj_iconst (v := 0) dX6_readBranch_164 (by decide) ?_
    refine mj_bipush (v := 23) dX6_readBranch_165 (by decide) ?_
    refine t_chkK hk (fun c5 hk => ?_)
    refine t_chkK hk (fun c6 hk => ?_)
    refine t_iastK dX6_readBranch_167 c5 (t_ixv c6) (fun s1 ws1 => t_letE hk ws1 (fun hk => ?_))
    refine mj_aload_n dX6_readBranch_168 0 rfl ?_
    refine mj_iload_n dX6_readBranch_169 2 rfl ?_
    refine mj_bipush (v := 10) dX6_readBranch_170 (by decide) ?_
    refine t_bndK hk (fun r8 er8 hk => ?_)
    refine t_callVvE dX6_readBranch_172 M_X6_readCall (C_X6_readCall _ _ _ _ er8) ML_X6_561 IM_X6_readCall SE_X6_readCall qc_845 rfl (As := [.int l3, .int 10]) rfl rfl (by omega) (Nat.le_of_ble_eq_true rfl) (Nat.le_of_ble_eq_true rfl) (Nat.le_of_ble_eq_true rfl) ?_
    refine mj_aload_n dX6_readBranch_175 0 rfl ?_
    refine t_getR 1 dX6_readBranch_176 F_X6_28 qr_845_0 ?_
    refine mj_bipush (v := 59) dX6_readBranch_179 (by decide) ?_
    refine t_bndK hk (fun r9 er9 hk => ?_)
    refine t_callVvE dX6_readBranch_181 M_X2_need (C_X2_need _ _ _ er9) ML_X6_184 IM_X2_need SE_X2_need qc_1 rfl (As := [.int 59]) rfl rfl (by omega) (Nat.le_of_ble_eq_true rfl) (Nat.le_of_ble_eq_true rfl) (Nat.le_of_ble_eq_true rfl) ?_
    refine mj_iload_n dX6_readBranch_184 2 rfl ?_
    exact t_somK hk (fun hf => t_iret dX6_readBranch_185 rfl rfl ⟨_, rfl, hf⟩ (Nat.le_of_ble_eq_true rfl) (Nat.le_of_ble_eq_true rfl))
noncomputable def k_X6_readBranch_41 (rc : RT_X6_readAlts) (l1 : Int32) (l2 : Int32) (s : t_S) : Option (Int32 × t_S) :=
 if (s.1 1 11) = (0 : Int32) then ((f_X5_addStep (22 : Int32) l2 s).bind (fun r1 =>
 if t_ix r1.1 400 = true then
  (f_X2_advance r1.2).bind (fun r3 =>
 (f_X2_take (238 : Int32) r3).bind (fun r4 =>
 if r4.1 = (0 : Int32) then (if (r4.2.1 1 8) = (93 : Int32) then (k_X6_readBranch_140 rc l1 r1.1 (445 + 1 * (r1.1.toNatClampNeg)) r4.2)
 else ((f_X6_readExp (-1 : Int32) r4.2).bind (fun r5 =>
 t_let (t_setI r5.2 (445 + 1 * (r1.1.toNatClampNeg)) ((11 : Int32).toNatClampNeg) r5.1) (fun s1 =>
 k_X6_readBranch_140 rc l1 r1.1 (445 + 1 * (r1.1.toNatClampNeg)) s1))))
 else ((f_X2_need (93 : Int32) r4.2).bind (fun r6 =>
 (rc.2.1 (l1 + (1 : Int32)) r1.1 r6).bind (fun r7 =>
 t_let (t_setI r7.2 (445 + 1 * (r1.1.toNatClampNeg)) ((3 : Int32).toNatClampNeg) r7.1) (fun s2 =>
 some (r1.1, s2)))))))
else none))
 else (some ((-1 : Int32), s))
set_option maxRecDepth 4000 in
set_option maxHeartbeats 1000000 in
theorem B_X6_readBranch_41 {D : va_G} {cy : Nat → ClassId} {ad : Nat → Nat} {bs : Nat} {X : State → Heap → Prop} (rc : RT_X6_readAlts) {k : Nat} (H : RH_X6_readAlts rc k) (l1 : Int32) (l2 : Int32) (s : t_S) (Q : Int32 × t_S → Prop) (hk : t_hk (k_X6_readBranch_41 rc l1 l2 s) Q) : mj_G D cy ad bs X cX6_readBranch 5 yX6_readBranch.cls (some .int) yX6_readBranch.name (256 + (k + 1)) 0 0 1065 (t_P (fun v s' => ∃ x, v = some (.int x) ∧ Q ((x, s')))) 41 [(0, .ref 845), (1, .int l1), (2, .int l2)] [] (t_m s) 1065 0 0 := by
  refine mj_aload_n dX6_readBranch_41 0 rfl ?_
  refine t_getR 1 dX6_readBranch_42 F_X6_28 qr_845_0 ?_
  refine t_getI dX6_readBranch_45 F_X6_82 qf_1_11 ?_
  refine mj_if_eq 53 dX6_readBranch_48 (by decide) (fun z => t_posK hk z (fun hk => ?_)) (fun z => t_negK hk z (fun hk => ?_))
  · refine mj_aload_n dX6_readBranch_53 0 rfl ?_
    refine t_getR 428 dX6_readBranch_54 F_X6_48 qr_845_4 ?_
    refine mj_bipush (v := 22) dX6_readBranch_57 (by decide) ?_
    refine mj_iload_n dX6_readBranch_59 2 rfl ?_
    refine t_bndK hk (fun r1 er1 hk => ?_)
    refine t_callViE dX6_readBranch_60 M_X5_addStep (C_X5_addStep _ _ _ _ er1) ML_X6_540 IM_X5_addStep SE_X5_addStep qc_428 rfl (As := [.int 22, .int l2]) rfl rfl (by omega) (Nat.le_of_ble_eq_true rfl) (Nat.le_of_ble_eq_true rfl) (Nat.le_of_ble_eq_true rfl) ?_
    refine mj_istore_n 3 (lv2 := [(3, .int r1.1), (0, .ref 845), (1, .int l1), (2, .int l2)]) dX6_readBranch_63 rfl (by decide) rfl ?_
    refine mj_aload_n dX6_readBranch_64 1 rfl ?_
    refine t_getR 428 dX6_readBranch_65 F_X6_48 qr_845_4 ?_
    refine t_getR 444 dX6_readBranch_68 F_X6_531 qr_428_17 ?_
    refine mj_iload_n dX6_readBranch_71 0 rfl ?_
    refine t_chkK hk (fun c1 hk => ?_)
    refine t_aaldI dX6_readBranch_72 qq_444 (t_ixv c1) ?_
    refine mj_astore (lv2 := [(4, .ref (445 + 1 * (r1.1.toNatClampNeg))), (3, .int r1.1), (0, .ref 845), (1, .int l1), (2, .int l2)]) dX6_readBranch_73 (by decide) rfl ?_
    refine mj_aload_n dX6_readBranch_75 2 rfl ?_
    refine t_getR 1 dX6_readBranch_76 F_X6_28 qr_845_0 ?_
    refine t_bndK hk (fun r3 er3 hk => ?_)
    refine t_callVvE dX6_readBranch_79 M_X2_advance (C_X2_advance _ _ er3) ML_X6_170 IM_X2_advance SE_X2_advance qc_1 rfl (As := []) rfl rfl (by omega) (Nat.le_of_ble_eq_true rfl) (Nat.le_of_ble_eq_true rfl) (Nat.le_of_ble_eq_true rfl) ?_
    refine mj_aload_n dX6_readBranch_82 2 rfl ?_
    refine t_getR 1 dX6_readBranch_83 F_X6_28 qr_845_0 ?_
    refine mj_sipush (v := 238) dX6_readBranch_86 (by decide) ?_
    refine t_bndK hk (fun r4 er4 hk => ?_)
    refine t_callViE dX6_readBranch_89 M_X2_take (C_X2_take _ _ _ er4) ML_X6_246 IM_X2_take SE_X2_take qc_1 rfl (As := [.int 238]) rfl rfl (by omega) (Nat.le_of_ble_eq_true rfl) (Nat.le_of_ble_eq_true rfl) (Nat.le_of_ble_eq_true rfl) ?_
    refine mj_if_eq 118 dX6_readBranch_92 (by decide) (fun z => t_posK hk z (fun hk => ?_)) (fun z => t_negK hk z (fun hk => ?_))
    · refine mj_aload_n dX6_readBranch_118 2 rfl ?_
      refine t_getR 1 dX6_readBranch_119 F_X6_28 qr_845_0 ?_
      refine t_getI dX6_readBranch_122 F_X6_85 qf_1_8 ?_
      refine mj_bipush (v := 93) dX6_readBranch_125 (by decide) ?_
      refine mj_icmp_eq 140 dX6_readBranch_127 (by decide) (fun z => t_posK hk z (fun hk => ?_)) (fun z => t_negK hk z (fun hk => ?_))
      · refine mj_sublv [(0, .ref 845), (1, .int l1), (3, .int r1.1), (4, .ref (445 + 1 * (r1.1.toNatClampNeg)))] [2, 3, 1, 0] rfl ?_
        exact B_X6_readBranch_140 rc H _ _ _ _ _ hk
      · refine mj_aload dX6_readBranch_130 0 rfl ?_
        refine mj_bipush (v := 11) dX6_readBranch_132 (by decide) ?_
        refine mj_aload_n dX6_readBranch_134 2 rfl ?_
        refine mj_iconst (v := (-1)) dX6_readBranch_135 (by decide) ?_
        refine t_bndK hk (fun r5 er5 hk => ?_)
        refine t_callViE dX6_readBranch_136 M_X6_readExp (C_X6_readExp _ _ _ er5) ML_X6_120 IM_X6_readExp SE_X6_readExp qc_845 rfl (As := [.int (-1)]) rfl rfl (by omega) (Nat.le_of_ble_eq_true rfl) (Nat.le_of_ble_eq_true rfl) (Nat.le_of_ble_eq_true rfl) ?_
        refine t_iastK dX6_readBranch_139 (t_row445 (t_ixn c1)) (by unfold vp_in; decide) (fun s1 ws1 => t_letE hk ws1 (fun hk => ?_))
        refine mj_sublv [(0, .ref 845), (1, .int l1), (3, .int r1.1), (4, .ref (445 + 1 * (r1.1.toNatClampNeg)))] [2, 3, 1, 0] rfl ?_
        exact B_X6_readBranch_140 rc H _ _ _ _ _ hk
    · refine mj_aload_n dX6_readBranch_95 2 rfl ?_
      refine t_getR 1 dX6_readBranch_96 F_X6_28 qr_845_0 ?_
      refine mj_bipush (v := 93) dX6_readBranch_99 (by decide) ?_
      refine t_bndK hk (fun r6 er6 hk => ?_)
      refine t_callVvE dX6_readBranch_101 M_X2_need (C_X2_need _ _ _ er6) ML_X6_184 IM_X2_need SE_X2_need qc_1 rfl (As := [.int 93]) rfl rfl (by omega) (Nat.le_of_ble_eq_true rfl) (Nat.le_of_ble_eq_true rfl) (Nat.le_of_ble_eq_true rfl) ?_
      refine mj_aload dX6_readBranch_104 0 rfl ?_
      refine mj_iconst (v := 3) dX6_readBranch_106 (by decide) ?_
      refine mj_aload_n dX6_readBranch_107 2 rfl ?_
      refine mj_iload_n dX6_readBranch_108 3 rfl ?_
      refine mj_iconst (v := 1) dX6_readBranch_109 (by decide) ?_
      refine mj_iadd dX6_readBranch_110 ?_
      refine mj_iload_n dX6_readBranch_111 1 rfl ?_
      refine t_bndK hk (fun r7 er7 hk => ?_)
      refine t_callViE dX6_readBranch_112 M_X6_readBlock (H.2.1 _ _ _ _ er7) ML_X6_276 IM_X6_readBlock SE_X6_readBlock qc_845 rfl (As := [.int (l1 + (1 : Int32)), .int r1.1]) rfl rfl (by omega) (Nat.le_of_ble_eq_true rfl) (Nat.le_of_ble_eq_true rfl) (Nat.le_of_ble_eq_true rfl) ?_
      refine t_iastK dX6_readBranch_115 (t_row445 (t_ixn c1)) (by unfold vp_in; decide) (fun s2 ws2 => t_letE hk ws2 (fun hk => ?_))
      refine mj_iload_n dX6_readBranch_116 1 rfl ?_
      exact t_somK hk (fun hf => t_iret dX6_readBranch_117 rfl rfl ⟨_, rfl, hf⟩ (Nat.le_of_ble_eq_true rfl) (Nat.le_of_ble_eq_true rfl))
  · refine mj_iconst (v := (-1)) dX6_readBranch_51 (by decide) ?_
    exact t_somK hk (fun hf => t_iret dX6_readBranch_52 rfl rfl ⟨_, rfl, hf⟩ (Nat.le_of_ble_eq_true rfl) (Nat.le_of_ble_eq_true rfl))
noncomputable def k_X6_readBranch_20 (rc : RT_X6_readAlts) (l1 : Int32) (l2 : Int32) (s : t_S) : Option (Int32 × t_S) :=
 if (s.1 428 18) < (400 : Int32) then (k_X6_readBranch_41 rc l1 l2 s)
 else ((f_X2_fail (5 : Int32) s).bind (fun r1 =>
 k_X6_readBranch_41 rc l1 l2 r1))
set_option maxRecDepth 4000 in
set_option maxHeartbeats 1000000 in
theorem B_X6_readBranch_20 {D : va_G} {cy : Nat → ClassId} {ad : Nat → Nat} {bs : Nat} {X : State → Heap → Prop} (rc : RT_X6_readAlts) {k : Nat} (H : RH_X6_readAlts rc k) (l1 : Int32) (l2 : Int32) (s : t_S) (Q : Int32 × t_S → Prop) (hk : t_hk (k_X6_readBranch_20 rc l1 l2 s) Q) : mj_G D cy ad bs X cX6_readBranch 5 yX6_readBranch.cls (some .int) yX6_readBranch.name (256 + (k + 1)) 0 0 1065 (t_P (fun v s' => ∃ x, v = some (.int x) ∧ Q ((x, s')))) 20 [(0, .ref 845), (1, .int l1), (2, .int l2)] [] (t_m s) 1065 0 0 := by
  refine mj_aload_n dX6_readBranch_20 0 rfl ?_
  refine t_getR 428 dX6_readBranch_21 F_X6_48 qr_845_4 ?_
  refine t_getI dX6_readBranch_24 F_X6_537 qf_428_18 ?_
  refine mj_sipush (v := 400) dX6_readBranch_27 (by decide) ?_
  refine mj_icmp_lt 41 dX6_readBranch_30 (by decide) (fun z => t_posK hk z (fun hk => ?_)) (fun z => t_negK hk z (fun hk => ?_))
  · exact B_X6_readBranch_41 rc H _ _ _ _ hk
  · refine mj_aload_n dX6_readBranch_33 0 rfl ?_
    refine t_getR 1 dX6_readBranch_34 F_X6_28 qr_845_0 ?_
    refine mj_iconst (v := 5) dX6_readBranch_37 (by decide) ?_
    refine t_bndK hk (fun r1 er1 hk => ?_)
    refine t_callVvE dX6_readBranch_38 M_X2_fail (C_X2_fail _ _ _ er1) ML_X6_100 IM_X2_fail SE_X2_fail qc_1 rfl (As := [.int 5]) rfl rfl (by omega) (Nat.le_of_ble_eq_true rfl) (Nat.le_of_ble_eq_true rfl) (Nat.le_of_ble_eq_true rfl) ?_
    exact B_X6_readBranch_41 rc H _ _ _ _ hk
noncomputable def m_X6_readBranch (rc : RT_X6_readAlts) (x1 : Int32) (x2 : Int32) (s : t_S) : Option (Int32 × t_S) :=
 if (s.1 1 8) = (91 : Int32) then (k_X6_readBranch_20 rc x1 x2 s)
 else ((f_X2_fail (2 : Int32) s).bind (fun r1 =>
 k_X6_readBranch_20 rc x1 x2 r1))
set_option maxRecDepth 4000 in
set_option maxHeartbeats 1000000 in
theorem E_X6_readBranch (rc : RT_X6_readAlts) {k : Nat} (H : RH_X6_readAlts rc k) (x1 : Int32) (x2 : Int32) (s : t_S) (r : Int32 × t_S) (hr : m_X6_readBranch rc x1 x2 s = some r) : t_C yX6_readBranch cX6_readBranch 5 (some .int) (256 + (k + 1)) [.ref 845, .int x1, .int x2] s (fun v s' => v = some (.int r.1) ∧ s' = r.2) := by
  refine t_C.imp (P := fun v s' => ∃ x, v = some (.int x) ∧ (fun q => q = r) ((x, s'))) (t_C.of (by decide +kernel) (Nat.le_of_ble_eq_true rfl) ?_) (fun v s' hp => by obtain ⟨x, rfl, rfl⟩ := hp; exact ⟨rfl, rfl⟩)
  intro D cy ad bs X
  have hk : t_hk (m_X6_readBranch rc x1 x2 s) (fun q => q = r) := ⟨r, hr, rfl⟩
  show mj_G D cy ad bs X cX6_readBranch 5 yX6_readBranch.cls (some .int) yX6_readBranch.name (256 + (k + 1)) 0 0 1065 (t_P (fun v s' => ∃ x, v = some (.int x) ∧ (fun q => q = r) ((x, s')))) 0 [(0, .ref 845), (1, .int x1), (2, .int x2)] [] (t_m s) 1065 0 0
  refine mj_aload_n dX6_readBranch_0 0 rfl ?_
  refine t_getR 1 dX6_readBranch_1 F_X6_28 qr_845_0 ?_
  refine t_getI dX6_readBranch_4 F_X6_85 qf_1_8 ?_
  refine mj_bipush (v := 91) dX6_readBranch_7 (by decide) ?_
  refine mj_icmp_eq 20 dX6_readBranch_9 (by decide) (fun z => t_posK hk z (fun hk => ?_)) (fun z => t_negK hk z (fun hk => ?_))
  · exact B_X6_readBranch_20 rc H _ _ _ _ hk
  · refine mj_aload_n dX6_readBranch_12 0 rfl ?_
    refine t_getR 1 dX6_readBranch_13 F_X6_28 qr_845_0 ?_
    refine mj_iconst (v := 2) dX6_readBranch_16 (by decide) ?_
    refine t_bndK hk (fun r1 er1 hk => ?_)
    refine t_callVvE dX6_readBranch_17 M_X2_fail (C_X2_fail _ _ _ er1) ML_X6_100 IM_X2_fail SE_X2_fail qc_1 rfl (As := [.int 2]) rfl rfl (by omega) (Nat.le_of_ble_eq_true rfl) (Nat.le_of_ble_eq_true rfl) (Nat.le_of_ble_eq_true rfl) ?_
    exact B_X6_readBranch_20 rc H _ _ _ _ hk
noncomputable def k_X6_readStatement_315 (rc : RT_X6_readAlts) (l4 : Int32) (s : t_S) : Option (Int32 × t_S) :=
 (f_X2_need (59 : Int32) s).bind (fun r1 =>
 some (l4, r1))
set_option maxRecDepth 4000 in
set_option maxHeartbeats 1000000 in
theorem B_X6_readStatement_315 {D : va_G} {cy : Nat → ClassId} {ad : Nat → Nat} {bs : Nat} {X : State → Heap → Prop} (rc : RT_X6_readAlts) {k : Nat} (H : RH_X6_readAlts rc k) (l4 : Int32) (s : t_S) (Q : Int32 × t_S → Prop) (hk : t_hk (k_X6_readStatement_315 rc l4 s) Q) : mj_G D cy ad bs X cX6_readStatement 6 yX6_readStatement.cls (some .int) yX6_readStatement.name (256 + (k + 1)) 0 0 1065 (t_P (fun v s' => ∃ x, v = some (.int x) ∧ Q ((x, s')))) 315 [(0, .ref 845), (4, .int l4)] [] (t_m s) 1065 0 0 := by
  refine mj_aload_n dX6_readStatement_315 0 rfl ?_
  refine t_getR 1 dX6_readStatement_316 F_X6_28 qr_845_0 ?_
  refine mj_bipush (v := 59) dX6_readStatement_319 (by decide) ?_
  refine t_bndK hk (fun r1 er1 hk => ?_)
  refine t_callVvE dX6_readStatement_321 M_X2_need (C_X2_need _ _ _ er1) ML_X6_184 IM_X2_need SE_X2_need qc_1 rfl (As := [.int 59]) rfl rfl (by omega) (Nat.le_of_ble_eq_true rfl) (Nat.le_of_ble_eq_true rfl) (Nat.le_of_ble_eq_true rfl) ?_
  refine mj_iload dX6_readStatement_324 1 rfl ?_
  exact t_somK hk (fun hf => t_iret dX6_readStatement_326 rfl rfl ⟨_, rfl, hf⟩ (Nat.le_of_ble_eq_true rfl) (Nat.le_of_ble_eq_true rfl))
noncomputable def k_X6_readStatement_98 (rc : RT_X6_readAlts) (l1 : Int32) (l3 : Int32) (l4 : Int32) (l5 : Nat) (s : t_S) : Option (Int32 × t_S) :=
 if l3.toInt < 2 ∨ 20 < l3.toInt then ((f_X6_readPlain l4 l3 s).bind (fun r1 =>
 k_X6_readStatement_315 rc l4 r1))
 else if l3.toInt = 2 then ((f_X6_readAssignment l4 s).bind (fun r2 =>
 some (l4, r2)))
 else if l3.toInt = 3 then ((f_X6_readExp (-1 : Int32) s).bind (fun r3 =>
 if t_oka l5 1 (t_ln l5) = true then
  if t_ix (5 : Int32) (t_ln l5) = true then
  t_let (t_setI r3.2 l5 ((5 : Int32).toNatClampNeg) r3.1) (fun s1 =>
 (rc.2.1 (l1 + (1 : Int32)) l4 s1).bind (fun r6 =>
 if t_ix (3 : Int32) (t_ln l5) = true then
  t_let (t_setI r6.2 l5 ((3 : Int32).toNatClampNeg) r6.1) (fun s2 =>
 (f_X2_take (238 : Int32) s2).bind (fun r8 =>
 if r8.1 = (0 : Int32) then (some (l4, r8.2))
 else ((rc.2.1 (l1 + (1 : Int32)) l4 r8.2).bind (fun r9 =>
 if t_ix (4 : Int32) (t_ln l5) = true then
  t_let (t_setI r9.2 l5 ((4 : Int32).toNatClampNeg) r9.1) (fun s3 =>
 some (l4, s3))
else none))))
else none))
else none
else none))
 else if l3.toInt = 4 then ((f_X6_readExp (-1 : Int32) s).bind (fun r11 =>
 if t_oka l5 1 (t_ln l5) = true then
  if t_ix (5 : Int32) (t_ln l5) = true then
  t_let (t_setI r11.2 l5 ((5 : Int32).toNatClampNeg) r11.1) (fun s4 =>
 (rc.2.1 (l1 + (1 : Int32)) l4 s4).bind (fun r14 =>
 if t_ix (3 : Int32) (t_ln l5) = true then
  t_let (t_setI r14.2 l5 ((3 : Int32).toNatClampNeg) r14.1) (fun s5 =>
 some (l4, s5))
else none))
else none
else none))
 else if l3.toInt = 5 then ((f_X6_readPlain l4 l3 s).bind (fun r16 =>
 k_X6_readStatement_315 rc l4 r16))
 else if l3.toInt = 6 then ((f_X6_readPlain l4 l3 s).bind (fun r17 =>
 k_X6_readStatement_315 rc l4 r17))
 else if l3.toInt = 7 then ((f_X6_readPlain l4 l3 s).bind (fun r18 =>
 k_X6_readStatement_315 rc l4 r18))
 else if l3.toInt = 8 then ((f_X6_readPlain l4 l3 s).bind (fun r19 =>
 k_X6_readStatement_315 rc l4 r19))
 else if l3.toInt = 9 then ((f_X6_readPlain l4 l3 s).bind (fun r20 =>
 k_X6_readStatement_315 rc l4 r20))
 else if l3.toInt = 10 then ((rc.1 (l1 + (1 : Int32)) l4 s).bind (fun r21 =>
 if t_oka l5 1 (t_ln l5) = true then
  if t_ix (3 : Int32) (t_ln l5) = true then
  t_let (t_setI r21.2 l5 ((3 : Int32).toNatClampNeg) r21.1) (fun s6 =>
 some (l4, s6))
else none
else none))
 else if l3.toInt = 11 then ((f_X6_readEvent l4 s).bind (fun r24 =>
 k_X6_readStatement_315 rc l4 r24))
 else if l3.toInt = 12 then ((f_X6_readEvent l4 s).bind (fun r25 =>
 k_X6_readStatement_315 rc l4 r25))
 else if l3.toInt = 13 then ((f_X6_readEvent l4 s).bind (fun r26 =>
 k_X6_readStatement_315 rc l4 r26))
 else if l3.toInt = 14 then ((f_X6_readPlain l4 l3 s).bind (fun r27 =>
 k_X6_readStatement_315 rc l4 r27))
 else if l3.toInt = 15 then ((f_X6_readPlain l4 l3 s).bind (fun r28 =>
 k_X6_readStatement_315 rc l4 r28))
 else if l3.toInt = 16 then ((f_X6_readOfComponents l4 l3 s).bind (fun r29 =>
 k_X6_readStatement_315 rc l4 r29))
 else if l3.toInt = 17 then ((f_X6_readOfComponents l4 l3 s).bind (fun r30 =>
 k_X6_readStatement_315 rc l4 r30))
 else if l3.toInt = 18 then ((f_X6_readOfComponents l4 l3 s).bind (fun r31 =>
 k_X6_readStatement_315 rc l4 r31))
 else if l3.toInt = 19 then ((f_X6_readPlain l4 l3 s).bind (fun r32 =>
 k_X6_readStatement_315 rc l4 r32))
 else ((f_X6_readOfComponents l4 l3 s).bind (fun r33 =>
 k_X6_readStatement_315 rc l4 r33))
set_option maxRecDepth 4000 in
set_option maxHeartbeats 1000000 in
theorem B_X6_readStatement_98 {D : va_G} {cy : Nat → ClassId} {ad : Nat → Nat} {bs : Nat} {X : State → Heap → Prop} (rc : RT_X6_readAlts) {k : Nat} (H : RH_X6_readAlts rc k) (l1 : Int32) (l3 : Int32) (l4 : Int32) (l5 : Nat) (s : t_S) (Q : Int32 × t_S → Prop) (hk : t_hk (k_X6_readStatement_98 rc l1 l3 l4 l5 s) Q) : mj_G D cy ad bs X cX6_readStatement 6 yX6_readStatement.cls (some .int) yX6_readStatement.name (256 + (k + 1)) 0 0 1065 (t_P (fun v s' => ∃ x, v = some (.int x) ∧ Q ((x, s')))) 98 [(0, .ref 845), (1, .int l1), (3, .int l3), (4, .int l4), (5, .ref l5)] [] (t_m s) 1065 0 0 := by
  refine mj_iload_n dX6_readStatement_98 2 rfl ?_
  by_cases hout : l3.toInt < 2 ∨ 20 < l3.toInt
  · replace hk := t_pos hk hout
    refine mj_tableOut 308 dX6_readStatement_99 hout (by decide) ?_
    refine mj_aload_n dX6_readStatement_308 0 rfl ?_
    refine mj_iload dX6_readStatement_309 3 rfl ?_
    refine mj_iload_n dX6_readStatement_311 2 rfl ?_
    refine t_bndK hk (fun r1 er1 hk => ?_)
    refine t_callVvE dX6_readStatement_312 M_X6_readPlain (C_X6_readPlain _ _ _ _ er1) ML_X6_555 IM_X6_readPlain SE_X6_readPlain qc_845 rfl (As := [.int l4, .int l3]) rfl rfl (by omega) (Nat.le_of_ble_eq_true rfl) (Nat.le_of_ble_eq_true rfl) (Nat.le_of_ble_eq_true rfl) ?_
    refine mj_sublv [(0, .ref 845), (4, .int l4)] [0, 3] rfl ?_
    exact B_X6_readStatement_315 rc H _ _ _ hk
  · replace hk := t_neg hk hout
    have hh1 : ¬ l3.toInt < 2 := fun z => hout (Or.inl z)
    have hh2 : ¬ (20 : Int) < l3.toInt := fun z => hout (Or.inr z)
    by_cases h0 : l3.toInt = 2
    · replace hk := t_pos hk h0
      refine mj_tableIn 188 dX6_readStatement_99 hh1 hh2 (by rw [h0]; rfl) (by decide) ?_
      refine mj_aload_n dX6_readStatement_188 0 rfl ?_
      refine mj_iload dX6_readStatement_189 3 rfl ?_
      refine t_bndK hk (fun r2 er2 hk => ?_)
      refine t_callVvE dX6_readStatement_191 M_X6_readAssignment (C_X6_readAssignment _ _ _ er2) ML_X6_546 IM_X6_readAssignment SE_X6_readAssignment qc_845 rfl (As := [.int l4]) rfl rfl (by omega) (Nat.le_of_ble_eq_true rfl) (Nat.le_of_ble_eq_true rfl) (Nat.le_of_ble_eq_true rfl) ?_
      refine mj_iload dX6_readStatement_194 3 rfl ?_
      exact t_somK hk (fun hf => t_iret dX6_readStatement_196 rfl rfl ⟨_, rfl, hf⟩ (Nat.le_of_ble_eq_true rfl) (Nat.le_of_ble_eq_true rfl))
    replace hk := t_neg hk h0
    by_cases h1 : l3.toInt = 3
    · replace hk := t_pos hk h1
      refine mj_tableIn 197 dX6_readStatement_99 hh1 hh2 (by rw [h1]; rfl) (by decide) ?_
      refine mj_aload dX6_readStatement_197 4 rfl ?_
      refine mj_iconst (v := 5) dX6_readStatement_199 (by decide) ?_
      refine mj_aload_n dX6_readStatement_200 0 rfl ?_
      refine mj_iconst (v := (-1)) dX6_readStatement_201 (by decide) ?_
      refine t_bndK hk (fun r3 er3 hk => ?_)
      refine t_callViE dX6_readStatement_202 M_X6_readExp (C_X6_readExp _ _ _ er3) ML_X6_120 IM_X6_readExp SE_X6_readExp qc_845 rfl (As := [.int (-1)]) rfl rfl (by omega) (Nat.le_of_ble_eq_true rfl) (Nat.le_of_ble_eq_true rfl) (Nat.le_of_ble_eq_true rfl) ?_
      refine t_chkK hk (fun c3 hk => ?_)
      refine t_chkK hk (fun c4 hk => ?_)
      refine t_iastK dX6_readStatement_205 c3 (t_ixv c4) (fun s1 ws1 => t_letE hk ws1 (fun hk => ?_))
      refine mj_aload dX6_readStatement_206 4 rfl ?_
      refine mj_iconst (v := 3) dX6_readStatement_208 (by decide) ?_
      refine mj_aload_n dX6_readStatement_209 0 rfl ?_
      refine mj_iload_n dX6_readStatement_210 1 rfl ?_
      refine mj_iconst (v := 1) dX6_readStatement_211 (by decide) ?_
      refine mj_iadd dX6_readStatement_212 ?_
      refine mj_iload dX6_readStatement_213 3 rfl ?_
      refine t_bndK hk (fun r6 er6 hk => ?_)
      refine t_callViE dX6_readStatement_215 M_X6_readBlock (H.2.1 _ _ _ _ er6) ML_X6_276 IM_X6_readBlock SE_X6_readBlock qc_845 rfl (As := [.int (l1 + (1 : Int32)), .int l4]) rfl rfl (by omega) (Nat.le_of_ble_eq_true rfl) (Nat.le_of_ble_eq_true rfl) (Nat.le_of_ble_eq_true rfl) ?_
      refine t_chkK hk (fun c6 hk => ?_)
      refine t_iastK dX6_readStatement_218 c3 (t_ixv c6) (fun s2 ws2 => t_letE hk ws2 (fun hk => ?_))
      refine mj_aload_n dX6_readStatement_219 0 rfl ?_
      refine t_getR 1 dX6_readStatement_220 F_X6_28 qr_845_0 ?_
      refine mj_sipush (v := 238) dX6_readStatement_223 (by decide) ?_
      refine t_bndK hk (fun r8 er8 hk => ?_)
      refine t_callViE dX6_readStatement_226 M_X2_take (C_X2_take _ _ _ er8) ML_X6_246 IM_X2_take SE_X2_take qc_1 rfl (As := [.int 238]) rfl rfl (by omega) (Nat.le_of_ble_eq_true rfl) (Nat.le_of_ble_eq_true rfl) (Nat.le_of_ble_eq_true rfl) ?_
      refine mj_if_eq 245 dX6_readStatement_229 (by decide) (fun z => t_posK hk z (fun hk => ?_)) (fun z => t_negK hk z (fun hk => ?_))
      · refine mj_iload dX6_readStatement_245 3 rfl ?_
        exact t_somK hk (fun hf => t_iret dX6_readStatement_247 rfl rfl ⟨_, rfl, hf⟩ (Nat.le_of_ble_eq_true rfl) (Nat.le_of_ble_eq_true rfl))
      · refine mj_aload dX6_readStatement_232 4 rfl ?_
        refine mj_iconst (v := 4) dX6_readStatement_234 (by decide) ?_
        refine mj_aload_n dX6_readStatement_235 0 rfl ?_
        refine mj_iload_n dX6_readStatement_236 1 rfl ?_
        refine mj_iconst (v := 1) dX6_readStatement_237 (by decide) ?_
        refine mj_iadd dX6_readStatement_238 ?_
        refine mj_iload dX6_readStatement_239 3 rfl ?_
        refine t_bndK hk (fun r9 er9 hk => ?_)
        refine t_callViE dX6_readStatement_241 M_X6_readBlock (H.2.1 _ _ _ _ er9) ML_X6_276 IM_X6_readBlock SE_X6_readBlock qc_845 rfl (As := [.int (l1 + (1 : Int32)), .int l4]) rfl rfl (by omega) (Nat.le_of_ble_eq_true rfl) (Nat.le_of_ble_eq_true rfl) (Nat.le_of_ble_eq_true rfl) ?_
        refine t_chkK hk (fun c9 hk => ?_)
        refine t_iastK dX6_readStatement_244 c3 (t_ixv c9) (fun s3 ws3 => t_letE hk ws3 (fun hk => ?_))
        refine mj_iload dX6_readStatement_245 3 rfl ?_
        exact t_somK hk (fun hf => t_iret dX6_readStatement_247 rfl rfl ⟨_, rfl, hf⟩ (Nat.le_of_ble_eq_true rfl) (Nat.le_of_ble_eq_true rfl))
    replace hk := t_neg hk h1
    by_cases h2 : l3.toInt = 4
    · replace hk := t_pos hk h2
      refine mj_tableIn 248 dX6_readStatement_99 hh1 hh2 (by rw [h2]; rfl) (by decide) ?_
      refine mj_aload dX6_readStatement_248 4 rfl ?_
      refine mj_iconst (v := 5) dX6_readStatement_250 (by decide) ?_
      refine mj_aload_n dX6_readStatement_251 0 rfl ?_
      refine mj_iconst (v := (-1)) dX6_readStatement_252 (by decide) ?_
      refine t_bndK hk (fun r11 er11 hk => ?_)
      refine t_callViE dX6_readStatement_253 M_X6_readExp (C_X6_readExp _ _ _ er11) ML_X6_120 IM_X6_readExp SE_X6_readExp qc_845 rfl (As := [.int (-1)]) rfl rfl (by omega) (Nat.le_of_ble_eq_true rfl) (Nat.le_of_ble_eq_true rfl) (Nat.le_of_ble_eq_true rfl) ?_
      refine t_chkK hk (fun c11 hk => ?_)
      refine t_chkK hk (fun c12 hk => ?_)
      refine t_iastK dX6_readStatement_256 c11 (t_ixv c12) (fun s4 ws4 => t_letE hk ws4 (fun hk => ?_))
      refine mj_aload dX6_readStatement_257 4 rfl ?_
      refine mj_iconst (v := 3) dX6_readStatement_259 (by decide) ?_
      refine mj_aload_n dX6_readStatement_260 0 rfl ?_
      refine mj_iload_n dX6_readStatement_261 1 rfl ?_
      refine mj_iconst (v := 1) dX6_readStatement_262 (by decide) ?_
      refine mj_iadd dX6_readStatement_263 ?_
      refine mj_iload dX6_readStatement_264 3 rfl ?_
      refine t_bndK hk (fun r14 er14 hk => ?_)
      refine t_callViE dX6_readStatement_266 M_X6_readBlock (H.2.1 _ _ _ _ er14) ML_X6_276 IM_X6_readBlock SE_X6_readBlock qc_845 rfl (As := [.int (l1 + (1 : Int32)), .int l4]) rfl rfl (by omega) (Nat.le_of_ble_eq_true rfl) (Nat.le_of_ble_eq_true rfl) (Nat.le_of_ble_eq_true rfl) ?_
      refine t_chkK hk (fun c14 hk => ?_)
      refine t_iastK dX6_readStatement_269 c11 (t_ixv c14) (fun s5 ws5 => t_letE hk ws5 (fun hk => ?_))
      refine mj_iload dX6_readStatement_270 3 rfl ?_
      exact t_somK hk (fun hf => t_iret dX6_readStatement_272 rfl rfl ⟨_, rfl, hf⟩ (Nat.le_of_ble_eq_true rfl) (Nat.le_of_ble_eq_true rfl))
    replace hk := t_neg hk h2
    by_cases h3 : l3.toInt = 5
    · replace hk := t_pos hk h3
      refine mj_tableIn 308 dX6_readStatement_99 hh1 hh2 (by rw [h3]; rfl) (by decide) ?_
      refine mj_aload_n dX6_readStatement_308 0 rfl ?_
      refine mj_iload dX6_readStatement_309 3 rfl ?_
      refine mj_iload_n dX6_readStatement_311 2 rfl ?_
      refine t_bndK hk (fun r16 er16 hk => ?_)
      refine t_callVvE dX6_readStatement_312 M_X6_readPlain (C_X6_readPlain _ _ _ _ er16) ML_X6_555 IM_X6_readPlain SE_X6_readPlain qc_845 rfl (As := [.int l4, .int l3]) rfl rfl (by omega) (Nat.le_of_ble_eq_true rfl) (Nat.le_of_ble_eq_true rfl) (Nat.le_of_ble_eq_true rfl) ?_
      refine mj_sublv [(0, .ref 845), (4, .int l4)] [0, 3] rfl ?_
      exact B_X6_readStatement_315 rc H _ _ _ hk
    replace hk := t_neg hk h3
    by_cases h4 : l3.toInt = 6
    · replace hk := t_pos hk h4
      refine mj_tableIn 308 dX6_readStatement_99 hh1 hh2 (by rw [h4]; rfl) (by decide) ?_
      refine mj_aload_n dX6_readStatement_308 0 rfl ?_
      refine mj_iload dX6_readStatement_309 3 rfl ?_
      refine mj_iload_n dX6_readStatement_311 2 rfl ?_
      refine t_bndK hk (fun r17 er17 hk => ?_)
      refine t_callVvE dX6_readStatement_312 M_X6_readPlain (C_X6_readPlain _ _ _ _ er17) ML_X6_555 IM_X6_readPlain SE_X6_readPlain qc_845 rfl (As := [.int l4, .int l3]) rfl rfl (by omega) (Nat.le_of_ble_eq_true rfl) (Nat.le_of_ble_eq_true rfl) (Nat.le_of_ble_eq_true rfl) ?_
      refine mj_sublv [(0, .ref 845), (4, .int l4)] [0, 3] rfl ?_
      exact B_X6_readStatement_315 rc H _ _ _ hk
    replace hk := t_neg hk h4
    by_cases h5 : l3.toInt = 7
    · replace hk := t_pos hk h5
      refine mj_tableIn 308 dX6_readStatement_99 hh1 hh2 (by rw [h5]; rfl) (by decide) ?_
      refine mj_aload_n dX6_readStatement_308 0 rfl ?_
      refine mj_iload dX6_readStatement_309 3 rfl ?_
      refine mj_iload_n dX6_readStatement_311 2 rfl ?_
      refine t_bndK hk (fun r18 er18 hk => ?_)
      refine t_callVvE dX6_readStatement_312 M_X6_readPlain (C_X6_readPlain _ _ _ _ er18) ML_X6_555 IM_X6_readPlain SE_X6_readPlain qc_845 rfl (As := [.int l4, .int l3]) rfl rfl (by omega) (Nat.le_of_ble_eq_true rfl) (Nat.le_of_ble_eq_true rfl) (Nat.le_of_ble_eq_true rfl) ?_
      refine mj_sublv [(0, .ref 845), (4, .int l4)] [0, 3] rfl ?_
      exact B_X6_readStatement_315 rc H _ _ _ hk
    replace hk := t_neg hk h5
    by_cases h6 : l3.toInt = 8
    · replace hk := t_pos hk h6
      refine mj_tableIn 308 dX6_readStatement_99 hh1 hh2 (by rw [h6]; rfl) (by decide) ?_
      refine mj_aload_n dX6_readStatement_308 0 rfl ?_
      refine mj_iload dX6_readStatement_309 3 rfl ?_
      refine mj_iload_n dX6_readStatement_311 2 rfl ?_
      refine t_bndK hk (fun r19 er19 hk => ?_)
      refine t_callVvE dX6_readStatement_312 M_X6_readPlain (C_X6_readPlain _ _ _ _ er19) ML_X6_555 IM_X6_readPlain SE_X6_readPlain qc_845 rfl (As := [.int l4, .int l3]) rfl rfl (by omega) (Nat.le_of_ble_eq_true rfl) (Nat.le_of_ble_eq_true rfl) (Nat.le_of_ble_eq_true rfl) ?_
      refine mj_sublv [(0, .ref 845), (4, .int l4)] [0, 3] rfl ?_
      exact B_X6_readStatement_315 rc H _ _ _ hk
    replace hk := t_neg hk h6
    by_cases h7 : l3.toInt = 9
    · replace hk := t_pos hk h7
      refine mj_tableIn 308 dX6_readStatement_99 hh1 hh2 (by rw [h7]; rfl) (by decide) ?_
      refine mj_aload_n dX6_readStatement_308 0 rfl ?_
      refine mj_iload dX6_readStatement_309 3 rfl ?_
      refine mj_iload_n dX6_readStatement_311 2 rfl ?_
      refine t_bndK hk (fun r20 er20 hk => ?_)
      refine t_callVvE dX6_readStatement_312 M_X6_readPlain (C_X6_readPlain _ _ _ _ er20) ML_X6_555 IM_X6_readPlain SE_X6_readPlain qc_845 rfl (As := [.int l4, .int l3]) rfl rfl (by omega) (Nat.le_of_ble_eq_true rfl) (Nat.le_of_ble_eq_true rfl) (Nat.le_of_ble_eq_true rfl) ?_
      refine mj_sublv [(0, .ref 845), (4, .int l4)] [0, 3] rfl ?_
      exact B_X6_readStatement_315 rc H _ _ _ hk
    replace hk := t_neg hk h7
    by_cases h8 : l3.toInt = 10
    · replace hk := t_pos hk h8
      refine mj_tableIn 273 dX6_readStatement_99 hh1 hh2 (by rw [h8]; rfl) (by decide) ?_
      refine mj_aload dX6_readStatement_273 4 rfl ?_
      refine mj_iconst (v := 3) dX6_readStatement_275 (by decide) ?_
      refine mj_aload_n dX6_readStatement_276 0 rfl ?_
      refine mj_iload_n dX6_readStatement_277 1 rfl ?_
      refine mj_iconst (v := 1) dX6_readStatement_278 (by decide) ?_
      refine mj_iadd dX6_readStatement_279 ?_
      refine mj_iload dX6_readStatement_280 3 rfl ?_
      refine t_bndK hk (fun r21 er21 hk => ?_)
      refine t_callViE dX6_readStatement_282 M_X6_readAlts (H.1 _ _ _ _ er21) ML_X6_273 IM_X6_readAlts SE_X6_readAlts qc_845 rfl (As := [.int (l1 + (1 : Int32)), .int l4]) rfl rfl (by omega) (Nat.le_of_ble_eq_true rfl) (Nat.le_of_ble_eq_true rfl) (Nat.le_of_ble_eq_true rfl) ?_
      refine t_chkK hk (fun c21 hk => ?_)
      refine t_chkK hk (fun c22 hk => ?_)
      refine t_iastK dX6_readStatement_285 c21 (t_ixv c22) (fun s6 ws6 => t_letE hk ws6 (fun hk => ?_))
      refine mj_iload dX6_readStatement_286 3 rfl ?_
      exact t_somK hk (fun hf => t_iret dX6_readStatement_288 rfl rfl ⟨_, rfl, hf⟩ (Nat.le_of_ble_eq_true rfl) (Nat.le_of_ble_eq_true rfl))
    replace hk := t_neg hk h8
    by_cases h9 : l3.toInt = 11
    · replace hk := t_pos hk h9
      refine mj_tableIn 289 dX6_readStatement_99 hh1 hh2 (by rw [h9]; rfl) (by decide) ?_
      refine mj_aload_n dX6_readStatement_289 0 rfl ?_
      refine mj_iload dX6_readStatement_290 3 rfl ?_
      refine t_bndK hk (fun r24 er24 hk => ?_)
      refine t_callVvE dX6_readStatement_292 M_X6_readEvent (C_X6_readEvent _ _ _ er24) ML_X6_549 IM_X6_readEvent SE_X6_readEvent qc_845 rfl (As := [.int l4]) rfl rfl (by omega) (Nat.le_of_ble_eq_true rfl) (Nat.le_of_ble_eq_true rfl) (Nat.le_of_ble_eq_true rfl) ?_
      refine mj_goto 315 dX6_readStatement_295 (by decide) ?_
      refine mj_sublv [(0, .ref 845), (4, .int l4)] [0, 3] rfl ?_
      exact B_X6_readStatement_315 rc H _ _ _ hk
    replace hk := t_neg hk h9
    by_cases h10 : l3.toInt = 12
    · replace hk := t_pos hk h10
      refine mj_tableIn 289 dX6_readStatement_99 hh1 hh2 (by rw [h10]; rfl) (by decide) ?_
      refine mj_aload_n dX6_readStatement_289 0 rfl ?_
      refine mj_iload dX6_readStatement_290 3 rfl ?_
      refine t_bndK hk (fun r25 er25 hk => ?_)
      refine t_callVvE dX6_readStatement_292 M_X6_readEvent (C_X6_readEvent _ _ _ er25) ML_X6_549 IM_X6_readEvent SE_X6_readEvent qc_845 rfl (As := [.int l4]) rfl rfl (by omega) (Nat.le_of_ble_eq_true rfl) (Nat.le_of_ble_eq_true rfl) (Nat.le_of_ble_eq_true rfl) ?_
      refine mj_goto 315 dX6_readStatement_295 (by decide) ?_
      refine mj_sublv [(0, .ref 845), (4, .int l4)] [0, 3] rfl ?_
      exact B_X6_readStatement_315 rc H _ _ _ hk
    replace hk := t_neg hk h10
    by_cases h11 : l3.toInt = 13
    · replace hk := t_pos hk h11
      refine mj_tableIn 289 dX6_readStatement_99 hh1 hh2 (by rw [h11]; rfl) (by decide) ?_
      refine mj_aload_n dX6_readStatement_289 0 rfl ?_
      refine mj_iload dX6_readStatement_290 3 rfl ?_
      refine t_bndK hk (fun r26 er26 hk => ?_)
      refine t_callVvE dX6_readStatement_292 M_X6_readEvent (C_X6_readEvent _ _ _ er26) ML_X6_549 IM_X6_readEvent SE_X6_readEvent qc_845 rfl (As := [.int l4]) rfl rfl (by omega) (Nat.le_of_ble_eq_true rfl) (Nat.le_of_ble_eq_true rfl) (Nat.le_of_ble_eq_true rfl) ?_
      refine mj_goto 315 dX6_readStatement_295 (by decide) ?_
      refine mj_sublv [(0, .ref 845), (4, .int l4)] [0, 3] rfl ?_
      exact B_X6_readStatement_315 rc H _ _ _ hk
    replace hk := t_neg hk h11
    by_cases h12 : l3.toInt = 14
    · replace hk := t_pos hk h12
      refine mj_tableIn 308 dX6_readStatement_99 hh1 hh2 (by rw [h12]; rfl) (by decide) ?_
      refine mj_aload_n dX6_readStatement_308 0 rfl ?_
      refine mj_iload dX6_readStatement_309 3 rfl ?_
      refine mj_iload_n dX6_readStatement_311 2 rfl ?_
      refine t_bndK hk (fun r27 er27 hk => ?_)
      refine t_callVvE dX6_readStatement_312 M_X6_readPlain (C_X6_readPlain _ _ _ _ er27) ML_X6_555 IM_X6_readPlain SE_X6_readPlain qc_845 rfl (As := [.int l4, .int l3]) rfl rfl (by omega) (Nat.le_of_ble_eq_true rfl) (Nat.le_of_ble_eq_true rfl) (Nat.le_of_ble_eq_true rfl) ?_
      refine mj_sublv [(0, .ref 845), (4, .int l4)] [0, 3] rfl ?_
      exact B_X6_readStatement_315 rc H _ _ _ hk
    replace hk := t_neg hk h12
    by_cases h13 : l3.toInt = 15
    · replace hk := t_pos hk h13
      refine mj_tableIn 308 dX6_readStatement_99 hh1 hh2 (by rw [h13]; rfl) (by decide) ?_
      refine mj_aload_n dX6_readStatement_308 0 rfl ?_
      refine mj_iload dX6_readStatement_309 3 rfl ?_
      refine mj_iload_n dX6_readStatement_311 2 rfl ?_
      refine t_bndK hk (fun r28 er28 hk => ?_)
      refine t_callVvE dX6_readStatement_312 M_X6_readPlain (C_X6_readPlain _ _ _ _ er28) ML_X6_555 IM_X6_readPlain SE_X6_readPlain qc_845 rfl (As := [.int l4, .int l3]) rfl rfl (by omega) (Nat.le_of_ble_eq_true rfl) (Nat.le_of_ble_eq_true rfl) (Nat.le_of_ble_eq_true rfl) ?_
      refine mj_sublv [(0, .ref 845), (4, .int l4)] [0, 3] rfl ?_
      exact B_X6_readStatement_315 rc H _ _ _ hk
    replace hk := t_neg hk h13
    by_cases h14 : l3.toInt = 16
    · replace hk := t_pos hk h14
      refine mj_tableIn 298 dX6_readStatement_99 hh1 hh2 (by rw [h14]; rfl) (by decide) ?_
      refine mj_aload_n dX6_readStatement_298 0 rfl ?_
      refine mj_iload dX6_readStatement_299 3 rfl ?_
      refine mj_iload_n dX6_readStatement_301 2 rfl ?_
      refine t_bndK hk (fun r29 er29 hk => ?_)
      refine t_callVvE dX6_readStatement_302 M_X6_readOfComponents (C_X6_readOfComponents _ _ _ _ er29) ML_X6_552 IM_X6_readOfComponents SE_X6_readOfComponents qc_845 rfl (As := [.int l4, .int l3]) rfl rfl (by omega) (Nat.le_of_ble_eq_true rfl) (Nat.le_of_ble_eq_true rfl) (Nat.le_of_ble_eq_true rfl) ?_
      refine mj_goto 315 dX6_readStatement_305 (by decide) ?_
      refine mj_sublv [(0, .ref 845), (4, .int l4)] [0, 3] rfl ?_
      exact B_X6_readStatement_315 rc H _ _ _ hk
    replace hk := t_neg hk h14
    by_cases h15 : l3.toInt = 17
    · replace hk := t_pos hk h15
      refine mj_tableIn 298 dX6_readStatement_99 hh1 hh2 (by rw [h15]; rfl) (by decide) ?_
      refine mj_aload_n dX6_readStatement_298 0 rfl ?_
      refine mj_iload dX6_readStatement_299 3 rfl ?_
      refine mj_iload_n dX6_readStatement_301 2 rfl ?_
      refine t_bndK hk (fun r30 er30 hk => ?_)
      refine t_callVvE dX6_readStatement_302 M_X6_readOfComponents (C_X6_readOfComponents _ _ _ _ er30) ML_X6_552 IM_X6_readOfComponents SE_X6_readOfComponents qc_845 rfl (As := [.int l4, .int l3]) rfl rfl (by omega) (Nat.le_of_ble_eq_true rfl) (Nat.le_of_ble_eq_true rfl) (Nat.le_of_ble_eq_true rfl) ?_
      refine mj_goto 315 dX6_readStatement_305 (by decide) ?_
      refine mj_sublv [(0, .ref 845), (4, .int l4)] [0, 3] rfl ?_
      exact B_X6_readStatement_315 rc H _ _ _ hk
    replace hk := t_neg hk h15
    by_cases h16 : l3.toInt = 18
    · replace hk := t_pos hk h16
      refine mj_tableIn 298 dX6_readStatement_99 hh1 hh2 (by rw [h16]; rfl) (by decide) ?_
      refine mj_aload_n dX6_readStatement_298 0 rfl ?_
      refine mj_iload dX6_readStatement_299 3 rfl ?_
      refine mj_iload_n dX6_readStatement_301 2 rfl ?_
      refine t_bndK hk (fun r31 er31 hk => ?_)
      refine t_callVvE dX6_readStatement_302 M_X6_readOfComponents (C_X6_readOfComponents _ _ _ _ er31) ML_X6_552 IM_X6_readOfComponents SE_X6_readOfComponents qc_845 rfl (As := [.int l4, .int l3]) rfl rfl (by omega) (Nat.le_of_ble_eq_true rfl) (Nat.le_of_ble_eq_true rfl) (Nat.le_of_ble_eq_true rfl) ?_
      refine mj_goto 315 dX6_readStatement_305 (by decide) ?_
      refine mj_sublv [(0, .ref 845), (4, .int l4)] [0, 3] rfl ?_
      exact B_X6_readStatement_315 rc H _ _ _ hk
    replace hk := t_neg hk h16
    by_cases h17 : l3.toInt = 19
    · replace hk := t_pos hk h17
      refine mj_tableIn 308 dX6_readStatement_99 hh1 hh2 (by rw [h17]; rfl) (by decide) ?_
      refine mj_aload_n dX6_readStatement_308 0 rfl ?_
      refine mj_iload dX6_readStatement_309 3 rfl ?_
      refine mj_iload_n dX6_readStatement_311 2 rfl ?_
      refine t_bndK hk (fun r32 er32 hk => ?_)
      refine t_callVvE dX6_readStatement_312 M_X6_readPlain (C_X6_readPlain _ _ _ _ er32) ML_X6_555 IM_X6_readPlain SE_X6_readPlain qc_845 rfl (As := [.int l4, .int l3]) rfl rfl (by omega) (Nat.le_of_ble_eq_true rfl) (Nat.le_of_ble_eq_true rfl) (Nat.le_of_ble_eq_true rfl) ?_
      refine mj_sublv [(0, .ref 845), (4, .int l4)] [0, 3] rfl ?_
      exact B_X6_readStatement_315 rc H _ _ _ hk
    replace hk := t_neg hk h17
    have h18 : l3.toInt = 20 := by omega
    refine mj_tableIn 298 dX6_readStatement_99 hh1 hh2 (by rw [h18]; rfl) (by decide) ?_
    refine mj_aload_n dX6_readStatement_298 0 rfl ?_
    refine mj_iload dX6_readStatement_299 3 rfl ?_
    refine mj_iload_n dX6_readStatement_301 2 rfl ?_
    refine t_bndK hk (fun r33 er33 hk => ?_)
    refine t_callVvE dX6_readStatement_302 M_X6_readOfComponents (C_X6_readOfComponents _ _ _ _ er33) ML_X6_552 IM_X6_readOfComponents SE_X6_readOfComponents qc_845 rfl (As := [.int l4, .int l3]) rfl rfl (by omega) (Nat.le_of_ble_eq_true rfl) (Nat.le_of_ble_eq_true rfl) (Nat.le_of_ble_eq_true rfl) ?_
    refine mj_goto 315 dX6_readStatement_305 (by decide) ?_
    refine mj_sublv [(0, .ref 845), (4, .int l4)] [0, 3] rfl ?_
    exact B_X6_readStatement_315 rc H _ _ _ hk
noncomputable def k_X6_readStatement_44 (rc : RT_X6_readAlts) (l1 : Int32) (l2 : Int32) (l3 : Int32) (s : t_S) : Option (Int32 × t_S) :=
 if (s.1 1 11) = (0 : Int32) then ((f_X5_addStep l3 l2 s).bind (fun r1 =>
 if t_ix r1.1 400 = true then
  if l3 = (2 : Int32) then (k_X6_readStatement_98 rc l1 l3 r1.1 (445 + 1 * (r1.1.toNatClampNeg)) r1.2)
 else (if (f_X6_isEvent l3 r1.2) = (0 : Int32) then ((f_X2_advance r1.2).bind (fun r4 =>
 k_X6_readStatement_98 rc l1 l3 r1.1 (445 + 1 * (r1.1.toNatClampNeg)) r4))
 else (k_X6_readStatement_98 rc l1 l3 r1.1 (445 + 1 * (r1.1.toNatClampNeg)) r1.2))
else none))
 else (some ((-1 : Int32), s))
set_option maxRecDepth 4000 in
set_option maxHeartbeats 1000000 in
theorem B_X6_readStatement_44 {D : va_G} {cy : Nat → ClassId} {ad : Nat → Nat} {bs : Nat} {X : State → Heap → Prop} (rc : RT_X6_readAlts) {k : Nat} (H : RH_X6_readAlts rc k) (l1 : Int32) (l2 : Int32) (l3 : Int32) (s : t_S) (Q : Int32 × t_S → Prop) (hk : t_hk (k_X6_readStatement_44 rc l1 l2 l3 s) Q) : mj_G D cy ad bs X cX6_readStatement 6 yX6_readStatement.cls (some .int) yX6_readStatement.name (256 + (k + 1)) 0 0 1065 (t_P (fun v s' => ∃ x, v = some (.int x) ∧ Q ((x, s')))) 44 [(0, .ref 845), (1, .int l1), (2, .int l2), (3, .int l3)] [] (t_m s) 1065 0 0 := by
  refine mj_aload_n dX6_readStatement_44 0 rfl ?_
  refine t_getR 1 dX6_readStatement_45 F_X6_28 qr_845_0 ?_
  refine t_getI dX6_readStatement_48 F_X6_82 qf_1_11 ?_
  refine mj_if_eq 56 dX6_readStatement_51 (by decide) (fun z => t_posK hk z (fun hk => ?_)) (fun z => t_negK hk z (fun hk => ?_))
  · refine mj_aload_n dX6_readStatement_56 0 rfl ?_
    refine t_getR 428 dX6_readStatement_57 F_X6_48 qr_845_4 ?_
    refine mj_iload_n dX6_readStatement_60 3 rfl ?_
    refine mj_iload_n dX6_readStatement_61 2 rfl ?_
    refine t_bndK hk (fun r1 er1 hk => ?_)
    refine t_callViE dX6_readStatement_62 M_X5_addStep (C_X5_addStep _ _ _ _ er1) ML_X6_540 IM_X5_addStep SE_X5_addStep qc_428 rfl (As := [.int l3, .int l2]) rfl rfl (by omega) (Nat.le_of_ble_eq_true rfl) (Nat.le_of_ble_eq_true rfl) (Nat.le_of_ble_eq_true rfl) ?_
    refine mj_istore (lv2 := [(4, .int r1.1), (0, .ref 845), (1, .int l1), (2, .int l2), (3, .int l3)]) dX6_readStatement_65 (by decide) rfl ?_
    refine mj_aload_n dX6_readStatement_67 1 rfl ?_
    refine t_getR 428 dX6_readStatement_68 F_X6_48 qr_845_4 ?_
    refine t_getR 444 dX6_readStatement_71 F_X6_531 qr_428_17 ?_
    refine mj_iload dX6_readStatement_74 0 rfl ?_
    refine t_chkK hk (fun c1 hk => ?_)
    refine t_aaldI dX6_readStatement_76 qq_444 (t_ixv c1) ?_
    refine mj_astore (lv2 := [(5, .ref (445 + 1 * (r1.1.toNatClampNeg))), (4, .int r1.1), (0, .ref 845), (1, .int l1), (2, .int l2), (3, .int l3)]) dX6_readStatement_77 (by decide) rfl ?_
    refine mj_iload_n dX6_readStatement_79 5 rfl ?_
    refine mj_iconst (v := 2) dX6_readStatement_80 (by decide) ?_
    refine mj_icmp_eq 98 dX6_readStatement_81 (by decide) (fun z => t_posK hk z (fun hk => ?_)) (fun z => t_negK hk z (fun hk => ?_))
    · refine mj_sublv [(0, .ref 845), (1, .int l1), (3, .int l3), (4, .int r1.1), (5, .ref (445 + 1 * (r1.1.toNatClampNeg)))] [2, 3, 5, 1, 0] rfl ?_
      exact B_X6_readStatement_98 rc H _ _ _ _ _ _ hk
    · refine mj_iload_n dX6_readStatement_84 5 rfl ?_
      refine t_callSiP dX6_readStatement_85 M_X6_isEvent (C_X6_isEvent _ _) ML_X6_543 SM_X6_isEvent (As := [.int l3]) rfl rfl (by omega) (Nat.le_of_ble_eq_true rfl) (Nat.le_of_ble_eq_true rfl) (Nat.le_of_ble_eq_true rfl) ?_
      refine mj_if_ne 98 dX6_readStatement_88 (by decide) (fun z => t_negK hk z (fun hk => ?_)) (fun z => t_posK hk z (fun hk => ?_))
      · refine mj_sublv [(0, .ref 845), (1, .int l1), (3, .int l3), (4, .int r1.1), (5, .ref (445 + 1 * (r1.1.toNatClampNeg)))] [2, 3, 5, 1, 0] rfl ?_
        exact B_X6_readStatement_98 rc H _ _ _ _ _ _ hk
      · refine mj_aload_n dX6_readStatement_91 2 rfl ?_
        refine t_getR 1 dX6_readStatement_92 F_X6_28 qr_845_0 ?_
        refine t_bndK hk (fun r4 er4 hk => ?_)
        refine t_callVvE dX6_readStatement_95 M_X2_advance (C_X2_advance _ _ er4) ML_X6_170 IM_X2_advance SE_X2_advance qc_1 rfl (As := []) rfl rfl (by omega) (Nat.le_of_ble_eq_true rfl) (Nat.le_of_ble_eq_true rfl) (Nat.le_of_ble_eq_true rfl) ?_
        refine mj_sublv [(0, .ref 845), (1, .int l1), (3, .int l3), (4, .int r1.1), (5, .ref (445 + 1 * (r1.1.toNatClampNeg)))] [2, 3, 5, 1, 0] rfl ?_
        exact B_X6_readStatement_98 rc H _ _ _ _ _ _ hk
  · refine mj_iconst (v := (-1)) dX6_readStatement_54 (by decide) ?_
    exact t_somK hk (fun hf => t_iret dX6_readStatement_55 rfl rfl ⟨_, rfl, hf⟩ (Nat.le_of_ble_eq_true rfl) (Nat.le_of_ble_eq_true rfl))
noncomputable def k_X6_readStatement_23 (rc : RT_X6_readAlts) (l1 : Int32) (l2 : Int32) (l3 : Int32) (s : t_S) : Option (Int32 × t_S) :=
 if (s.1 428 18) < (400 : Int32) then (k_X6_readStatement_44 rc l1 l2 l3 s)
 else ((f_X2_fail (5 : Int32) s).bind (fun r1 =>
 k_X6_readStatement_44 rc l1 l2 l3 r1))
set_option maxRecDepth 4000 in
set_option maxHeartbeats 1000000 in
theorem B_X6_readStatement_23 {D : va_G} {cy : Nat → ClassId} {ad : Nat → Nat} {bs : Nat} {X : State → Heap → Prop} (rc : RT_X6_readAlts) {k : Nat} (H : RH_X6_readAlts rc k) (l1 : Int32) (l2 : Int32) (l3 : Int32) (s : t_S) (Q : Int32 × t_S → Prop) (hk : t_hk (k_X6_readStatement_23 rc l1 l2 l3 s) Q) : mj_G D cy ad bs X cX6_readStatement 6 yX6_readStatement.cls (some .int) yX6_readStatement.name (256 + (k + 1)) 0 0 1065 (t_P (fun v s' => ∃ x, v = some (.int x) ∧ Q ((x, s')))) 23 [(0, .ref 845), (1, .int l1), (2, .int l2), (3, .int l3)] [] (t_m s) 1065 0 0 := by
  refine mj_aload_n dX6_readStatement_23 0 rfl ?_
  refine t_getR 428 dX6_readStatement_24 F_X6_48 qr_845_4 ?_
  refine t_getI dX6_readStatement_27 F_X6_537 qf_428_18 ?_
  refine mj_sipush (v := 400) dX6_readStatement_30 (by decide) ?_
  refine mj_icmp_lt 44 dX6_readStatement_33 (by decide) (fun z => t_posK hk z (fun hk => ?_)) (fun z => t_negK hk z (fun hk => ?_))
  · exact B_X6_readStatement_44 rc H _ _ _ _ _ hk
  · refine mj_aload_n dX6_readStatement_36 0 rfl ?_
    refine t_getR 1 dX6_readStatement_37 F_X6_28 qr_845_0 ?_
    refine mj_iconst (v := 5) dX6_readStatement_40 (by decide) ?_
    refine t_bndK hk (fun r1 er1 hk => ?_)
    refine t_callVvE dX6_readStatement_41 M_X2_fail (C_X2_fail _ _ _ er1) ML_X6_100 IM_X2_fail SE_X2_fail qc_1 rfl (As := [.int 5]) rfl rfl (by omega) (Nat.le_of_ble_eq_true rfl) (Nat.le_of_ble_eq_true rfl) (Nat.le_of_ble_eq_true rfl) ?_
    exact B_X6_readStatement_44 rc H _ _ _ _ _ hk
noncomputable def m_X6_readStatement (rc : RT_X6_readAlts) (x1 : Int32) (x2 : Int32) (s : t_S) : Option (Int32 × t_S) :=
 if (f_X6_sortOf (s.1 1 8) s) = (0 : Int32) then ((f_X2_fail (2 : Int32) s).bind (fun r2 =>
 k_X6_readStatement_23 rc x1 x2 (f_X6_sortOf (s.1 1 8) s) r2))
 else (k_X6_readStatement_23 rc x1 x2 (f_X6_sortOf (s.1 1 8) s) s)
set_option maxRecDepth 4000 in
set_option maxHeartbeats 1000000 in
theorem E_X6_readStatement (rc : RT_X6_readAlts) {k : Nat} (H : RH_X6_readAlts rc k) (x1 : Int32) (x2 : Int32) (s : t_S) (r : Int32 × t_S) (hr : m_X6_readStatement rc x1 x2 s = some r) : t_C yX6_readStatement cX6_readStatement 6 (some .int) (256 + (k + 1)) [.ref 845, .int x1, .int x2] s (fun v s' => v = some (.int r.1) ∧ s' = r.2) := by
  refine t_C.imp (P := fun v s' => ∃ x, v = some (.int x) ∧ (fun q => q = r) ((x, s'))) (t_C.of (by decide +kernel) (Nat.le_of_ble_eq_true rfl) ?_) (fun v s' hp => by obtain ⟨x, rfl, rfl⟩ := hp; exact ⟨rfl, rfl⟩)
  intro D cy ad bs X
  have hk : t_hk (m_X6_readStatement rc x1 x2 s) (fun q => q = r) := ⟨r, hr, rfl⟩
  show mj_G D cy ad bs X cX6_readStatement 6 yX6_readStatement.cls (some .int) yX6_readStatement.name (256 + (k + 1)) 0 0 1065 (t_P (fun v s' => ∃ x, v = some (.int x) ∧ (fun q => q = r) ((x, s')))) 0 [(0, .ref 845), (1, .int x1), (2, .int x2)] [] (t_m s) 1065 0 0
  refine mj_aload_n dX6_readStatement_0 0 rfl ?_
  refine t_getR 1 dX6_readStatement_1 F_X6_28 qr_845_0 ?_
  refine t_getI dX6_readStatement_4 F_X6_85 qf_1_8 ?_
  refine t_callSiP dX6_readStatement_7 M_X6_sortOf (C_X6_sortOf _ _) ML_X6_534 SM_X6_sortOf (As := [.int (s.1 1 8)]) rfl rfl (by omega) (Nat.le_of_ble_eq_true rfl) (Nat.le_of_ble_eq_true rfl) (Nat.le_of_ble_eq_true rfl) ?_
  refine mj_istore_n 3 (lv2 := [(3, .int (f_X6_sortOf (s.1 1 8) s)), (0, .ref 845), (1, .int x1), (2, .int x2)]) dX6_readStatement_10 rfl (by decide) rfl ?_
  refine mj_iload_n dX6_readStatement_11 0 rfl ?_
  refine mj_if_ne 23 dX6_readStatement_12 (by decide) (fun z => t_negK hk z (fun hk => ?_)) (fun z => t_posK hk z (fun hk => ?_))
  · refine mj_sublv [(0, .ref 845), (1, .int x1), (2, .int x2), (3, .int (f_X6_sortOf (s.1 1 8) s))] [1, 2, 3, 0] rfl ?_
    exact B_X6_readStatement_23 rc H _ _ _ _ _ hk
  · refine mj_aload_n dX6_readStatement_15 1 rfl ?_
    refine t_getR 1 dX6_readStatement_16 F_X6_28 qr_845_0 ?_
    refine mj_iconst (v := 2) dX6_readStatement_19 (by decide) ?_
    refine t_bndK hk (fun r2 er2 hk => ?_)
    refine t_callVvE dX6_readStatement_20 M_X2_fail (C_X2_fail _ _ _ er2) ML_X6_100 IM_X2_fail SE_X2_fail qc_1 rfl (As := [.int 2]) rfl rfl (by omega) (Nat.le_of_ble_eq_true rfl) (Nat.le_of_ble_eq_true rfl) (Nat.le_of_ble_eq_true rfl) ?_
    refine mj_sublv [(0, .ref 845), (1, .int x1), (2, .int x2), (3, .int (f_X6_sortOf (s.1 1 8) s))] [1, 2, 3, 0] rfl ?_
    exact B_X6_readStatement_23 rc H _ _ _ _ _ hk
/-- so many calls deep -/
noncomputable def R_X6_readAlts : Nat → RT_X6_readAlts
  | 0 => ⟨fun _ _ _ => none, fun _ _ _ => none, fun _ _ _ _ => none, fun _ _ _ => none, fun _ _ _ => none⟩
  | k + 1 => ⟨fun x1 x2 s => m_X6_readAlts (R_X6_readAlts k) x1 x2 s, fun x1 x2 s => m_X6_readBlock (R_X6_readAlts k) x1 x2 s, fun x1 x2 x3 s => m_X6_readBraces (R_X6_readAlts k) x1 x2 x3 s, fun x1 x2 s => m_X6_readBranch (R_X6_readAlts k) x1 x2 s, fun x1 x2 s => m_X6_readStatement (R_X6_readAlts k) x1 x2 s⟩
theorem RR_X6_readAlts : ∀ k : Nat, RH_X6_readAlts (R_X6_readAlts k) k := by
  intro k
  induction k with
  | zero => exact ⟨fun _ _ _ _ h => (by cases h), fun _ _ _ _ h => (by cases h), fun _ _ _ _ _ h => (by cases h), fun _ _ _ _ h => (by cases h), fun _ _ _ _ h => (by cases h)⟩
  | succ k ih => exact ⟨fun x1 x2 s r h => E_X6_readAlts (R_X6_readAlts k) ih x1 x2 s r h, fun x1 x2 s r h => E_X6_readBlock (R_X6_readAlts k) ih x1 x2 s r h, fun x1 x2 x3 s r h => E_X6_readBraces (R_X6_readAlts k) ih x1 x2 x3 s r h, fun x1 x2 s r h => E_X6_readBranch (R_X6_readAlts k) ih x1 x2 s r h, fun x1 x2 s r h => E_X6_readStatement (R_X6_readAlts k) ih x1 x2 s r h⟩
noncomputable def f_X6_readAlts (x1 : Int32) (x2 : Int32) (s : t_S) : Option (Int32 × t_S) := (R_X6_readAlts 100).1 x1 x2 s
theorem C_X6_readAlts (x1 : Int32) (x2 : Int32) (s : t_S) (r : Int32 × t_S) (hr : f_X6_readAlts x1 x2 s = some r) : t_C yX6_readAlts cX6_readAlts 3 (some .int) 356 [.ref 845, .int x1, .int x2] s (fun v s' => v = some (.int r.1) ∧ s' = r.2) := (RR_X6_readAlts 100).1 x1 x2 s r hr
noncomputable def f_X6_readBlock (x1 : Int32) (x2 : Int32) (s : t_S) : Option (Int32 × t_S) := (R_X6_readAlts 100).2.1 x1 x2 s
theorem C_X6_readBlock (x1 : Int32) (x2 : Int32) (s : t_S) (r : Int32 × t_S) (hr : f_X6_readBlock x1 x2 s = some r) : t_C yX6_readBlock cX6_readBlock 3 (some .int) 356 [.ref 845, .int x1, .int x2] s (fun v s' => v = some (.int r.1) ∧ s' = r.2) := (RR_X6_readAlts 100).2.1 x1 x2 s r hr
noncomputable def f_X6_readBraces (x1 : Int32) (x2 : Int32) (x3 : Int32) (s : t_S) : Option (Int32 × t_S) := (R_X6_readAlts 100).2.2.1 x1 x2 x3 s
theorem C_X6_readBraces (x1 : Int32) (x2 : Int32) (x3 : Int32) (s : t_S) (r : Int32 × t_S) (hr : f_X6_readBraces x1 x2 x3 s = some r) : t_C yX6_readBraces cX6_readBraces 8 (some .int) 356 [.ref 845, .int x1, .int x2, .int x3] s (fun v s' => v = some (.int r.1) ∧ s' = r.2) := (RR_X6_readAlts 100).2.2.1 x1 x2 x3 s r hr
noncomputable def f_X6_readBranch (x1 : Int32) (x2 : Int32) (s : t_S) : Option (Int32 × t_S) := (R_X6_readAlts 100).2.2.2.1 x1 x2 s
theorem C_X6_readBranch (x1 : Int32) (x2 : Int32) (s : t_S) (r : Int32 × t_S) (hr : f_X6_readBranch x1 x2 s = some r) : t_C yX6_readBranch cX6_readBranch 5 (some .int) 356 [.ref 845, .int x1, .int x2] s (fun v s' => v = some (.int r.1) ∧ s' = r.2) := (RR_X6_readAlts 100).2.2.2.1 x1 x2 s r hr
noncomputable def f_X6_readStatement (x1 : Int32) (x2 : Int32) (s : t_S) : Option (Int32 × t_S) := (R_X6_readAlts 100).2.2.2.2 x1 x2 s
theorem C_X6_readStatement (x1 : Int32) (x2 : Int32) (s : t_S) (r : Int32 × t_S) (hr : f_X6_readStatement x1 x2 s = some r) : t_C yX6_readStatement cX6_readStatement 6 (some .int) 356 [.ref 845, .int x1, .int x2] s (fun v s' => v = some (.int r.1) ∧ s' = r.2) := (RR_X6_readAlts 100).2.2.2.2 x1 x2 s r hr

