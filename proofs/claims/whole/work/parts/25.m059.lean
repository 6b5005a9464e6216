/-! Methods as functions, 59: X13_lookStep -/
theorem qa_1042 : t_oka 1042 1 8 = true := by decide +kernel
theorem qa_1043 : t_oka 1043 1 32 = true := by decide +kernel
theorem qa_988 : t_oka 988 1 401 = true := by decide +kernel
theorem qa_998 : t_oka 998 1 401 = true := by decide +kernel
theorem qr_950_157 : t_okr 950 13 157 1042 = true := by decide +kernel
theorem qr_950_158 : t_okr 950 13 158 1043 = true := by decide +kernel
theorem qr_950_66 : t_okr 950 13 66 988 = true := by decide +kernel
theorem qr_950_76 : t_okr 950 13 76 998 = true := by decide +kernel
theorem dX13_lookAll_0 : decode cX13_lookAll 0 = .ok (.iload_n 2, 1) := by decide +kernel
theorem dX13_lookAll_1 : decode cX13_lookAll 1 = .ok (.istore 6, 2) := by decide +kernel
theorem dX13_lookAll_100 : decode cX13_lookAll 100 = .ok (.laload, 1) := by decide +kernel
theorem dX13_lookAll_101 : decode cX13_lookAll 101 = .ok (.lconst 1, 1) := by decide +kernel
theorem dX13_lookAll_102 : decode cX13_lookAll 102 = .ok (.lcmp, 1) := by decide +kernel
theorem dX13_lookAll_103 : decode cX13_lookAll 103 = .ok (.ifCond .ne 7, 3) := by decide +kernel
theorem dX13_lookAll_106 : decode cX13_lookAll 106 = .ok (.iconst 1, 1) := by decide +kernel
theorem dX13_lookAll_107 : decode cX13_lookAll 107 = .ok (.goto 4, 3) := by decide +kernel
theorem dX13_lookAll_110 : decode cX13_lookAll 110 = .ok (.iconst 0, 1) := by decide +kernel
theorem dX13_lookAll_111 : decode cX13_lookAll 111 = .ok (.istore 7, 2) := by decide +kernel
theorem dX13_lookAll_113 : decode cX13_lookAll 113 = .ok (.aload_n 0, 1) := by decide +kernel
theorem dX13_lookAll_114 : decode cX13_lookAll 114 = .ok (.iload 8, 2) := by decide +kernel
theorem dX13_lookAll_116 : decode cX13_lookAll 116 = .ok (.putfield 858, 3) := by decide +kernel
theorem dX13_lookAll_119 : decode cX13_lookAll 119 = .ok (.iload 7, 2) := by decide +kernel
theorem dX13_lookAll_12 : decode cX13_lookAll 12 = .ok (.ifCond .ne 136, 3) := by decide +kernel
theorem dX13_lookAll_121 : decode cX13_lookAll 121 = .ok (.ifCond .eq 15, 3) := by decide +kernel
theorem dX13_lookAll_124 : decode cX13_lookAll 124 = .ok (.aload_n 0, 1) := by decide +kernel
theorem dX13_lookAll_125 : decode cX13_lookAll 125 = .ok (.iload_n 1, 1) := by decide +kernel
theorem dX13_lookAll_126 : decode cX13_lookAll 126 = .ok (.iload 6, 2) := by decide +kernel
theorem dX13_lookAll_128 : decode cX13_lookAll 128 = .ok (.iload_n 3, 1) := by decide +kernel
theorem dX13_lookAll_129 : decode cX13_lookAll 129 = .ok (.iload 4, 2) := by decide +kernel
theorem dX13_lookAll_131 : decode cX13_lookAll 131 = .ok (.iload 5, 2) := by decide +kernel
theorem dX13_lookAll_133 : decode cX13_lookAll 133 = .ok (.invokestatic 1458, 3) := by decide +kernel
theorem dX13_lookAll_136 : decode cX13_lookAll 136 = .ok (.aload_n 0, 1) := by decide +kernel
theorem dX13_lookAll_137 : decode cX13_lookAll 137 = .ok (.getfield 129, 3) := by decide +kernel
theorem dX13_lookAll_140 : decode cX13_lookAll 140 = .ok (.iload 6, 2) := by decide +kernel
theorem dX13_lookAll_142 : decode cX13_lookAll 142 = .ok (.iaload, 1) := by decide +kernel
theorem dX13_lookAll_143 : decode cX13_lookAll 143 = .ok (.istore 6, 2) := by decide +kernel
theorem dX13_lookAll_145 : decode cX13_lookAll 145 = .ok (.goto (-142), 3) := by decide +kernel
theorem dX13_lookAll_148 : decode cX13_lookAll 148 = .ok (.return_, 1) := by decide +kernel
theorem dX13_lookAll_15 : decode cX13_lookAll 15 = .ok (.aload_n 0, 1) := by decide +kernel
theorem dX13_lookAll_16 : decode cX13_lookAll 16 = .ok (.getfield 1455, 3) := by decide +kernel
theorem dX13_lookAll_19 : decode cX13_lookAll 19 = .ok (.ifCond .ge 129, 3) := by decide +kernel
theorem dX13_lookAll_22 : decode cX13_lookAll 22 = .ok (.aload_n 0, 1) := by decide +kernel
theorem dX13_lookAll_23 : decode cX13_lookAll 23 = .ok (.iload_n 3, 1) := by decide +kernel
theorem dX13_lookAll_24 : decode cX13_lookAll 24 = .ok (.putfield 935, 3) := by decide +kernel
theorem dX13_lookAll_27 : decode cX13_lookAll 27 = .ok (.iconst 1, 1) := by decide +kernel
theorem dX13_lookAll_28 : decode cX13_lookAll 28 = .ok (.istore 7, 2) := by decide +kernel
theorem dX13_lookAll_3 : decode cX13_lookAll 3 = .ok (.iload 6, 2) := by decide +kernel
theorem dX13_lookAll_30 : decode cX13_lookAll 30 = .ok (.aload_n 0, 1) := by decide +kernel
theorem dX13_lookAll_31 : decode cX13_lookAll 31 = .ok (.getfield 153, 3) := by decide +kernel
theorem dX13_lookAll_34 : decode cX13_lookAll 34 = .ok (.iload 6, 2) := by decide +kernel
theorem dX13_lookAll_36 : decode cX13_lookAll 36 = .ok (.iaload, 1) := by decide +kernel
theorem dX13_lookAll_37 : decode cX13_lookAll 37 = .ok (.ifCond .lt 82, 3) := by decide +kernel
theorem dX13_lookAll_40 : decode cX13_lookAll 40 = .ok (.aload_n 0, 1) := by decide +kernel
theorem dX13_lookAll_41 : decode cX13_lookAll 41 = .ok (.getfield 858, 3) := by decide +kernel
theorem dX13_lookAll_44 : decode cX13_lookAll 44 = .ok (.istore 8, 2) := by decide +kernel
theorem dX13_lookAll_46 : decode cX13_lookAll 46 = .ok (.aload_n 0, 1) := by decide +kernel
theorem dX13_lookAll_47 : decode cX13_lookAll 47 = .ok (.aload_n 0, 1) := by decide +kernel
theorem dX13_lookAll_48 : decode cX13_lookAll 48 = .ok (.getfield 153, 3) := by decide +kernel
theorem dX13_lookAll_5 : decode cX13_lookAll 5 = .ok (.ifCond .lt 143, 3) := by decide +kernel
theorem dX13_lookAll_51 : decode cX13_lookAll 51 = .ok (.iload 6, 2) := by decide +kernel
theorem dX13_lookAll_53 : decode cX13_lookAll 53 = .ok (.iaload, 1) := by decide +kernel
theorem dX13_lookAll_54 : decode cX13_lookAll 54 = .ok (.invokestatic 897, 3) := by decide +kernel
theorem dX13_lookAll_57 : decode cX13_lookAll 57 = .ok (.aload_n 0, 1) := by decide +kernel
theorem dX13_lookAll_58 : decode cX13_lookAll 58 = .ok (.getfield 842, 3) := by decide +kernel
theorem dX13_lookAll_61 : decode cX13_lookAll 61 = .ok (.ifCond .ne 22, 3) := by decide +kernel
theorem dX13_lookAll_64 : decode cX13_lookAll 64 = .ok (.aload_n 0, 1) := by decide +kernel
theorem dX13_lookAll_65 : decode cX13_lookAll 65 = .ok (.getfield 182, 3) := by decide +kernel
theorem dX13_lookAll_68 : decode cX13_lookAll 68 = .ok (.aload_n 0, 1) := by decide +kernel
theorem dX13_lookAll_69 : decode cX13_lookAll 69 = .ok (.invokevirtual 941, 3) := by decide +kernel
theorem dX13_lookAll_72 : decode cX13_lookAll 72 = .ok (.laload, 1) := by decide +kernel
theorem dX13_lookAll_73 : decode cX13_lookAll 73 = .ok (.lconst 1, 1) := by decide +kernel
theorem dX13_lookAll_74 : decode cX13_lookAll 74 = .ok (.lcmp, 1) := by decide +kernel
theorem dX13_lookAll_75 : decode cX13_lookAll 75 = .ok (.ifCond .eq 8, 3) := by decide +kernel
theorem dX13_lookAll_78 : decode cX13_lookAll 78 = .ok (.aload_n 0, 1) := by decide +kernel
theorem dX13_lookAll_79 : decode cX13_lookAll 79 = .ok (.iconst 1, 1) := by decide +kernel
theorem dX13_lookAll_8 : decode cX13_lookAll 8 = .ok (.aload_n 0, 1) := by decide +kernel
theorem dX13_lookAll_80 : decode cX13_lookAll 80 = .ok (.invokevirtual 866, 3) := by decide +kernel
theorem dX13_lookAll_83 : decode cX13_lookAll 83 = .ok (.aload_n 0, 1) := by decide +kernel
theorem dX13_lookAll_84 : decode cX13_lookAll 84 = .ok (.getfield 842, 3) := by decide +kernel
theorem dX13_lookAll_87 : decode cX13_lookAll 87 = .ok (.ifCond .ne 23, 3) := by decide +kernel
theorem dX13_lookAll_9 : decode cX13_lookAll 9 = .ok (.getfield 842, 3) := by decide +kernel
theorem dX13_lookAll_90 : decode cX13_lookAll 90 = .ok (.aload_n 0, 1) := by decide +kernel
theorem dX13_lookAll_91 : decode cX13_lookAll 91 = .ok (.getfield 182, 3) := by decide +kernel
theorem dX13_lookAll_94 : decode cX13_lookAll 94 = .ok (.aload_n 0, 1) := by decide +kernel
theorem dX13_lookAll_95 : decode cX13_lookAll 95 = .ok (.invokevirtual 941, 3) := by decide +kernel
theorem dX13_lookAll_98 : decode cX13_lookAll 98 = .ok (.iconst 1, 1) := by decide +kernel
theorem dX13_lookAll_99 : decode cX13_lookAll 99 = .ok (.iadd, 1) := by decide +kernel
theorem dX13_lookAt_0 : decode cX13_lookAt 0 = .ok (.aload_n 0, 1) := by decide +kernel
theorem dX13_lookAt_1 : decode cX13_lookAt 1 = .ok (.iload_n 3, 1) := by decide +kernel
theorem dX13_lookAt_100 : decode cX13_lookAt 100 = .ok (.invokevirtual 1397, 3) := by decide +kernel
theorem dX13_lookAt_103 : decode cX13_lookAt 103 = .ok (.laload, 1) := by decide +kernel
theorem dX13_lookAt_104 : decode cX13_lookAt 104 = .ok (.lstore 8, 2) := by decide +kernel
theorem dX13_lookAt_106 : decode cX13_lookAt 106 = .ok (.lload 8, 2) := by decide +kernel
theorem dX13_lookAt_108 : decode cX13_lookAt 108 = .ok (.lconst 0, 1) := by decide +kernel
theorem dX13_lookAt_109 : decode cX13_lookAt 109 = .ok (.lcmp, 1) := by decide +kernel
theorem dX13_lookAt_11 : decode cX13_lookAt 11 = .ok (.iconst 0, 1) := by decide +kernel
theorem dX13_lookAt_110 : decode cX13_lookAt 110 = .ok (.ifCond .lt 17, 3) := by decide +kernel
theorem dX13_lookAt_113 : decode cX13_lookAt 113 = .ok (.lload 8, 2) := by decide +kernel
theorem dX13_lookAt_115 : decode cX13_lookAt 115 = .ok (.aload_n 0, 1) := by decide +kernel
theorem dX13_lookAt_116 : decode cX13_lookAt 116 = .ok (.getfield 920, 3) := by decide +kernel
theorem dX13_lookAt_119 : decode cX13_lookAt 119 = .ok (.lcmp, 1) := by decide +kernel
theorem dX13_lookAt_12 : decode cX13_lookAt 12 = .ok (.istore 7, 2) := by decide +kernel
theorem dX13_lookAt_120 : decode cX13_lookAt 120 = .ok (.ifCond .gt 7, 3) := by decide +kernel
theorem dX13_lookAt_123 : decode cX13_lookAt 123 = .ok (.iconst 1, 1) := by decide +kernel
theorem dX13_lookAt_124 : decode cX13_lookAt 124 = .ok (.goto 4, 3) := by decide +kernel
theorem dX13_lookAt_127 : decode cX13_lookAt 127 = .ok (.iconst 0, 1) := by decide +kernel
theorem dX13_lookAt_128 : decode cX13_lookAt 128 = .ok (.istore 7, 2) := by decide +kernel
theorem dX13_lookAt_130 : decode cX13_lookAt 130 = .ok (.goto 76, 3) := by decide +kernel
theorem dX13_lookAt_133 : decode cX13_lookAt 133 = .ok (.aload_n 0, 1) := by decide +kernel
theorem dX13_lookAt_134 : decode cX13_lookAt 134 = .ok (.aload_n 0, 1) := by decide +kernel
theorem dX13_lookAt_135 : decode cX13_lookAt 135 = .ok (.getfield 147, 3) := by decide +kernel
theorem dX13_lookAt_138 : decode cX13_lookAt 138 = .ok (.iload_n 2, 1) := by decide +kernel
theorem dX13_lookAt_139 : decode cX13_lookAt 139 = .ok (.iaload, 1) := by decide +kernel
theorem dX13_lookAt_14 : decode cX13_lookAt 14 = .ok (.aload_n 0, 1) := by decide +kernel
theorem dX13_lookAt_140 : decode cX13_lookAt 140 = .ok (.invokestatic 897, 3) := by decide +kernel
theorem dX13_lookAt_143 : decode cX13_lookAt 143 = .ok (.aload_n 0, 1) := by decide +kernel
theorem dX13_lookAt_144 : decode cX13_lookAt 144 = .ok (.getfield 842, 3) := by decide +kernel
theorem dX13_lookAt_147 : decode cX13_lookAt 147 = .ok (.ifCond .ne 24, 3) := by decide +kernel
theorem dX13_lookAt_15 : decode cX13_lookAt 15 = .ok (.getfield 162, 3) := by decide +kernel
theorem dX13_lookAt_150 : decode cX13_lookAt 150 = .ok (.aload_n 0, 1) := by decide +kernel
theorem dX13_lookAt_151 : decode cX13_lookAt 151 = .ok (.getfield 182, 3) := by decide +kernel
theorem dX13_lookAt_154 : decode cX13_lookAt 154 = .ok (.aload_n 0, 1) := by decide +kernel
theorem dX13_lookAt_155 : decode cX13_lookAt 155 = .ok (.invokevirtual 941, 3) := by decide +kernel
theorem dX13_lookAt_158 : decode cX13_lookAt 158 = .ok (.laload, 1) := by decide +kernel
theorem dX13_lookAt_159 : decode cX13_lookAt 159 = .ok (.ldc2_w 682, 3) := by decide +kernel
theorem dX13_lookAt_162 : decode cX13_lookAt 162 = .ok (.lcmp, 1) := by decide +kernel
theorem dX13_lookAt_163 : decode cX13_lookAt 163 = .ok (.ifCond .eq 8, 3) := by decide +kernel
theorem dX13_lookAt_166 : decode cX13_lookAt 166 = .ok (.aload_n 0, 1) := by decide +kernel
theorem dX13_lookAt_167 : decode cX13_lookAt 167 = .ok (.iconst 1, 1) := by decide +kernel
theorem dX13_lookAt_168 : decode cX13_lookAt 168 = .ok (.invokevirtual 866, 3) := by decide +kernel
theorem dX13_lookAt_171 : decode cX13_lookAt 171 = .ok (.aload_n 0, 1) := by decide +kernel
theorem dX13_lookAt_172 : decode cX13_lookAt 172 = .ok (.getfield 842, 3) := by decide +kernel
theorem dX13_lookAt_175 : decode cX13_lookAt 175 = .ok (.ifCond .ne 28, 3) := by decide +kernel
theorem dX13_lookAt_178 : decode cX13_lookAt 178 = .ok (.aload_n 0, 1) := by decide +kernel
theorem dX13_lookAt_179 : decode cX13_lookAt 179 = .ok (.getfield 276, 3) := by decide +kernel
theorem dX13_lookAt_18 : decode cX13_lookAt 18 = .ok (.iload_n 2, 1) := by decide +kernel
theorem dX13_lookAt_182 : decode cX13_lookAt 182 = .ok (.aload_n 0, 1) := by decide +kernel
theorem dX13_lookAt_183 : decode cX13_lookAt 183 = .ok (.getfield 182, 3) := by decide +kernel
theorem dX13_lookAt_186 : decode cX13_lookAt 186 = .ok (.aload_n 0, 1) := by decide +kernel
theorem dX13_lookAt_187 : decode cX13_lookAt 187 = .ok (.invokevirtual 941, 3) := by decide +kernel
theorem dX13_lookAt_19 : decode cX13_lookAt 19 = .ok (.iaload, 1) := by decide +kernel
theorem dX13_lookAt_190 : decode cX13_lookAt 190 = .ok (.iconst 1, 1) := by decide +kernel
theorem dX13_lookAt_191 : decode cX13_lookAt 191 = .ok (.iadd, 1) := by decide +kernel
theorem dX13_lookAt_192 : decode cX13_lookAt 192 = .ok (.laload, 1) := by decide +kernel
theorem dX13_lookAt_193 : decode cX13_lookAt 193 = .ok (.l2i, 1) := by decide +kernel
theorem dX13_lookAt_194 : decode cX13_lookAt 194 = .ok (.iaload, 1) := by decide +kernel
theorem dX13_lookAt_195 : decode cX13_lookAt 195 = .ok (.iconst 2, 1) := by decide +kernel
theorem dX13_lookAt_196 : decode cX13_lookAt 196 = .ok (.if_icmp .ne 7, 3) := by decide +kernel
theorem dX13_lookAt_199 : decode cX13_lookAt 199 = .ok (.iconst 1, 1) := by decide +kernel
theorem dX13_lookAt_2 : decode cX13_lookAt 2 = .ok (.putfield 935, 3) := by decide +kernel
theorem dX13_lookAt_20 : decode cX13_lookAt 20 = .ok (.tableswitch 113 0 4 #[57, 68, 113, 42, 36], 36) := by decide +kernel
theorem dX13_lookAt_200 : decode cX13_lookAt 200 = .ok (.goto 4, 3) := by decide +kernel
theorem dX13_lookAt_203 : decode cX13_lookAt 203 = .ok (.iconst 0, 1) := by decide +kernel
theorem dX13_lookAt_204 : decode cX13_lookAt 204 = .ok (.istore 7, 2) := by decide +kernel
theorem dX13_lookAt_206 : decode cX13_lookAt 206 = .ok (.aload_n 0, 1) := by decide +kernel
theorem dX13_lookAt_207 : decode cX13_lookAt 207 = .ok (.iload 6, 2) := by decide +kernel
theorem dX13_lookAt_209 : decode cX13_lookAt 209 = .ok (.putfield 858, 3) := by decide +kernel
theorem dX13_lookAt_212 : decode cX13_lookAt 212 = .ok (.iload 7, 2) := by decide +kernel
theorem dX13_lookAt_214 : decode cX13_lookAt 214 = .ok (.ifCond .eq 26, 3) := by decide +kernel
theorem dX13_lookAt_217 : decode cX13_lookAt 217 = .ok (.aload_n 0, 1) := by decide +kernel
theorem dX13_lookAt_218 : decode cX13_lookAt 218 = .ok (.getfield 842, 3) := by decide +kernel
theorem dX13_lookAt_221 : decode cX13_lookAt 221 = .ok (.ifCond .ne 19, 3) := by decide +kernel
theorem dX13_lookAt_224 : decode cX13_lookAt 224 = .ok (.aload_n 0, 1) := by decide +kernel
theorem dX13_lookAt_225 : decode cX13_lookAt 225 = .ok (.iload_n 2, 1) := by decide +kernel
theorem dX13_lookAt_226 : decode cX13_lookAt 226 = .ok (.putfield 1455, 3) := by decide +kernel
theorem dX13_lookAt_229 : decode cX13_lookAt 229 = .ok (.aload_n 0, 1) := by decide +kernel
theorem dX13_lookAt_230 : decode cX13_lookAt 230 = .ok (.iload_n 3, 1) := by decide +kernel
theorem dX13_lookAt_231 : decode cX13_lookAt 231 = .ok (.putfield 1472, 3) := by decide +kernel
theorem dX13_lookAt_234 : decode cX13_lookAt 234 = .ok (.aload_n 0, 1) := by decide +kernel
theorem dX13_lookAt_235 : decode cX13_lookAt 235 = .ok (.iload 4, 2) := by decide +kernel
theorem dX13_lookAt_237 : decode cX13_lookAt 237 = .ok (.putfield 1475, 3) := by decide +kernel
theorem dX13_lookAt_240 : decode cX13_lookAt 240 = .ok (.return_, 1) := by decide +kernel
theorem dX13_lookAt_5 : decode cX13_lookAt 5 = .ok (.aload_n 0, 1) := by decide +kernel
theorem dX13_lookAt_56 : decode cX13_lookAt 56 = .ok (.iconst 1, 1) := by decide +kernel
theorem dX13_lookAt_57 : decode cX13_lookAt 57 = .ok (.istore 7, 2) := by decide +kernel
theorem dX13_lookAt_59 : decode cX13_lookAt 59 = .ok (.goto 147, 3) := by decide +kernel
theorem dX13_lookAt_6 : decode cX13_lookAt 6 = .ok (.getfield 858, 3) := by decide +kernel
theorem dX13_lookAt_62 : decode cX13_lookAt 62 = .ok (.aload_n 0, 1) := by decide +kernel
theorem dX13_lookAt_63 : decode cX13_lookAt 63 = .ok (.iload_n 1, 1) := by decide +kernel
theorem dX13_lookAt_64 : decode cX13_lookAt 64 = .ok (.iload_n 2, 1) := by decide +kernel
theorem dX13_lookAt_65 : decode cX13_lookAt 65 = .ok (.iload 5, 2) := by decide +kernel
theorem dX13_lookAt_67 : decode cX13_lookAt 67 = .ok (.invokestatic 1465, 3) := by decide +kernel
theorem dX13_lookAt_70 : decode cX13_lookAt 70 = .ok (.aload_n 0, 1) := by decide +kernel
theorem dX13_lookAt_71 : decode cX13_lookAt 71 = .ok (.iload 6, 2) := by decide +kernel
theorem dX13_lookAt_73 : decode cX13_lookAt 73 = .ok (.putfield 858, 3) := by decide +kernel
theorem dX13_lookAt_76 : decode cX13_lookAt 76 = .ok (.return_, 1) := by decide +kernel
theorem dX13_lookAt_77 : decode cX13_lookAt 77 = .ok (.aload_n 0, 1) := by decide +kernel
theorem dX13_lookAt_78 : decode cX13_lookAt 78 = .ok (.iload_n 1, 1) := by decide +kernel
theorem dX13_lookAt_79 : decode cX13_lookAt 79 = .ok (.iload_n 2, 1) := by decide +kernel
theorem dX13_lookAt_80 : decode cX13_lookAt 80 = .ok (.invokevirtual 1469, 3) := by decide +kernel
theorem dX13_lookAt_83 : decode cX13_lookAt 83 = .ok (.istore 7, 2) := by decide +kernel
theorem dX13_lookAt_85 : decode cX13_lookAt 85 = .ok (.goto 121, 3) := by decide +kernel
theorem dX13_lookAt_88 : decode cX13_lookAt 88 = .ok (.aload_n 0, 1) := by decide +kernel
theorem dX13_lookAt_89 : decode cX13_lookAt 89 = .ok (.getfield 321, 3) := by decide +kernel
theorem dX13_lookAt_9 : decode cX13_lookAt 9 = .ok (.istore 6, 2) := by decide +kernel
theorem dX13_lookAt_92 : decode cX13_lookAt 92 = .ok (.aload_n 0, 1) := by decide +kernel
theorem dX13_lookAt_93 : decode cX13_lookAt 93 = .ok (.iload_n 1, 1) := by decide +kernel
theorem dX13_lookAt_94 : decode cX13_lookAt 94 = .ok (.aload_n 0, 1) := by decide +kernel
theorem dX13_lookAt_95 : decode cX13_lookAt 95 = .ok (.getfield 135, 3) := by decide +kernel
theorem dX13_lookAt_98 : decode cX13_lookAt 98 = .ok (.iload_n 2, 1) := by decide +kernel
theorem dX13_lookAt_99 : decode cX13_lookAt 99 = .ok (.iaload, 1) := by decide +kernel
theorem dX13_lookStep_0 : decode cX13_lookStep 0 = .ok (.aload_n 0, 1) := by decide +kernel
theorem dX13_lookStep_1 : decode cX13_lookStep 1 = .ok (.getfield 858, 3) := by decide +kernel
theorem dX13_lookStep_100 : decode cX13_lookStep 100 = .ok (.iadd, 1) := by decide +kernel
theorem dX13_lookStep_101 : decode cX13_lookStep 101 = .ok (.invokevirtual 1318, 3) := by decide +kernel
theorem dX13_lookStep_104 : decode cX13_lookStep 104 = .ok (.iinc 7 1, 3) := by decide +kernel
theorem dX13_lookStep_107 : decode cX13_lookStep 107 = .ok (.goto (-50), 3) := by decide +kernel
theorem dX13_lookStep_11 : decode cX13_lookStep 11 = .ok (.iload_n 2, 1) := by decide +kernel
theorem dX13_lookStep_110 : decode cX13_lookStep 110 = .ok (.aload_n 0, 1) := by decide +kernel
theorem dX13_lookStep_111 : decode cX13_lookStep 111 = .ok (.iload_n 2, 1) := by decide +kernel
theorem dX13_lookStep_112 : decode cX13_lookStep 112 = .ok (.invokevirtual 1442, 3) := by decide +kernel
theorem dX13_lookStep_115 : decode cX13_lookStep 115 = .ok (.istore 7, 2) := by decide +kernel
theorem dX13_lookStep_117 : decode cX13_lookStep 117 = .ok (.aload_n 0, 1) := by decide +kernel
theorem dX13_lookStep_118 : decode cX13_lookStep 118 = .ok (.iload_n 1, 1) := by decide +kernel
theorem dX13_lookStep_119 : decode cX13_lookStep 119 = .ok (.aload_n 0, 1) := by decide +kernel
theorem dX13_lookStep_12 : decode cX13_lookStep 12 = .ok (.iaload, 1) := by decide +kernel
theorem dX13_lookStep_120 : decode cX13_lookStep 120 = .ok (.getfield 123, 3) := by decide +kernel
theorem dX13_lookStep_123 : decode cX13_lookStep 123 = .ok (.iload 7, 2) := by decide +kernel
theorem dX13_lookStep_125 : decode cX13_lookStep 125 = .ok (.iaload, 1) := by decide +kernel
theorem dX13_lookStep_126 : decode cX13_lookStep 126 = .ok (.iload 6, 2) := by decide +kernel
theorem dX13_lookStep_128 : decode cX13_lookStep 128 = .ok (.iload 7, 2) := by decide +kernel
theorem dX13_lookStep_13 : decode cX13_lookStep 13 = .ok (.invokevirtual 1439, 3) := by decide +kernel
theorem dX13_lookStep_130 : decode cX13_lookStep 130 = .ok (.iload_n 3, 1) := by decide +kernel
theorem dX13_lookStep_131 : decode cX13_lookStep 131 = .ok (.iconst 1, 1) := by decide +kernel
theorem dX13_lookStep_132 : decode cX13_lookStep 132 = .ok (.iadd, 1) := by decide +kernel
theorem dX13_lookStep_133 : decode cX13_lookStep 133 = .ok (.invokestatic 1462, 3) := by decide +kernel
theorem dX13_lookStep_136 : decode cX13_lookStep 136 = .ok (.return_, 1) := by decide +kernel
theorem dX13_lookStep_16 : decode cX13_lookStep 16 = .ok (.istore 5, 2) := by decide +kernel
theorem dX13_lookStep_18 : decode cX13_lookStep 18 = .ok (.aload_n 0, 1) := by decide +kernel
theorem dX13_lookStep_19 : decode cX13_lookStep 19 = .ok (.getfield 842, 3) := by decide +kernel
theorem dX13_lookStep_22 : decode cX13_lookStep 22 = .ok (.ifCond .ne 14, 3) := by decide +kernel
theorem dX13_lookStep_25 : decode cX13_lookStep 25 = .ok (.iload_n 3, 1) := by decide +kernel
theorem dX13_lookStep_26 : decode cX13_lookStep 26 = .ok (.iconst 4, 1) := by decide +kernel
theorem dX13_lookStep_27 : decode cX13_lookStep 27 = .ok (.if_icmp .ne 9, 3) := by decide +kernel
theorem dX13_lookStep_30 : decode cX13_lookStep 30 = .ok (.aload_n 0, 1) := by decide +kernel
theorem dX13_lookStep_31 : decode cX13_lookStep 31 = .ok (.bipush 7, 2) := by decide +kernel
theorem dX13_lookStep_33 : decode cX13_lookStep 33 = .ok (.invokevirtual 866, 3) := by decide +kernel
theorem dX13_lookStep_36 : decode cX13_lookStep 36 = .ok (.aload_n 0, 1) := by decide +kernel
theorem dX13_lookStep_37 : decode cX13_lookStep 37 = .ok (.getfield 842, 3) := by decide +kernel
theorem dX13_lookStep_4 : decode cX13_lookStep 4 = .ok (.istore 4, 2) := by decide +kernel
theorem dX13_lookStep_40 : decode cX13_lookStep 40 = .ok (.ifCond .eq 4, 3) := by decide +kernel
theorem dX13_lookStep_43 : decode cX13_lookStep 43 = .ok (.return_, 1) := by decide +kernel
theorem dX13_lookStep_44 : decode cX13_lookStep 44 = .ok (.sipush 2356, 3) := by decide +kernel
theorem dX13_lookStep_47 : decode cX13_lookStep 47 = .ok (.bipush 8, 2) := by decide +kernel
theorem dX13_lookStep_49 : decode cX13_lookStep 49 = .ok (.iload_n 3, 1) := by decide +kernel
theorem dX13_lookStep_50 : decode cX13_lookStep 50 = .ok (.imul, 1) := by decide +kernel
theorem dX13_lookStep_51 : decode cX13_lookStep 51 = .ok (.iadd, 1) := by decide +kernel
theorem dX13_lookStep_52 : decode cX13_lookStep 52 = .ok (.istore 6, 2) := by decide +kernel
theorem dX13_lookStep_54 : decode cX13_lookStep 54 = .ok (.iconst 0, 1) := by decide +kernel
theorem dX13_lookStep_55 : decode cX13_lookStep 55 = .ok (.istore 7, 2) := by decide +kernel
theorem dX13_lookStep_57 : decode cX13_lookStep 57 = .ok (.iload 7, 2) := by decide +kernel
theorem dX13_lookStep_59 : decode cX13_lookStep 59 = .ok (.bipush 8, 2) := by decide +kernel
theorem dX13_lookStep_6 : decode cX13_lookStep 6 = .ok (.aload_n 0, 1) := by decide +kernel
theorem dX13_lookStep_61 : decode cX13_lookStep 61 = .ok (.if_icmp .ge 49, 3) := by decide +kernel
theorem dX13_lookStep_64 : decode cX13_lookStep 64 = .ok (.iload 7, 2) := by decide +kernel
theorem dX13_lookStep_66 : decode cX13_lookStep 66 = .ok (.iload 5, 2) := by decide +kernel
theorem dX13_lookStep_68 : decode cX13_lookStep 68 = .ok (.if_icmp .ge 27, 3) := by decide +kernel
theorem dX13_lookStep_7 : decode cX13_lookStep 7 = .ok (.aload_n 0, 1) := by decide +kernel
theorem dX13_lookStep_71 : decode cX13_lookStep 71 = .ok (.aload_n 0, 1) := by decide +kernel
theorem dX13_lookStep_72 : decode cX13_lookStep 72 = .ok (.sipush 260, 3) := by decide +kernel
theorem dX13_lookStep_75 : decode cX13_lookStep 75 = .ok (.bipush 40, 2) := by decide +kernel
theorem dX13_lookStep_77 : decode cX13_lookStep 77 = .ok (.iload 4, 2) := by decide +kernel
theorem dX13_lookStep_79 : decode cX13_lookStep 79 = .ok (.iadd, 1) := by decide +kernel
theorem dX13_lookStep_8 : decode cX13_lookStep 8 = .ok (.getfield 147, 3) := by decide +kernel
theorem dX13_lookStep_80 : decode cX13_lookStep 80 = .ok (.iload 7, 2) := by decide +kernel
theorem dX13_lookStep_82 : decode cX13_lookStep 82 = .ok (.iadd, 1) := by decide +kernel
theorem dX13_lookStep_83 : decode cX13_lookStep 83 = .ok (.imul, 1) := by decide +kernel
theorem dX13_lookStep_84 : decode cX13_lookStep 84 = .ok (.iload 6, 2) := by decide +kernel
theorem dX13_lookStep_86 : decode cX13_lookStep 86 = .ok (.iload 7, 2) := by decide +kernel
theorem dX13_lookStep_88 : decode cX13_lookStep 88 = .ok (.iadd, 1) := by decide +kernel
theorem dX13_lookStep_89 : decode cX13_lookStep 89 = .ok (.invokevirtual 861, 3) := by decide +kernel
theorem dX13_lookStep_92 : decode cX13_lookStep 92 = .ok (.goto 12, 3) := by decide +kernel
theorem dX13_lookStep_95 : decode cX13_lookStep 95 = .ok (.aload_n 0, 1) := by decide +kernel
theorem dX13_lookStep_96 : decode cX13_lookStep 96 = .ok (.iload 6, 2) := by decide +kernel
theorem dX13_lookStep_98 : decode cX13_lookStep 98 = .ok (.iload 7, 2) := by decide +kernel
abbrev RT_X13_lookAll : Type := (Int32 → Int32 → Int32 → Int32 → Int32 → t_S → Option (t_S)) × (Int32 → Int32 → Int32 → Int32 → Int32 → t_S → Option (t_S)) × (Int32 → Int32 → Int32 → t_S → Option (t_S))
def RH_X13_lookAll (rc : RT_X13_lookAll) (k : Nat) : Prop := (∀ (x2 : Int32) (x3 : Int32) (x4 : Int32) (x5 : Int32) (x6 : Int32) (s : t_S) (r : t_S), rc.1 x2 x3 x4 x5 x6 s = some r → t_C yX13_lookAll cX13_lookAll 9 none (1785 + k) [.ref 950, .int x2, .int x3, .int x4, .int x5, .int x6] s (fun v s' => v = none ∧ s' = r)) ∧ (∀ (x2 : Int32) (x3 : Int32) (x4 : Int32) (x5 : Int32) (x6 : Int32) (s : t_S) (r : t_S), rc.2.1 x2 x3 x4 x5 x6 s = some r → t_C yX13_lookAt cX13_lookAt 10 none (1785 + k) [.ref 950, .int x2, .int x3, .int x4, .int x5, .int x6] s (fun v s' => v = none ∧ s' = r)) ∧ (∀ (x2 : Int32) (x3 : Int32) (x4 : Int32) (s : t_S) (r : t_S), rc.2.2 x2 x3 x4 s = some r → t_C yX13_lookStep cX13_lookStep 8 none (1785 + k) [.ref 950, .int x2, .int x3, .int x4] s (fun v s' => v = none ∧ s' = r))
noncomputable def k_X13_lookAll_136 (rc : RT_X13_lookAll) (l1 : Int32) (l3 : Int32) (l4 : Int32) (l5 : Int32) (l6 : Int32) (s : t_S) : Option ((Int32 × Int32 × Int32 × Int32 × Int32 × t_S) ⊕ (t_S)) :=
 if t_ix l6 401 = true then
  some (.inl (l1, l3, l4, l5, (s.1 989 (l6.toNatClampNeg)), s))
else none
set_option maxRecDepth 4000 in
set_option maxHeartbeats 1000000 in
theorem B_X13_lookAll_136 {D : va_G} {cy : Nat → ClassId} {ad : Nat → Nat} {bs : Nat} {X : State → Heap → Prop} (rc : RT_X13_lookAll) {k : Nat} (H : RH_X13_lookAll rc k) (l1 : Int32) (l3 : Int32) (l4 : Int32) (l5 : Int32) (l6 : Int32) (s : t_S) (Q : (Int32 × Int32 × Int32 × Int32 × Int32 × t_S) ⊕ (t_S) → Prop) (Hb3 : ∀ (y0 : Int32) (y1 : Int32) (y2 : Int32) (y3 : Int32) (y4 : Int32) (y5 : t_S), Q (.inl (y0, y1, y2, y3, y4, y5)) → mj_G D cy ad bs X cX13_lookAll 9 yX13_lookAll.cls none yX13_lookAll.name (1785 + (k + 1)) 0 0 1065 (t_P (fun v s' => v = none ∧ Q (.inr (s')))) 3 [(0, .ref 950), (1, .int (y0)), (3, .int (y1)), (4, .int (y2)), (5, .int (y3)), (6, .int (y4))] [] (t_m y5) 1065 0 0) (hk : t_hk (k_X13_lookAll_136 rc l1 l3 l4 l5 l6 s) Q) : mj_G D cy ad bs X cX13_lookAll 9 yX13_lookAll.cls none yX13_lookAll.name (1785 + (k + 1)) 0 0 1065 (t_P (fun v s' => v = none ∧ Q (.inr (s')))) 136 [(0, .ref 950), (1, .int l1), (3, .int l3), (4, .int l4), (5, .int l5), (6, .int l6)] [] (t_m s) 1065 0 0 := by
  refine mj_aload_n dX13_lookAll_136 0 rfl ?_
  refine t_getR 989 dX13_lookAll_137 F_X13_129 qr_950_67 ?_
  refine mj_iload dX13_lookAll_140 5 rfl ?_
  refine t_chkK hk (fun c0 hk => ?_)
  refine t_iald dX13_lookAll_142 qa_989 (t_ixv c0) ?_
  refine mj_istore (lv2 := [(6, .int (s.1 989 (l6.toNatClampNeg))), (0, .ref 950), (1, .int l1), (3, .int l3), (4, .int l4), (5, .int l5)]) dX13_lookAll_143 (by decide) rfl ?_
  refine mj_goto 3 dX13_lookAll_145 (by decide) ?_
  refine mj_sublv [(0, .ref 950), (1, .int l1), (3, .int l3), (4, .int l4), (5, .int l5), (6, .int (s.1 989 (l6.toNatClampNeg)))] [1, 2, 3, 4, 5, 0] rfl ?_
  exact t_somK hk (fun hf => Hb3 l1 l3 l4 l5 (s.1 989 (l6.toNatClampNeg)) s hf)
noncomputable def k_X13_lookAll_119 (rc : RT_X13_lookAll) (l1 : Int32) (l3 : Int32) (l4 : Int32) (l5 : Int32) (l6 : Int32) (l7 : Int32) (s : t_S) : Option ((Int32 × Int32 × Int32 × Int32 × Int32 × t_S) ⊕ (t_S)) :=
 if l7 = (0 : Int32) then (k_X13_lookAll_136 rc l1 l3 l4 l5 l6 s)
 else ((rc.2.1 l1 l6 l3 l4 l5 s).bind (fun r1 =>
 k_X13_lookAll_136 rc l1 l3 l4 l5 l6 r1))
set_option maxRecDepth 4000 in
set_option maxHeartbeats 1000000 in
theorem B_X13_lookAll_119 {D : va_G} {cy : Nat → ClassId} {ad : Nat → Nat} {bs : Nat} {X : State → Heap → Prop} (rc : RT_X13_lookAll) {k : Nat} (H : RH_X13_lookAll rc k) (l1 : Int32) (l3 : Int32) (l4 : Int32) (l5 : Int32) (l6 : Int32) (l7 : Int32) (s : t_S) (Q : (Int32 × Int32 × Int32 × Int32 × Int32 × t_S) ⊕ (t_S) → Prop) (Hb3 : ∀ (y0 : Int32) (y1 : Int32) (y2 : Int32) (y3 : Int32) (y4 : Int32) (y5 : t_S), Q (.inl (y0, y1, y2, y3, y4, y5)) → mj_G D cy ad bs X cX13_lookAll 9 yX13_lookAll.cls none yX13_lookAll.name (1785 + (k + 1)) 0 0 1065 (t_P (fun v s' => v = none ∧ Q (.inr (s')))) 3 [(0, .ref 950), (1, .int (y0)), (3, .int (y1)), (4, .int (y2)), (5, .int (y3)), (6, .int (y4))] [] (t_m y5) 1065 0 0) (hk : t_hk (k_X13_lookAll_119 rc l1 l3 l4 l5 l6 l7 s) Q) : mj_G D cy ad bs X cX13_lookAll 9 yX13_lookAll.cls none yX13_lookAll.name (1785 + (k + 1)) 0 0 1065 (t_P (fun v s' => v = none ∧ Q (.inr (s')))) 119 [(0, .ref 950), (1, .int l1), (3, .int l3), (4, .int l4), (5, .int l5), (6, .int l6), (7, .int l7)] [] (t_m s) 1065 0 0 := by
  refine mj_iload dX13_lookAll_119 6 rfl ?_
  refine mj_if_eq 136 dX13_lookAll_121 (by decide) (fun z => t_posK hk z (fun hk => ?_)) (fun z => t_negK hk z (fun hk => ?_))
  · refine mj_sublv [(0, .ref 950), (1, .int l1), (3, .int l3), (4, .int l4), (5, .int l5), (6, .int l6)] [0, 1, 2, 3, 4, 5] rfl ?_
    exact B_X13_lookAll_136 rc H _ _ _ _ _ _ _ (fun y0 y1 y2 y3 y4 y5 hx => Hb3 y0 y1 y2 y3 y4 y5 hx) hk
  · refine mj_aload_n dX13_lookAll_124 0 rfl ?_
    refine mj_iload_n dX13_lookAll_125 1 rfl ?_
    refine mj_iload dX13_lookAll_126 5 rfl ?_
    refine mj_iload_n dX13_lookAll_128 2 rfl ?_
    refine mj_iload dX13_lookAll_129 3 rfl ?_
    refine mj_iload dX13_lookAll_131 4 rfl ?_
    refine t_bndK hk (fun r1 er1 hk => ?_)
    refine t_callSvE dX13_lookAll_133 M_X13_lookAt (H.2.1 _ _ _ _ _ _ _ er1) ML_X13_1458 SM_X13_lookAt (As := [.ref 950, .int l1, .int l6, .int l3, .int l4, .int l5]) rfl rfl (by omega) (Nat.le_of_ble_eq_true rfl) (Nat.le_of_ble_eq_true rfl) (Nat.le_of_ble_eq_true rfl) ?_
    refine mj_sublv [(0, .ref 950), (1, .int l1), (3, .int l3), (4, .int l4), (5, .int l5), (6, .int l6)] [0, 1, 2, 3, 4, 5] rfl ?_
    exact B_X13_lookAll_136 rc H _ _ _ _ _ _ _ (fun y0 y1 y2 y3 y4 y5 hx => Hb3 y0 y1 y2 y3 y4 y5 hx) hk
noncomputable def k_X13_lookAll_111 (rc : RT_X13_lookAll) (l1 : Int32) (l3 : Int32) (l4 : Int32) (l5 : Int32) (l6 : Int32) (l8 : Int32) (k0 : Int32) (s : t_S) : Option ((Int32 × Int32 × Int32 × Int32 × Int32 × t_S) ⊕ (t_S)) :=
 t_let (t_setI s 950 98 l8) (fun s1 =>
 k_X13_lookAll_119 rc l1 l3 l4 l5 l6 k0 s1)
set_option maxRecDepth 4000 in
set_option maxHeartbeats 1000000 in
theorem B_X13_lookAll_111 {D : va_G} {cy : Nat → ClassId} {ad : Nat → Nat} {bs : Nat} {X : State → Heap → Prop} (rc : RT_X13_lookAll) {k : Nat} (H : RH_X13_lookAll rc k) (l1 : Int32) (l3 : Int32) (l4 : Int32) (l5 : Int32) (l6 : Int32) (l8 : Int32) (k0 : Int32) (s : t_S) (Q : (Int32 × Int32 × Int32 × Int32 × Int32 × t_S) ⊕ (t_S) → Prop) (Hb3 : ∀ (y0 : Int32) (y1 : Int32) (y2 : Int32) (y3 : Int32) (y4 : Int32) (y5 : t_S), Q (.inl (y0, y1, y2, y3, y4, y5)) → mj_G D cy ad bs X cX13_lookAll 9 yX13_lookAll.cls none yX13_lookAll.name (1785 + (k + 1)) 0 0 1065 (t_P (fun v s' => v = none ∧ Q (.inr (s')))) 3 [(0, .ref 950), (1, .int (y0)), (3, .int (y1)), (4, .int (y2)), (5, .int (y3)), (6, .int (y4))] [] (t_m y5) 1065 0 0) (hk : t_hk (k_X13_lookAll_111 rc l1 l3 l4 l5 l6 l8 k0 s) Q) : mj_G D cy ad bs X cX13_lookAll 9 yX13_lookAll.cls none yX13_lookAll.name (1785 + (k + 1)) 0 0 1065 (t_P (fun v s' => v = none ∧ Q (.inr (s')))) 111 [(0, .ref 950), (1, .int l1), (3, .int l3), (4, .int l4), (5, .int l5), (6, .int l6), (8, .int l8)] [.int k0] (t_m s) 1065 0 0 := by
  refine mj_istore (lv2 := [(7, .int k0), (0, .ref 950), (1, .int l1), (3, .int l3), (4, .int l4), (5, .int l5), (6, .int l6), (8, .int l8)]) dX13_lookAll_111 (by decide) rfl ?_
  refine mj_aload_n dX13_lookAll_113 1 rfl ?_
  refine mj_iload dX13_lookAll_114 7 rfl ?_
  refine t_putIK dX13_lookAll_116 F_X13_858 qf_950_98 rfl (fun s1 ws1 => t_letE hk ws1 (fun hk => ?_))
  refine mj_sublv [(0, .ref 950), (1, .int l1), (3, .int l3), (4, .int l4), (5, .int l5), (6, .int l6), (7, .int k0)] [1, 2, 3, 4, 5, 6, 0] rfl ?_
  exact B_X13_lookAll_119 rc H _ _ _ _ _ _ _ _ (fun y0 y1 y2 y3 y4 y5 hx => Hb3 y0 y1 y2 y3 y4 y5 hx) hk
noncomputable def k_X13_lookAll_110 (rc : RT_X13_lookAll) (l1 : Int32) (l3 : Int32) (l4 : Int32) (l5 : Int32) (l6 : Int32) (l8 : Int32) (s : t_S) : Option ((Int32 × Int32 × Int32 × Int32 × Int32 × t_S) ⊕ (t_S)) :=
 k_X13_lookAll_111 rc l1 l3 l4 l5 l6 l8 0 s
set_option maxRecDepth 4000 in
set_option maxHeartbeats 1000000 in
theorem B_X13_lookAll_110 {D : va_G} {cy : Nat → ClassId} {ad : Nat → Nat} {bs : Nat} {X : State → Heap → Prop} (rc : RT_X13_lookAll) {k : Nat} (H : RH_X13_lookAll rc k) (l1 : Int32) (l3 : Int32) (l4 : Int32) (l5 : Int32) (l6 : Int32) (l8 : Int32) (s : t_S) (Q : (Int32 × Int32 × Int32 × Int32 × Int32 × t_S) ⊕ (t_S) → Prop) (Hb3 : ∀ (y0 : Int32) (y1 : Int32) (y2 : Int32) (y3 : Int32) (y4 : Int32) (y5 : t_S), Q (.inl (y0, y1, y2, y3, y4, y5)) → mj_G D cy ad bs X cX13_lookAll 9 yX13_lookAll.cls none yX13_lookAll.name (1785 + (k + 1)) 0 0 1065 (t_P (fun v s' => v = none ∧ Q (.inr (s')))) 3 [(0, .ref 950), (1, .int (y0)), (3, .int (y1)), (4, .int (y2)), (5, .int (y3)), (6, .int (y4))] [] (t_m y5) 1065 0 0) (hk : t_hk (k_X13_lookAll_110 rc l1 l3 l4 l5 l6 l8 s) Q) : mj_G D cy ad bs X cX13_lookAll 9 yX13_lookAll.cls none yX13_lookAll.name (1785 + (k + 1)) 0 0 1065 (t_P (fun v s' => v = none ∧ Q (.inr (s')))) 110 [(0, .ref 950), (1, .int l1), (3, .int l3), (4, .int l4), (5, .int l5), (6, .int l6), (8, .int l8)] [] (t_m s) 1065 0 0 := by
  refine mj_iconst (v := 0) dX13_lookAll_110 (by decide) ?_
  exact B_X13_lookAll_111 rc H _ _ _ _ _ _ _ _ _ (fun y0 y1 y2 y3 y4 y5 hx => Hb3 y0 y1 y2 y3 y4 y5 hx) hk
noncomputable def k_X13_lookAll_83 (rc : RT_X13_lookAll) (l1 : Int32) (l3 : Int32) (l4 : Int32) (l5 : Int32) (l6 : Int32) (l8 : Int32) (s : t_S) : Option ((Int32 × Int32 × Int32 × Int32 × Int32 × t_S) ⊕ (t_S)) :=
 if (s.1 950 97) = (0 : Int32) then (if t_ix ((f_X13_top s) + (1 : Int32)) 626600 = true then
  if (lg_cmp (s.2.1 1006 (((f_X13_top s) + (1 : Int32)).toNatClampNeg)) (1 : Int64)) = (0 : Int32) then (k_X13_lookAll_111 rc l1 l3 l4 l5 l6 l8 1 s)
 else (k_X13_lookAll_110 rc l1 l3 l4 l5 l6 l8 s)
else none)
 else (k_X13_lookAll_110 rc l1 l3 l4 l5 l6 l8 s)
set_option maxRecDepth 4000 in
set_option maxHeartbeats 1000000 in
theorem B_X13_lookAll_83 {D : va_G} {cy : Nat → ClassId} {ad : Nat → Nat} {bs : Nat} {X : State → Heap → Prop} (rc : RT_X13_lookAll) {k : Nat} (H : RH_X13_lookAll rc k) (l1 : Int32) (l3 : Int32) (l4 : Int32) (l5 : Int32) (l6 : Int32) (l8 : Int32) (s : t_S) (Q : (Int32 × Int32 × Int32 × Int32 × Int32 × t_S) ⊕ (t_S) → Prop) (Hb3 : ∀ (y0 : Int32) (y1 : Int32) (y2 : Int32) (y3 : Int32) (y4 : Int32) (y5 : t_S), Q (.inl (y0, y1, y2, y3, y4, y5)) → mj_G D cy ad bs X cX13_lookAll 9 yX13_lookAll.cls none yX13_lookAll.name (1785 + (k + 1)) 0 0 1065 (t_P (fun v s' => v = none ∧ Q (.inr (s')))) 3 [(0, .ref 950), (1, .int (y0)), (3, .int (y1)), (4, .int (y2)), (5, .int (y3)), (6, .int (y4))] [] (t_m y5) 1065 0 0) (hk : t_hk (k_X13_lookAll_83 rc l1 l3 l4 l5 l6 l8 s) Q) : mj_G D cy ad bs X cX13_lookAll 9 yX13_lookAll.cls none yX13_lookAll.name (1785 + (k + 1)) 0 0 1065 (t_P (fun v s' => v = none ∧ Q (.inr (s')))) 83 [(0, .ref 950), (1, .int l1), (3, .int l3), (4, .int l4), (5, .int l5), (6, .int l6), (8, .int l8)] [] (t_m s) 1065 0 0 := by
  refine mj_aload_n dX13_lookAll_83 0 rfl ?_
  refine t_getI dX13_lookAll_84 F_X13_842 qf_950_97 ?_
  refine mj_if_ne 110 dX13_lookAll_87 (by decide) (fun z => t_negK hk z (fun hk => ?_)) (fun z => t_posK hk z (fun hk => ?_))
  · exact B_X13_lookAll_110 rc H _ _ _ _ _ _ _ _ (fun y0 y1 y2 y3 y4 y5 hx => Hb3 y0 y1 y2 y3 y4 y5 hx) hk
  · refine mj_aload_n dX13_lookAll_90 0 rfl ?_
    refine t_getR 1006 dX13_lookAll_91 F_X13_182 qr_950_95 ?_
    refine mj_aload_n dX13_lookAll_94 0 rfl ?_
    refine t_callViP dX13_lookAll_95 M_X13_top (C_X13_top _) ML_X13_941 IM_X13_top SE_X13_top qc_950 rfl (As := []) rfl rfl (by omega) (Nat.le_of_ble_eq_true rfl) (Nat.le_of_ble_eq_true rfl) (Nat.le_of_ble_eq_true rfl) ?_
    refine mj_iconst (v := 1) dX13_lookAll_98 (by decide) ?_
    refine mj_iadd dX13_lookAll_99 ?_
    refine t_chkK hk (fun c1 hk => ?_)
    refine t_lald dX13_lookAll_100 qa_1006 (t_ixv c1) ?_
    refine mj_lconst (v := 1) dX13_lookAll_101 (by decide) ?_
    refine mj_lcmp dX13_lookAll_102 ?_
    refine mj_if_ne 110 dX13_lookAll_103 (by decide) (fun z => t_negK hk z (fun hk => ?_)) (fun z => t_posK hk z (fun hk => ?_))
    · exact B_X13_lookAll_110 rc H _ _ _ _ _ _ _ _ (fun y0 y1 y2 y3 y4 y5 hx => Hb3 y0 y1 y2 y3 y4 y5 hx) hk
    · refine mj_iconst (v := 1) dX13_lookAll_106 (by decide) ?_
      refine mj_goto 111 dX13_lookAll_107 (by decide) ?_
      exact B_X13_lookAll_111 rc H _ _ _ _ _ _ _ _ _ (fun y0 y1 y2 y3 y4 y5 hx => Hb3 y0 y1 y2 y3 y4 y5 hx) hk
noncomputable def k_X13_lookAll_3 (rc : RT_X13_lookAll) (l1 : Int32) (l3 : Int32) (l4 : Int32) (l5 : Int32) (l6 : Int32) (s : t_S) : Option ((Int32 × Int32 × Int32 × Int32 × Int32 × t_S) ⊕ (t_S)) :=
 if l6 < (0 : Int32) then ((some (s)).map Sum.inr)
 else (if (s.1 950 97) = (0 : Int32) then (if (0 : Int32) ≤ (s.1 950 178) then ((some (s)).map Sum.inr)
 else (t_let (t_setI s 950 101 l3) (fun s1 =>
 if t_ix l6 401 = true then
  if (s1.1 997 (l6.toNatClampNeg)) < (0 : Int32) then (k_X13_lookAll_119 rc l1 l3 l4 l5 l6 1 s1)
 else ((f_X13_work (s1.1 997 (l6.toNatClampNeg)) s1).bind (fun r2 =>
 if (r2.1 950 97) = (0 : Int32) then (if t_ix (f_X13_top r2) 626600 = true then
  if (lg_cmp (r2.2.1 1006 ((f_X13_top r2).toNatClampNeg)) (1 : Int64)) = (0 : Int32) then (k_X13_lookAll_83 rc l1 l3 l4 l5 l6 (s1.1 950 98) r2)
 else ((f_X13_error (1 : Int32) r2).bind (fun r5 =>
 k_X13_lookAll_83 rc l1 l3 l4 l5 l6 (s1.1 950 98) r5))
else none)
 else (k_X13_lookAll_83 rc l1 l3 l4 l5 l6 (s1.1 950 98) r2)))
else none)))
 else ((some (s)).map Sum.inr))
set_option maxRecDepth 4000 in
set_option maxHeartbeats 1000000 in
theorem B_X13_lookAll_3 {D : va_G} {cy : Nat → ClassId} {ad : Nat → Nat} {bs : Nat} {X : State → Heap → Prop} (rc : RT_X13_lookAll) {k : Nat} (H : RH_X13_lookAll rc k) (l1 : Int32) (l3 : Int32) (l4 : Int32) (l5 : Int32) (l6 : Int32) (s : t_S) (Q : (Int32 × Int32 × Int32 × Int32 × Int32 × t_S) ⊕ (t_S) → Prop) (Hb3 : ∀ (y0 : Int32) (y1 : Int32) (y2 : Int32) (y3 : Int32) (y4 : Int32) (y5 : t_S), Q (.inl (y0, y1, y2, y3, y4, y5)) → mj_G D cy ad bs X cX13_lookAll 9 yX13_lookAll.cls none yX13_lookAll.name (1785 + (k + 1)) 0 0 1065 (t_P (fun v s' => v = none ∧ Q (.inr (s')))) 3 [(0, .ref 950), (1, .int (y0)), (3, .int (y1)), (4, .int (y2)), (5, .int (y3)), (6, .int (y4))] [] (t_m y5) 1065 0 0) (hk : t_hk (k_X13_lookAll_3 rc l1 l3 l4 l5 l6 s) Q) : mj_G D cy ad bs X cX13_lookAll 9 yX13_lookAll.cls none yX13_lookAll.name (1785 + (k + 1)) 0 0 1065 (t_P (fun v s' => v = none ∧ Q (.inr (s')))) 3 [(0, .ref 950), (1, .int l1), (3, .int l3), (4, .int l4), (5, .int l5), (6, .int l6)] [] (t_m s) 1065 0 0 := by
  refine mj_iload dX13_lookAll_3 5 rfl ?_
  refine mj_if_lt 148 dX13_lookAll_5 (by decide) (fun z => t_posK hk z (fun hk => ?_)) (fun z => t_negK hk z (fun hk => ?_))
  · refine t_mapK hk (fun hk => ?_)
    exact t_somK hk (fun hf => t_vret dX13_lookAll_148 rfl ⟨rfl, hf⟩ (Nat.le_of_ble_eq_true rfl) (Nat.le_of_ble_eq_true rfl))
  · refine mj_aload_n dX13_lookAll_8 0 rfl ?_
    refine t_getI dX13_lookAll_9 F_X13_842 qf_950_97 ?_
    refine mj_if_ne 148 dX13_lookAll_12 (by decide) (fun z => t_negK hk z (fun hk => ?_)) (fun z => t_posK hk z (fun hk => ?_))
    · refine t_mapK hk (fun hk => ?_)
      exact t_somK hk (fun hf => t_vret dX13_lookAll_148 rfl ⟨rfl, hf⟩ (Nat.le_of_ble_eq_true rfl) (Nat.le_of_ble_eq_true rfl))
    · refine mj_aload_n dX13_lookAll_15 0 rfl ?_
      refine t_getI dX13_lookAll_16 F_X13_1455 qf_950_178 ?_
      refine mj_if_ge 148 dX13_lookAll_19 (by decide) (fun z => t_posK hk z (fun hk => ?_)) (fun z => t_negK hk z (fun hk => ?_))
      · refine t_mapK hk (fun hk => ?_)
        exact t_somK hk (fun hf => t_vret dX13_lookAll_148 rfl ⟨rfl, hf⟩ (Nat.le_of_ble_eq_true rfl) (Nat.le_of_ble_eq_true rfl))
      · refine mj_aload_n dX13_lookAll_22 0 rfl ?_
        refine mj_iload_n dX13_lookAll_23 2 rfl ?_
        refine t_putIK dX13_lookAll_24 F_X13_935 qf_950_101 rfl (fun s1 ws1 => t_letE hk ws1 (fun hk => ?_))
        refine mj_iconst (v := 1) dX13_lookAll_27 (by decide) ?_
        refine mj_istore (lv2 := [(7, .int 1), (0, .ref 950), (1, .int l1), (3, .int l3), (4, .int l4), (5, .int l5), (6, .int l6)]) dX13_lookAll_28 (by decide) rfl ?_
        refine mj_aload_n dX13_lookAll_30 1 rfl ?_
        refine t_getR 997 dX13_lookAll_31 F_X13_153 qr_950_75 ?_
        refine mj_iload dX13_lookAll_34 6 rfl ?_
        refine t_chkK hk (fun c0 hk => ?_)
        refine t_iald dX13_lookAll_36 qa_997 (t_ixv c0) ?_
        refine mj_if_lt 119 dX13_lookAll_37 (by decide) (fun z => t_posK hk z (fun hk => ?_)) (fun z => t_negK hk z (fun hk => ?_))
        · refine mj_sublv [(0, .ref 950), (1, .int l1), (3, .int l3), (4, .int l4), (5, .int l5), (6, .int l6), (7, .int 1)] [1, 2, 3, 4, 5, 6, 0] rfl ?_
          exact B_X13_lookAll_119 rc H _ _ _ _ _ _ _ _ (fun y0 y1 y2 y3 y4 y5 hx => Hb3 y0 y1 y2 y3 y4 y5 hx) hk
        · refine mj_aload_n dX13_lookAll_40 1 rfl ?_
          refine t_getI dX13_lookAll_41 F_X13_858 qf_950_98 ?_
          refine mj_istore (lv2 := [(8, .int (s1.1 950 98)), (7, .int 1), (0, .ref 950), (1, .int l1), (3, .int l3), (4, .int l4), (5, .int l5), (6, .int l6)]) dX13_lookAll_44 (by decide) rfl ?_
          refine mj_aload_n dX13_lookAll_46 2 rfl ?_
          refine mj_aload_n dX13_lookAll_47 2 rfl ?_
          refine t_getR 997 dX13_lookAll_48 F_X13_153 qr_950_75 ?_
          refine mj_iload dX13_lookAll_51 7 rfl ?_
          refine t_iald dX13_lookAll_53 qa_997 (t_ixv c0) ?_
          refine t_bndK hk (fun r2 er2 hk => ?_)
          refine t_callSvE dX13_lookAll_54 M_X13_work (C_X13_work _ _ _ er2) ML_X13_897 SM_X13_work (As := [.ref 950, .int (s1.1 997 (l6.toNatClampNeg))]) rfl rfl (by omega) (Nat.le_of_ble_eq_true rfl) (Nat.le_of_ble_eq_true rfl) (Nat.le_of_ble_eq_true rfl) ?_
          refine mj_aload_n dX13_lookAll_57 2 rfl ?_
          refine t_getI dX13_lookAll_58 F_X13_842 qf_950_97 ?_
          refine mj_if_ne 83 dX13_lookAll_61 (by decide) (fun z => t_negK hk z (fun hk => ?_)) (fun z => t_posK hk z (fun hk => ?_))
          · refine mj_sublv [(0, .ref 950), (1, .int l1), (3, .int l3), (4, .int l4), (5, .int l5), (6, .int l6), (8, .int (s1.1 950 98))] [2, 3, 4, 5, 6, 7, 0] rfl ?_
            exact B_X13_lookAll_83 rc H _ _ _ _ _ _ _ _ (fun y0 y1 y2 y3 y4 y5 hx => Hb3 y0 y1 y2 y3 y4 y5 hx) hk
          · refine mj_aload_n dX13_lookAll_64 2 rfl ?_
            refine t_getR 1006 dX13_lookAll_65 F_X13_182 qr_950_95 ?_
            refine mj_aload_n dX13_lookAll_68 2 rfl ?_
            refine t_callViP dX13_lookAll_69 M_X13_top (C_X13_top _) ML_X13_941 IM_X13_top SE_X13_top qc_950 rfl (As := []) rfl rfl (by omega) (Nat.le_of_ble_eq_true rfl) (Nat.le_of_ble_eq_true rfl) (Nat.le_of_ble_eq_true rfl) ?_
            refine t_chkK hk (fun c3 hk => ?_)
            refine t_lald dX13_lookAll_72 qa_1006 (t_ixv c3) ?_
            refine mj_lconst (v := 1) dX13_lookAll_73 (by decide) ?_
            refine mj_lcmp dX13_lookAll_74 ?_
            refine mj_if_eq 83 dX13_lookAll_75 (by decide) (fun z => t_posK hk z (fun hk => ?_)) (fun z => t_negK hk z (fun hk => ?_))
            · refine mj_sublv [(0, .ref 950), (1, .int l1), (3, .int l3), (4, .int l4), (5, .int l5), (6, .int l6), (8, .int (s1.1 950 98))] [2, 3, 4, 5, 6, 7, 0] rfl ?_
              exact B_X13_lookAll_83 rc H _ _ _ _ _ _ _ _ (fun y0 y1 y2 y3 y4 y5 hx => Hb3 y0 y1 y2 y3 y4 y5 hx) hk
            · refine mj_aload_n dX13_lookAll_78 2 rfl ?_
              refine mj_iconst (v := 1) dX13_lookAll_79 (by decide) ?_
              refine t_bndK hk (fun r5 er5 hk => ?_)
              refine t_callVvE dX13_lookAll_80 M_X13_error (C_X13_error _ _ _ er5) ML_X13_866 IM_X13_error SE_X13_error qc_950 rfl (As := [.int 1]) rfl rfl (by omega) (Nat.le_of_ble_eq_true rfl) (Nat.le_of_ble_eq_true rfl) (Nat.le_of_ble_eq_true rfl) ?_
              refine mj_sublv [(0, .ref 950), (1, .int l1), (3, .int l3), (4, .int l4), (5, .int l5), (6, .int l6), (8, .int (s1.1 950 98))] [2, 3, 4, 5, 6, 7, 0] rfl ?_
              exact B_X13_lookAll_83 rc H _ _ _ _ _ _ _ _ (fun y0 y1 y2 y3 y4 y5 hx => Hb3 y0 y1 y2 y3 y4 y5 hx) hk
noncomputable def b_X13_lookAll_3 (rc : RT_X13_lookAll) (x : Int32 × Int32 × Int32 × Int32 × Int32 × t_S) : Option ((Int32 × Int32 × Int32 × Int32 × Int32 × t_S) ⊕ (t_S)) := k_X13_lookAll_3 rc x.1 x.2.1 x.2.2.1 x.2.2.2.1 x.2.2.2.2.1 x.2.2.2.2.2
set_option maxRecDepth 4000 in
set_option maxHeartbeats 1000000 in
theorem LH_X13_lookAll_3 {D : va_G} {cy : Nat → ClassId} {ad : Nat → Nat} {bs : Nat} {X : State → Heap → Prop} (rc : RT_X13_lookAll) {k : Nat} (H : RH_X13_lookAll rc k) : ∀ (n : Nat) (y0 : Int32) (y1 : Int32) (y2 : Int32) (y3 : Int32) (y4 : Int32) (y5 : t_S) (Q : t_S → Prop) (hk : t_hk (t_loop (b_X13_lookAll_3 rc) n (y0, y1, y2, y3, y4, y5)) Q), mj_G D cy ad bs X cX13_lookAll 9 yX13_lookAll.cls none yX13_lookAll.name (1785 + (k + 1)) 0 0 1065 (t_P (fun v s' => v = none ∧ Q (s'))) 3 [(0, .ref 950), (1, .int (y0)), (3, .int (y1)), (4, .int (y2)), (5, .int (y3)), (6, .int (y4))] [] (t_m y5) 1065 0 0 := by
  intro n
  induction n with
  | zero => intro y0 y1 y2 y3 y4 y5 Q hk; obtain ⟨r, hr, _⟩ := hk; cases hr
  | succ n ih =>
    intro y0 y1 y2 y3 y4 y5 Q hk
    exact B_X13_lookAll_3 rc H y0 y1 y2 y3 y4 y5 (fun y => t_lq (b_X13_lookAll_3 rc) n Q y) (fun y0' y1' y2' y3' y4' y5' hy => ih y0' y1' y2' y3' y4' y5' Q hy) (t_lp (b := b_X13_lookAll_3 rc) (n := n) (x := (y0, y1, y2, y3, y4, y5)) hk)
noncomputable def m_X13_lookAll (rc : RT_X13_lookAll) (x2 : Int32) (x3 : Int32) (x4 : Int32) (x5 : Int32) (x6 : Int32) (s : t_S) : Option (t_S) :=
 t_loop (b_X13_lookAll_3 rc) t_N (x2, x4, x5, x6, x3, s)
set_option maxRecDepth 4000 in
set_option maxHeartbeats 1000000 in
theorem E_X13_lookAll (rc : RT_X13_lookAll) {k : Nat} (H : RH_X13_lookAll rc k) (x2 : Int32) (x3 : Int32) (x4 : Int32) (x5 : Int32) (x6 : Int32) (s : t_S) (r : t_S) (hr : m_X13_lookAll rc x2 x3 x4 x5 x6 s = some r) : t_C yX13_lookAll cX13_lookAll 9 none (1785 + (k + 1)) [.ref 950, .int x2, .int x3, .int x4, .int x5, .int x6] s (fun v s' => v = none ∧ s' = r) := by
  refine t_C.imp (P := fun v s' => v = none ∧ (fun q => q = r) (s')) (t_C.of (by decide +kernel) (Nat.le_of_ble_eq_true rfl) ?_) (fun v s' hp => hp)
  intro D cy ad bs X
  have hk : t_hk (m_X13_lookAll rc x2 x3 x4 x5 x6 s) (fun q => q = r) := ⟨r, hr, rfl⟩
  show mj_G D cy ad bs X cX13_lookAll 9 yX13_lookAll.cls none yX13_lookAll.name (1785 + (k + 1)) 0 0 1065 (t_P (fun v s' => v = none ∧ (fun q => q = r) (s'))) 0 [(0, .ref 950), (1, .int x2), (2, .int x3), (3, .int x4), (4, .int x5), (5, .int x6)] [] (t_m s) 1065 0 0
  refine mj_iload_n dX13_lookAll_0 2 rfl ?_
  refine mj_istore (lv2 := [(6, .int x3), (0, .ref 950), (1, .int x2), (2, .int x3), (3, .int x4), (4, .int x5), (5, .int x6)]) dX13_lookAll_1 (by decide) rfl ?_
  refine mj_sublv [(0, .ref 950), (1, .int x2), (3, .int x4), (4, .int x5), (5, .int x6), (6, .int x3)] [1, 2, 4, 5, 6, 0] rfl ?_
  exact LH_X13_lookAll_3 rc H _ x2 x4 x5 x6 x3 s _ hk
noncomputable def k_X13_lookAt_206 (rc : RT_X13_lookAll) (l2 : Int32) (l3 : Int32) (l4 : Int32) (l6 : Int32) (l7 : Int32) (s : t_S) : Option (t_S) :=
 t_let (t_setI s 950 98 l6) (fun s1 =>
 if l7 = (0 : Int32) then (some (s1))
 else (if (s1.1 950 97) = (0 : Int32) then (t_let (t_setI s1 950 178 l2) (fun s2 =>
 t_let (t_setI s2 950 179 l3) (fun s3 =>
 t_let (t_setI s3 950 180 l4) (fun s4 =>
 some (s4)))))
 else (some (s1))))
set_option maxRecDepth 4000 in
set_option maxHeartbeats 1000000 in
theorem B_X13_lookAt_206 {D : va_G} {cy : Nat → ClassId} {ad : Nat → Nat} {bs : Nat} {X : State → Heap → Prop} (rc : RT_X13_lookAll) {k : Nat} (H : RH_X13_lookAll rc k) (l2 : Int32) (l3 : Int32) (l4 : Int32) (l6 : Int32) (l7 : Int32) (s : t_S) (Q : t_S → Prop) (hk : t_hk (k_X13_lookAt_206 rc l2 l3 l4 l6 l7 s) Q) : mj_G D cy ad bs X cX13_lookAt 10 yX13_lookAt.cls none yX13_lookAt.name (1785 + (k + 1)) 0 0 1065 (t_P (fun v s' => v = none ∧ Q (s'))) 206 [(0, .ref 950), (2, .int l2), (3, .int l3), (4, .int l4), (6, .int l6), (7, .int l7)] [] (t_m s) 1065 0 0 := by
  refine mj_aload_n dX13_lookAt_206 0 rfl ?_
  refine mj_iload dX13_lookAt_207 4 rfl ?_
  refine t_putIK dX13_lookAt_209 F_X13_858 qf_950_98 rfl (fun s1 ws1 => t_letE hk ws1 (fun hk => ?_))
  refine mj_iload dX13_lookAt_212 5 rfl ?_
  refine mj_if_eq 240 dX13_lookAt_214 (by decide) (fun z => t_posK hk z (fun hk => ?_)) (fun z => t_negK hk z (fun hk => ?_))
  · exact t_somK hk (fun hf => t_vret dX13_lookAt_240 rfl ⟨rfl, hf⟩ (Nat.le_of_ble_eq_true rfl) (Nat.le_of_ble_eq_true rfl))
  · refine mj_aload_n dX13_lookAt_217 0 rfl ?_
    refine t_getI dX13_lookAt_218 F_X13_842 qf_950_97 ?_
    refine mj_if_ne 240 dX13_lookAt_221 (by decide) (fun z => t_negK hk z (fun hk => ?_)) (fun z => t_posK hk z (fun hk => ?_))
    · exact t_somK hk (fun hf => t_vret dX13_lookAt_240 rfl ⟨rfl, hf⟩ (Nat.le_of_ble_eq_true rfl) (Nat.le_of_ble_eq_true rfl))
    · refine mj_aload_n dX13_lookAt_224 0 rfl ?_
      refine mj_iload_n dX13_lookAt_225 1 rfl ?_
      refine t_putIK dX13_lookAt_226 F_X13_1455 qf_950_178 rfl (fun s2 ws2 => t_letE hk ws2 (fun hk => ?_))
      refine mj_aload_n dX13_lookAt_229 0 rfl ?_
      refine mj_iload_n dX13_lookAt_230 2 rfl ?_
      refine t_putIK dX13_lookAt_231 F_X13_1472 qf_950_179 rfl (fun s3 ws3 => t_letE hk ws3 (fun hk => ?_))
      refine mj_aload_n dX13_lookAt_234 0 rfl ?_
      refine mj_iload dX13_lookAt_235 3 rfl ?_
      refine t_putIK dX13_lookAt_237 F_X13_1475 qf_950_180 rfl (fun s4 ws4 => t_letE hk ws4 (fun hk => ?_))
      exact t_somK hk (fun hf => t_vret dX13_lookAt_240 rfl ⟨rfl, hf⟩ (Nat.le_of_ble_eq_true rfl) (Nat.le_of_ble_eq_true rfl))
noncomputable def k_X13_lookAt_128 (rc : RT_X13_lookAll) (l2 : Int32) (l3 : Int32) (l4 : Int32) (l6 : Int32) (k0 : Int32) (s : t_S) : Option (t_S) :=
 k_X13_lookAt_206 rc l2 l3 l4 l6 k0 s
set_option maxRecDepth 4000 in
set_option maxHeartbeats 1000000 in
theorem B_X13_lookAt_128 {D : va_G} {cy : Nat → ClassId} {ad : Nat → Nat} {bs : Nat} {X : State → Heap → Prop} (rc : RT_X13_lookAll) {k : Nat} (H : RH_X13_lookAll rc k) (l2 : Int32) (l3 : Int32) (l4 : Int32) (l6 : Int32) (k0 : Int32) (s : t_S) (Q : t_S → Prop) (hk : t_hk (k_X13_lookAt_128 rc l2 l3 l4 l6 k0 s) Q) : mj_G D cy ad bs X cX13_lookAt 10 yX13_lookAt.cls none yX13_lookAt.name (1785 + (k + 1)) 0 0 1065 (t_P (fun v s' => v = none ∧ Q (s'))) 128 [(0, .ref 950), (2, .int l2), (3, .int l3), (4, .int l4), (6, .int l6)] [.int k0] (t_m s) 1065 0 0 := by
  refine mj_istore (lv2 := [(7, .int k0), (0, .ref 950), (2, .int l2), (3, .int l3), (4, .int l4), (6, .int l6)]) dX13_lookAt_128 (by decide) rfl ?_
  refine mj_goto 206 dX13_lookAt_130 (by decide) ?_
  refine mj_sublv [(0, .ref 950), (2, .int l2), (3, .int l3), (4, .int l4), (6, .int l6), (7, .int k0)] [1, 2, 3, 4, 5, 0] rfl ?_
  exact B_X13_lookAt_206 rc H _ _ _ _ _ _ _ hk
noncomputable def k_X13_lookAt_204 (rc : RT_X13_lookAll) (l2 : Int32) (l3 : Int32) (l4 : Int32) (l6 : Int32) (k0 : Int32) (s : t_S) : Option (t_S) :=
 k_X13_lookAt_206 rc l2 l3 l4 l6 k0 s
set_option maxRecDepth 4000 in
set_option maxHeartbeats 1000000 in
theorem B_X13_lookAt_204 {D : va_G} {cy : Nat → ClassId} {ad : Nat → Nat} {bs : Nat} {X : State → Heap → Prop} (rc : RT_X13_lookAll) {k : Nat} (H : RH_X13_lookAll rc k) (l2 : Int32) (l3 : Int32) (l4 : Int32) (l6 : Int32) (k0 : Int32) (s : t_S) (Q : t_S → Prop) (hk : t_hk (k_X13_lookAt_204 rc l2 l3 l4 l6 k0 s) Q) : mj_G D cy ad bs X cX13_lookAt 10 yX13_lookAt.cls none yX13_lookAt.name (1785 + (k + 1)) 0 0 1065 (t_P (fun v s' => v = none ∧ Q (s'))) 204 [(0, .ref 950), (2, .int l2), (3, .int l3), (4, .int l4), (6, .int l6)] [.int k0] (t_m s) 1065 0 0 := by
  refine mj_istore (lv2 := [(7, .int k0), (0, .ref 950), (2, .int l2), (3, .int l3), (4, .int l4), (6, .int l6)]) dX13_lookAt_204 (by decide) rfl ?_
  refine mj_sublv [(0, .ref 950), (2, .int l2), (3, .int l3), (4, .int l4), (6, .int l6), (7, .int k0)] [1, 2, 3, 4, 5, 0] rfl ?_
  exact B_X13_lookAt_206 rc H _ _ _ _ _ _ _ hk
noncomputable def k_X13_lookAt_203 (rc : RT_X13_lookAll) (l2 : Int32) (l3 : Int32) (l4 : Int32) (l6 : Int32) (s : t_S) : Option (t_S) :=
 k_X13_lookAt_204 rc l2 l3 l4 l6 0 s
set_option maxRecDepth 4000 in
set_option maxHeartbeats 1000000 in
theorem B_X13_lookAt_203 {D : va_G} {cy : Nat → ClassId} {ad : Nat → Nat} {bs : Nat} {X : State → Heap → Prop} (rc : RT_X13_lookAll) {k : Nat} (H : RH_X13_lookAll rc k) (l2 : Int32) (l3 : Int32) (l4 : Int32) (l6 : Int32) (s : t_S) (Q : t_S → Prop) (hk : t_hk (k_X13_lookAt_203 rc l2 l3 l4 l6 s) Q) : mj_G D cy ad bs X cX13_lookAt 10 yX13_lookAt.cls none yX13_lookAt.name (1785 + (k + 1)) 0 0 1065 (t_P (fun v s' => v = none ∧ Q (s'))) 203 [(0, .ref 950), (2, .int l2), (3, .int l3), (4, .int l4), (6, .int l6)] [] (t_m s) 1065 0 0 := by
  refine mj_iconst (v := 0) dX13_lookAt_203 (by decide) ?_
  exact B_X13_lookAt_204 rc H _ _ _ _ _ _ _ hk
noncomputable def k_X13_lookAt_171 (rc : RT_X13_lookAll) (l2 : Int32) (l3 : Int32) (l4 : Int32) (l6 : Int32) (s : t_S) : Option (t_S) :=
 if (s.1 950 97) = (0 : Int32) then (if t_ix ((f_X13_top s) + (1 : Int32)) 626600 = true then
  if t_ix ((s.2.1 1006 (((f_X13_top s) + (1 : Int32)).toNatClampNeg)).toInt32) 8 = true then
  if (s.1 1036 (((s.2.1 1006 (((f_X13_top s) + (1 : Int32)).toNatClampNeg)).toInt32).toNatClampNeg)) = (2 : Int32) then (k_X13_lookAt_204 rc l2 l3 l4 l6 1 s)
 else (k_X13_lookAt_203 rc l2 l3 l4 l6 s)
else none
else none)
 else (k_X13_lookAt_203 rc l2 l3 l4 l6 s)
set_option maxRecDepth 4000 in
set_option maxHeartbeats 1000000 in
theorem B_X13_lookAt_171 {D : va_G} {cy : Nat → ClassId} {ad : Nat → Nat} {bs : Nat} {X : State → Heap → Prop} (rc : RT_X13_lookAll) {k : Nat} (H : RH_X13_lookAll rc k) (l2 : Int32) (l3 : Int32) (l4 : Int32) (l6 : Int32) (s : t_S) (Q : t_S → Prop) (hk : t_hk (k_X13_lookAt_171 rc l2 l3 l4 l6 s) Q) : mj_G D cy ad bs X cX13_lookAt 10 yX13_lookAt.cls none yX13_lookAt.name (1785 + (k + 1)) 0 0 1065 (t_P (fun v s' => v = none ∧ Q (s'))) 171 [(0, .ref 950), (2, .int l2), (3, .int l3), (4, .int l4), (6, .int l6)] [] (t_m s) 1065 0 0 := by
  refine mj_aload_n dX13_lookAt_171 0 rfl ?_
  refine t_getI dX13_lookAt_172 F_X13_842 qf_950_97 ?_
  refine mj_if_ne 203 dX13_lookAt_175 (by decide) (fun z => t_negK hk z (fun hk => ?_)) (fun z => t_posK hk z (fun hk => ?_))
  · exact B_X13_lookAt_203 rc H _ _ _ _ _ _ hk
  · refine mj_aload_n dX13_lookAt_178 0 rfl ?_
    refine t_getR 1036 dX13_lookAt_179 F_X13_276 qr_950_151 ?_
    refine mj_aload_n dX13_lookAt_182 0 rfl ?_
    refine t_getR 1006 dX13_lookAt_183 F_X13_182 qr_950_95 ?_
    refine mj_aload_n dX13_lookAt_186 0 rfl ?_
    refine t_callViP dX13_lookAt_187 M_X13_top (C_X13_top _) ML_X13_941 IM_X13_top SE_X13_top qc_950 rfl (As := []) rfl rfl (by omega) (Nat.le_of_ble_eq_true rfl) (Nat.le_of_ble_eq_true rfl) (Nat.le_of_ble_eq_true rfl) ?_
    refine mj_iconst (v := 1) dX13_lookAt_190 (by decide) ?_
    refine mj_iadd dX13_lookAt_191 ?_
    refine t_chkK hk (fun c1 hk => ?_)
    refine t_lald dX13_lookAt_192 qa_1006 (t_ixv c1) ?_
    refine mj_l2i (v := (s.2.1 1006 (((f_X13_top s) + (1 : Int32)).toNatClampNeg)).toInt32) dX13_lookAt_193 rfl ?_
    refine t_chkK hk (fun c2 hk => ?_)
    refine t_iald dX13_lookAt_194 qa_1036 (t_ixv c2) ?_
    refine mj_iconst (v := 2) dX13_lookAt_195 (by decide) ?_
    refine mj_icmp_ne 203 dX13_lookAt_196 (by decide) (fun z => t_negK hk z (fun hk => ?_)) (fun z => t_posK hk z (fun hk => ?_))
    · exact B_X13_lookAt_203 rc H _ _ _ _ _ _ hk
    · refine mj_iconst (v := 1) dX13_lookAt_199 (by decide) ?_
      refine mj_goto 204 dX13_lookAt_200 (by decide) ?_
      exact B_X13_lookAt_204 rc H _ _ _ _ _ _ _ hk
noncomputable def k_X13_lookAt_127 (rc : RT_X13_lookAll) (l2 : Int32) (l3 : Int32) (l4 : Int32) (l6 : Int32) (s : t_S) : Option (t_S) :=
 k_X13_lookAt_128 rc l2 l3 l4 l6 0 s
set_option maxRecDepth 4000 in
set_option maxHeartbeats 1000000 in
theorem B_X13_lookAt_127 {D : va_G} {cy : Nat → ClassId} {ad : Nat → Nat} {bs : Nat} {X : State → Heap → Prop} (rc : RT_X13_lookAll) {k : Nat} (H : RH_X13_lookAll rc k) (l2 : Int32) (l3 : Int32) (l4 : Int32) (l6 : Int32) (s : t_S) (Q : t_S → Prop) (hk : t_hk (k_X13_lookAt_127 rc l2 l3 l4 l6 s) Q) : mj_G D cy ad bs X cX13_lookAt 10 yX13_lookAt.cls none yX13_lookAt.name (1785 + (k + 1)) 0 0 1065 (t_P (fun v s' => v = none ∧ Q (s'))) 127 [(0, .ref 950), (2, .int l2), (3, .int l3), (4, .int l4), (6, .int l6)] [] (t_m s) 1065 0 0 := by
  refine mj_iconst (v := 0) dX13_lookAt_127 (by decide) ?_
  exact B_X13_lookAt_128 rc H _ _ _ _ _ _ _ hk
noncomputable def m_X13_lookAt (rc : RT_X13_lookAll) (x2 : Int32) (x3 : Int32) (x4 : Int32) (x5 : Int32) (x6 : Int32) (s : t_S) : Option (t_S) :=
 t_let (t_setI s 950 101 x4) (fun s1 =>
 if t_ix x3 401 = true then
  if (s1.1 1000 (x3.toNatClampNeg)).toInt < 0 ∨ 4 < (s1.1 1000 (x3.toNatClampNeg)).toInt then ((f_X13_work (s1.1 995 (x3.toNatClampNeg)) s1).bind (fun r2 =>
 if (r2.1 950 97) = (0 : Int32) then (if t_ix (f_X13_top r2) 626600 = true then
  if (lg_cmp (r2.2.1 1006 ((f_X13_top r2).toNatClampNeg)) (5 : Int64)) = (0 : Int32) then (k_X13_lookAt_171 rc x3 x4 x5 (s1.1 950 98) r2)
 else ((f_X13_error (1 : Int32) r2).bind (fun r5 =>
 k_X13_lookAt_171 rc x3 x4 x5 (s1.1 950 98) r5))
else none)
 else (k_X13_lookAt_171 rc x3 x4 x5 (s1.1 950 98) r2)))
 else if (s1.1 1000 (x3.toNatClampNeg)).toInt = 0 then ((f_X13_receives x2 x3 s1).bind (fun r6 =>
 k_X13_lookAt_206 rc x3 x4 x5 (s1.1 950 98) r6.1 r6.2))
 else if (s1.1 1000 (x3.toNatClampNeg)).toInt = 1 then ((f_X13_timerAt x2 (s1.1 991 (x3.toNatClampNeg)) s1).bind (fun r7 =>
 if t_ix r7 32 = true then
  if (lg_cmp (s1.2.1 1051 (r7.toNatClampNeg)) (0 : Int64)) < (0 : Int32) then (k_X13_lookAt_127 rc x3 x4 x5 (s1.1 950 98) s1)
 else (if (0 : Int32) < (lg_cmp (s1.2.1 1051 (r7.toNatClampNeg)) (s1.2.1 950 148)) then (k_X13_lookAt_127 rc x3 x4 x5 (s1.1 950 98) s1)
 else (k_X13_lookAt_128 rc x3 x4 x5 (s1.1 950 98) 1 s1))
else none))
 else if (s1.1 1000 (x3.toNatClampNeg)).toInt = 2 then ((f_X13_work (s1.1 995 (x3.toNatClampNeg)) s1).bind (fun r9 =>
 if (r9.1 950 97) = (0 : Int32) then (if t_ix (f_X13_top r9) 626600 = true then
  if (lg_cmp (r9.2.1 1006 ((f_X13_top r9).toNatClampNeg)) (5 : Int64)) = (0 : Int32) then (k_X13_lookAt_171 rc x3 x4 x5 (s1.1 950 98) r9)
 else ((f_X13_error (1 : Int32) r9).bind (fun r12 =>
 k_X13_lookAt_171 rc x3 x4 x5 (s1.1 950 98) r12))
else none)
 else (k_X13_lookAt_171 rc x3 x4 x5 (s1.1 950 98) r9)))
 else if (s1.1 1000 (x3.toNatClampNeg)).toInt = 3 then ((rc.2.2 x2 x3 x6 s1).bind (fun r13 =>
 t_let (t_setI r13 950 98 (s1.1 950 98)) (fun s2 =>
 some (s2))))
 else (k_X13_lookAt_206 rc x3 x4 x5 (s1.1 950 98) 1 s1)
else none)
set_option maxRecDepth 4000 in
set_option maxHeartbeats 1000000 in
theorem E_X13_lookAt (rc : RT_X13_lookAll) {k : Nat} (H : RH_X13_lookAll rc k) (x2 : Int32) (x3 : Int32) (x4 : Int32) (x5 : Int32) (x6 : Int32) (s : t_S) (r : t_S) (hr : m_X13_lookAt rc x2 x3 x4 x5 x6 s = some r) : t_C yX13_lookAt cX13_lookAt 10 none (1785 + (k + 1)) [.ref 950, .int x2, .int x3, .int x4, .int x5, .int x6] s (fun v s' => v = none ∧ s' = r) := by
  refine t_C.imp (P := fun v s' => v = none ∧ (fun q => q = r) (s')) (t_C.of (by decide +kernel) (Nat.le_of_ble_eq_true rfl) ?_) (fun v s' hp => hp)
  intro D cy ad bs X
  have hk : t_hk (m_X13_lookAt rc x2 x3 x4 x5 x6 s) (fun q => q = r) := ⟨r, hr, rfl⟩
  show mj_G D cy ad bs X cX13_lookAt 10 yX13_lookAt.cls none yX13_lookAt.name (1785 + (k + 1)) 0 0 1065 (t_P (fun v s' => v = none ∧ (fun q => q = r) (s'))) 0 [(0, .ref 950), (1, .int x2), (2, .int x3), (3, .int x4), (4, .int x5), (5, .int x6)] [] (t_m s) 1065 0 0
  refine mj_aload_n dX13_lookAt_0 0 rfl ?_
  refine mj_iload_n dX13_lookAt_1 3 rfl ?_
  refine t_putIK dX13_lookAt_2 F_X13_935 qf_950_101 rfl (fun s1 ws1 => t_letE hk ws1 (fun hk => ?_))
  refine mj_aload_n dX13_lookAt_5 0 rfl ?_
  refine t_getI dX13_lookAt_6 F_X13_858 qf_950_98 ?_
  refine mj_istore (lv2 := [(6, .int (s1.1 950 98)), (0, .ref 950), (1, .int x2), (2, .int x3), (3, .int x4), (4, .int x5), (5, .int x6)]) dX13_lookAt_9 (by decide) rfl ?_
  refine mj_iconst (v := 0) dX13_lookAt_11 (by decide) ?_
  refine mj_istore (lv2 := [(7, .int 0), (6, .int (s1.1 950 98)), (0, .ref 950), (1, .int x2), (2, .int x3), (3, .int x4), (4, .int x5), (5, .int x6)]) dX13_lookAt_12 (by decide) rfl ?_
  refine mj_aload_n dX13_lookAt_14 2 rfl ?_
  refine t_getR 1000 dX13_lookAt_15 F_X13_162 qr_950_78 ?_
  refine mj_iload_n dX13_lookAt_18 4 rfl ?_
  refine t_chkK hk (fun c0 hk => ?_)
  refine t_iald dX13_lookAt_19 qa_1000 (t_ixv c0) ?_
  by_cases hout : (s1.1 1000 (x3.toNatClampNeg)).toInt < 0 ∨ 4 < (s1.1 1000 (x3.toNatClampNeg)).toInt
  · replace hk := t_pos hk hout
    refine mj_tableOut 133 dX13_lookAt_20 hout (by decide) ?_
    refine mj_aload_n dX13_lookAt_133 2 rfl ?_
    refine mj_aload_n dX13_lookAt_134 2 rfl ?_
    refine t_getR 995 dX13_lookAt_135 F_X13_147 qr_950_73 ?_
    refine mj_iload_n dX13_lookAt_138 4 rfl ?_
    refine t_iald dX13_lookAt_139 qa_995 (t_ixv c0) ?_
    refine t_bndK hk (fun r2 er2 hk => ?_)
    refine t_callSvE dX13_lookAt_140 M_X13_work (C_X13_work _ _ _ er2) ML_X13_897 SM_X13_work (As := [.ref 950, .int (s1.1 995 (x3.toNatClampNeg))]) rfl rfl (by omega) (Nat.le_of_ble_eq_true rfl) (Nat.le_of_ble_eq_true rfl) (Nat.le_of_ble_eq_true rfl) ?_
    refine mj_aload_n dX13_lookAt_143 2 rfl ?_
    refine t_getI dX13_lookAt_144 F_X13_842 qf_950_97 ?_
    refine mj_if_ne 171 dX13_lookAt_147 (by decide) (fun z => t_negK hk z (fun hk => ?_)) (fun z => t_posK hk z (fun hk => ?_))
    · refine mj_sublv [(0, .ref 950), (2, .int x3), (3, .int x4), (4, .int x5), (6, .int (s1.1 950 98))] [2, 4, 5, 6, 1] rfl ?_
      exact B_X13_lookAt_171 rc H _ _ _ _ _ _ hk
    · refine mj_aload_n dX13_lookAt_150 2 rfl ?_
      refine t_getR 1006 dX13_lookAt_151 F_X13_182 qr_950_95 ?_
      refine mj_aload_n dX13_lookAt_154 2 rfl ?_
      refine t_callViP dX13_lookAt_155 M_X13_top (C_X13_top _) ML_X13_941 IM_X13_top SE_X13_top qc_950 rfl (As := []) rfl rfl (by omega) (Nat.le_of_ble_eq_true rfl) (Nat.le_of_ble_eq_true rfl) (Nat.le_of_ble_eq_true rfl) ?_
      refine t_chkK hk (fun c3 hk => ?_)
      refine t_lald dX13_lookAt_158 qa_1006 (t_ixv c3) ?_
      refine mj_ldc2 dX13_lookAt_159 K_X13_682 ?_
      refine mj_lcmp dX13_lookAt_162 ?_
      refine mj_if_eq 171 dX13_lookAt_163 (by decide) (fun z => t_posK hk z (fun hk => ?_)) (fun z => t_negK hk z (fun hk => ?_))
      · refine mj_sublv [(0, .ref 950), (2, .int x3), (3, .int x4), (4, .int x5), (6, .int (s1.1 950 98))] [2, 4, 5, 6, 1] rfl ?_
        exact B_X13_lookAt_171 rc H _ _ _ _ _ _ hk
      · refine mj_aload_n dX13_lookAt_166 2 rfl ?_
        refine mj_iconst (v := 1) dX13_lookAt_167 (by decide) ?_
        refine t_bndK hk (fun r5 er5 hk => ?_)
        refine t_callVvE dX13_lookAt_168 M_X13_error (C_X13_error _ _ _ er5) ML_X13_866 IM_X13_error SE_X13_error qc_950 rfl (As := [.int 1]) rfl rfl (by omega) (Nat.le_of_ble_eq_true rfl) (Nat.le_of_ble_eq_true rfl) (Nat.le_of_ble_eq_true rfl) ?_
        refine mj_sublv [(0, .ref 950), (2, .int x3), (3, .int x4), (4, .int x5), (6, .int (s1.1 950 98))] [2, 4, 5, 6, 1] rfl ?_
        exact B_X13_lookAt_171 rc H _ _ _ _ _ _ hk
  · replace hk := t_neg hk hout
    have hh1 : ¬ (s1.1 1000 (x3.toNatClampNeg)).toInt < 0 := fun z => hout (Or.inl z)
    have hh2 : ¬ (4 : Int) < (s1.1 1000 (x3.toNatClampNeg)).toInt := fun z => hout (Or.inr z)
    by_cases h0 : (s1.1 1000 (x3.toNatClampNeg)).toInt = 0
    · replace hk := t_pos hk h0
      refine mj_tableIn 77 dX13_lookAt_20 hh1 hh2 (by rw [h0]; rfl) (by decide) ?_
      refine mj_aload_n dX13_lookAt_77 2 rfl ?_
      refine mj_iload_n dX13_lookAt_78 3 rfl ?_
      refine mj_iload_n dX13_lookAt_79 4 rfl ?_
      refine t_bndK hk (fun r6 er6 hk => ?_)
      refine t_callViE dX13_lookAt_80 M_X13_receives (C_X13_receives _ _ _ _ er6) ML_X13_1469 IM_X13_receives SE_X13_receives qc_950 rfl (As := [.int x2, .int x3]) rfl rfl (by omega) (Nat.le_of_ble_eq_true rfl) (Nat.le_of_ble_eq_true rfl) (Nat.le_of_ble_eq_true rfl) ?_
      refine mj_istore (lv2 := [(7, .int r6.1), (6, .int (s1.1 950 98)), (0, .ref 950), (1, .int x2), (2, .int x3), (3, .int x4), (4, .int x5), (5, .int x6)]) dX13_lookAt_83 (by decide) rfl ?_
      refine mj_goto 206 dX13_lookAt_85 (by decide) ?_
      refine mj_sublv [(0, .ref 950), (2, .int x3), (3, .int x4), (4, .int x5), (6, .int (s1.1 950 98)), (7, .int r6.1)] [2, 4, 5, 6, 1, 0] rfl ?_
      exact B_X13_lookAt_206 rc H _ _ _ _ _ _ _ hk
    replace hk := t_neg hk h0
    by_cases h1 : (s1.1 1000 (x3.toNatClampNeg)).toInt = 1
    · replace hk := t_pos hk h1
      refine mj_tableIn 88 dX13_lookAt_20 hh1 hh2 (by rw [h1]; rfl) (by decide) ?_
      refine mj_aload_n dX13_lookAt_88 2 rfl ?_
      refine t_getR 1051 dX13_lookAt_89 F_X13_321 qr_950_166 ?_
      refine mj_aload_n dX13_lookAt_92 2 rfl ?_
      refine mj_iload_n dX13_lookAt_93 3 rfl ?_
      refine mj_aload_n dX13_lookAt_94 2 rfl ?_
      refine t_getR 991 dX13_lookAt_95 F_X13_135 qr_950_69 ?_
      refine mj_iload_n dX13_lookAt_98 4 rfl ?_
      refine t_iald dX13_lookAt_99 qa_991 (t_ixv c0) ?_
      refine t_bndK hk (fun r7 er7 hk => ?_)
      refine t_callViP dX13_lookAt_100 M_X13_timerAt (C_X13_timerAt _ _ _ _ er7) ML_X13_1397 IM_X13_timerAt SE_X13_timerAt qc_950 rfl (As := [.int x2, .int (s1.1 991 (x3.toNatClampNeg))]) rfl rfl (by omega) (Nat.le_of_ble_eq_true rfl) (Nat.le_of_ble_eq_true rfl) (Nat.le_of_ble_eq_true rfl) ?_
      refine t_chkK hk (fun c7 hk => ?_)
      refine t_lald dX13_lookAt_103 qa_1051 (t_ixv c7) ?_
      refine mj_lstore (lv2 := [(8, .long (s1.2.1 1051 (r7.toNatClampNeg))), (7, .int 0), (6, .int (s1.1 950 98)), (0, .ref 950), (1, .int x2), (2, .int x3), (3, .int x4), (4, .int x5), (5, .int x6)]) dX13_lookAt_104 (by decide) rfl ?_
      refine mj_lload dX13_lookAt_106 0 rfl ?_
      refine mj_lconst (v := 0) dX13_lookAt_108 (by decide) ?_
      refine mj_lcmp dX13_lookAt_109 ?_
      refine mj_if_lt 127 dX13_lookAt_110 (by decide) (fun z => t_posK hk z (fun hk => ?_)) (fun z => t_negK hk z (fun hk => ?_))
      · refine mj_sublv [(0, .ref 950), (2, .int x3), (3, .int x4), (4, .int x5), (6, .int (s1.1 950 98))] [3, 5, 6, 7, 2] rfl ?_
        exact B_X13_lookAt_127 rc H _ _ _ _ _ _ hk
      · refine mj_lload dX13_lookAt_113 0 rfl ?_
        refine mj_aload_n dX13_lookAt_115 3 rfl ?_
        refine t_getJ dX13_lookAt_116 F_X13_920 qf_950_148 ?_
        refine mj_lcmp dX13_lookAt_119 ?_
        refine mj_if_gt 127 dX13_lookAt_120 (by decide) (fun z => t_posK hk z (fun hk => ?_)) (fun z => t_negK hk z (fun hk => ?_))
        · refine mj_sublv [(0, .ref 950), (2, .int x3), (3, .int x4), (4, .int x5), (6, .int (s1.1 950 98))] [3, 5, 6, 7, 2] rfl ?_
          exact B_X13_lookAt_127 rc H _ _ _ _ _ _ hk
        · refine mj_iconst (v := 1) dX13_lookAt_123 (by decide) ?_
          refine mj_goto 128 dX13_lookAt_124 (by decide) ?_
          refine mj_sublv [(0, .ref 950), (2, .int x3), (3, .int x4), (4, .int x5), (6, .int (s1.1 950 98))] [3, 5, 6, 7, 2] rfl ?_
          exact B_X13_lookAt_128 rc H _ _ _ _ _ _ _ hk
    replace hk := t_neg hk h1
    by_cases h2 : (s1.1 1000 (x3.toNatClampNeg)).toInt = 2
    · replace hk := t_pos hk h2
      refine mj_tableIn 133 dX13_lookAt_20 hh1 hh2 (by rw [h2]; rfl) (by decide) ?_
      refine mj_aload_n dX13_lookAt_133 2 rfl ?_
      refine mj_aload_n dX13_lookAt_134 2 rfl ?_
      refine t_getR 995 dX13_lookAt_135 F_X13_147 qr_950_73 ?_
      refine mj_iload_n dX13_lookAt_138 4 rfl ?_
      refine t_iald dX13_lookAt_139 qa_995 (t_ixv c0) ?_
      refine t_bndK hk (fun r9 er9 hk => ?_)
      refine t_callSvE dX13_lookAt_140 M_X13_work (C_X13_work _ _ _ er9) ML_X13_897 SM_X13_work (As := [.ref 950, .int (s1.1 995 (x3.toNatClampNeg))]) rfl rfl (by omega) (Nat.le_of_ble_eq_true rfl) (Nat.le_of_ble_eq_true rfl) (Nat.le_of_ble_eq_true rfl) ?_
      refine mj_aload_n dX13_lookAt_143 2 rfl ?_
      refine t_getI dX13_lookAt_144 F_X13_842 qf_950_97 ?_
      refine mj_if_ne 171 dX13_lookAt_147 (by decide) (fun z => t_negK hk z (fun hk => ?_)) (fun z => t_posK hk z (fun hk => ?_))
      · refine mj_sublv [(0, .ref 950), (2, .int x3), (3, .int x4), (4, .int x5), (6, .int (s1.1 950 98))] [2, 4, 5, 6, 1] rfl ?_
        exact B_X13_lookAt_171 rc H _ _ _ _ _ _ hk
      · refine mj_aload_n dX13_lookAt_150 2 rfl ?_
        refine t_getR 1006 dX13_lookAt_151 F_X13_182 qr_950_95 ?_
        refine mj_aload_n dX13_lookAt_154 2 rfl ?_
        refine t_callViP dX13_lookAt_155 M_X13_top (C_X13_top _) ML_X13_941 IM_X13_top SE_X13_top qc_950 rfl (As := []) rfl rfl (by omega) (Nat.le_of_ble_eq_true rfl) (Nat.le_of_ble_eq_true rfl) (Nat.le_of_ble_eq_true rfl) ?_
        refine t_chkK hk (fun c10 hk => ?_)
        refine t_lald dX13_lookAt_158 qa_1006 (t_ixv c10) ?_
        refine mj_ldc2 dX13_lookAt_159 K_X13_682 ?_
        refine mj_lcmp dX13_lookAt_162 ?_
        refine mj_if_eq 171 dX13_lookAt_163 (by decide) (fun z => t_posK hk z (fun hk => ?_)) (fun z => t_negK hk z (fun hk => ?_))
        · refine mj_sublv [(0, .ref 950), (2, .int x3), (3, .int x4), (4, .int x5), (6, .int (s1.1 950 98))] [2, 4, 5, 6, 1] rfl ?_
          exact B_X13_lookAt_171 rc H _ _ _ _ _ _ hk
        · refine mj_aload_n dX13_lookAt_166 2 rfl ?_
          refine mj_iconst (v := 1) dX13_lookAt_167 (by decide) ?_
          refine t_bndK hk (fun r12 er12 hk => ?_)
          refine t_callVvE dX13_lookAt_168 M_X13_error (C_X13_error _ _ _ er12) ML_X13_866 IM_X13_error SE_X13_error qc_950 rfl (As := [.int 1]) rfl rfl (by omega) (Nat.le_of_ble_eq_true rfl) (Nat.le_of_ble_eq_true rfl) (Nat.le_of_ble_eq_true rfl) ?_
          refine mj_sublv [(0, .ref 950), (2, .int x3), (3, .int x4), (4, .int x5), (6, .int (s1.1 950 98))] [2, 4, 5, 6, 1] rfl ?_
          exact B_X13_lookAt_171 rc H _ _ _ _ _ _ hk
    replace hk := t_neg hk h2
    by_cases h3 : (s1.1 1000 (x3.toNatClampNeg)).toInt = 3
    · replace hk := t_pos hk h3
      refine mj_tableIn 62 dX13_lookAt_20 hh1 hh2 (by rw [h3]; rfl) (by decide) ?_
      refine mj_aload_n dX13_lookAt_62 2 rfl ?_
      refine mj_iload_n dX13_lookAt_63 3 rfl ?_
      refine mj_iload_n dX13_lookAt_64 4 rfl ?_
      refine mj_iload dX13_lookAt_65 7 rfl ?_
      refine t_bndK hk (fun r13 er13 hk => ?_)
      refine t_callSvE dX13_lookAt_67 M_X13_lookStep (H.2.2 _ _ _ _ _ er13) ML_X13_1465 SM_X13_lookStep (As := [.ref 950, .int x2, .int x3, .int x6]) rfl rfl (by omega) (Nat.le_of_ble_eq_true rfl) (Nat.le_of_ble_eq_true rfl) (Nat.le_of_ble_eq_true rfl) ?_
      refine mj_aload_n dX13_lookAt_70 2 rfl ?_
      refine mj_iload dX13_lookAt_71 1 rfl ?_
      refine t_putIK dX13_lookAt_73 F_X13_858 qf_950_98 rfl (fun s2 ws2 => t_letE hk ws2 (fun hk => ?_))
      exact t_somK hk (fun hf => t_vret dX13_lookAt_76 rfl ⟨rfl, hf⟩ (Nat.le_of_ble_eq_true rfl) (Nat.le_of_ble_eq_true rfl))
    replace hk := t_neg hk h3
    have h4 : (s1.1 1000 (x3.toNatClampNeg)).toInt = 4 := by omega
    refine mj_tableIn 56 dX13_lookAt_20 hh1 hh2 (by rw [h4]; rfl) (by decide) ?_
    refine mj_iconst (v := 1) dX13_lookAt_56 (by decide) ?_
    refine mj_istore (lv2 := [(7, .int 1), (6, .int (s1.1 950 98)), (0, .ref 950), (1, .int x2), (2, .int x3), (3, .int x4), (4, .int x5), (5, .int x6)]) dX13_lookAt_57 (by decide) rfl ?_
    refine mj_goto 206 dX13_lookAt_59 (by decide) ?_
    refine mj_sublv [(0, .ref 950), (2, .int x3), (3, .int x4), (4, .int x5), (6, .int (s1.1 950 98)), (7, .int 1)] [2, 4, 5, 6, 1, 0] rfl ?_
    exact B_X13_lookAt_206 rc H _ _ _ _ _ _ _ hk
noncomputable def k_X13_lookStep_104 (rc : RT_X13_lookAll) (l1 : Int32) (l2 : Int32) (l3 : Int32) (l4 : Int32) (l5 : Int32) (l6 : Int32) (l7 : Int32) (s : t_S) : Option ((Int32 × Int32 × Int32 × Int32 × Int32 × Int32 × Int32 × t_S) ⊕ (t_S)) :=
 some (.inl (l1, l2, l3, l4, l5, l6, (l7 + 1), s))
set_option maxRecDepth 4000 in
set_option maxHeartbeats 1000000 in
theorem B_X13_lookStep_104 {D : va_G} {cy : Nat → ClassId} {ad : Nat → Nat} {bs : Nat} {X : State → Heap → Prop} (rc : RT_X13_lookAll) {k : Nat} (H : RH_X13_lookAll rc k) (l1 : Int32) (l2 : Int32) (l3 : Int32) (l4 : Int32) (l5 : Int32) (l6 : Int32) (l7 : Int32) (s : t_S) (Q : (Int32 × Int32 × Int32 × Int32 × Int32 × Int32 × Int32 × t_S) ⊕ (t_S) → Prop) (Hb57 : ∀ (y0 : Int32) (y1 : Int32) (y2 : Int32) (y3 : Int32) (y4 : Int32) (y5 : Int32) (y6 : Int32) (y7 : t_S), Q (.inl (y0, y1, y2, y3, y4, y5, y6, y7)) → mj_G D cy ad bs X cX13_lookStep 8 yX13_lookStep.cls none yX13_lookStep.name (1785 + (k + 1)) 0 0 1065 (t_P (fun v s' => v = none ∧ Q (.inr (s')))) 57 [(0, .ref 950), (1, .int (y0)), (2, .int (y1)), (3, .int (y2)), (4, .int (y3)), (5, .int (y4)), (6, .int (y5)), (7, .int (y6))] [] (t_m y7) 1065 0 0) (hk : t_hk (k_X13_lookStep_104 rc l1 l2 l3 l4 l5 l6 l7 s) Q) : mj_G D cy ad bs X cX13_lookStep 8 yX13_lookStep.cls none yX13_lookStep.name (1785 + (k + 1)) 0 0 1065 (t_P (fun v s' => v = none ∧ Q (.inr (s')))) 104 [(0, .ref 950), (1, .int l1), (2, .int l2), (3, .int l3), (4, .int l4), (5, .int l5), (6, .int l6), (7, .int l7)] [] (t_m s) 1065 0 0 := by
  refine mj_iinc (k := 7) (v := (l7 + 1)) (lv2 := [(7, .int (l7 + 1)), (0, .ref 950), (1, .int l1), (2, .int l2), (3, .int l3), (4, .int l4), (5, .int l5), (6, .int l6)]) dX13_lookStep_104 rfl rfl (by decide) rfl ?_
  refine mj_goto 57 dX13_lookStep_107 (by decide) ?_
  refine mj_sublv [(0, .ref 950), (1, .int l1), (2, .int l2), (3, .int l3), (4, .int l4), (5, .int l5), (6, .int l6), (7, .int (l7 + 1))] [1, 2, 3, 4, 5, 6, 7, 0] rfl ?_
  exact t_somK hk (fun hf => Hb57 l1 l2 l3 l4 l5 l6 (l7 + 1) s hf)
noncomputable def k_X13_lookStep_57 (rc : RT_X13_lookAll) (l1 : Int32) (l2 : Int32) (l3 : Int32) (l4 : Int32) (l5 : Int32) (l6 : Int32) (l7 : Int32) (s : t_S) : Option ((Int32 × Int32 × Int32 × Int32 × Int32 × Int32 × Int32 × t_S) ⊕ (t_S)) :=
 if (8 : Int32) ≤ l7 then (((f_X13_funOf l2 s).bind (fun r1 =>
 if t_ix r1 40 = true then
  (rc.1 l1 (s.1 987 (r1.toNatClampNeg)) l6 r1 (l3 + (1 : Int32)) s).bind (fun r3 =>
 some (r3))
else none)).map Sum.inr)
 else (if l5 ≤ l7 then ((f_X13_setOmit (l6 + l7) s).bind (fun r4 =>
 k_X13_lookStep_104 rc l1 l2 l3 l4 l5 l6 l7 r4))
 else ((f_X13_copy ((260 : Int32) * (((40 : Int32) + l4) + l7)) (l6 + l7) s).bind (fun r5 =>
 k_X13_lookStep_104 rc l1 l2 l3 l4 l5 l6 l7 r5)))
set_option maxRecDepth 4000 in
set_option maxHeartbeats 1000000 in
theorem B_X13_lookStep_57 {D : va_G} {cy : Nat → ClassId} {ad : Nat → Nat} {bs : Nat} {X : State → Heap → Prop} (rc : RT_X13_lookAll) {k : Nat} (H : RH_X13_lookAll rc k) (l1 : Int32) (l2 : Int32) (l3 : Int32) (l4 : Int32) (l5 : Int32) (l6 : Int32) (l7 : Int32) (s : t_S) (Q : (Int32 × Int32 × Int32 × Int32 × Int32 × Int32 × Int32 × t_S) ⊕ (t_S) → Prop) (Hb57 : ∀ (y0 : Int32) (y1 : Int32) (y2 : Int32) (y3 : Int32) (y4 : Int32) (y5 : Int32) (y6 : Int32) (y7 : t_S), Q (.inl (y0, y1, y2, y3, y4, y5, y6, y7)) → mj_G D cy ad bs X cX13_lookStep 8 yX13_lookStep.cls none yX13_lookStep.name (1785 + (k + 1)) 0 0 1065 (t_P (fun v s' => v = none ∧ Q (.inr (s')))) 57 [(0, .ref 950), (1, .int (y0)), (2, .int (y1)), (3, .int (y2)), (4, .int (y3)), (5, .int (y4)), (6, .int (y5)), (7, .int (y6))] [] (t_m y7) 1065 0 0) (hk : t_hk (k_X13_lookStep_57 rc l1 l2 l3 l4 l5 l6 l7 s) Q) : mj_G D cy ad bs X cX13_lookStep 8 yX13_lookStep.cls none yX13_lookStep.name (1785 + (k + 1)) 0 0 1065 (t_P (fun v s' => v = none ∧ Q (.inr (s')))) 57 [(0, .ref 950), (1, .int l1), (2, .int l2), (3, .int l3), (4, .int l4), (5, .int l5), (6, .int l6), (7, .int l7)] [] (t_m s) 1065 0 0 := by
  refine mj_iload dX13_lookStep_57 7 rfl ?_
  refine mj_bipush (v := 8) dX13_lookStep_59 (by decide) ?_
  refine mj_icmp_ge 110 dX13_lookStep_61 (by decide) (fun z => t_posK hk z (fun hk => ?_)) (fun z => t_negK hk z (fun hk => ?_))
  · refine t_mapK hk (fun hk => ?_)
    refine mj_aload_n dX13_lookStep_110 0 rfl ?_
    refine mj_iload_n dX13_lookStep_111 2 rfl ?_
    refine t_bndK hk (fun r1 er1 hk => ?_)
    refine t_callViP dX13_lookStep_112 M_X13_funOf (C_X13_funOf _ _ _ er1) ML_X13_1442 IM_X13_funOf SE_X13_funOf qc_950 rfl (As := [.int l2]) rfl rfl (by omega) (Nat.le_of_ble_eq_true rfl) (Nat.le_of_ble_eq_true rfl) (Nat.le_of_ble_eq_true rfl) ?_
    refine mj_istore (lv2 := [(7, .int r1), (0, .ref 950), (1, .int l1), (2, .int l2), (3, .int l3), (4, .int l4), (5, .int l5), (6, .int l6)]) dX13_lookStep_115 (by decide) rfl ?_
    refine mj_aload_n dX13_lookStep_117 1 rfl ?_
    refine mj_iload_n dX13_lookStep_118 2 rfl ?_
    refine mj_aload_n dX13_lookStep_119 1 rfl ?_
    refine t_getR 987 dX13_lookStep_120 F_X13_123 qr_950_63 ?_
    refine mj_iload dX13_lookStep_123 0 rfl ?_
    refine t_chkK hk (fun c1 hk => ?_)
    refine t_iald dX13_lookStep_125 qa_987 (t_ixv c1) ?_
    refine mj_iload dX13_lookStep_126 7 rfl ?_
    refine mj_iload dX13_lookStep_128 0 rfl ?_
    refine mj_iload_n dX13_lookStep_130 4 rfl ?_
    refine mj_iconst (v := 1) dX13_lookStep_131 (by decide) ?_
    refine mj_iadd dX13_lookStep_132 ?_
    refine t_bndK hk (fun r3 er3 hk => ?_)
    refine t_callSvE dX13_lookStep_133 M_X13_lookAll (H.1 _ _ _ _ _ _ _ er3) ML_X13_1462 SM_X13_lookAll (As := [.ref 950, .int l1, .int (s.1 987 (r1.toNatClampNeg)), .int l6, .int r1, .int (l3 + (1 : Int32))]) rfl rfl (by omega) (Nat.le_of_ble_eq_true rfl) (Nat.le_of_ble_eq_true rfl) (Nat.le_of_ble_eq_true rfl) ?_
    exact t_somK hk (fun hf => t_vret dX13_lookStep_136 rfl ⟨rfl, hf⟩ (Nat.le_of_ble_eq_true rfl) (Nat.le_of_ble_eq_true rfl))
  · refine mj_iload dX13_lookStep_64 7 rfl ?_
    refine mj_iload dX13_lookStep_66 5 rfl ?_
    refine mj_icmp_ge 95 dX13_lookStep_68 (by decide) (fun z => t_posK hk z (fun hk => ?_)) (fun z => t_negK hk z (fun hk => ?_))
    · refine mj_aload_n dX13_lookStep_95 0 rfl ?_
      refine mj_iload dX13_lookStep_96 6 rfl ?_
      refine mj_iload dX13_lookStep_98 7 rfl ?_
      refine mj_iadd dX13_lookStep_100 ?_
      refine t_bndK hk (fun r4 er4 hk => ?_)
      refine t_callVvE dX13_lookStep_101 M_X13_setOmit (C_X13_setOmit _ _ _ er4) ML_X13_1318 IM_X13_setOmit SE_X13_setOmit qc_950 rfl (As := [.int (l6 + l7)]) rfl rfl (by omega) (Nat.le_of_ble_eq_true rfl) (Nat.le_of_ble_eq_true rfl) (Nat.le_of_ble_eq_true rfl) ?_
      exact B_X13_lookStep_104 rc H _ _ _ _ _ _ _ _ _ (fun y0 y1 y2 y3 y4 y5 y6 y7 hx => Hb57 y0 y1 y2 y3 y4 y5 y6 y7 hx) hk
    · refine mj_aload_n dX13_lookStep_71 0 rfl ?_
      refine mj_sipush (v := 260) dX13_lookStep_72 (by decide) ?_
      refine mj_bipush (v := 40) dX13_lookStep_75 (by decide) ?_
      refine mj_iload dX13_lookStep_77 4 rfl ?_
      refine mj_iadd dX13_lookStep_79 ?_
      refine mj_iload dX13_lookStep_80 7 rfl ?_
      refine mj_iadd dX13_lookStep_82 ?_
      refine mj_imul dX13_lookStep_83 ?_
      refine mj_iload dX13_lookStep_84 6 rfl ?_
      refine mj_iload dX13_lookStep_86 7 rfl ?_
      refine mj_iadd dX13_lookStep_88 ?_
      refine t_bndK hk (fun r5 er5 hk => ?_)
      refine t_callVvE dX13_lookStep_89 M_X13_copy (C_X13_copy _ _ _ _ er5) ML_X13_861 IM_X13_copy SE_X13_copy qc_950 rfl (As := [.int ((260 : Int32) * (((40 : Int32) + l4) + l7)), .int (l6 + l7)]) rfl rfl (by omega) (Nat.le_of_ble_eq_true rfl) (Nat.le_of_ble_eq_true rfl) (Nat.le_of_ble_eq_true rfl) ?_
      refine mj_goto 104 dX13_lookStep_92 (by decide) ?_
      exact B_X13_lookStep_104 rc H _ _ _ _ _ _ _ _ _ (fun y0 y1 y2 y3 y4 y5 y6 y7 hx => Hb57 y0 y1 y2 y3 y4 y5 y6 y7 hx) hk
noncomputable def b_X13_lookStep_57 (rc : RT_X13_lookAll) (x : Int32 × Int32 × Int32 × Int32 × Int32 × Int32 × Int32 × t_S) : Option ((Int32 × Int32 × Int32 × Int32 × Int32 × Int32 × Int32 × t_S) ⊕ (t_S)) := k_X13_lookStep_57 rc x.1 x.2.1 x.2.2.1 x.2.2.2.1 x.2.2.2.2.1 x.2.2.2.2.2.1 x.2.2.2.2.2.2.1 x.2.2.2.2.2.2.2
set_option maxRecDepth 4000 in
set_option maxHeartbeats 1000000 in
theorem LH_X13_lookStep_57 {D : va_G} {cy : Nat → ClassId} {ad : Nat → Nat} {bs : Nat} {X : State → Heap → Prop} (rc : RT_X13_lookAll) {k : Nat} (H : RH_X13_lookAll rc k) : ∀ (n : Nat) (y0 : Int32) (y1 : Int32) (y2 : Int32) (y3 : Int32) (y4 : Int32) (y5 : Int32) (y6 : Int32) (y7 : t_S) (Q : t_S → Prop) (hk : t_hk (t_loop (b_X13_lookStep_57 rc) n (y0, y1, y2, y3, y4, y5, y6, y7)) Q), mj_G D cy ad bs X cX13_lookStep 8 yX13_lookStep.cls none yX13_lookStep.name (1785 + (k + 1)) 0 0 1065 (t_P (fun v s' => v = none ∧ Q (s'))) 57 [(0, .ref 950), (1, .int (y0)), (2, .int (y1)), (3, .int (y2)), (4, .int (y3)), (5, .int (y4)), (6, .int (y5)), (7, .int (y6))] [] (t_m y7) 1065 0 0 := by
  intro n
  induction n with
  | zero => intro y0 y1 y2 y3 y4 y5 y6 y7 Q hk; obtain ⟨r, hr, _⟩ := hk; cases hr
  | succ n ih =>
    intro y0 y1 y2 y3 y4 y5 y6 y7 Q hk
    exact B_X13_lookStep_57 rc H y0 y1 y2 y3 y4 y5 y6 y7 (fun y => t_lq (b_X13_lookStep_57 rc) n Q y) (fun y0' y1' y2' y3' y4' y5' y6' y7' hy => ih y0' y1' y2' y3' y4' y5' y6' y7' Q hy) (t_lp (b := b_X13_lookStep_57 rc) (n := n) (x := (y0, y1, y2, y3, y4, y5, y6, y7)) hk)
noncomputable def k_X13_lookStep_36 (rc : RT_X13_lookAll) (l1 : Int32) (l2 : Int32) (l3 : Int32) (l4 : Int32) (l5 : Int32) (s : t_S) : Option (t_S) :=
 if (s.1 950 97) = (0 : Int32) then (t_loop (b_X13_lookStep_57 rc) t_N (l1, l2, l3, l4, l5, ((2356 : Int32) + ((8 : Int32) * l3)), 0, s))
 else (some (s))
set_option maxRecDepth 4000 in
set_option maxHeartbeats 1000000 in
theorem B_X13_lookStep_36 {D : va_G} {cy : Nat → ClassId} {ad : Nat → Nat} {bs : Nat} {X : State → Heap → Prop} (rc : RT_X13_lookAll) {k : Nat} (H : RH_X13_lookAll rc k) (l1 : Int32) (l2 : Int32) (l3 : Int32) (l4 : Int32) (l5 : Int32) (s : t_S) (Q : t_S → Prop) (hk : t_hk (k_X13_lookStep_36 rc l1 l2 l3 l4 l5 s) Q) : mj_G D cy ad bs X cX13_lookStep 8 yX13_lookStep.cls none yX13_lookStep.name (1785 + (k + 1)) 0 0 1065 (t_P (fun v s' => v = none ∧ Q (s'))) 36 [(0, .ref 950), (1, .int l1), (2, .int l2), (3, .int l3), (4, .int l4), (5, .int l5)] [] (t_m s) 1065 0 0 := by
  refine mj_aload_n dX13_lookStep_36 0 rfl ?_
  refine t_getI dX13_lookStep_37 F_X13_842 qf_950_97 ?_
  refine mj_if_eq 44 dX13_lookStep_40 (by decide) (fun z => t_posK hk z (fun hk => ?_)) (fun z => t_negK hk z (fun hk => ?_))
  · refine mj_sipush (v := 2356) dX13_lookStep_44 (by decide) ?_
    refine mj_bipush (v := 8) dX13_lookStep_47 (by decide) ?_
    refine mj_iload_n dX13_lookStep_49 3 rfl ?_
    refine mj_imul dX13_lookStep_50 ?_
    refine mj_iadd dX13_lookStep_51 ?_
    refine mj_istore (lv2 := [(6, .int ((2356 : Int32) + ((8 : Int32) * l3))), (0, .ref 950), (1, .int l1), (2, .int l2), (3, .int l3), (4, .int l4), (5, .int l5)]) dX13_lookStep_52 (by decide) rfl ?_
    refine mj_iconst (v := 0) dX13_lookStep_54 (by decide) ?_
    refine mj_istore (lv2 := [(7, .int 0), (6, .int ((2356 : Int32) + ((8 : Int32) * l3))), (0, .ref 950), (1, .int l1), (2, .int l2), (3, .int l3), (4, .int l4), (5, .int l5)]) dX13_lookStep_55 (by decide) rfl ?_
    refine mj_sublv [(0, .ref 950), (1, .int l1), (2, .int l2), (3, .int l3), (4, .int l4), (5, .int l5), (6, .int ((2356 : Int32) + ((8 : Int32) * l3))), (7, .int 0)] [2, 3, 4, 5, 6, 7, 1, 0] rfl ?_
    exact LH_X13_lookStep_57 rc H _ l1 l2 l3 l4 l5 ((2356 : Int32) + ((8 : Int32) * l3)) 0 s _ hk
  · exact t_somK hk (fun hf => t_vret dX13_lookStep_43 rfl ⟨rfl, hf⟩ (Nat.le_of_ble_eq_true rfl) (Nat.le_of_ble_eq_true rfl))
noncomputable def m_X13_lookStep (rc : RT_X13_lookAll) (x2 : Int32) (x3 : Int32) (x4 : Int32) (s : t_S) : Option (t_S) :=
 if t_ix x3 401 = true then
  (f_X13_workAll (s.1 995 (x3.toNatClampNeg)) s).bind (fun r2 =>
 if (r2.2.1 950 97) = (0 : Int32) then (if x4 = (4 : Int32) then ((f_X13_error (7 : Int32) r2.2).bind (fun r3 =>
 k_X13_lookStep_36 rc x2 x3 x4 (s.1 950 98) r2.1 r3))
 else (k_X13_lookStep_36 rc x2 x3 x4 (s.1 950 98) r2.1 r2.2))
 else (k_X13_lookStep_36 rc x2 x3 x4 (s.1 950 98) r2.1 r2.2))
else none
set_option maxRecDepth 4000 in
set_option maxHeartbeats 1000000 in
theorem E_X13_lookStep (rc : RT_X13_lookAll) {k : Nat} (H : RH_X13_lookAll rc k) (x2 : Int32) (x3 : Int32) (x4 : Int32) (s : t_S) (r : t_S) (hr : m_X13_lookStep rc x2 x3 x4 s = some r) : t_C yX13_lookStep cX13_lookStep 8 none (1785 + (k + 1)) [.ref 950, .int x2, .int x3, .int x4] s (fun v s' => v = none ∧ s' = r) := by
  refine t_C.imp (P := fun v s' => v = none ∧ (fun q => q = r) (s')) (t_C.of (by decide +kernel) (Nat.le_of_ble_eq_true rfl) ?_) (fun v s' hp => hp)
  intro D cy ad bs X
  have hk : t_hk (m_X13_lookStep rc x2 x3 x4 s) (fun q => q = r) := ⟨r, hr, rfl⟩
  show mj_G D cy ad bs X cX13_lookStep 8 yX13_lookStep.cls none yX13_lookStep.name (1785 + (k + 1)) 0 0 1065 (t_P (fun v s' => v = none ∧ (fun q => q = r) (s'))) 0 [(0, .ref 950), (1, .int x2), (2, .int x3), (3, .int x4)] [] (t_m s) 1065 0 0
  refine mj_aload_n dX13_lookStep_0 0 rfl ?_
  refine t_getI dX13_lookStep_1 F_X13_858 qf_950_98 ?_
  refine mj_istore (lv2 := [(4, .int (s.1 950 98)), (0, .ref 950), (1, .int x2), (2, .int x3), (3, .int x4)]) dX13_lookStep_4 (by decide) rfl ?_
  refine mj_aload_n dX13_lookStep_6 1 rfl ?_
  refine mj_aload_n dX13_lookStep_7 1 rfl ?_
  refine t_getR 995 dX13_lookStep_8 F_X13_147 qr_950_73 ?_
  refine mj_iload_n dX13_lookStep_11 3 rfl ?_
  refine t_chkK hk (fun c0 hk => ?_)
  refine t_iald dX13_lookStep_12 qa_995 (t_ixv c0) ?_
  refine t_bndK hk (fun r2 er2 hk => ?_)
  refine t_callViE dX13_lookStep_13 M_X13_workAll (C_X13_workAll _ _ _ er2) ML_X13_1439 IM_X13_workAll SE_X13_workAll qc_950 rfl (As := [.int (s.1 995 (x3.toNatClampNeg))]) rfl rfl (by omega) (Nat.le_of_ble_eq_true rfl) (Nat.le_of_ble_eq_true rfl) (Nat.le_of_ble_eq_true rfl) ?_
  refine mj_istore (lv2 := [(5, .int r2.1), (4, .int (s.1 950 98)), (0, .ref 950), (1, .int x2), (2, .int x3), (3, .int x4)]) dX13_lookStep_16 (by decide) rfl ?_
  refine mj_aload_n dX13_lookStep_18 2 rfl ?_
  refine t_getI dX13_lookStep_19 F_X13_842 qf_950_97 ?_
  refine mj_if_ne 36 dX13_lookStep_22 (by decide) (fun z => t_negK hk z (fun hk => ?_)) (fun z => t_posK hk z (fun hk => ?_))
  · refine mj_sublv [(0, .ref 950), (1, .int x2), (2, .int x3), (3, .int x4), (4, .int (s.1 950 98)), (5, .int r2.1)] [2, 3, 4, 5, 1, 0] rfl ?_
    exact B_X13_lookStep_36 rc H _ _ _ _ _ _ _ hk
  · refine mj_iload_n dX13_lookStep_25 5 rfl ?_
    refine mj_iconst (v := 4) dX13_lookStep_26 (by decide) ?_
    refine mj_icmp_ne 36 dX13_lookStep_27 (by decide) (fun z => t_negK hk z (fun hk => ?_)) (fun z => t_posK hk z (fun hk => ?_))
    · refine mj_sublv [(0, .ref 950), (1, .int x2), (2, .int x3), (3, .int x4), (4, .int (s.1 950 98)), (5, .int r2.1)] [2, 3, 4, 5, 1, 0] rfl ?_
      exact B_X13_lookStep_36 rc H _ _ _ _ _ _ _ hk
    · refine mj_aload_n dX13_lookStep_30 2 rfl ?_
      refine mj_bipush (v := 7) dX13_lookStep_31 (by decide) ?_
      refine t_bndK hk (fun r3 er3 hk => ?_)
      refine t_callVvE dX13_lookStep_33 M_X13_error (C_X13_error _ _ _ er3) ML_X13_866 IM_X13_error SE_X13_error qc_950 rfl (As := [.int 7]) rfl rfl (by omega) (Nat.le_of_ble_eq_true rfl) (Nat.le_of_ble_eq_true rfl) (Nat.le_of_ble_eq_true rfl) ?_
      refine mj_sublv [(0, .ref 950), (1, .int x2), (2, .int x3), (3, .int x4), (4, .int (s.1 950 98)), (5, .int r2.1)] [2, 3, 4, 5, 1, 0] rfl ?_
      exact B_X13_lookStep_36 rc H _ _ _ _ _ _ _ hk
/-- so many calls deep -/
noncomputable def R_X13_lookAll : Nat → RT_X13_lookAll
  | 0 => ⟨fun _ _ _ _ _ _ => none, fun _ _ _ _ _ _ => none, fun _ _ _ _ => none⟩
  | k + 1 => ⟨fun x2 x3 x4 x5 x6 s => m_X13_lookAll (R_X13_lookAll k) x2 x3 x4 x5 x6 s, fun x2 x3 x4 x5 x6 s => m_X13_lookAt (R_X13_lookAll k) x2 x3 x4 x5 x6 s, fun x2 x3 x4 s => m_X13_lookStep (R_X13_lookAll k) x2 x3 x4 s⟩
theorem RR_X13_lookAll : ∀ k : Nat, RH_X13_lookAll (R_X13_lookAll k) k := by
  intro k
  induction k with
  | zero => exact ⟨fun _ _ _ _ _ _ _ h => (by cases h), fun _ _ _ _ _ _ _ h => (by cases h), fun _ _ _ _ _ h => (by cases h)⟩
  | succ k ih => exact ⟨fun x2 x3 x4 x5 x6 s r h => E_X13_lookAll (R_X13_lookAll k) ih x2 x3 x4 x5 x6 s r h, fun x2 x3 x4 x5 x6 s r h => E_X13_lookAt (R_X13_lookAll k) ih x2 x3 x4 x5 x6 s r h, fun x2 x3 x4 s r h => E_X13_lookStep (R_X13_lookAll k) ih x2 x3 x4 s r h⟩
noncomputable def f_X13_lookAll (x2 : Int32) (x3 : Int32) (x4 : Int32) (x5 : Int32) (x6 : Int32) (s : t_S) : Option (t_S) := (R_X13_lookAll 100).1 x2 x3 x4 x5 x6 s
theorem C_X13_lookAll (x2 : Int32) (x3 : Int32) (x4 : Int32) (x5 : Int32) (x6 : Int32) (s : t_S) (r : t_S) (hr : f_X13_lookAll x2 x3 x4 x5 x6 s = some r) : t_C yX13_lookAll cX13_lookAll 9 none 1885 [.ref 950, .int x2, .int x3, .int x4, .int x5, .int x6] s (fun v s' => v = none ∧ s' = r) := (RR_X13_lookAll 100).1 x2 x3 x4 x5 x6 s r hr
noncomputable def f_X13_lookAt (x2 : Int32) (x3 : Int32) (x4 : Int32) (x5 : Int32) (x6 : Int32) (s : t_S) : Option (t_S) := (R_X13_lookAll 100).2.1 x2 x3 x4 x5 x6 s
theorem C_X13_lookAt (x2 : Int32) (x3 : Int32) (x4 : Int32) (x5 : Int32) (x6 : Int32) (s : t_S) (r : t_S) (hr : f_X13_lookAt x2 x3 x4 x5 x6 s = some r) : t_C yX13_lookAt cX13_lookAt 10 none 1885 [.ref 950, .int x2, .int x3, .int x4, .int x5, .int x6] s (fun v s' => v = none ∧ s' = r) := (RR_X13_lookAll 100).2.1 x2 x3 x4 x5 x6 s r hr
noncomputable def f_X13_lookStep (x2 : Int32) (x3 : Int32) (x4 : Int32) (s : t_S) : Option (t_S) := (R_X13_lookAll 100).2.2 x2 x3 x4 s
theorem C_X13_lookStep (x2 : Int32) (x3 : Int32) (x4 : Int32) (s : t_S) (r : t_S) (hr : f_X13_lookStep x2 x3 x4 s = some r) : t_C yX13_lookStep cX13_lookStep 8 none 1885 [.ref 950, .int x2, .int x3, .int x4] s (fun v s' => v = none ∧ s' = r) := (RR_X13_lookAll 100).2.2 x2 x3 x4 s r hr

