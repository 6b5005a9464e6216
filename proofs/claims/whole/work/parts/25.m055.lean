/-! Methods as functions, 55: X13_recordMatch -/
theorem qa_1030 : t_oka 1030 1 60 = true := by decide +kernel
theorem qf_950_133 : t_okf 950 13 133 0 = true := by decide +kernel
theorem qr_950_140 : t_okr 950 13 140 1030 = true := by decide +kernel
theorem dX13_assign_0 : decode cX13_assign 0 = .ok (.iconst 0, 1) := by decide +kernel
theorem dX13_assign_1 : decode cX13_assign 1 = .ok (.istore 6, 2) := by decide +kernel
theorem dX13_assign_101 : decode cX13_assign 101 = .ok (.if_icmp .ge 119, 3) := by decide +kernel
theorem dX13_assign_104 : decode cX13_assign 104 = .ok (.iload 5, 2) := by decide +kernel
theorem dX13_assign_106 : decode cX13_assign 106 = .ok (.ifCond .eq 8, 3) := by decide +kernel
theorem dX13_assign_109 : decode cX13_assign 109 = .ok (.iload 20, 2) := by decide +kernel
theorem dX13_assign_11 : decode cX13_assign 11 = .ok (.iinc 6 1, 3) := by decide +kernel
theorem dX13_assign_111 : decode cX13_assign 111 = .ok (.goto 4, 3) := by decide +kernel
theorem dX13_assign_114 : decode cX13_assign 114 = .ok (.iconst (-1), 1) := by decide +kernel
theorem dX13_assign_115 : decode cX13_assign 115 = .ok (.istore 22, 2) := by decide +kernel
theorem dX13_assign_117 : decode cX13_assign 117 = .ok (.aload_n 0, 1) := by decide +kernel
theorem dX13_assign_118 : decode cX13_assign 118 = .ok (.iload_n 2, 1) := by decide +kernel
theorem dX13_assign_119 : decode cX13_assign 119 = .ok (.iload_n 3, 1) := by decide +kernel
theorem dX13_assign_120 : decode cX13_assign 120 = .ok (.iload 5, 2) := by decide +kernel
theorem dX13_assign_122 : decode cX13_assign 122 = .ok (.ifCond .eq 8, 3) := by decide +kernel
theorem dX13_assign_125 : decode cX13_assign 125 = .ok (.iload 17, 2) := by decide +kernel
theorem dX13_assign_127 : decode cX13_assign 127 = .ok (.goto 5, 3) := by decide +kernel
theorem dX13_assign_130 : decode cX13_assign 130 = .ok (.iload 21, 2) := by decide +kernel
theorem dX13_assign_132 : decode cX13_assign 132 = .ok (.iadd, 1) := by decide +kernel
theorem dX13_assign_133 : decode cX13_assign 133 = .ok (.invokevirtual 855, 3) := by decide +kernel
theorem dX13_assign_136 : decode cX13_assign 136 = .ok (.istore 23, 2) := by decide +kernel
theorem dX13_assign_138 : decode cX13_assign 138 = .ok (.iload 5, 2) := by decide +kernel
theorem dX13_assign_14 : decode cX13_assign 14 = .ok (.aload_n 0, 1) := by decide +kernel
theorem dX13_assign_140 : decode cX13_assign 140 = .ok (.ifCond .ne 31, 3) := by decide +kernel
theorem dX13_assign_143 : decode cX13_assign 143 = .ok (.iload_n 1, 1) := by decide +kernel
theorem dX13_assign_144 : decode cX13_assign 144 = .ok (.istore 22, 2) := by decide +kernel
theorem dX13_assign_146 : decode cX13_assign 146 = .ok (.iconst 0, 1) := by decide +kernel
theorem dX13_assign_147 : decode cX13_assign 147 = .ok (.istore 24, 2) := by decide +kernel
theorem dX13_assign_149 : decode cX13_assign 149 = .ok (.iload 24, 2) := by decide +kernel
theorem dX13_assign_15 : decode cX13_assign 15 = .ok (.getfield 42, 3) := by decide +kernel
theorem dX13_assign_151 : decode cX13_assign 151 = .ok (.iload 17, 2) := by decide +kernel
theorem dX13_assign_153 : decode cX13_assign 153 = .ok (.if_icmp .ge 18, 3) := by decide +kernel
theorem dX13_assign_156 : decode cX13_assign 156 = .ok (.aload_n 0, 1) := by decide +kernel
theorem dX13_assign_157 : decode cX13_assign 157 = .ok (.getfield 42, 3) := by decide +kernel
theorem dX13_assign_160 : decode cX13_assign 160 = .ok (.iload 22, 2) := by decide +kernel
theorem dX13_assign_162 : decode cX13_assign 162 = .ok (.iaload, 1) := by decide +kernel
theorem dX13_assign_163 : decode cX13_assign 163 = .ok (.istore 22, 2) := by decide +kernel
theorem dX13_assign_165 : decode cX13_assign 165 = .ok (.iinc 24 1, 3) := by decide +kernel
theorem dX13_assign_168 : decode cX13_assign 168 = .ok (.goto (-19), 3) := by decide +kernel
theorem dX13_assign_171 : decode cX13_assign 171 = .ok (.iload 18, 2) := by decide +kernel
theorem dX13_assign_173 : decode cX13_assign 173 = .ok (.aload_n 0, 1) := by decide +kernel
theorem dX13_assign_174 : decode cX13_assign 174 = .ok (.iload 22, 2) := by decide +kernel
theorem dX13_assign_176 : decode cX13_assign 176 = .ok (.iload 23, 2) := by decide +kernel
theorem dX13_assign_178 : decode cX13_assign 178 = .ok (.invokestatic 1233, 3) := by decide +kernel
theorem dX13_assign_18 : decode cX13_assign 18 = .ok (.iload 7, 2) := by decide +kernel
theorem dX13_assign_181 : decode cX13_assign 181 = .ok (.ifCond .eq 10, 3) := by decide +kernel
theorem dX13_assign_184 : decode cX13_assign 184 = .ok (.iconst 1, 1) := by decide +kernel
theorem dX13_assign_185 : decode cX13_assign 185 = .ok (.iload 21, 2) := by decide +kernel
theorem dX13_assign_187 : decode cX13_assign 187 = .ok (.ishl, 1) := by decide +kernel
theorem dX13_assign_188 : decode cX13_assign 188 = .ok (.goto 4, 3) := by decide +kernel
theorem dX13_assign_191 : decode cX13_assign 191 = .ok (.iconst 0, 1) := by decide +kernel
theorem dX13_assign_192 : decode cX13_assign 192 = .ok (.ior, 1) := by decide +kernel
theorem dX13_assign_193 : decode cX13_assign 193 = .ok (.istore 18, 2) := by decide +kernel
theorem dX13_assign_195 : decode cX13_assign 195 = .ok (.iload 5, 2) := by decide +kernel
theorem dX13_assign_197 : decode cX13_assign 197 = .ok (.ifCond .eq 13, 3) := by decide +kernel
theorem dX13_assign_20 : decode cX13_assign 20 = .ok (.iaload, 1) := by decide +kernel
theorem dX13_assign_200 : decode cX13_assign 200 = .ok (.aload_n 0, 1) := by decide +kernel
theorem dX13_assign_201 : decode cX13_assign 201 = .ok (.getfield 42, 3) := by decide +kernel
theorem dX13_assign_204 : decode cX13_assign 204 = .ok (.iload 20, 2) := by decide +kernel
theorem dX13_assign_206 : decode cX13_assign 206 = .ok (.iaload, 1) := by decide +kernel
theorem dX13_assign_207 : decode cX13_assign 207 = .ok (.goto 5, 3) := by decide +kernel
theorem dX13_assign_21 : decode cX13_assign 21 = .ok (.istore 7, 2) := by decide +kernel
theorem dX13_assign_210 : decode cX13_assign 210 = .ok (.iload 20, 2) := by decide +kernel
theorem dX13_assign_212 : decode cX13_assign 212 = .ok (.istore 20, 2) := by decide +kernel
theorem dX13_assign_214 : decode cX13_assign 214 = .ok (.iinc 21 1, 3) := by decide +kernel
theorem dX13_assign_217 : decode cX13_assign 217 = .ok (.goto (-120), 3) := by decide +kernel
theorem dX13_assign_220 : decode cX13_assign 220 = .ok (.iload 17, 2) := by decide +kernel
theorem dX13_assign_222 : decode cX13_assign 222 = .ok (.iconst 4, 1) := by decide +kernel
theorem dX13_assign_223 : decode cX13_assign 223 = .ok (.if_icmp .ge 20, 3) := by decide +kernel
theorem dX13_assign_226 : decode cX13_assign 226 = .ok (.lload 9, 2) := by decide +kernel
theorem dX13_assign_228 : decode cX13_assign 228 = .ok (.iload 18, 2) := by decide +kernel
theorem dX13_assign_23 : decode cX13_assign 23 = .ok (.goto (-17), 3) := by decide +kernel
theorem dX13_assign_230 : decode cX13_assign 230 = .ok (.i2l, 1) := by decide +kernel
theorem dX13_assign_231 : decode cX13_assign 231 = .ok (.bipush 16, 2) := by decide +kernel
theorem dX13_assign_233 : decode cX13_assign 233 = .ok (.iload 17, 2) := by decide +kernel
theorem dX13_assign_235 : decode cX13_assign 235 = .ok (.imul, 1) := by decide +kernel
theorem dX13_assign_236 : decode cX13_assign 236 = .ok (.lshl, 1) := by decide +kernel
theorem dX13_assign_237 : decode cX13_assign 237 = .ok (.lor, 1) := by decide +kernel
theorem dX13_assign_238 : decode cX13_assign 238 = .ok (.lstore 9, 2) := by decide +kernel
theorem dX13_assign_240 : decode cX13_assign 240 = .ok (.goto 73, 3) := by decide +kernel
theorem dX13_assign_243 : decode cX13_assign 243 = .ok (.iload 17, 2) := by decide +kernel
theorem dX13_assign_245 : decode cX13_assign 245 = .ok (.bipush 8, 2) := by decide +kernel
theorem dX13_assign_247 : decode cX13_assign 247 = .ok (.if_icmp .ge 22, 3) := by decide +kernel
theorem dX13_assign_250 : decode cX13_assign 250 = .ok (.lload 11, 2) := by decide +kernel
theorem dX13_assign_252 : decode cX13_assign 252 = .ok (.iload 18, 2) := by decide +kernel
theorem dX13_assign_254 : decode cX13_assign 254 = .ok (.i2l, 1) := by decide +kernel
theorem dX13_assign_255 : decode cX13_assign 255 = .ok (.bipush 16, 2) := by decide +kernel
theorem dX13_assign_257 : decode cX13_assign 257 = .ok (.iload 17, 2) := by decide +kernel
theorem dX13_assign_259 : decode cX13_assign 259 = .ok (.iconst 4, 1) := by decide +kernel
theorem dX13_assign_26 : decode cX13_assign 26 = .ok (.iload 5, 2) := by decide +kernel
theorem dX13_assign_260 : decode cX13_assign 260 = .ok (.isub, 1) := by decide +kernel
theorem dX13_assign_261 : decode cX13_assign 261 = .ok (.imul, 1) := by decide +kernel
theorem dX13_assign_262 : decode cX13_assign 262 = .ok (.lshl, 1) := by decide +kernel
theorem dX13_assign_263 : decode cX13_assign 263 = .ok (.lor, 1) := by decide +kernel
theorem dX13_assign_264 : decode cX13_assign 264 = .ok (.lstore 11, 2) := by decide +kernel
theorem dX13_assign_266 : decode cX13_assign 266 = .ok (.goto 47, 3) := by decide +kernel
theorem dX13_assign_269 : decode cX13_assign 269 = .ok (.iload 17, 2) := by decide +kernel
theorem dX13_assign_271 : decode cX13_assign 271 = .ok (.bipush 12, 2) := by decide +kernel
theorem dX13_assign_273 : decode cX13_assign 273 = .ok (.if_icmp .ge 23, 3) := by decide +kernel
theorem dX13_assign_276 : decode cX13_assign 276 = .ok (.lload 13, 2) := by decide +kernel
theorem dX13_assign_278 : decode cX13_assign 278 = .ok (.iload 18, 2) := by decide +kernel
theorem dX13_assign_28 : decode cX13_assign 28 = .ok (.ifCond .eq 8, 3) := by decide +kernel
theorem dX13_assign_280 : decode cX13_assign 280 = .ok (.i2l, 1) := by decide +kernel
theorem dX13_assign_281 : decode cX13_assign 281 = .ok (.bipush 16, 2) := by decide +kernel
theorem dX13_assign_283 : decode cX13_assign 283 = .ok (.iload 17, 2) := by decide +kernel
theorem dX13_assign_285 : decode cX13_assign 285 = .ok (.bipush 8, 2) := by decide +kernel
theorem dX13_assign_287 : decode cX13_assign 287 = .ok (.isub, 1) := by decide +kernel
theorem dX13_assign_288 : decode cX13_assign 288 = .ok (.imul, 1) := by decide +kernel
theorem dX13_assign_289 : decode cX13_assign 289 = .ok (.lshl, 1) := by decide +kernel
theorem dX13_assign_290 : decode cX13_assign 290 = .ok (.lor, 1) := by decide +kernel
theorem dX13_assign_291 : decode cX13_assign 291 = .ok (.lstore 13, 2) := by decide +kernel
theorem dX13_assign_293 : decode cX13_assign 293 = .ok (.goto 20, 3) := by decide +kernel
theorem dX13_assign_296 : decode cX13_assign 296 = .ok (.lload 15, 2) := by decide +kernel
theorem dX13_assign_298 : decode cX13_assign 298 = .ok (.iload 18, 2) := by decide +kernel
theorem dX13_assign_3 : decode cX13_assign 3 = .ok (.iload_n 1, 1) := by decide +kernel
theorem dX13_assign_300 : decode cX13_assign 300 = .ok (.i2l, 1) := by decide +kernel
theorem dX13_assign_301 : decode cX13_assign 301 = .ok (.bipush 16, 2) := by decide +kernel
theorem dX13_assign_303 : decode cX13_assign 303 = .ok (.iload 17, 2) := by decide +kernel
theorem dX13_assign_305 : decode cX13_assign 305 = .ok (.bipush 12, 2) := by decide +kernel
theorem dX13_assign_307 : decode cX13_assign 307 = .ok (.isub, 1) := by decide +kernel
theorem dX13_assign_308 : decode cX13_assign 308 = .ok (.imul, 1) := by decide +kernel
theorem dX13_assign_309 : decode cX13_assign 309 = .ok (.lshl, 1) := by decide +kernel
theorem dX13_assign_31 : decode cX13_assign 31 = .ok (.iload 4, 2) := by decide +kernel
theorem dX13_assign_310 : decode cX13_assign 310 = .ok (.lor, 1) := by decide +kernel
theorem dX13_assign_311 : decode cX13_assign 311 = .ok (.lstore 15, 2) := by decide +kernel
theorem dX13_assign_313 : decode cX13_assign 313 = .ok (.iinc 17 1, 3) := by decide +kernel
theorem dX13_assign_316 : decode cX13_assign 316 = .ok (.goto (-238), 3) := by decide +kernel
theorem dX13_assign_319 : decode cX13_assign 319 = .ok (.aload_n 0, 1) := by decide +kernel
theorem dX13_assign_320 : decode cX13_assign 320 = .ok (.lload 9, 2) := by decide +kernel
theorem dX13_assign_322 : decode cX13_assign 322 = .ok (.lload 11, 2) := by decide +kernel
theorem dX13_assign_324 : decode cX13_assign 324 = .ok (.lload 13, 2) := by decide +kernel
theorem dX13_assign_326 : decode cX13_assign 326 = .ok (.lload 15, 2) := by decide +kernel
theorem dX13_assign_328 : decode cX13_assign 328 = .ok (.iload 7, 2) := by decide +kernel
theorem dX13_assign_33 : decode cX13_assign 33 = .ok (.goto 5, 3) := by decide +kernel
theorem dX13_assign_330 : decode cX13_assign 330 = .ok (.iload 8, 2) := by decide +kernel
theorem dX13_assign_332 : decode cX13_assign 332 = .ok (.invokevirtual 1273, 3) := by decide +kernel
theorem dX13_assign_335 : decode cX13_assign 335 = .ok (.ireturn, 1) := by decide +kernel
theorem dX13_assign_36 : decode cX13_assign 36 = .ok (.iload 6, 2) := by decide +kernel
theorem dX13_assign_38 : decode cX13_assign 38 = .ok (.istore 7, 2) := by decide +kernel
theorem dX13_assign_4 : decode cX13_assign 4 = .ok (.istore 7, 2) := by decide +kernel
theorem dX13_assign_40 : decode cX13_assign 40 = .ok (.iload 5, 2) := by decide +kernel
theorem dX13_assign_42 : decode cX13_assign 42 = .ok (.ifCond .eq 8, 3) := by decide +kernel
theorem dX13_assign_45 : decode cX13_assign 45 = .ok (.iload 6, 2) := by decide +kernel
theorem dX13_assign_47 : decode cX13_assign 47 = .ok (.goto 5, 3) := by decide +kernel
theorem dX13_assign_50 : decode cX13_assign 50 = .ok (.iload 4, 2) := by decide +kernel
theorem dX13_assign_52 : decode cX13_assign 52 = .ok (.istore 8, 2) := by decide +kernel
theorem dX13_assign_54 : decode cX13_assign 54 = .ok (.iload 7, 2) := by decide +kernel
theorem dX13_assign_56 : decode cX13_assign 56 = .ok (.iload 8, 2) := by decide +kernel
theorem dX13_assign_58 : decode cX13_assign 58 = .ok (.if_icmp .le 5, 3) := by decide +kernel
theorem dX13_assign_6 : decode cX13_assign 6 = .ok (.iload 7, 2) := by decide +kernel
theorem dX13_assign_61 : decode cX13_assign 61 = .ok (.iconst 0, 1) := by decide +kernel
theorem dX13_assign_62 : decode cX13_assign 62 = .ok (.ireturn, 1) := by decide +kernel
theorem dX13_assign_63 : decode cX13_assign 63 = .ok (.lconst 0, 1) := by decide +kernel
theorem dX13_assign_64 : decode cX13_assign 64 = .ok (.lstore 9, 2) := by decide +kernel
theorem dX13_assign_66 : decode cX13_assign 66 = .ok (.lconst 0, 1) := by decide +kernel
theorem dX13_assign_67 : decode cX13_assign 67 = .ok (.lstore 11, 2) := by decide +kernel
theorem dX13_assign_69 : decode cX13_assign 69 = .ok (.lconst 0, 1) := by decide +kernel
theorem dX13_assign_70 : decode cX13_assign 70 = .ok (.lstore 13, 2) := by decide +kernel
theorem dX13_assign_72 : decode cX13_assign 72 = .ok (.lconst 0, 1) := by decide +kernel
theorem dX13_assign_73 : decode cX13_assign 73 = .ok (.lstore 15, 2) := by decide +kernel
theorem dX13_assign_75 : decode cX13_assign 75 = .ok (.iconst 0, 1) := by decide +kernel
theorem dX13_assign_76 : decode cX13_assign 76 = .ok (.istore 17, 2) := by decide +kernel
theorem dX13_assign_78 : decode cX13_assign 78 = .ok (.iload 17, 2) := by decide +kernel
theorem dX13_assign_8 : decode cX13_assign 8 = .ok (.ifCond .lt 18, 3) := by decide +kernel
theorem dX13_assign_80 : decode cX13_assign 80 = .ok (.iload 7, 2) := by decide +kernel
theorem dX13_assign_82 : decode cX13_assign 82 = .ok (.if_icmp .ge 237, 3) := by decide +kernel
theorem dX13_assign_85 : decode cX13_assign 85 = .ok (.iconst 0, 1) := by decide +kernel
theorem dX13_assign_86 : decode cX13_assign 86 = .ok (.istore 18, 2) := by decide +kernel
theorem dX13_assign_88 : decode cX13_assign 88 = .ok (.iconst 0, 1) := by decide +kernel
theorem dX13_assign_89 : decode cX13_assign 89 = .ok (.istore 19, 2) := by decide +kernel
theorem dX13_assign_91 : decode cX13_assign 91 = .ok (.iload_n 1, 1) := by decide +kernel
theorem dX13_assign_92 : decode cX13_assign 92 = .ok (.istore 20, 2) := by decide +kernel
theorem dX13_assign_94 : decode cX13_assign 94 = .ok (.iconst 0, 1) := by decide +kernel
theorem dX13_assign_95 : decode cX13_assign 95 = .ok (.istore 21, 2) := by decide +kernel
theorem dX13_assign_97 : decode cX13_assign 97 = .ok (.iload 21, 2) := by decide +kernel
theorem dX13_assign_99 : decode cX13_assign 99 = .ok (.iload 8, 2) := by decide +kernel
theorem dX13_lengthMatch_0 : decode cX13_lengthMatch 0 = .ok (.iload_n 2, 1) := by decide +kernel
theorem dX13_lengthMatch_1 : decode cX13_lengthMatch 1 = .ok (.ifCond .lt 33, 3) := by decide +kernel
theorem dX13_lengthMatch_10 : decode cX13_lengthMatch 10 = .ok (.ldc2_w 994, 3) := by decide +kernel
theorem dX13_lengthMatch_13 : decode cX13_lengthMatch 13 = .ok (.lcmp, 1) := by decide +kernel
theorem dX13_lengthMatch_14 : decode cX13_lengthMatch 14 = .ok (.ifCond .eq 16, 3) := by decide +kernel
theorem dX13_lengthMatch_17 : decode cX13_lengthMatch 17 = .ok (.aload_n 0, 1) := by decide +kernel
theorem dX13_lengthMatch_18 : decode cX13_lengthMatch 18 = .ok (.getfield 182, 3) := by decide +kernel
theorem dX13_lengthMatch_21 : decode cX13_lengthMatch 21 = .ok (.iload_n 2, 1) := by decide +kernel
theorem dX13_lengthMatch_22 : decode cX13_lengthMatch 22 = .ok (.laload, 1) := by decide +kernel
theorem dX13_lengthMatch_23 : decode cX13_lengthMatch 23 = .ok (.ldc2_w 951, 3) := by decide +kernel
theorem dX13_lengthMatch_26 : decode cX13_lengthMatch 26 = .ok (.lcmp, 1) := by decide +kernel
theorem dX13_lengthMatch_27 : decode cX13_lengthMatch 27 = .ok (.ifCond .ne 7, 3) := by decide +kernel
theorem dX13_lengthMatch_30 : decode cX13_lengthMatch 30 = .ok (.iconst 1, 1) := by decide +kernel
theorem dX13_lengthMatch_31 : decode cX13_lengthMatch 31 = .ok (.goto 4, 3) := by decide +kernel
theorem dX13_lengthMatch_34 : decode cX13_lengthMatch 34 = .ok (.iconst 0, 1) := by decide +kernel
theorem dX13_lengthMatch_35 : decode cX13_lengthMatch 35 = .ok (.istore_n 3, 1) := by decide +kernel
theorem dX13_lengthMatch_36 : decode cX13_lengthMatch 36 = .ok (.iload_n 3, 1) := by decide +kernel
theorem dX13_lengthMatch_37 : decode cX13_lengthMatch 37 = .ok (.ifCond .eq 47, 3) := by decide +kernel
theorem dX13_lengthMatch_4 : decode cX13_lengthMatch 4 = .ok (.aload_n 0, 1) := by decide +kernel
theorem dX13_lengthMatch_40 : decode cX13_lengthMatch 40 = .ok (.aload_n 0, 1) := by decide +kernel
theorem dX13_lengthMatch_41 : decode cX13_lengthMatch 41 = .ok (.getfield 182, 3) := by decide +kernel
theorem dX13_lengthMatch_44 : decode cX13_lengthMatch 44 = .ok (.iload_n 2, 1) := by decide +kernel
theorem dX13_lengthMatch_45 : decode cX13_lengthMatch 45 = .ok (.iconst 1, 1) := by decide +kernel
theorem dX13_lengthMatch_46 : decode cX13_lengthMatch 46 = .ok (.iadd, 1) := by decide +kernel
theorem dX13_lengthMatch_47 : decode cX13_lengthMatch 47 = .ok (.laload, 1) := by decide +kernel
theorem dX13_lengthMatch_48 : decode cX13_lengthMatch 48 = .ok (.aload_n 0, 1) := by decide +kernel
theorem dX13_lengthMatch_49 : decode cX13_lengthMatch 49 = .ok (.getfield 32, 3) := by decide +kernel
theorem dX13_lengthMatch_5 : decode cX13_lengthMatch 5 = .ok (.getfield 182, 3) := by decide +kernel
theorem dX13_lengthMatch_52 : decode cX13_lengthMatch 52 = .ok (.iload_n 1, 1) := by decide +kernel
theorem dX13_lengthMatch_53 : decode cX13_lengthMatch 53 = .ok (.laload, 1) := by decide +kernel
theorem dX13_lengthMatch_54 : decode cX13_lengthMatch 54 = .ok (.aload_n 0, 1) := by decide +kernel
theorem dX13_lengthMatch_55 : decode cX13_lengthMatch 55 = .ok (.getfield 36, 3) := by decide +kernel
theorem dX13_lengthMatch_58 : decode cX13_lengthMatch 58 = .ok (.iload_n 1, 1) := by decide +kernel
theorem dX13_lengthMatch_59 : decode cX13_lengthMatch 59 = .ok (.laload, 1) := by decide +kernel
theorem dX13_lengthMatch_60 : decode cX13_lengthMatch 60 = .ok (.invokestatic 371, 3) := by decide +kernel
theorem dX13_lengthMatch_63 : decode cX13_lengthMatch 63 = .ok (.ifCond .eq 21, 3) := by decide +kernel
theorem dX13_lengthMatch_66 : decode cX13_lengthMatch 66 = .ok (.aload_n 0, 1) := by decide +kernel
theorem dX13_lengthMatch_67 : decode cX13_lengthMatch 67 = .ok (.aload_n 0, 1) := by decide +kernel
theorem dX13_lengthMatch_68 : decode cX13_lengthMatch 68 = .ok (.getfield 39, 3) := by decide +kernel
theorem dX13_lengthMatch_71 : decode cX13_lengthMatch 71 = .ok (.iload_n 1, 1) := by decide +kernel
theorem dX13_lengthMatch_72 : decode cX13_lengthMatch 72 = .ok (.iaload, 1) := by decide +kernel
theorem dX13_lengthMatch_73 : decode cX13_lengthMatch 73 = .ok (.iload_n 2, 1) := by decide +kernel
theorem dX13_lengthMatch_74 : decode cX13_lengthMatch 74 = .ok (.invokestatic 1233, 3) := by decide +kernel
theorem dX13_lengthMatch_77 : decode cX13_lengthMatch 77 = .ok (.ifCond .eq 7, 3) := by decide +kernel
theorem dX13_lengthMatch_8 : decode cX13_lengthMatch 8 = .ok (.iload_n 2, 1) := by decide +kernel
theorem dX13_lengthMatch_80 : decode cX13_lengthMatch 80 = .ok (.iconst 1, 1) := by decide +kernel
theorem dX13_lengthMatch_81 : decode cX13_lengthMatch 81 = .ok (.goto 4, 3) := by decide +kernel
theorem dX13_lengthMatch_84 : decode cX13_lengthMatch 84 = .ok (.iconst 0, 1) := by decide +kernel
theorem dX13_lengthMatch_85 : decode cX13_lengthMatch 85 = .ok (.ireturn, 1) := by decide +kernel
theorem dX13_lengthMatch_9 : decode cX13_lengthMatch 9 = .ok (.laload, 1) := by decide +kernel
theorem dX13_listMatch_0 : decode cX13_listMatch 0 = .ok (.aload_n 0, 1) := by decide +kernel
theorem dX13_listMatch_1 : decode cX13_listMatch 1 = .ok (.getfield 182, 3) := by decide +kernel
theorem dX13_listMatch_10 : decode cX13_listMatch 10 = .ok (.iconst 1, 1) := by decide +kernel
theorem dX13_listMatch_100 : decode cX13_listMatch 100 = .ok (.ishr, 1) := by decide +kernel
theorem dX13_listMatch_101 : decode cX13_listMatch 101 = .ok (.iconst 1, 1) := by decide +kernel
theorem dX13_listMatch_102 : decode cX13_listMatch 102 = .ok (.iand, 1) := by decide +kernel
theorem dX13_listMatch_103 : decode cX13_listMatch 103 = .ok (.iconst 1, 1) := by decide +kernel
theorem dX13_listMatch_104 : decode cX13_listMatch 104 = .ok (.if_icmp .ne 113, 3) := by decide +kernel
theorem dX13_listMatch_107 : decode cX13_listMatch 107 = .ok (.iload 7, 2) := by decide +kernel
theorem dX13_listMatch_109 : decode cX13_listMatch 109 = .ok (.ifCond .eq 31, 3) := by decide +kernel
theorem dX13_listMatch_11 : decode cX13_listMatch 11 = .ok (.istore 4, 2) := by decide +kernel
theorem dX13_listMatch_112 : decode cX13_listMatch 112 = .ok (.iload 9, 2) := by decide +kernel
theorem dX13_listMatch_114 : decode cX13_listMatch 114 = .ok (.istore 10, 2) := by decide +kernel
theorem dX13_listMatch_116 : decode cX13_listMatch 116 = .ok (.iload 10, 2) := by decide +kernel
theorem dX13_listMatch_118 : decode cX13_listMatch 118 = .ok (.iload_n 3, 1) := by decide +kernel
theorem dX13_listMatch_119 : decode cX13_listMatch 119 = .ok (.if_icmp .gt 18, 3) := by decide +kernel
theorem dX13_listMatch_122 : decode cX13_listMatch 122 = .ok (.iload 6, 2) := by decide +kernel
theorem dX13_listMatch_124 : decode cX13_listMatch 124 = .ok (.iconst 1, 1) := by decide +kernel
theorem dX13_listMatch_125 : decode cX13_listMatch 125 = .ok (.iload 10, 2) := by decide +kernel
theorem dX13_listMatch_127 : decode cX13_listMatch 127 = .ok (.ishl, 1) := by decide +kernel
theorem dX13_listMatch_128 : decode cX13_listMatch 128 = .ok (.ior, 1) := by decide +kernel
theorem dX13_listMatch_129 : decode cX13_listMatch 129 = .ok (.istore 6, 2) := by decide +kernel
theorem dX13_listMatch_13 : decode cX13_listMatch 13 = .ok (.aload_n 0, 1) := by decide +kernel
theorem dX13_listMatch_131 : decode cX13_listMatch 131 = .ok (.iinc 10 1, 3) := by decide +kernel
theorem dX13_listMatch_134 : decode cX13_listMatch 134 = .ok (.goto (-18), 3) := by decide +kernel
theorem dX13_listMatch_137 : decode cX13_listMatch 137 = .ok (.goto 80, 3) := by decide +kernel
theorem dX13_listMatch_14 : decode cX13_listMatch 14 = .ok (.getfield 39, 3) := by decide +kernel
theorem dX13_listMatch_140 : decode cX13_listMatch 140 = .ok (.iload 9, 2) := by decide +kernel
theorem dX13_listMatch_142 : decode cX13_listMatch 142 = .ok (.iload 8, 2) := by decide +kernel
theorem dX13_listMatch_144 : decode cX13_listMatch 144 = .ok (.iadd, 1) := by decide +kernel
theorem dX13_listMatch_145 : decode cX13_listMatch 145 = .ok (.iload_n 3, 1) := by decide +kernel
theorem dX13_listMatch_146 : decode cX13_listMatch 146 = .ok (.if_icmp .gt 71, 3) := by decide +kernel
theorem dX13_listMatch_149 : decode cX13_listMatch 149 = .ok (.aload_n 0, 1) := by decide +kernel
theorem dX13_listMatch_150 : decode cX13_listMatch 150 = .ok (.getfield 26, 3) := by decide +kernel
theorem dX13_listMatch_153 : decode cX13_listMatch 153 = .ok (.iload 5, 2) := by decide +kernel
theorem dX13_listMatch_155 : decode cX13_listMatch 155 = .ok (.iaload, 1) := by decide +kernel
theorem dX13_listMatch_156 : decode cX13_listMatch 156 = .ok (.bipush 39, 2) := by decide +kernel
theorem dX13_listMatch_158 : decode cX13_listMatch 158 = .ok (.if_icmp .ne 23, 3) := by decide +kernel
theorem dX13_listMatch_161 : decode cX13_listMatch 161 = .ok (.aload_n 0, 1) := by decide +kernel
theorem dX13_listMatch_162 : decode cX13_listMatch 162 = .ok (.aload_n 0, 1) := by decide +kernel
theorem dX13_listMatch_163 : decode cX13_listMatch 163 = .ok (.getfield 39, 3) := by decide +kernel
theorem dX13_listMatch_166 : decode cX13_listMatch 166 = .ok (.iload 5, 2) := by decide +kernel
theorem dX13_listMatch_168 : decode cX13_listMatch 168 = .ok (.iaload, 1) := by decide +kernel
theorem dX13_listMatch_169 : decode cX13_listMatch 169 = .ok (.iload_n 2, 1) := by decide +kernel
theorem dX13_listMatch_17 : decode cX13_listMatch 17 = .ok (.iload_n 1, 1) := by decide +kernel
theorem dX13_listMatch_170 : decode cX13_listMatch 170 = .ok (.iload 9, 2) := by decide +kernel
theorem dX13_listMatch_172 : decode cX13_listMatch 172 = .ok (.iload 8, 2) := by decide +kernel
theorem dX13_listMatch_174 : decode cX13_listMatch 174 = .ok (.iconst 1, 1) := by decide +kernel
theorem dX13_listMatch_175 : decode cX13_listMatch 175 = .ok (.invokestatic 1269, 3) := by decide +kernel
theorem dX13_listMatch_178 : decode cX13_listMatch 178 = .ok (.goto 16, 3) := by decide +kernel
theorem dX13_listMatch_18 : decode cX13_listMatch 18 = .ok (.iaload, 1) := by decide +kernel
theorem dX13_listMatch_181 : decode cX13_listMatch 181 = .ok (.aload_n 0, 1) := by decide +kernel
theorem dX13_listMatch_182 : decode cX13_listMatch 182 = .ok (.iload 5, 2) := by decide +kernel
theorem dX13_listMatch_184 : decode cX13_listMatch 184 = .ok (.aload_n 0, 1) := by decide +kernel
theorem dX13_listMatch_185 : decode cX13_listMatch 185 = .ok (.iload_n 2, 1) := by decide +kernel
theorem dX13_listMatch_186 : decode cX13_listMatch 186 = .ok (.iload 9, 2) := by decide +kernel
theorem dX13_listMatch_188 : decode cX13_listMatch 188 = .ok (.invokevirtual 855, 3) := by decide +kernel
theorem dX13_listMatch_19 : decode cX13_listMatch 19 = .ok (.istore 5, 2) := by decide +kernel
theorem dX13_listMatch_191 : decode cX13_listMatch 191 = .ok (.invokestatic 1233, 3) := by decide +kernel
theorem dX13_listMatch_194 : decode cX13_listMatch 194 = .ok (.istore 10, 2) := by decide +kernel
theorem dX13_listMatch_196 : decode cX13_listMatch 196 = .ok (.iload 6, 2) := by decide +kernel
theorem dX13_listMatch_198 : decode cX13_listMatch 198 = .ok (.iload 10, 2) := by decide +kernel
theorem dX13_listMatch_200 : decode cX13_listMatch 200 = .ok (.ifCond .eq 13, 3) := by decide +kernel
theorem dX13_listMatch_203 : decode cX13_listMatch 203 = .ok (.iconst 1, 1) := by decide +kernel
theorem dX13_listMatch_204 : decode cX13_listMatch 204 = .ok (.iload 9, 2) := by decide +kernel
theorem dX13_listMatch_206 : decode cX13_listMatch 206 = .ok (.iload 8, 2) := by decide +kernel
theorem dX13_listMatch_208 : decode cX13_listMatch 208 = .ok (.iadd, 1) := by decide +kernel
theorem dX13_listMatch_209 : decode cX13_listMatch 209 = .ok (.ishl, 1) := by decide +kernel
theorem dX13_listMatch_21 : decode cX13_listMatch 21 = .ok (.iload 5, 2) := by decide +kernel
theorem dX13_listMatch_210 : decode cX13_listMatch 210 = .ok (.goto 4, 3) := by decide +kernel
theorem dX13_listMatch_213 : decode cX13_listMatch 213 = .ok (.iconst 0, 1) := by decide +kernel
theorem dX13_listMatch_214 : decode cX13_listMatch 214 = .ok (.ior, 1) := by decide +kernel
theorem dX13_listMatch_215 : decode cX13_listMatch 215 = .ok (.istore 6, 2) := by decide +kernel
theorem dX13_listMatch_217 : decode cX13_listMatch 217 = .ok (.iinc 9 1, 3) := by decide +kernel
theorem dX13_listMatch_220 : decode cX13_listMatch 220 = .ok (.goto (-130), 3) := by decide +kernel
theorem dX13_listMatch_223 : decode cX13_listMatch 223 = .ok (.iload 6, 2) := by decide +kernel
theorem dX13_listMatch_225 : decode cX13_listMatch 225 = .ok (.istore 4, 2) := by decide +kernel
theorem dX13_listMatch_227 : decode cX13_listMatch 227 = .ok (.aload_n 0, 1) := by decide +kernel
theorem dX13_listMatch_228 : decode cX13_listMatch 228 = .ok (.getfield 42, 3) := by decide +kernel
theorem dX13_listMatch_23 : decode cX13_listMatch 23 = .ok (.ifCond .lt 216, 3) := by decide +kernel
theorem dX13_listMatch_231 : decode cX13_listMatch 231 = .ok (.iload 5, 2) := by decide +kernel
theorem dX13_listMatch_233 : decode cX13_listMatch 233 = .ok (.iaload, 1) := by decide +kernel
theorem dX13_listMatch_234 : decode cX13_listMatch 234 = .ok (.istore 5, 2) := by decide +kernel
theorem dX13_listMatch_236 : decode cX13_listMatch 236 = .ok (.goto (-215), 3) := by decide +kernel
theorem dX13_listMatch_239 : decode cX13_listMatch 239 = .ok (.iload 4, 2) := by decide +kernel
theorem dX13_listMatch_241 : decode cX13_listMatch 241 = .ok (.iload_n 3, 1) := by decide +kernel
theorem dX13_listMatch_242 : decode cX13_listMatch 242 = .ok (.ishr, 1) := by decide +kernel
theorem dX13_listMatch_243 : decode cX13_listMatch 243 = .ok (.iconst 1, 1) := by decide +kernel
theorem dX13_listMatch_244 : decode cX13_listMatch 244 = .ok (.iand, 1) := by decide +kernel
theorem dX13_listMatch_245 : decode cX13_listMatch 245 = .ok (.iconst 1, 1) := by decide +kernel
theorem dX13_listMatch_246 : decode cX13_listMatch 246 = .ok (.if_icmp .ne 7, 3) := by decide +kernel
theorem dX13_listMatch_249 : decode cX13_listMatch 249 = .ok (.iconst 1, 1) := by decide +kernel
theorem dX13_listMatch_250 : decode cX13_listMatch 250 = .ok (.goto 4, 3) := by decide +kernel
theorem dX13_listMatch_253 : decode cX13_listMatch 253 = .ok (.iconst 0, 1) := by decide +kernel
theorem dX13_listMatch_254 : decode cX13_listMatch 254 = .ok (.ireturn, 1) := by decide +kernel
theorem dX13_listMatch_26 : decode cX13_listMatch 26 = .ok (.iload 4, 2) := by decide +kernel
theorem dX13_listMatch_28 : decode cX13_listMatch 28 = .ok (.ifCond .eq 211, 3) := by decide +kernel
theorem dX13_listMatch_31 : decode cX13_listMatch 31 = .ok (.iconst 0, 1) := by decide +kernel
theorem dX13_listMatch_32 : decode cX13_listMatch 32 = .ok (.istore 6, 2) := by decide +kernel
theorem dX13_listMatch_34 : decode cX13_listMatch 34 = .ok (.aload_n 0, 1) := by decide +kernel
theorem dX13_listMatch_35 : decode cX13_listMatch 35 = .ok (.getfield 26, 3) := by decide +kernel
theorem dX13_listMatch_38 : decode cX13_listMatch 38 = .ok (.iload 5, 2) := by decide +kernel
theorem dX13_listMatch_4 : decode cX13_listMatch 4 = .ok (.iload_n 2, 1) := by decide +kernel
theorem dX13_listMatch_40 : decode cX13_listMatch 40 = .ok (.iaload, 1) := by decide +kernel
theorem dX13_listMatch_41 : decode cX13_listMatch 41 = .ok (.bipush 21, 2) := by decide +kernel
theorem dX13_listMatch_43 : decode cX13_listMatch 43 = .ok (.if_icmp .ne 17, 3) := by decide +kernel
theorem dX13_listMatch_46 : decode cX13_listMatch 46 = .ok (.aload_n 0, 1) := by decide +kernel
theorem dX13_listMatch_47 : decode cX13_listMatch 47 = .ok (.getfield 45, 3) := by decide +kernel
theorem dX13_listMatch_5 : decode cX13_listMatch 5 = .ok (.iconst 1, 1) := by decide +kernel
theorem dX13_listMatch_50 : decode cX13_listMatch 50 = .ok (.iload 5, 2) := by decide +kernel
theorem dX13_listMatch_52 : decode cX13_listMatch 52 = .ok (.iaload, 1) := by decide +kernel
theorem dX13_listMatch_53 : decode cX13_listMatch 53 = .ok (.ifCond .ne 7, 3) := by decide +kernel
theorem dX13_listMatch_56 : decode cX13_listMatch 56 = .ok (.iconst 1, 1) := by decide +kernel
theorem dX13_listMatch_57 : decode cX13_listMatch 57 = .ok (.goto 4, 3) := by decide +kernel
theorem dX13_listMatch_6 : decode cX13_listMatch 6 = .ok (.iadd, 1) := by decide +kernel
theorem dX13_listMatch_60 : decode cX13_listMatch 60 = .ok (.iconst 0, 1) := by decide +kernel
theorem dX13_listMatch_61 : decode cX13_listMatch 61 = .ok (.istore 7, 2) := by decide +kernel
theorem dX13_listMatch_63 : decode cX13_listMatch 63 = .ok (.aload_n 0, 1) := by decide +kernel
theorem dX13_listMatch_64 : decode cX13_listMatch 64 = .ok (.getfield 26, 3) := by decide +kernel
theorem dX13_listMatch_67 : decode cX13_listMatch 67 = .ok (.iload 5, 2) := by decide +kernel
theorem dX13_listMatch_69 : decode cX13_listMatch 69 = .ok (.iaload, 1) := by decide +kernel
theorem dX13_listMatch_7 : decode cX13_listMatch 7 = .ok (.laload, 1) := by decide +kernel
theorem dX13_listMatch_70 : decode cX13_listMatch 70 = .ok (.bipush 39, 2) := by decide +kernel
theorem dX13_listMatch_72 : decode cX13_listMatch 72 = .ok (.if_icmp .ne 12, 3) := by decide +kernel
theorem dX13_listMatch_75 : decode cX13_listMatch 75 = .ok (.aload_n 0, 1) := by decide +kernel
theorem dX13_listMatch_76 : decode cX13_listMatch 76 = .ok (.iload 5, 2) := by decide +kernel
theorem dX13_listMatch_78 : decode cX13_listMatch 78 = .ok (.invokevirtual 830, 3) := by decide +kernel
theorem dX13_listMatch_8 : decode cX13_listMatch 8 = .ok (.l2i, 1) := by decide +kernel
theorem dX13_listMatch_81 : decode cX13_listMatch 81 = .ok (.goto 4, 3) := by decide +kernel
theorem dX13_listMatch_84 : decode cX13_listMatch 84 = .ok (.iconst 1, 1) := by decide +kernel
theorem dX13_listMatch_85 : decode cX13_listMatch 85 = .ok (.istore 8, 2) := by decide +kernel
theorem dX13_listMatch_87 : decode cX13_listMatch 87 = .ok (.iconst 0, 1) := by decide +kernel
theorem dX13_listMatch_88 : decode cX13_listMatch 88 = .ok (.istore 9, 2) := by decide +kernel
theorem dX13_listMatch_9 : decode cX13_listMatch 9 = .ok (.istore_n 3, 1) := by decide +kernel
theorem dX13_listMatch_90 : decode cX13_listMatch 90 = .ok (.iload 9, 2) := by decide +kernel
theorem dX13_listMatch_92 : decode cX13_listMatch 92 = .ok (.iload_n 3, 1) := by decide +kernel
theorem dX13_listMatch_93 : decode cX13_listMatch 93 = .ok (.if_icmp .gt 130, 3) := by decide +kernel
theorem dX13_listMatch_96 : decode cX13_listMatch 96 = .ok (.iload 4, 2) := by decide +kernel
theorem dX13_listMatch_98 : decode cX13_listMatch 98 = .ok (.iload 9, 2) := by decide +kernel
theorem dX13_manyMatch_0 : decode cX13_manyMatch 0 = .ok (.aload_n 0, 1) := by decide +kernel
theorem dX13_manyMatch_1 : decode cX13_manyMatch 1 = .ok (.getfield 26, 3) := by decide +kernel
theorem dX13_manyMatch_10 : decode cX13_manyMatch 10 = .ok (.bipush 31, 2) := by decide +kernel
theorem dX13_manyMatch_100 : decode cX13_manyMatch 100 = .ok (.bipush 34, 2) := by decide +kernel
theorem dX13_manyMatch_102 : decode cX13_manyMatch 102 = .ok (.if_icmp .eq 7, 3) := by decide +kernel
theorem dX13_manyMatch_105 : decode cX13_manyMatch 105 = .ok (.iconst 1, 1) := by decide +kernel
theorem dX13_manyMatch_106 : decode cX13_manyMatch 106 = .ok (.goto 4, 3) := by decide +kernel
theorem dX13_manyMatch_109 : decode cX13_manyMatch 109 = .ok (.iconst 0, 1) := by decide +kernel
theorem dX13_manyMatch_110 : decode cX13_manyMatch 110 = .ok (.istore 5, 2) := by decide +kernel
theorem dX13_manyMatch_112 : decode cX13_manyMatch 112 = .ok (.aload_n 0, 1) := by decide +kernel
theorem dX13_manyMatch_113 : decode cX13_manyMatch 113 = .ok (.getfield 39, 3) := by decide +kernel
theorem dX13_manyMatch_116 : decode cX13_manyMatch 116 = .ok (.iload_n 1, 1) := by decide +kernel
theorem dX13_manyMatch_117 : decode cX13_manyMatch 117 = .ok (.iaload, 1) := by decide +kernel
theorem dX13_manyMatch_118 : decode cX13_manyMatch 118 = .ok (.istore 6, 2) := by decide +kernel
theorem dX13_manyMatch_12 : decode cX13_manyMatch 12 = .ok (.if_icmp .ne 24, 3) := by decide +kernel
theorem dX13_manyMatch_120 : decode cX13_manyMatch 120 = .ok (.iload 6, 2) := by decide +kernel
theorem dX13_manyMatch_122 : decode cX13_manyMatch 122 = .ok (.ifCond .lt 91, 3) := by decide +kernel
theorem dX13_manyMatch_125 : decode cX13_manyMatch 125 = .ok (.aload_n 0, 1) := by decide +kernel
theorem dX13_manyMatch_126 : decode cX13_manyMatch 126 = .ok (.iload 6, 2) := by decide +kernel
theorem dX13_manyMatch_128 : decode cX13_manyMatch 128 = .ok (.iload_n 2, 1) := by decide +kernel
theorem dX13_manyMatch_129 : decode cX13_manyMatch 129 = .ok (.invokestatic 1233, 3) := by decide +kernel
theorem dX13_manyMatch_132 : decode cX13_manyMatch 132 = .ok (.istore 7, 2) := by decide +kernel
theorem dX13_manyMatch_134 : decode cX13_manyMatch 134 = .ok (.iload 4, 2) := by decide +kernel
theorem dX13_manyMatch_136 : decode cX13_manyMatch 136 = .ok (.bipush 34, 2) := by decide +kernel
theorem dX13_manyMatch_138 : decode cX13_manyMatch 138 = .ok (.if_icmp .ne 21, 3) := by decide +kernel
theorem dX13_manyMatch_141 : decode cX13_manyMatch 141 = .ok (.iload 5, 2) := by decide +kernel
theorem dX13_manyMatch_143 : decode cX13_manyMatch 143 = .ok (.ifCond .ne 8, 3) := by decide +kernel
theorem dX13_manyMatch_146 : decode cX13_manyMatch 146 = .ok (.iload 7, 2) := by decide +kernel
theorem dX13_manyMatch_148 : decode cX13_manyMatch 148 = .ok (.ifCond .eq 7, 3) := by decide +kernel
theorem dX13_manyMatch_15 : decode cX13_manyMatch 15 = .ok (.iload_n 3, 1) := by decide +kernel
theorem dX13_manyMatch_151 : decode cX13_manyMatch 151 = .ok (.iconst 1, 1) := by decide +kernel
theorem dX13_manyMatch_152 : decode cX13_manyMatch 152 = .ok (.goto 47, 3) := by decide +kernel
theorem dX13_manyMatch_155 : decode cX13_manyMatch 155 = .ok (.iconst 0, 1) := by decide +kernel
theorem dX13_manyMatch_156 : decode cX13_manyMatch 156 = .ok (.goto 43, 3) := by decide +kernel
theorem dX13_manyMatch_159 : decode cX13_manyMatch 159 = .ok (.iload 4, 2) := by decide +kernel
theorem dX13_manyMatch_16 : decode cX13_manyMatch 16 = .ok (.bipush 8, 2) := by decide +kernel
theorem dX13_manyMatch_161 : decode cX13_manyMatch 161 = .ok (.bipush 33, 2) := by decide +kernel
theorem dX13_manyMatch_163 : decode cX13_manyMatch 163 = .ok (.if_icmp .ne 21, 3) := by decide +kernel
theorem dX13_manyMatch_166 : decode cX13_manyMatch 166 = .ok (.iload 5, 2) := by decide +kernel
theorem dX13_manyMatch_168 : decode cX13_manyMatch 168 = .ok (.ifCond .eq 12, 3) := by decide +kernel
theorem dX13_manyMatch_171 : decode cX13_manyMatch 171 = .ok (.iload 7, 2) := by decide +kernel
theorem dX13_manyMatch_173 : decode cX13_manyMatch 173 = .ok (.ifCond .eq 7, 3) := by decide +kernel
theorem dX13_manyMatch_176 : decode cX13_manyMatch 176 = .ok (.iconst 1, 1) := by decide +kernel
theorem dX13_manyMatch_177 : decode cX13_manyMatch 177 = .ok (.goto 22, 3) := by decide +kernel
theorem dX13_manyMatch_18 : decode cX13_manyMatch 18 = .ok (.if_icmp .ne 16, 3) := by decide +kernel
theorem dX13_manyMatch_180 : decode cX13_manyMatch 180 = .ok (.iconst 0, 1) := by decide +kernel
theorem dX13_manyMatch_181 : decode cX13_manyMatch 181 = .ok (.goto 18, 3) := by decide +kernel
theorem dX13_manyMatch_184 : decode cX13_manyMatch 184 = .ok (.iload 5, 2) := by decide +kernel
theorem dX13_manyMatch_186 : decode cX13_manyMatch 186 = .ok (.ifCond .eq 12, 3) := by decide +kernel
theorem dX13_manyMatch_189 : decode cX13_manyMatch 189 = .ok (.iload 7, 2) := by decide +kernel
theorem dX13_manyMatch_191 : decode cX13_manyMatch 191 = .ok (.ifCond .ne 7, 3) := by decide +kernel
theorem dX13_manyMatch_194 : decode cX13_manyMatch 194 = .ok (.iconst 1, 1) := by decide +kernel
theorem dX13_manyMatch_195 : decode cX13_manyMatch 195 = .ok (.goto 4, 3) := by decide +kernel
theorem dX13_manyMatch_198 : decode cX13_manyMatch 198 = .ok (.iconst 0, 1) := by decide +kernel
theorem dX13_manyMatch_199 : decode cX13_manyMatch 199 = .ok (.istore 5, 2) := by decide +kernel
theorem dX13_manyMatch_201 : decode cX13_manyMatch 201 = .ok (.aload_n 0, 1) := by decide +kernel
theorem dX13_manyMatch_202 : decode cX13_manyMatch 202 = .ok (.getfield 42, 3) := by decide +kernel
theorem dX13_manyMatch_205 : decode cX13_manyMatch 205 = .ok (.iload 6, 2) := by decide +kernel
theorem dX13_manyMatch_207 : decode cX13_manyMatch 207 = .ok (.iaload, 1) := by decide +kernel
theorem dX13_manyMatch_208 : decode cX13_manyMatch 208 = .ok (.istore 6, 2) := by decide +kernel
theorem dX13_manyMatch_21 : decode cX13_manyMatch 21 = .ok (.aload_n 0, 1) := by decide +kernel
theorem dX13_manyMatch_210 : decode cX13_manyMatch 210 = .ok (.goto (-90), 3) := by decide +kernel
theorem dX13_manyMatch_213 : decode cX13_manyMatch 213 = .ok (.iload 5, 2) := by decide +kernel
theorem dX13_manyMatch_215 : decode cX13_manyMatch 215 = .ok (.ireturn, 1) := by decide +kernel
theorem dX13_manyMatch_22 : decode cX13_manyMatch 22 = .ok (.iload_n 1, 1) := by decide +kernel
theorem dX13_manyMatch_23 : decode cX13_manyMatch 23 = .ok (.iload_n 2, 1) := by decide +kernel
theorem dX13_manyMatch_24 : decode cX13_manyMatch 24 = .ok (.invokestatic 1266, 3) := by decide +kernel
theorem dX13_manyMatch_27 : decode cX13_manyMatch 27 = .ok (.ifCond .eq 7, 3) := by decide +kernel
theorem dX13_manyMatch_30 : decode cX13_manyMatch 30 = .ok (.iconst 1, 1) := by decide +kernel
theorem dX13_manyMatch_31 : decode cX13_manyMatch 31 = .ok (.goto 4, 3) := by decide +kernel
theorem dX13_manyMatch_34 : decode cX13_manyMatch 34 = .ok (.iconst 0, 1) := by decide +kernel
theorem dX13_manyMatch_35 : decode cX13_manyMatch 35 = .ok (.ireturn, 1) := by decide +kernel
theorem dX13_manyMatch_36 : decode cX13_manyMatch 36 = .ok (.iload 4, 2) := by decide +kernel
theorem dX13_manyMatch_38 : decode cX13_manyMatch 38 = .ok (.bipush 36, 2) := by decide +kernel
theorem dX13_manyMatch_4 : decode cX13_manyMatch 4 = .ok (.iload_n 1, 1) := by decide +kernel
theorem dX13_manyMatch_40 : decode cX13_manyMatch 40 = .ok (.if_icmp .eq 10, 3) := by decide +kernel
theorem dX13_manyMatch_43 : decode cX13_manyMatch 43 = .ok (.iload 4, 2) := by decide +kernel
theorem dX13_manyMatch_45 : decode cX13_manyMatch 45 = .ok (.bipush 37, 2) := by decide +kernel
theorem dX13_manyMatch_47 : decode cX13_manyMatch 47 = .ok (.if_icmp .ne 51, 3) := by decide +kernel
theorem dX13_manyMatch_5 : decode cX13_manyMatch 5 = .ok (.iaload, 1) := by decide +kernel
theorem dX13_manyMatch_50 : decode cX13_manyMatch 50 = .ok (.iload_n 3, 1) := by decide +kernel
theorem dX13_manyMatch_51 : decode cX13_manyMatch 51 = .ok (.bipush 8, 2) := by decide +kernel
theorem dX13_manyMatch_53 : decode cX13_manyMatch 53 = .ok (.if_icmp .ne 43, 3) := by decide +kernel
theorem dX13_manyMatch_56 : decode cX13_manyMatch 56 = .ok (.aload_n 0, 1) := by decide +kernel
theorem dX13_manyMatch_57 : decode cX13_manyMatch 57 = .ok (.aload_n 0, 1) := by decide +kernel
theorem dX13_manyMatch_58 : decode cX13_manyMatch 58 = .ok (.getfield 39, 3) := by decide +kernel
theorem dX13_manyMatch_6 : decode cX13_manyMatch 6 = .ok (.istore 4, 2) := by decide +kernel
theorem dX13_manyMatch_61 : decode cX13_manyMatch 61 = .ok (.iload_n 1, 1) := by decide +kernel
theorem dX13_manyMatch_62 : decode cX13_manyMatch 62 = .ok (.iaload, 1) := by decide +kernel
theorem dX13_manyMatch_63 : decode cX13_manyMatch 63 = .ok (.iload_n 2, 1) := by decide +kernel
theorem dX13_manyMatch_64 : decode cX13_manyMatch 64 = .ok (.iconst 0, 1) := by decide +kernel
theorem dX13_manyMatch_65 : decode cX13_manyMatch 65 = .ok (.aload_n 0, 1) := by decide +kernel
theorem dX13_manyMatch_66 : decode cX13_manyMatch 66 = .ok (.getfield 182, 3) := by decide +kernel
theorem dX13_manyMatch_69 : decode cX13_manyMatch 69 = .ok (.iload_n 2, 1) := by decide +kernel
theorem dX13_manyMatch_70 : decode cX13_manyMatch 70 = .ok (.iconst 1, 1) := by decide +kernel
theorem dX13_manyMatch_71 : decode cX13_manyMatch 71 = .ok (.iadd, 1) := by decide +kernel
theorem dX13_manyMatch_72 : decode cX13_manyMatch 72 = .ok (.laload, 1) := by decide +kernel
theorem dX13_manyMatch_73 : decode cX13_manyMatch 73 = .ok (.l2i, 1) := by decide +kernel
theorem dX13_manyMatch_74 : decode cX13_manyMatch 74 = .ok (.iload 4, 2) := by decide +kernel
theorem dX13_manyMatch_76 : decode cX13_manyMatch 76 = .ok (.bipush 36, 2) := by decide +kernel
theorem dX13_manyMatch_78 : decode cX13_manyMatch 78 = .ok (.if_icmp .ne 7, 3) := by decide +kernel
theorem dX13_manyMatch_8 : decode cX13_manyMatch 8 = .ok (.iload 4, 2) := by decide +kernel
theorem dX13_manyMatch_81 : decode cX13_manyMatch 81 = .ok (.iconst 1, 1) := by decide +kernel
theorem dX13_manyMatch_82 : decode cX13_manyMatch 82 = .ok (.goto 4, 3) := by decide +kernel
theorem dX13_manyMatch_85 : decode cX13_manyMatch 85 = .ok (.iconst 0, 1) := by decide +kernel
theorem dX13_manyMatch_86 : decode cX13_manyMatch 86 = .ok (.invokestatic 1269, 3) := by decide +kernel
theorem dX13_manyMatch_89 : decode cX13_manyMatch 89 = .ok (.ifCond .eq 7, 3) := by decide +kernel
theorem dX13_manyMatch_92 : decode cX13_manyMatch 92 = .ok (.iconst 1, 1) := by decide +kernel
theorem dX13_manyMatch_93 : decode cX13_manyMatch 93 = .ok (.goto 4, 3) := by decide +kernel
theorem dX13_manyMatch_96 : decode cX13_manyMatch 96 = .ok (.iconst 0, 1) := by decide +kernel
theorem dX13_manyMatch_97 : decode cX13_manyMatch 97 = .ok (.ireturn, 1) := by decide +kernel
theorem dX13_manyMatch_98 : decode cX13_manyMatch 98 = .ok (.iload 4, 2) := by decide +kernel
theorem dX13_match_0 : decode cX13_match 0 = .ok (.iload_n 2, 1) := by decide +kernel
theorem dX13_match_1 : decode cX13_match 1 = .ok (.ifCond .ge 7, 3) := by decide +kernel
theorem dX13_match_102 : decode cX13_match 102 = .ok (.iload_n 1, 1) := by decide +kernel
theorem dX13_match_103 : decode cX13_match 103 = .ok (.iaload, 1) := by decide +kernel
theorem dX13_match_104 : decode cX13_match 104 = .ok (.iconst 1, 1) := by decide +kernel
theorem dX13_match_105 : decode cX13_match 105 = .ok (.if_icmp .ne 7, 3) := by decide +kernel
theorem dX13_match_108 : decode cX13_match 108 = .ok (.iconst 1, 1) := by decide +kernel
theorem dX13_match_109 : decode cX13_match 109 = .ok (.goto 4, 3) := by decide +kernel
theorem dX13_match_112 : decode cX13_match 112 = .ok (.iconst 0, 1) := by decide +kernel
theorem dX13_match_113 : decode cX13_match 113 = .ok (.istore 6, 2) := by decide +kernel
theorem dX13_match_115 : decode cX13_match 115 = .ok (.iload 6, 2) := by decide +kernel
theorem dX13_match_117 : decode cX13_match 117 = .ok (.ifCond .ne 44, 3) := by decide +kernel
theorem dX13_match_12 : decode cX13_match 12 = .ok (.iload_n 2, 1) := by decide +kernel
theorem dX13_match_120 : decode cX13_match 120 = .ok (.aload_n 0, 1) := by decide +kernel
theorem dX13_match_121 : decode cX13_match 121 = .ok (.getfield 26, 3) := by decide +kernel
theorem dX13_match_124 : decode cX13_match 124 = .ok (.iload_n 1, 1) := by decide +kernel
theorem dX13_match_125 : decode cX13_match 125 = .ok (.iaload, 1) := by decide +kernel
theorem dX13_match_126 : decode cX13_match 126 = .ok (.bipush 41, 2) := by decide +kernel
theorem dX13_match_128 : decode cX13_match 128 = .ok (.if_icmp .ne 12, 3) := by decide +kernel
theorem dX13_match_13 : decode cX13_match 13 = .ok (.aload_n 0, 1) := by decide +kernel
theorem dX13_match_131 : decode cX13_match 131 = .ok (.aload_n 0, 1) := by decide +kernel
theorem dX13_match_132 : decode cX13_match 132 = .ok (.iload_n 1, 1) := by decide +kernel
theorem dX13_match_133 : decode cX13_match 133 = .ok (.iload_n 2, 1) := by decide +kernel
theorem dX13_match_134 : decode cX13_match 134 = .ok (.invokestatic 1240, 3) := by decide +kernel
theorem dX13_match_137 : decode cX13_match 137 = .ok (.goto 22, 3) := by decide +kernel
theorem dX13_match_14 : decode cX13_match 14 = .ok (.getfield 1227, 3) := by decide +kernel
theorem dX13_match_140 : decode cX13_match 140 = .ok (.iload 5, 2) := by decide +kernel
theorem dX13_match_142 : decode cX13_match 142 = .ok (.ifCond .eq 11, 3) := by decide +kernel
theorem dX13_match_145 : decode cX13_match 145 = .ok (.aload_n 0, 1) := by decide +kernel
theorem dX13_match_146 : decode cX13_match 146 = .ok (.iload_n 1, 1) := by decide +kernel
theorem dX13_match_147 : decode cX13_match 147 = .ok (.invokestatic 1243, 3) := by decide +kernel
theorem dX13_match_150 : decode cX13_match 150 = .ok (.goto 9, 3) := by decide +kernel
theorem dX13_match_153 : decode cX13_match 153 = .ok (.aload_n 0, 1) := by decide +kernel
theorem dX13_match_154 : decode cX13_match 154 = .ok (.iload_n 1, 1) := by decide +kernel
theorem dX13_match_155 : decode cX13_match 155 = .ok (.iload_n 2, 1) := by decide +kernel
theorem dX13_match_156 : decode cX13_match 156 = .ok (.invokestatic 1247, 3) := by decide +kernel
theorem dX13_match_159 : decode cX13_match 159 = .ok (.istore 6, 2) := by decide +kernel
theorem dX13_match_161 : decode cX13_match 161 = .ok (.aload_n 0, 1) := by decide +kernel
theorem dX13_match_162 : decode cX13_match 162 = .ok (.getfield 252, 3) := by decide +kernel
theorem dX13_match_165 : decode cX13_match 165 = .ok (.iload 4, 2) := by decide +kernel
theorem dX13_match_167 : decode cX13_match 167 = .ok (.iconst 2, 1) := by decide +kernel
theorem dX13_match_168 : decode cX13_match 168 = .ok (.aload_n 0, 1) := by decide +kernel
theorem dX13_match_169 : decode cX13_match 169 = .ok (.getfield 1224, 3) := by decide +kernel
theorem dX13_match_17 : decode cX13_match 17 = .ok (.isub, 1) := by decide +kernel
theorem dX13_match_172 : decode cX13_match 172 = .ok (.imul, 1) := by decide +kernel
theorem dX13_match_173 : decode cX13_match 173 = .ok (.iload 6, 2) := by decide +kernel
theorem dX13_match_175 : decode cX13_match 175 = .ok (.ifCond .eq 7, 3) := by decide +kernel
theorem dX13_match_178 : decode cX13_match 178 = .ok (.iconst 1, 1) := by decide +kernel
theorem dX13_match_179 : decode cX13_match 179 = .ok (.goto 4, 3) := by decide +kernel
theorem dX13_match_18 : decode cX13_match 18 = .ok (.iaload, 1) := by decide +kernel
theorem dX13_match_182 : decode cX13_match 182 = .ok (.iconst 0, 1) := by decide +kernel
theorem dX13_match_183 : decode cX13_match 183 = .ok (.iadd, 1) := by decide +kernel
theorem dX13_match_184 : decode cX13_match 184 = .ok (.iastore, 1) := by decide +kernel
theorem dX13_match_185 : decode cX13_match 185 = .ok (.iload 6, 2) := by decide +kernel
theorem dX13_match_187 : decode cX13_match 187 = .ok (.ireturn, 1) := by decide +kernel
theorem dX13_match_19 : decode cX13_match 19 = .ok (.istore_n 3, 1) := by decide +kernel
theorem dX13_match_20 : decode cX13_match 20 = .ok (.sipush 131, 3) := by decide +kernel
theorem dX13_match_23 : decode cX13_match 23 = .ok (.aload_n 0, 1) := by decide +kernel
theorem dX13_match_24 : decode cX13_match 24 = .ok (.getfield 48, 3) := by decide +kernel
theorem dX13_match_27 : decode cX13_match 27 = .ok (.iload_n 1, 1) := by decide +kernel
theorem dX13_match_28 : decode cX13_match 28 = .ok (.iaload, 1) := by decide +kernel
theorem dX13_match_29 : decode cX13_match 29 = .ok (.imul, 1) := by decide +kernel
theorem dX13_match_30 : decode cX13_match 30 = .ok (.iload_n 3, 1) := by decide +kernel
theorem dX13_match_31 : decode cX13_match 31 = .ok (.iadd, 1) := by decide +kernel
theorem dX13_match_32 : decode cX13_match 32 = .ok (.istore 4, 2) := by decide +kernel
theorem dX13_match_34 : decode cX13_match 34 = .ok (.aload_n 0, 1) := by decide +kernel
theorem dX13_match_35 : decode cX13_match 35 = .ok (.getfield 252, 3) := by decide +kernel
theorem dX13_match_38 : decode cX13_match 38 = .ok (.iload 4, 2) := by decide +kernel
theorem dX13_match_4 : decode cX13_match 4 = .ok (.iconst 0, 1) := by decide +kernel
theorem dX13_match_40 : decode cX13_match 40 = .ok (.iaload, 1) := by decide +kernel
theorem dX13_match_41 : decode cX13_match 41 = .ok (.iconst 2, 1) := by decide +kernel
theorem dX13_match_42 : decode cX13_match 42 = .ok (.idiv, 1) := by decide +kernel
theorem dX13_match_43 : decode cX13_match 43 = .ok (.aload_n 0, 1) := by decide +kernel
theorem dX13_match_44 : decode cX13_match 44 = .ok (.getfield 1224, 3) := by decide +kernel
theorem dX13_match_47 : decode cX13_match 47 = .ok (.if_icmp .ne 22, 3) := by decide +kernel
theorem dX13_match_5 : decode cX13_match 5 = .ok (.goto 14, 3) := by decide +kernel
theorem dX13_match_50 : decode cX13_match 50 = .ok (.aload_n 0, 1) := by decide +kernel
theorem dX13_match_51 : decode cX13_match 51 = .ok (.getfield 252, 3) := by decide +kernel
theorem dX13_match_54 : decode cX13_match 54 = .ok (.iload 4, 2) := by decide +kernel
theorem dX13_match_56 : decode cX13_match 56 = .ok (.iaload, 1) := by decide +kernel
theorem dX13_match_57 : decode cX13_match 57 = .ok (.iconst 2, 1) := by decide +kernel
theorem dX13_match_58 : decode cX13_match 58 = .ok (.irem, 1) := by decide +kernel
theorem dX13_match_59 : decode cX13_match 59 = .ok (.iconst 1, 1) := by decide +kernel
theorem dX13_match_60 : decode cX13_match 60 = .ok (.if_icmp .ne 7, 3) := by decide +kernel
theorem dX13_match_63 : decode cX13_match 63 = .ok (.iconst 1, 1) := by decide +kernel
theorem dX13_match_64 : decode cX13_match 64 = .ok (.goto 4, 3) := by decide +kernel
theorem dX13_match_67 : decode cX13_match 67 = .ok (.iconst 0, 1) := by decide +kernel
theorem dX13_match_68 : decode cX13_match 68 = .ok (.ireturn, 1) := by decide +kernel
theorem dX13_match_69 : decode cX13_match 69 = .ok (.iload_n 2, 1) := by decide +kernel
theorem dX13_match_70 : decode cX13_match 70 = .ok (.ifCond .lt 16, 3) := by decide +kernel
theorem dX13_match_73 : decode cX13_match 73 = .ok (.aload_n 0, 1) := by decide +kernel
theorem dX13_match_74 : decode cX13_match 74 = .ok (.getfield 182, 3) := by decide +kernel
theorem dX13_match_77 : decode cX13_match 77 = .ok (.iload_n 2, 1) := by decide +kernel
theorem dX13_match_78 : decode cX13_match 78 = .ok (.laload, 1) := by decide +kernel
theorem dX13_match_79 : decode cX13_match 79 = .ok (.ldc2_w 969, 3) := by decide +kernel
theorem dX13_match_8 : decode cX13_match 8 = .ok (.aload_n 0, 1) := by decide +kernel
theorem dX13_match_82 : decode cX13_match 82 = .ok (.lcmp, 1) := by decide +kernel
theorem dX13_match_83 : decode cX13_match 83 = .ok (.ifCond .ne 7, 3) := by decide +kernel
theorem dX13_match_86 : decode cX13_match 86 = .ok (.iconst 1, 1) := by decide +kernel
theorem dX13_match_87 : decode cX13_match 87 = .ok (.goto 4, 3) := by decide +kernel
theorem dX13_match_9 : decode cX13_match 9 = .ok (.getfield 255, 3) := by decide +kernel
theorem dX13_match_90 : decode cX13_match 90 = .ok (.iconst 0, 1) := by decide +kernel
theorem dX13_match_91 : decode cX13_match 91 = .ok (.istore 5, 2) := by decide +kernel
theorem dX13_match_93 : decode cX13_match 93 = .ok (.iload 5, 2) := by decide +kernel
theorem dX13_match_95 : decode cX13_match 95 = .ok (.ifCond .eq 17, 3) := by decide +kernel
theorem dX13_match_98 : decode cX13_match 98 = .ok (.aload_n 0, 1) := by decide +kernel
theorem dX13_match_99 : decode cX13_match 99 = .ok (.getfield 45, 3) := by decide +kernel
theorem dX13_omitMatch_0 : decode cX13_omitMatch 0 = .ok (.aload_n 0, 1) := by decide +kernel
theorem dX13_omitMatch_1 : decode cX13_omitMatch 1 = .ok (.getfield 26, 3) := by decide +kernel
theorem dX13_omitMatch_100 : decode cX13_omitMatch 100 = .ok (.aload_n 0, 1) := by decide +kernel
theorem dX13_omitMatch_101 : decode cX13_omitMatch 101 = .ok (.getfield 627, 3) := by decide +kernel
theorem dX13_omitMatch_104 : decode cX13_omitMatch 104 = .ok (.aload_n 0, 1) := by decide +kernel
theorem dX13_omitMatch_105 : decode cX13_omitMatch 105 = .ok (.getfield 32, 3) := by decide +kernel
theorem dX13_omitMatch_108 : decode cX13_omitMatch 108 = .ok (.iload_n 1, 1) := by decide +kernel
theorem dX13_omitMatch_109 : decode cX13_omitMatch 109 = .ok (.laload, 1) := by decide +kernel
theorem dX13_omitMatch_110 : decode cX13_omitMatch 110 = .ok (.l2i, 1) := by decide +kernel
theorem dX13_omitMatch_111 : decode cX13_omitMatch 111 = .ok (.invokevirtual 788, 3) := by decide +kernel
theorem dX13_omitMatch_114 : decode cX13_omitMatch 114 = .ok (.istore_n 2, 1) := by decide +kernel
theorem dX13_omitMatch_115 : decode cX13_omitMatch 115 = .ok (.iload_n 2, 1) := by decide +kernel
theorem dX13_omitMatch_116 : decode cX13_omitMatch 116 = .ok (.ifCond .lt 21, 3) := by decide +kernel
theorem dX13_omitMatch_119 : decode cX13_omitMatch 119 = .ok (.aload_n 0, 1) := by decide +kernel
theorem dX13_omitMatch_120 : decode cX13_omitMatch 120 = .ok (.aload_n 0, 1) := by decide +kernel
theorem dX13_omitMatch_121 : decode cX13_omitMatch 121 = .ok (.getfield 66, 3) := by decide +kernel
theorem dX13_omitMatch_124 : decode cX13_omitMatch 124 = .ok (.iload_n 2, 1) := by decide +kernel
theorem dX13_omitMatch_125 : decode cX13_omitMatch 125 = .ok (.iaload, 1) := by decide +kernel
theorem dX13_omitMatch_126 : decode cX13_omitMatch 126 = .ok (.iconst (-1), 1) := by decide +kernel
theorem dX13_omitMatch_127 : decode cX13_omitMatch 127 = .ok (.invokestatic 1233, 3) := by decide +kernel
theorem dX13_omitMatch_130 : decode cX13_omitMatch 130 = .ok (.ifCond .eq 7, 3) := by decide +kernel
theorem dX13_omitMatch_133 : decode cX13_omitMatch 133 = .ok (.iconst 1, 1) := by decide +kernel
theorem dX13_omitMatch_134 : decode cX13_omitMatch 134 = .ok (.goto 4, 3) := by decide +kernel
theorem dX13_omitMatch_137 : decode cX13_omitMatch 137 = .ok (.iconst 0, 1) := by decide +kernel
theorem dX13_omitMatch_138 : decode cX13_omitMatch 138 = .ok (.ireturn, 1) := by decide +kernel
theorem dX13_omitMatch_139 : decode cX13_omitMatch 139 = .ok (.aload_n 0, 1) := by decide +kernel
theorem dX13_omitMatch_140 : decode cX13_omitMatch 140 = .ok (.getfield 26, 3) := by decide +kernel
theorem dX13_omitMatch_143 : decode cX13_omitMatch 143 = .ok (.iload_n 1, 1) := by decide +kernel
theorem dX13_omitMatch_144 : decode cX13_omitMatch 144 = .ok (.iaload, 1) := by decide +kernel
theorem dX13_omitMatch_145 : decode cX13_omitMatch 145 = .ok (.bipush 33, 2) := by decide +kernel
theorem dX13_omitMatch_147 : decode cX13_omitMatch 147 = .ok (.if_icmp .ne 7, 3) := by decide +kernel
theorem dX13_omitMatch_150 : decode cX13_omitMatch 150 = .ok (.iconst 1, 1) := by decide +kernel
theorem dX13_omitMatch_151 : decode cX13_omitMatch 151 = .ok (.goto 4, 3) := by decide +kernel
theorem dX13_omitMatch_154 : decode cX13_omitMatch 154 = .ok (.iconst 0, 1) := by decide +kernel
theorem dX13_omitMatch_155 : decode cX13_omitMatch 155 = .ok (.istore_n 3, 1) := by decide +kernel
theorem dX13_omitMatch_156 : decode cX13_omitMatch 156 = .ok (.iload_n 3, 1) := by decide +kernel
theorem dX13_omitMatch_157 : decode cX13_omitMatch 157 = .ok (.istore 4, 2) := by decide +kernel
theorem dX13_omitMatch_159 : decode cX13_omitMatch 159 = .ok (.aload_n 0, 1) := by decide +kernel
theorem dX13_omitMatch_160 : decode cX13_omitMatch 160 = .ok (.getfield 39, 3) := by decide +kernel
theorem dX13_omitMatch_163 : decode cX13_omitMatch 163 = .ok (.iload_n 1, 1) := by decide +kernel
theorem dX13_omitMatch_164 : decode cX13_omitMatch 164 = .ok (.iaload, 1) := by decide +kernel
theorem dX13_omitMatch_165 : decode cX13_omitMatch 165 = .ok (.istore 5, 2) := by decide +kernel
theorem dX13_omitMatch_167 : decode cX13_omitMatch 167 = .ok (.iload 5, 2) := by decide +kernel
theorem dX13_omitMatch_169 : decode cX13_omitMatch 169 = .ok (.ifCond .lt 63, 3) := by decide +kernel
theorem dX13_omitMatch_172 : decode cX13_omitMatch 172 = .ok (.aload_n 0, 1) := by decide +kernel
theorem dX13_omitMatch_173 : decode cX13_omitMatch 173 = .ok (.iload 5, 2) := by decide +kernel
theorem dX13_omitMatch_175 : decode cX13_omitMatch 175 = .ok (.iconst (-1), 1) := by decide +kernel
theorem dX13_omitMatch_176 : decode cX13_omitMatch 176 = .ok (.invokestatic 1233, 3) := by decide +kernel
theorem dX13_omitMatch_179 : decode cX13_omitMatch 179 = .ok (.istore 6, 2) := by decide +kernel
theorem dX13_omitMatch_181 : decode cX13_omitMatch 181 = .ok (.iload_n 3, 1) := by decide +kernel
theorem dX13_omitMatch_182 : decode cX13_omitMatch 182 = .ok (.ifCond .eq 21, 3) := by decide +kernel
theorem dX13_omitMatch_185 : decode cX13_omitMatch 185 = .ok (.iload 4, 2) := by decide +kernel
theorem dX13_omitMatch_187 : decode cX13_omitMatch 187 = .ok (.ifCond .eq 12, 3) := by decide +kernel
theorem dX13_omitMatch_190 : decode cX13_omitMatch 190 = .ok (.iload 6, 2) := by decide +kernel
theorem dX13_omitMatch_192 : decode cX13_omitMatch 192 = .ok (.ifCond .eq 7, 3) := by decide +kernel
theorem dX13_omitMatch_195 : decode cX13_omitMatch 195 = .ok (.iconst 1, 1) := by decide +kernel
theorem dX13_omitMatch_196 : decode cX13_omitMatch 196 = .ok (.goto 22, 3) := by decide +kernel
theorem dX13_omitMatch_199 : decode cX13_omitMatch 199 = .ok (.iconst 0, 1) := by decide +kernel
theorem dX13_omitMatch_200 : decode cX13_omitMatch 200 = .ok (.goto 18, 3) := by decide +kernel
theorem dX13_omitMatch_203 : decode cX13_omitMatch 203 = .ok (.iload 4, 2) := by decide +kernel
theorem dX13_omitMatch_205 : decode cX13_omitMatch 205 = .ok (.ifCond .ne 8, 3) := by decide +kernel
theorem dX13_omitMatch_208 : decode cX13_omitMatch 208 = .ok (.iload 6, 2) := by decide +kernel
theorem dX13_omitMatch_210 : decode cX13_omitMatch 210 = .ok (.ifCond .eq 7, 3) := by decide +kernel
theorem dX13_omitMatch_213 : decode cX13_omitMatch 213 = .ok (.iconst 1, 1) := by decide +kernel
theorem dX13_omitMatch_214 : decode cX13_omitMatch 214 = .ok (.goto 4, 3) := by decide +kernel
theorem dX13_omitMatch_217 : decode cX13_omitMatch 217 = .ok (.iconst 0, 1) := by decide +kernel
theorem dX13_omitMatch_218 : decode cX13_omitMatch 218 = .ok (.istore 4, 2) := by decide +kernel
theorem dX13_omitMatch_220 : decode cX13_omitMatch 220 = .ok (.aload_n 0, 1) := by decide +kernel
theorem dX13_omitMatch_221 : decode cX13_omitMatch 221 = .ok (.getfield 42, 3) := by decide +kernel
theorem dX13_omitMatch_224 : decode cX13_omitMatch 224 = .ok (.iload 5, 2) := by decide +kernel
theorem dX13_omitMatch_226 : decode cX13_omitMatch 226 = .ok (.iaload, 1) := by decide +kernel
theorem dX13_omitMatch_227 : decode cX13_omitMatch 227 = .ok (.istore 5, 2) := by decide +kernel
theorem dX13_omitMatch_229 : decode cX13_omitMatch 229 = .ok (.goto (-62), 3) := by decide +kernel
theorem dX13_omitMatch_232 : decode cX13_omitMatch 232 = .ok (.iload 4, 2) := by decide +kernel
theorem dX13_omitMatch_234 : decode cX13_omitMatch 234 = .ok (.ireturn, 1) := by decide +kernel
theorem dX13_omitMatch_235 : decode cX13_omitMatch 235 = .ok (.aload_n 0, 1) := by decide +kernel
theorem dX13_omitMatch_236 : decode cX13_omitMatch 236 = .ok (.getfield 248, 3) := by decide +kernel
theorem dX13_omitMatch_239 : decode cX13_omitMatch 239 = .ok (.aload_n 0, 1) := by decide +kernel
theorem dX13_omitMatch_240 : decode cX13_omitMatch 240 = .ok (.getfield 244, 3) := by decide +kernel
theorem dX13_omitMatch_243 : decode cX13_omitMatch 243 = .ok (.iload_n 1, 1) := by decide +kernel
theorem dX13_omitMatch_244 : decode cX13_omitMatch 244 = .ok (.iaload, 1) := by decide +kernel
theorem dX13_omitMatch_245 : decode cX13_omitMatch 245 = .ok (.laload, 1) := by decide +kernel
theorem dX13_omitMatch_246 : decode cX13_omitMatch 246 = .ok (.ldc2_w 969, 3) := by decide +kernel
theorem dX13_omitMatch_249 : decode cX13_omitMatch 249 = .ok (.lcmp, 1) := by decide +kernel
theorem dX13_omitMatch_250 : decode cX13_omitMatch 250 = .ok (.ifCond .ne 7, 3) := by decide +kernel
theorem dX13_omitMatch_253 : decode cX13_omitMatch 253 = .ok (.iconst 1, 1) := by decide +kernel
theorem dX13_omitMatch_254 : decode cX13_omitMatch 254 = .ok (.goto 4, 3) := by decide +kernel
theorem dX13_omitMatch_257 : decode cX13_omitMatch 257 = .ok (.iconst 0, 1) := by decide +kernel
theorem dX13_omitMatch_258 : decode cX13_omitMatch 258 = .ok (.ireturn, 1) := by decide +kernel
theorem dX13_omitMatch_259 : decode cX13_omitMatch 259 = .ok (.iconst 0, 1) := by decide +kernel
theorem dX13_omitMatch_260 : decode cX13_omitMatch 260 = .ok (.ireturn, 1) := by decide +kernel
theorem dX13_omitMatch_4 : decode cX13_omitMatch 4 = .ok (.iload_n 1, 1) := by decide +kernel
theorem dX13_omitMatch_5 : decode cX13_omitMatch 5 = .ok (.iaload, 1) := by decide +kernel
theorem dX13_omitMatch_6 : decode cX13_omitMatch 6 = .ok (.tableswitch 253 21 38 #[86, 253, 253, 253, 253, 253, 86, 88, 253, 253, 253, 253, 133, 133, 253, 253, 253, 229], 86) := by decide +kernel
theorem dX13_omitMatch_92 : decode cX13_omitMatch 92 = .ok (.iconst 1, 1) := by decide +kernel
theorem dX13_omitMatch_93 : decode cX13_omitMatch 93 = .ok (.ireturn, 1) := by decide +kernel
theorem dX13_omitMatch_94 : decode cX13_omitMatch 94 = .ok (.aload_n 0, 1) := by decide +kernel
theorem dX13_omitMatch_95 : decode cX13_omitMatch 95 = .ok (.aload_n 0, 1) := by decide +kernel
theorem dX13_omitMatch_96 : decode cX13_omitMatch 96 = .ok (.getfield 63, 3) := by decide +kernel
theorem dX13_omitMatch_99 : decode cX13_omitMatch 99 = .ok (.iconst 0, 1) := by decide +kernel
theorem dX13_recordMatch_0 : decode cX13_recordMatch 0 = .ok (.iconst 0, 1) := by decide +kernel
theorem dX13_recordMatch_1 : decode cX13_recordMatch 1 = .ok (.istore_n 3, 1) := by decide +kernel
theorem dX13_recordMatch_10 : decode cX13_recordMatch 10 = .ok (.iload 4, 2) := by decide +kernel
theorem dX13_recordMatch_12 : decode cX13_recordMatch 12 = .ok (.ifCond .lt 60, 3) := by decide +kernel
theorem dX13_recordMatch_15 : decode cX13_recordMatch 15 = .ok (.aload_n 0, 1) := by decide +kernel
theorem dX13_recordMatch_16 : decode cX13_recordMatch 16 = .ok (.iload_n 2, 1) := by decide +kernel
theorem dX13_recordMatch_17 : decode cX13_recordMatch 17 = .ok (.aload_n 0, 1) := by decide +kernel
theorem dX13_recordMatch_18 : decode cX13_recordMatch 18 = .ok (.getfield 32, 3) := by decide +kernel
theorem dX13_recordMatch_2 : decode cX13_recordMatch 2 = .ok (.aload_n 0, 1) := by decide +kernel
theorem dX13_recordMatch_21 : decode cX13_recordMatch 21 = .ok (.iload 4, 2) := by decide +kernel
theorem dX13_recordMatch_23 : decode cX13_recordMatch 23 = .ok (.laload, 1) := by decide +kernel
theorem dX13_recordMatch_24 : decode cX13_recordMatch 24 = .ok (.invokevirtual 966, 3) := by decide +kernel
theorem dX13_recordMatch_27 : decode cX13_recordMatch 27 = .ok (.istore 5, 2) := by decide +kernel
theorem dX13_recordMatch_29 : decode cX13_recordMatch 29 = .ok (.aload_n 0, 1) := by decide +kernel
theorem dX13_recordMatch_3 : decode cX13_recordMatch 3 = .ok (.getfield 39, 3) := by decide +kernel
theorem dX13_recordMatch_30 : decode cX13_recordMatch 30 = .ok (.aload_n 0, 1) := by decide +kernel
theorem dX13_recordMatch_31 : decode cX13_recordMatch 31 = .ok (.getfield 39, 3) := by decide +kernel
theorem dX13_recordMatch_34 : decode cX13_recordMatch 34 = .ok (.iload 4, 2) := by decide +kernel
theorem dX13_recordMatch_36 : decode cX13_recordMatch 36 = .ok (.iaload, 1) := by decide +kernel
theorem dX13_recordMatch_37 : decode cX13_recordMatch 37 = .ok (.iload 5, 2) := by decide +kernel
theorem dX13_recordMatch_39 : decode cX13_recordMatch 39 = .ok (.invokestatic 1233, 3) := by decide +kernel
theorem dX13_recordMatch_42 : decode cX13_recordMatch 42 = .ok (.ifCond .ne 5, 3) := by decide +kernel
theorem dX13_recordMatch_45 : decode cX13_recordMatch 45 = .ok (.iconst 0, 1) := by decide +kernel
theorem dX13_recordMatch_46 : decode cX13_recordMatch 46 = .ok (.ireturn, 1) := by decide +kernel
theorem dX13_recordMatch_47 : decode cX13_recordMatch 47 = .ok (.iload_n 3, 1) := by decide +kernel
theorem dX13_recordMatch_48 : decode cX13_recordMatch 48 = .ok (.iload 5, 2) := by decide +kernel
theorem dX13_recordMatch_50 : decode cX13_recordMatch 50 = .ok (.ifCond .lt 7, 3) := by decide +kernel
theorem dX13_recordMatch_53 : decode cX13_recordMatch 53 = .ok (.iconst 1, 1) := by decide +kernel
theorem dX13_recordMatch_54 : decode cX13_recordMatch 54 = .ok (.goto 4, 3) := by decide +kernel
theorem dX13_recordMatch_57 : decode cX13_recordMatch 57 = .ok (.iconst 0, 1) := by decide +kernel
theorem dX13_recordMatch_58 : decode cX13_recordMatch 58 = .ok (.iadd, 1) := by decide +kernel
theorem dX13_recordMatch_59 : decode cX13_recordMatch 59 = .ok (.istore_n 3, 1) := by decide +kernel
theorem dX13_recordMatch_6 : decode cX13_recordMatch 6 = .ok (.iload_n 1, 1) := by decide +kernel
theorem dX13_recordMatch_60 : decode cX13_recordMatch 60 = .ok (.aload_n 0, 1) := by decide +kernel
theorem dX13_recordMatch_61 : decode cX13_recordMatch 61 = .ok (.getfield 42, 3) := by decide +kernel
theorem dX13_recordMatch_64 : decode cX13_recordMatch 64 = .ok (.iload 4, 2) := by decide +kernel
theorem dX13_recordMatch_66 : decode cX13_recordMatch 66 = .ok (.iaload, 1) := by decide +kernel
theorem dX13_recordMatch_67 : decode cX13_recordMatch 67 = .ok (.istore 4, 2) := by decide +kernel
theorem dX13_recordMatch_69 : decode cX13_recordMatch 69 = .ok (.goto (-59), 3) := by decide +kernel
theorem dX13_recordMatch_7 : decode cX13_recordMatch 7 = .ok (.iaload, 1) := by decide +kernel
theorem dX13_recordMatch_72 : decode cX13_recordMatch 72 = .ok (.iload_n 3, 1) := by decide +kernel
theorem dX13_recordMatch_73 : decode cX13_recordMatch 73 = .ok (.aload_n 0, 1) := by decide +kernel
theorem dX13_recordMatch_74 : decode cX13_recordMatch 74 = .ok (.getfield 182, 3) := by decide +kernel
theorem dX13_recordMatch_77 : decode cX13_recordMatch 77 = .ok (.iload_n 2, 1) := by decide +kernel
theorem dX13_recordMatch_78 : decode cX13_recordMatch 78 = .ok (.iconst 1, 1) := by decide +kernel
theorem dX13_recordMatch_79 : decode cX13_recordMatch 79 = .ok (.iadd, 1) := by decide +kernel
theorem dX13_recordMatch_8 : decode cX13_recordMatch 8 = .ok (.istore 4, 2) := by decide +kernel
theorem dX13_recordMatch_80 : decode cX13_recordMatch 80 = .ok (.laload, 1) := by decide +kernel
theorem dX13_recordMatch_81 : decode cX13_recordMatch 81 = .ok (.l2i, 1) := by decide +kernel
theorem dX13_recordMatch_82 : decode cX13_recordMatch 82 = .ok (.if_icmp .ne 7, 3) := by decide +kernel
theorem dX13_recordMatch_85 : decode cX13_recordMatch 85 = .ok (.iconst 1, 1) := by decide +kernel
theorem dX13_recordMatch_86 : decode cX13_recordMatch 86 = .ok (.goto 4, 3) := by decide +kernel
theorem dX13_recordMatch_89 : decode cX13_recordMatch 89 = .ok (.iconst 0, 1) := by decide +kernel
theorem dX13_recordMatch_90 : decode cX13_recordMatch 90 = .ok (.ireturn, 1) := by decide +kernel
theorem dX13_toneMatch_0 : decode cX13_toneMatch 0 = .ok (.aload_n 0, 1) := by decide +kernel
theorem dX13_toneMatch_1 : decode cX13_toneMatch 1 = .ok (.getfield 182, 3) := by decide +kernel
theorem dX13_toneMatch_104 : decode cX13_toneMatch 104 = .ok (.iconst 1, 1) := by decide +kernel
theorem dX13_toneMatch_105 : decode cX13_toneMatch 105 = .ok (.ireturn, 1) := by decide +kernel
theorem dX13_toneMatch_106 : decode cX13_toneMatch 106 = .ok (.iconst 0, 1) := by decide +kernel
theorem dX13_toneMatch_107 : decode cX13_toneMatch 107 = .ok (.ireturn, 1) := by decide +kernel
theorem dX13_toneMatch_108 : decode cX13_toneMatch 108 = .ok (.iload_n 3, 1) := by decide +kernel
theorem dX13_toneMatch_109 : decode cX13_toneMatch 109 = .ok (.ifCond .ne 33, 3) := by decide +kernel
theorem dX13_toneMatch_112 : decode cX13_toneMatch 112 = .ok (.aload_n 0, 1) := by decide +kernel
theorem dX13_toneMatch_113 : decode cX13_toneMatch 113 = .ok (.getfield 182, 3) := by decide +kernel
theorem dX13_toneMatch_116 : decode cX13_toneMatch 116 = .ok (.iload_n 2, 1) := by decide +kernel
theorem dX13_toneMatch_117 : decode cX13_toneMatch 117 = .ok (.iconst 1, 1) := by decide +kernel
theorem dX13_toneMatch_118 : decode cX13_toneMatch 118 = .ok (.iadd, 1) := by decide +kernel
theorem dX13_toneMatch_119 : decode cX13_toneMatch 119 = .ok (.laload, 1) := by decide +kernel
theorem dX13_toneMatch_12 : decode cX13_toneMatch 12 = .ok (.iload_n 1, 1) := by decide +kernel
theorem dX13_toneMatch_120 : decode cX13_toneMatch 120 = .ok (.aload_n 0, 1) := by decide +kernel
theorem dX13_toneMatch_121 : decode cX13_toneMatch 121 = .ok (.getfield 32, 3) := by decide +kernel
theorem dX13_toneMatch_124 : decode cX13_toneMatch 124 = .ok (.iload_n 1, 1) := by decide +kernel
theorem dX13_toneMatch_125 : decode cX13_toneMatch 125 = .ok (.laload, 1) := by decide +kernel
theorem dX13_toneMatch_126 : decode cX13_toneMatch 126 = .ok (.aload_n 0, 1) := by decide +kernel
theorem dX13_toneMatch_127 : decode cX13_toneMatch 127 = .ok (.getfield 36, 3) := by decide +kernel
theorem dX13_toneMatch_13 : decode cX13_toneMatch 13 = .ok (.iaload, 1) := by decide +kernel
theorem dX13_toneMatch_130 : decode cX13_toneMatch 130 = .ok (.iload_n 1, 1) := by decide +kernel
theorem dX13_toneMatch_131 : decode cX13_toneMatch 131 = .ok (.laload, 1) := by decide +kernel
theorem dX13_toneMatch_132 : decode cX13_toneMatch 132 = .ok (.invokestatic 371, 3) := by decide +kernel
theorem dX13_toneMatch_135 : decode cX13_toneMatch 135 = .ok (.ifCond .eq 7, 3) := by decide +kernel
theorem dX13_toneMatch_138 : decode cX13_toneMatch 138 = .ok (.iconst 1, 1) := by decide +kernel
theorem dX13_toneMatch_139 : decode cX13_toneMatch 139 = .ok (.goto 4, 3) := by decide +kernel
theorem dX13_toneMatch_14 : decode cX13_toneMatch 14 = .ok (.tableswitch 341 20 38 #[90, 90, 94, 94, 130, 130, 169, 92, 176, 320, 247, 341, 341, 341, 341, 293, 341, 341, 313], 90) := by decide +kernel
theorem dX13_toneMatch_142 : decode cX13_toneMatch 142 = .ok (.iconst 0, 1) := by decide +kernel
theorem dX13_toneMatch_143 : decode cX13_toneMatch 143 = .ok (.ireturn, 1) := by decide +kernel
theorem dX13_toneMatch_144 : decode cX13_toneMatch 144 = .ok (.iload_n 3, 1) := by decide +kernel
theorem dX13_toneMatch_145 : decode cX13_toneMatch 145 = .ok (.iconst 1, 1) := by decide +kernel
theorem dX13_toneMatch_146 : decode cX13_toneMatch 146 = .ok (.if_icmp .ne 35, 3) := by decide +kernel
theorem dX13_toneMatch_149 : decode cX13_toneMatch 149 = .ok (.aload_n 0, 1) := by decide +kernel
theorem dX13_toneMatch_150 : decode cX13_toneMatch 150 = .ok (.getfield 182, 3) := by decide +kernel
theorem dX13_toneMatch_153 : decode cX13_toneMatch 153 = .ok (.iload_n 2, 1) := by decide +kernel
theorem dX13_toneMatch_154 : decode cX13_toneMatch 154 = .ok (.iconst 1, 1) := by decide +kernel
theorem dX13_toneMatch_155 : decode cX13_toneMatch 155 = .ok (.iadd, 1) := by decide +kernel
theorem dX13_toneMatch_156 : decode cX13_toneMatch 156 = .ok (.laload, 1) := by decide +kernel
theorem dX13_toneMatch_157 : decode cX13_toneMatch 157 = .ok (.aload_n 0, 1) := by decide +kernel
theorem dX13_toneMatch_158 : decode cX13_toneMatch 158 = .ok (.getfield 26, 3) := by decide +kernel
theorem dX13_toneMatch_161 : decode cX13_toneMatch 161 = .ok (.iload_n 1, 1) := by decide +kernel
theorem dX13_toneMatch_162 : decode cX13_toneMatch 162 = .ok (.iaload, 1) := by decide +kernel
theorem dX13_toneMatch_163 : decode cX13_toneMatch 163 = .ok (.bipush 24, 2) := by decide +kernel
theorem dX13_toneMatch_165 : decode cX13_toneMatch 165 = .ok (.if_icmp .ne 7, 3) := by decide +kernel
theorem dX13_toneMatch_168 : decode cX13_toneMatch 168 = .ok (.lconst 1, 1) := by decide +kernel
theorem dX13_toneMatch_169 : decode cX13_toneMatch 169 = .ok (.goto 4, 3) := by decide +kernel
theorem dX13_toneMatch_172 : decode cX13_toneMatch 172 = .ok (.lconst 0, 1) := by decide +kernel
theorem dX13_toneMatch_173 : decode cX13_toneMatch 173 = .ok (.lcmp, 1) := by decide +kernel
theorem dX13_toneMatch_174 : decode cX13_toneMatch 174 = .ok (.ifCond .ne 7, 3) := by decide +kernel
theorem dX13_toneMatch_177 : decode cX13_toneMatch 177 = .ok (.iconst 1, 1) := by decide +kernel
theorem dX13_toneMatch_178 : decode cX13_toneMatch 178 = .ok (.goto 4, 3) := by decide +kernel
theorem dX13_toneMatch_181 : decode cX13_toneMatch 181 = .ok (.iconst 0, 1) := by decide +kernel
theorem dX13_toneMatch_182 : decode cX13_toneMatch 182 = .ok (.ireturn, 1) := by decide +kernel
theorem dX13_toneMatch_183 : decode cX13_toneMatch 183 = .ok (.aload_n 0, 1) := by decide +kernel
theorem dX13_toneMatch_184 : decode cX13_toneMatch 184 = .ok (.iload_n 1, 1) := by decide +kernel
theorem dX13_toneMatch_185 : decode cX13_toneMatch 185 = .ok (.iload_n 2, 1) := by decide +kernel
theorem dX13_toneMatch_186 : decode cX13_toneMatch 186 = .ok (.invokevirtual 1250, 3) := by decide +kernel
theorem dX13_toneMatch_189 : decode cX13_toneMatch 189 = .ok (.ireturn, 1) := by decide +kernel
theorem dX13_toneMatch_190 : decode cX13_toneMatch 190 = .ok (.aload_n 0, 1) := by decide +kernel
theorem dX13_toneMatch_191 : decode cX13_toneMatch 191 = .ok (.aload_n 0, 1) := by decide +kernel
theorem dX13_toneMatch_192 : decode cX13_toneMatch 192 = .ok (.getfield 63, 3) := by decide +kernel
theorem dX13_toneMatch_195 : decode cX13_toneMatch 195 = .ok (.iconst 0, 1) := by decide +kernel
theorem dX13_toneMatch_196 : decode cX13_toneMatch 196 = .ok (.aload_n 0, 1) := by decide +kernel
theorem dX13_toneMatch_197 : decode cX13_toneMatch 197 = .ok (.getfield 627, 3) := by decide +kernel
theorem dX13_toneMatch_200 : decode cX13_toneMatch 200 = .ok (.aload_n 0, 1) := by decide +kernel
theorem dX13_toneMatch_201 : decode cX13_toneMatch 201 = .ok (.getfield 32, 3) := by decide +kernel
theorem dX13_toneMatch_204 : decode cX13_toneMatch 204 = .ok (.iload_n 1, 1) := by decide +kernel
theorem dX13_toneMatch_205 : decode cX13_toneMatch 205 = .ok (.laload, 1) := by decide +kernel
theorem dX13_toneMatch_206 : decode cX13_toneMatch 206 = .ok (.l2i, 1) := by decide +kernel
theorem dX13_toneMatch_207 : decode cX13_toneMatch 207 = .ok (.invokevirtual 788, 3) := by decide +kernel
theorem dX13_toneMatch_210 : decode cX13_toneMatch 210 = .ok (.istore 4, 2) := by decide +kernel
theorem dX13_toneMatch_212 : decode cX13_toneMatch 212 = .ok (.iload 4, 2) := by decide +kernel
theorem dX13_toneMatch_214 : decode cX13_toneMatch 214 = .ok (.ifCond .lt 18, 3) := by decide +kernel
theorem dX13_toneMatch_217 : decode cX13_toneMatch 217 = .ok (.aload_n 0, 1) := by decide +kernel
theorem dX13_toneMatch_218 : decode cX13_toneMatch 218 = .ok (.aload_n 0, 1) := by decide +kernel
theorem dX13_toneMatch_219 : decode cX13_toneMatch 219 = .ok (.getfield 66, 3) := by decide +kernel
theorem dX13_toneMatch_222 : decode cX13_toneMatch 222 = .ok (.iload 4, 2) := by decide +kernel
theorem dX13_toneMatch_224 : decode cX13_toneMatch 224 = .ok (.iaload, 1) := by decide +kernel
theorem dX13_toneMatch_225 : decode cX13_toneMatch 225 = .ok (.iload_n 2, 1) := by decide +kernel
theorem dX13_toneMatch_226 : decode cX13_toneMatch 226 = .ok (.invokestatic 1233, 3) := by decide +kernel
theorem dX13_toneMatch_229 : decode cX13_toneMatch 229 = .ok (.goto 31, 3) := by decide +kernel
theorem dX13_toneMatch_232 : decode cX13_toneMatch 232 = .ok (.iload_n 3, 1) := by decide +kernel
theorem dX13_toneMatch_233 : decode cX13_toneMatch 233 = .ok (.iconst 3, 1) := by decide +kernel
theorem dX13_toneMatch_234 : decode cX13_toneMatch 234 = .ok (.if_icmp .ne 25, 3) := by decide +kernel
theorem dX13_toneMatch_237 : decode cX13_toneMatch 237 = .ok (.aload_n 0, 1) := by decide +kernel
theorem dX13_toneMatch_238 : decode cX13_toneMatch 238 = .ok (.getfield 182, 3) := by decide +kernel
theorem dX13_toneMatch_241 : decode cX13_toneMatch 241 = .ok (.iload_n 2, 1) := by decide +kernel
theorem dX13_toneMatch_242 : decode cX13_toneMatch 242 = .ok (.iconst 1, 1) := by decide +kernel
theorem dX13_toneMatch_243 : decode cX13_toneMatch 243 = .ok (.iadd, 1) := by decide +kernel
theorem dX13_toneMatch_244 : decode cX13_toneMatch 244 = .ok (.laload, 1) := by decide +kernel
theorem dX13_toneMatch_245 : decode cX13_toneMatch 245 = .ok (.aload_n 0, 1) := by decide +kernel
theorem dX13_toneMatch_246 : decode cX13_toneMatch 246 = .ok (.getfield 32, 3) := by decide +kernel
theorem dX13_toneMatch_249 : decode cX13_toneMatch 249 = .ok (.iload_n 1, 1) := by decide +kernel
theorem dX13_toneMatch_250 : decode cX13_toneMatch 250 = .ok (.laload, 1) := by decide +kernel
theorem dX13_toneMatch_251 : decode cX13_toneMatch 251 = .ok (.lcmp, 1) := by decide +kernel
theorem dX13_toneMatch_252 : decode cX13_toneMatch 252 = .ok (.ifCond .ne 7, 3) := by decide +kernel
theorem dX13_toneMatch_255 : decode cX13_toneMatch 255 = .ok (.iconst 1, 1) := by decide +kernel
theorem dX13_toneMatch_256 : decode cX13_toneMatch 256 = .ok (.goto 4, 3) := by decide +kernel
theorem dX13_toneMatch_259 : decode cX13_toneMatch 259 = .ok (.iconst 0, 1) := by decide +kernel
theorem dX13_toneMatch_260 : decode cX13_toneMatch 260 = .ok (.ireturn, 1) := by decide +kernel
theorem dX13_toneMatch_261 : decode cX13_toneMatch 261 = .ok (.iload_n 3, 1) := by decide +kernel
theorem dX13_toneMatch_262 : decode cX13_toneMatch 262 = .ok (.bipush 7, 2) := by decide +kernel
theorem dX13_toneMatch_264 : decode cX13_toneMatch 264 = .ok (.if_icmp .ne 41, 3) := by decide +kernel
theorem dX13_toneMatch_267 : decode cX13_toneMatch 267 = .ok (.aload_n 0, 1) := by decide +kernel
theorem dX13_toneMatch_268 : decode cX13_toneMatch 268 = .ok (.getfield 182, 3) := by decide +kernel
theorem dX13_toneMatch_271 : decode cX13_toneMatch 271 = .ok (.iload_n 2, 1) := by decide +kernel
theorem dX13_toneMatch_272 : decode cX13_toneMatch 272 = .ok (.iconst 1, 1) := by decide +kernel
theorem dX13_toneMatch_273 : decode cX13_toneMatch 273 = .ok (.iadd, 1) := by decide +kernel
theorem dX13_toneMatch_274 : decode cX13_toneMatch 274 = .ok (.laload, 1) := by decide +kernel
theorem dX13_toneMatch_275 : decode cX13_toneMatch 275 = .ok (.aload_n 0, 1) := by decide +kernel
theorem dX13_toneMatch_276 : decode cX13_toneMatch 276 = .ok (.getfield 32, 3) := by decide +kernel
theorem dX13_toneMatch_279 : decode cX13_toneMatch 279 = .ok (.iload_n 1, 1) := by decide +kernel
theorem dX13_toneMatch_280 : decode cX13_toneMatch 280 = .ok (.laload, 1) := by decide +kernel
theorem dX13_toneMatch_281 : decode cX13_toneMatch 281 = .ok (.lcmp, 1) := by decide +kernel
theorem dX13_toneMatch_282 : decode cX13_toneMatch 282 = .ok (.ifCond .ne 23, 3) := by decide +kernel
theorem dX13_toneMatch_285 : decode cX13_toneMatch 285 = .ok (.aload_n 0, 1) := by decide +kernel
theorem dX13_toneMatch_286 : decode cX13_toneMatch 286 = .ok (.aload_n 0, 1) := by decide +kernel
theorem dX13_toneMatch_287 : decode cX13_toneMatch 287 = .ok (.getfield 39, 3) := by decide +kernel
theorem dX13_toneMatch_290 : decode cX13_toneMatch 290 = .ok (.iload_n 1, 1) := by decide +kernel
theorem dX13_toneMatch_291 : decode cX13_toneMatch 291 = .ok (.iaload, 1) := by decide +kernel
theorem dX13_toneMatch_292 : decode cX13_toneMatch 292 = .ok (.iload_n 2, 1) := by decide +kernel
theorem dX13_toneMatch_293 : decode cX13_toneMatch 293 = .ok (.iconst 2, 1) := by decide +kernel
theorem dX13_toneMatch_294 : decode cX13_toneMatch 294 = .ok (.iadd, 1) := by decide +kernel
theorem dX13_toneMatch_295 : decode cX13_toneMatch 295 = .ok (.invokestatic 1233, 3) := by decide +kernel
theorem dX13_toneMatch_298 : decode cX13_toneMatch 298 = .ok (.ifCond .eq 7, 3) := by decide +kernel
theorem dX13_toneMatch_301 : decode cX13_toneMatch 301 = .ok (.iconst 1, 1) := by decide +kernel
theorem dX13_toneMatch_302 : decode cX13_toneMatch 302 = .ok (.goto 4, 3) := by decide +kernel
theorem dX13_toneMatch_305 : decode cX13_toneMatch 305 = .ok (.iconst 0, 1) := by decide +kernel
theorem dX13_toneMatch_306 : decode cX13_toneMatch 306 = .ok (.ireturn, 1) := by decide +kernel
theorem dX13_toneMatch_307 : decode cX13_toneMatch 307 = .ok (.iload_n 3, 1) := by decide +kernel
theorem dX13_toneMatch_308 : decode cX13_toneMatch 308 = .ok (.iconst 2, 1) := by decide +kernel
theorem dX13_toneMatch_309 : decode cX13_toneMatch 309 = .ok (.if_icmp .ne 16, 3) := by decide +kernel
theorem dX13_toneMatch_312 : decode cX13_toneMatch 312 = .ok (.aload_n 0, 1) := by decide +kernel
theorem dX13_toneMatch_313 : decode cX13_toneMatch 313 = .ok (.iload_n 1, 1) := by decide +kernel
theorem dX13_toneMatch_314 : decode cX13_toneMatch 314 = .ok (.iload_n 2, 1) := by decide +kernel
theorem dX13_toneMatch_315 : decode cX13_toneMatch 315 = .ok (.invokevirtual 1253, 3) := by decide +kernel
theorem dX13_toneMatch_318 : decode cX13_toneMatch 318 = .ok (.ifCond .eq 7, 3) := by decide +kernel
theorem dX13_toneMatch_321 : decode cX13_toneMatch 321 = .ok (.iconst 1, 1) := by decide +kernel
theorem dX13_toneMatch_322 : decode cX13_toneMatch 322 = .ok (.goto 4, 3) := by decide +kernel
theorem dX13_toneMatch_325 : decode cX13_toneMatch 325 = .ok (.iconst 0, 1) := by decide +kernel
theorem dX13_toneMatch_326 : decode cX13_toneMatch 326 = .ok (.ireturn, 1) := by decide +kernel
theorem dX13_toneMatch_327 : decode cX13_toneMatch 327 = .ok (.aload_n 0, 1) := by decide +kernel
theorem dX13_toneMatch_328 : decode cX13_toneMatch 328 = .ok (.iload_n 1, 1) := by decide +kernel
theorem dX13_toneMatch_329 : decode cX13_toneMatch 329 = .ok (.iload_n 2, 1) := by decide +kernel
theorem dX13_toneMatch_330 : decode cX13_toneMatch 330 = .ok (.invokevirtual 1256, 3) := by decide +kernel
theorem dX13_toneMatch_333 : decode cX13_toneMatch 333 = .ok (.ireturn, 1) := by decide +kernel
theorem dX13_toneMatch_334 : decode cX13_toneMatch 334 = .ok (.iload_n 3, 1) := by decide +kernel
theorem dX13_toneMatch_335 : decode cX13_toneMatch 335 = .ok (.bipush 6, 2) := by decide +kernel
theorem dX13_toneMatch_337 : decode cX13_toneMatch 337 = .ok (.if_icmp .ne 16, 3) := by decide +kernel
theorem dX13_toneMatch_340 : decode cX13_toneMatch 340 = .ok (.aload_n 0, 1) := by decide +kernel
theorem dX13_toneMatch_341 : decode cX13_toneMatch 341 = .ok (.iload_n 1, 1) := by decide +kernel
theorem dX13_toneMatch_342 : decode cX13_toneMatch 342 = .ok (.iload_n 2, 1) := by decide +kernel
theorem dX13_toneMatch_343 : decode cX13_toneMatch 343 = .ok (.invokestatic 1259, 3) := by decide +kernel
theorem dX13_toneMatch_346 : decode cX13_toneMatch 346 = .ok (.ifCond .eq 7, 3) := by decide +kernel
theorem dX13_toneMatch_349 : decode cX13_toneMatch 349 = .ok (.iconst 1, 1) := by decide +kernel
theorem dX13_toneMatch_350 : decode cX13_toneMatch 350 = .ok (.goto 4, 3) := by decide +kernel
theorem dX13_toneMatch_353 : decode cX13_toneMatch 353 = .ok (.iconst 0, 1) := by decide +kernel
theorem dX13_toneMatch_354 : decode cX13_toneMatch 354 = .ok (.ireturn, 1) := by decide +kernel
theorem dX13_toneMatch_355 : decode cX13_toneMatch 355 = .ok (.aload_n 0, 1) := by decide +kernel
theorem dX13_toneMatch_356 : decode cX13_toneMatch 356 = .ok (.iload_n 1, 1) := by decide +kernel
theorem dX13_toneMatch_357 : decode cX13_toneMatch 357 = .ok (.iload_n 2, 1) := by decide +kernel
theorem dX13_toneMatch_358 : decode cX13_toneMatch 358 = .ok (.iload_n 3, 1) := by decide +kernel
theorem dX13_toneMatch_359 : decode cX13_toneMatch 359 = .ok (.invokestatic 1262, 3) := by decide +kernel
theorem dX13_toneMatch_362 : decode cX13_toneMatch 362 = .ok (.ireturn, 1) := by decide +kernel
theorem dX13_toneMatch_4 : decode cX13_toneMatch 4 = .ok (.iload_n 2, 1) := by decide +kernel
theorem dX13_toneMatch_5 : decode cX13_toneMatch 5 = .ok (.laload, 1) := by decide +kernel
theorem dX13_toneMatch_6 : decode cX13_toneMatch 6 = .ok (.l2i, 1) := by decide +kernel
theorem dX13_toneMatch_7 : decode cX13_toneMatch 7 = .ok (.istore_n 3, 1) := by decide +kernel
theorem dX13_toneMatch_8 : decode cX13_toneMatch 8 = .ok (.aload_n 0, 1) := by decide +kernel
theorem dX13_toneMatch_9 : decode cX13_toneMatch 9 = .ok (.getfield 26, 3) := by decide +kernel
abbrev RT_X13_assign : Type := (Int32 → Int32 → Int32 → Int32 → Int32 → t_S → Option (Int32 × t_S)) × (Int32 → Int32 → t_S → Option (Int32 × t_S)) × (Int32 → Int32 → t_S → Option (Int32 × t_S)) × (Int32 → Int32 → Int32 → t_S → Option (Int32 × t_S)) × (Int32 → Int32 → t_S → Option (Int32 × t_S)) × (Int32 → t_S → Option (Int32 × t_S)) × (Int32 → Int32 → t_S → Option (Int32 × t_S)) × (Int32 → Int32 → t_S → Option (Int32 × t_S))
def RH_X13_assign (rc : RT_X13_assign) (k : Nat) : Prop := (∀ (x2 : Int32) (x3 : Int32) (x4 : Int32) (x5 : Int32) (x6 : Int32) (s : t_S) (r : Int32 × t_S), rc.1 x2 x3 x4 x5 x6 s = some r → t_C yX13_assign cX13_assign 25 (some .boolean) (102 + k) [.ref 950, .int x2, .int x3, .int x4, .int x5, .int x6] s (fun v s' => v = some (.int r.1) ∧ s' = r.2)) ∧ (∀ (x2 : Int32) (x3 : Int32) (s : t_S) (r : Int32 × t_S), rc.2.1 x2 x3 s = some r → t_C yX13_lengthMatch cX13_lengthMatch 4 (some .boolean) (102 + k) [.ref 950, .int x2, .int x3] s (fun v s' => v = some (.int r.1) ∧ s' = r.2)) ∧ (∀ (x2 : Int32) (x3 : Int32) (s : t_S) (r : Int32 × t_S), rc.2.2.1 x2 x3 s = some r → t_C yX13_listMatch cX13_listMatch 11 (some .boolean) (102 + k) [.ref 950, .int x2, .int x3] s (fun v s' => v = some (.int r.1) ∧ s' = r.2)) ∧ (∀ (x2 : Int32) (x3 : Int32) (x4 : Int32) (s : t_S) (r : Int32 × t_S), rc.2.2.2.1 x2 x3 x4 s = some r → t_C yX13_manyMatch cX13_manyMatch 8 (some .boolean) (102 + k) [.ref 950, .int x2, .int x3, .int x4] s (fun v s' => v = some (.int r.1) ∧ s' = r.2)) ∧ (∀ (x2 : Int32) (x3 : Int32) (s : t_S) (r : Int32 × t_S), rc.2.2.2.2.1 x2 x3 s = some r → t_C yX13_match cX13_match 7 (some .boolean) (102 + k) [.ref 950, .int x2, .int x3] s (fun v s' => v = some (.int r.1) ∧ s' = r.2)) ∧ (∀ (x2 : Int32) (s : t_S) (r : Int32 × t_S), rc.2.2.2.2.2.1 x2 s = some r → t_C yX13_omitMatch cX13_omitMatch 7 (some .boolean) (102 + k) [.ref 950, .int x2] s (fun v s' => v = some (.int r.1) ∧ s' = r.2)) ∧ (∀ (x2 : Int32) (x3 : Int32) (s : t_S) (r : Int32 × t_S), rc.2.2.2.2.2.2.1 x2 x3 s = some r → t_C yX13_recordMatch cX13_recordMatch 6 (some .boolean) (102 + k) [.ref 950, .int x2, .int x3] s (fun v s' => v = some (.int r.1) ∧ s' = r.2)) ∧ (∀ (x2 : Int32) (x3 : Int32) (s : t_S) (r : Int32 × t_S), rc.2.2.2.2.2.2.2 x2 x3 s = some r → t_C yX13_toneMatch cX13_toneMatch 5 (some .boolean) (102 + k) [.ref 950, .int x2, .int x3] s (fun v s' => v = some (.int r.1) ∧ s' = r.2))
noncomputable def k_X13_assign_313 (rc : RT_X13_assign) (l1 : Int32) (l2 : Int32) (l3 : Int32) (l5 : Int32) (l7 : Int32) (l8 : Int32) (l9 : Int64) (l11 : Int64) (l13 : Int64) (l15 : Int64) (l17 : Int32) (s : t_S) : Option ((Int32 × Int32 × Int32 × Int32 × Int32 × Int32 × Int64 × Int64 × Int64 × Int64 × Int32 × t_S) ⊕ (Int32 × t_S)) :=
 some (.inl (l1, l2, l3, l5, l7, l8, l9, l11, l13, l15, (l17 + 1), s))
set_option maxRecDepth 4000 in
set_option maxHeartbeats 1000000 in
theorem B_X13_assign_313 {D : va_G} {cy : Nat → ClassId} {ad : Nat → Nat} {bs : Nat} {X : State → Heap → Prop} (rc : RT_X13_assign) {k : Nat} (H : RH_X13_assign rc k) (l1 : Int32) (l2 : Int32) (l3 : Int32) (l5 : Int32) (l7 : Int32) (l8 : Int32) (l9 : Int64) (l11 : Int64) (l13 : Int64) (l15 : Int64) (l17 : Int32) (s : t_S) (Q : (Int32 × Int32 × Int32 × Int32 × Int32 × Int32 × Int64 × Int64 × Int64 × Int64 × Int32 × t_S) ⊕ (Int32 × t_S) → Prop) (Hb78 : ∀ (y0 : Int32) (y1 : Int32) (y2 : Int32) (y3 : Int32) (y4 : Int32) (y5 : Int32) (y6 : Int64) (y7 : Int64) (y8 : Int64) (y9 : Int64) (y10 : Int32) (y11 : t_S), Q (.inl (y0, y1, y2, y3, y4, y5, y6, y7, y8, y9, y10, y11)) → mj_G D cy ad bs X cX13_assign 25 yX13_assign.cls (some .boolean) yX13_assign.name (102 + (k + 1)) 0 0 1065 (t_P (fun v s' => ∃ x, v = some (.int x) ∧ Q (.inr ((x, s'))))) 78 [(0, .ref 950), (1, .int (y0)), (2, .int (y1)), (3, .int (y2)), (5, .int (y3)), (7, .int (y4)), (8, .int (y5)), (9, .long (y6)), (11, .long (y7)), (13, .long (y8)), (15, .long (y9)), (17, .int (y10))] [] (t_m y11) 1065 0 0) (hk : t_hk (k_X13_assign_313 rc l1 l2 l3 l5 l7 l8 l9 l11 l13 l15 l17 s) Q) : mj_G D cy ad bs X cX13_assign 25 yX13_assign.cls (some .boolean) yX13_assign.name (102 + (k + 1)) 0 0 1065 (t_P (fun v s' => ∃ x, v = some (.int x) ∧ Q (.inr ((x, s'))))) 313 [(0, .ref 950), (1, .int l1), (2, .int l2), (3, .int l3), (5, .int l5), (7, .int l7), (8, .int l8), (9, .long l9), (11, .long l11), (13, .long l13), (15, .long l15), (17, .int l17)] [] (t_m s) 1065 0 0 := by
  refine mj_iinc (k := 11) (v := (l17 + 1)) (lv2 := [(17, .int (l17 + 1)), (0, .ref 950), (1, .int l1), (2, .int l2), (3, .int l3), (5, .int l5), (7, .int l7), (8, .int l8), (9, .long l9), (11, .long l11), (13, .long l13), (15, .long l15)]) dX13_assign_313 rfl rfl (by decide) rfl ?_
  refine mj_goto 78 dX13_assign_316 (by decide) ?_
  refine mj_sublv [(0, .ref 950), (1, .int l1), (2, .int l2), (3, .int l3), (5, .int l5), (7, .int l7), (8, .int l8), (9, .long l9), (11, .long l11), (13, .long l13), (15, .long l15), (17, .int (l17 + 1))] [1, 2, 3, 4, 5, 6, 7, 8, 9, 10, 11, 0] rfl ?_
  exact t_somK hk (fun hf => Hb78 l1 l2 l3 l5 l7 l8 l9 l11 l13 l15 (l17 + 1) s hf)
noncomputable def k_X13_assign_212 (rc : RT_X13_assign) (l1 : Int32) (l2 : Int32) (l3 : Int32) (l5 : Int32) (l7 : Int32) (l8 : Int32) (l9 : Int64) (l11 : Int64) (l13 : Int64) (l15 : Int64) (l17 : Int32) (l18 : Int32) (l21 : Int32) (k0 : Int32) (s : t_S) : Option ((Int32 × Int32 × Int32 × Int32 × Int32 × Int32 × Int64 × Int64 × Int64 × Int64 × Int32 × Int32 × Int32 × Int32 × t_S) ⊕ ((Int32 × Int32 × Int32 × Int32 × Int32 × Int32 × Int64 × Int64 × Int64 × Int64 × Int32 × t_S) ⊕ (Int32 × t_S))) :=
 some (.inl (l1, l2, l3, l5, l7, l8, l9, l11, l13, l15, l17, l18, k0, (l21 + 1), s))
set_option maxRecDepth 4000 in
set_option maxHeartbeats 1000000 in
theorem B_X13_assign_212 {D : va_G} {cy : Nat → ClassId} {ad : Nat → Nat} {bs : Nat} {X : State → Heap → Prop} (rc : RT_X13_assign) {k : Nat} (H : RH_X13_assign rc k) (l1 : Int32) (l2 : Int32) (l3 : Int32) (l5 : Int32) (l7 : Int32) (l8 : Int32) (l9 : Int64) (l11 : Int64) (l13 : Int64) (l15 : Int64) (l17 : Int32) (l18 : Int32) (l21 : Int32) (k0 : Int32) (s : t_S) (Q : (Int32 × Int32 × Int32 × Int32 × Int32 × Int32 × Int64 × Int64 × Int64 × Int64 × Int32 × Int32 × Int32 × Int32 × t_S) ⊕ ((Int32 × Int32 × Int32 × Int32 × Int32 × Int32 × Int64 × Int64 × Int64 × Int64 × Int32 × t_S) ⊕ (Int32 × t_S)) → Prop) (Hb78 : ∀ (y0 : Int32) (y1 : Int32) (y2 : Int32) (y3 : Int32) (y4 : Int32) (y5 : Int32) (y6 : Int64) (y7 : Int64) (y8 : Int64) (y9 : Int64) (y10 : Int32) (y11 : t_S), Q (.inr (.inl (y0, y1, y2, y3, y4, y5, y6, y7, y8, y9, y10, y11))) → mj_G D cy ad bs X cX13_assign 25 yX13_assign.cls (some .boolean) yX13_assign.name (102 + (k + 1)) 0 0 1065 (t_P (fun v s' => ∃ x, v = some (.int x) ∧ Q (.inr (.inr ((x, s')))))) 78 [(0, .ref 950), (1, .int (y0)), (2, .int (y1)), (3, .int (y2)), (5, .int (y3)), (7, .int (y4)), (8, .int (y5)), (9, .long (y6)), (11, .long (y7)), (13, .long (y8)), (15, .long (y9)), (17, .int (y10))] [] (t_m y11) 1065 0 0) (Hb97 : ∀ (y0 : Int32) (y1 : Int32) (y2 : Int32) (y3 : Int32) (y4 : Int32) (y5 : Int32) (y6 : Int64) (y7 : Int64) (y8 : Int64) (y9 : Int64) (y10 : Int32) (y11 : Int32) (y12 : Int32) (y13 : Int32) (y14 : t_S), Q (.inl (y0, y1, y2, y3, y4, y5, y6, y7, y8, y9, y10, y11, y12, y13, y14)) → mj_G D cy ad bs X cX13_assign 25 yX13_assign.cls (some .boolean) yX13_assign.name (102 + (k + 1)) 0 0 1065 (t_P (fun v s' => ∃ x, v = some (.int x) ∧ Q (.inr (.inr ((x, s')))))) 97 [(0, .ref 950), (1, .int (y0)), (2, .int (y1)), (3, .int (y2)), (5, .int (y3)), (7, .int (y4)), (8, .int (y5)), (9, .long (y6)), (11, .long (y7)), (13, .long (y8)), (15, .long (y9)), (17, .int (y10)), (18, .int (y11)), (20, .int (y12)), (21, .int (y13))] [] (t_m y14) 1065 0 0) (hk : t_hk (k_X13_assign_212 rc l1 l2 l3 l5 l7 l8 l9 l11 l13 l15 l17 l18 l21 k0 s) Q) : mj_G D cy ad bs X cX13_assign 25 yX13_assign.cls (some .boolean) yX13_assign.name (102 + (k + 1)) 0 0 1065 (t_P (fun v s' => ∃ x, v = some (.int x) ∧ Q (.inr (.inr ((x, s')))))) 212 [(0, .ref 950), (1, .int l1), (2, .int l2), (3, .int l3), (5, .int l5), (7, .int l7), (8, .int l8), (9, .long l9), (11, .long l11), (13, .long l13), (15, .long l15), (17, .int l17), (18, .int l18), (21, .int l21)] [.int k0] (t_m s) 1065 0 0 := by
  refine mj_istore (lv2 := [(20, .int k0), (0, .ref 950), (1, .int l1), (2, .int l2), (3, .int l3), (5, .int l5), (7, .int l7), (8, .int l8), (9, .long l9), (11, .long l11), (13, .long l13), (15, .long l15), (17, .int l17), (18, .int l18), (21, .int l21)]) dX13_assign_212 (by decide) rfl ?_
  refine mj_iinc (k := 14) (v := (l21 + 1)) (lv2 := [(21, .int (l21 + 1)), (20, .int k0), (0, .ref 950), (1, .int l1), (2, .int l2), (3, .int l3), (5, .int l5), (7, .int l7), (8, .int l8), (9, .long l9), (11, .long l11), (13, .long l13), (15, .long l15), (17, .int l17), (18, .int l18)]) dX13_assign_214 rfl rfl (by decide) rfl ?_
  refine mj_goto 97 dX13_assign_217 (by decide) ?_
  refine mj_sublv [(0, .ref 950), (1, .int l1), (2, .int l2), (3, .int l3), (5, .int l5), (7, .int l7), (8, .int l8), (9, .long l9), (11, .long l11), (13, .long l13), (15, .long l15), (17, .int l17), (18, .int l18), (20, .int k0), (21, .int (l21 + 1))] [2, 3, 4, 5, 6, 7, 8, 9, 10, 11, 12, 13, 14, 1, 0] rfl ?_
  exact t_somK hk (fun hf => Hb97 l1 l2 l3 l5 l7 l8 l9 l11 l13 l15 l17 l18 k0 (l21 + 1) s hf)
noncomputable def k_X13_assign_192 (rc : RT_X13_assign) (l1 : Int32) (l2 : Int32) (l3 : Int32) (l5 : Int32) (l7 : Int32) (l8 : Int32) (l9 : Int64) (l11 : Int64) (l13 : Int64) (l15 : Int64) (l17 : Int32) (l20 : Int32) (l21 : Int32) (k0 : Int32) (k1 : Int32) (s : t_S) : Option ((Int32 × Int32 × Int32 × Int32 × Int32 × Int32 × Int64 × Int64 × Int64 × Int64 × Int32 × Int32 × Int32 × Int32 × t_S) ⊕ ((Int32 × Int32 × Int32 × Int32 × Int32 × Int32 × Int64 × Int64 × Int64 × Int64 × Int32 × t_S) ⊕ (Int32 × t_S))) :=
 if l5 = (0 : Int32) then (k_X13_assign_212 rc l1 l2 l3 l5 l7 l8 l9 l11 l13 l15 l17 (k1 ||| k0) l21 l20 s)
 else (if t_ix l20 13000 = true then
  k_X13_assign_212 rc l1 l2 l3 l5 l7 l8 l9 l11 l13 l15 l17 (k1 ||| k0) l21 (s.1 960 (l20.toNatClampNeg)) s
else none)
set_option maxRecDepth 4000 in
set_option maxHeartbeats 1000000 in
theorem B_X13_assign_192 {D : va_G} {cy : Nat → ClassId} {ad : Nat → Nat} {bs : Nat} {X : State → Heap → Prop} (rc : RT_X13_assign) {k : Nat} (H : RH_X13_assign rc k) (l1 : Int32) (l2 : Int32) (l3 : Int32) (l5 : Int32) (l7 : Int32) (l8 : Int32) (l9 : Int64) (l11 : Int64) (l13 : Int64) (l15 : Int64) (l17 : Int32) (l20 : Int32) (l21 : Int32) (k0 : Int32) (k1 : Int32) (s : t_S) (Q : (Int32 × Int32 × Int32 × Int32 × Int32 × Int32 × Int64 × Int64 × Int64 × Int64 × Int32 × Int32 × Int32 × Int32 × t_S) ⊕ ((Int32 × Int32 × Int32 × Int32 × Int32 × Int32 × Int64 × Int64 × Int64 × Int64 × Int32 × t_S) ⊕ (Int32 × t_S)) → Prop) (Hb78 : ∀ (y0 : Int32) (y1 : Int32) (y2 : Int32) (y3 : Int32) (y4 : Int32) (y5 : Int32) (y6 : Int64) (y7 : Int64) (y8 : Int64) (y9 : Int64) (y10 : Int32) (y11 : t_S), Q (.inr (.inl (y0, y1, y2, y3, y4, y5, y6, y7, y8, y9, y10, y11))) → mj_G D cy ad bs X cX13_assign 25 yX13_assign.cls (some .boolean) yX13_assign.name (102 + (k + 1)) 0 0 1065 (t_P (fun v s' => ∃ x, v = some (.int x) ∧ Q (.inr (.inr ((x, s')))))) 78 [(0, .ref 950), (1, .int (y0)), (2, .int (y1)), (3, .int (y2)), (5, .int (y3)), (7, .int (y4)), (8, .int (y5)), (9, .long (y6)), (11, .long (y7)), (13, .long (y8)), (15, .long (y9)), (17, .int (y10))] [] (t_m y11) 1065 0 0) (Hb97 : ∀ (y0 : Int32) (y1 : Int32) (y2 : Int32) (y3 : Int32) (y4 : Int32) (y5 : Int32) (y6 : Int64) (y7 : Int64) (y8 : Int64) (y9 : Int64) (y10 : Int32) (y11 : Int32) (y12 : Int32) (y13 : Int32) (y14 : t_S), Q (.inl (y0, y1, y2, y3, y4, y5, y6, y7, y8, y9, y10, y11, y12, y13, y14)) → mj_G D cy ad bs X cX13_assign 25 yX13_assign.cls (some .boolean) yX13_assign.name (102 + (k + 1)) 0 0 1065 (t_P (fun v s' => ∃ x, v = some (.int x) ∧ Q (.inr (.inr ((x, s')))))) 97 [(0, .ref 950), (1, .int (y0)), (2, .int (y1)), (3, .int (y2)), (5, .int (y3)), (7, .int (y4)), (8, .int (y5)), (9, .long (y6)), (11, .long (y7)), (13, .long (y8)), (15, .long (y9)), (17, .int (y10)), (18, .int (y11)), (20, .int (y12)), (21, .int (y13))] [] (t_m y14) 1065 0 0) (hk : t_hk (k_X13_assign_192 rc l1 l2 l3 l5 l7 l8 l9 l11 l13 l15 l17 l20 l21 k0 k1 s) Q) : mj_G D cy ad bs X cX13_assign 25 yX13_assign.cls (some .boolean) yX13_assign.name (102 + (k + 1)) 0 0 1065 (t_P (fun v s' => ∃ x, v = some (.int x) ∧ Q (.inr (.inr ((x, s')))))) 192 [(0, .ref 950), (1, .int l1), (2, .int l2), (3, .int l3), (5, .int l5), (7, .int l7), (8, .int l8), (9, .long l9), (11, .long l11), (13, .long l13), (15, .long l15), (17, .int l17), (20, .int l20), (21, .int l21)] [.int k0, .int k1] (t_m s) 1065 0 0 := by
  refine mj_ior dX13_assign_192 ?_
  refine mj_istore (lv2 := [(18, .int (k1 ||| k0)), (0, .ref 950), (1, .int l1), (2, .int l2), (3, .int l3), (5, .int l5), (7, .int l7), (8, .int l8), (9, .long l9), (11, .long l11), (13, .long l13), (15, .long l15), (17, .int l17), (20, .int l20), (21, .int l21)]) dX13_assign_193 (by decide) rfl ?_
  refine mj_iload dX13_assign_195 5 rfl ?_
  refine mj_if_eq 210 dX13_assign_197 (by decide) (fun z => t_posK hk z (fun hk => ?_)) (fun z => t_negK hk z (fun hk => ?_))
  · refine mj_iload dX13_assign_210 13 rfl ?_
    refine mj_sublv [(0, .ref 950), (1, .int l1), (2, .int l2), (3, .int l3), (5, .int l5), (7, .int l7), (8, .int l8), (9, .long l9), (11, .long l11), (13, .long l13), (15, .long l15), (17, .int l17), (18, .int (k1 ||| k0)), (21, .int l21)] [1, 2, 3, 4, 5, 6, 7, 8, 9, 10, 11, 12, 0, 14] rfl ?_
    exact B_X13_assign_212 rc H _ _ _ _ _ _ _ _ _ _ _ _ _ _ _ _ (fun y0 y1 y2 y3 y4 y5 y6 y7 y8 y9 y10 y11 hx => Hb78 y0 y1 y2 y3 y4 y5 y6 y7 y8 y9 y10 y11 hx) (fun y0 y1 y2 y3 y4 y5 y6 y7 y8 y9 y10 y11 y12 y13 y14 hx => Hb97 y0 y1 y2 y3 y4 y5 y6 y7 y8 y9 y10 y11 y12 y13 y14 hx) hk
  · refine mj_aload_n dX13_assign_200 1 rfl ?_
    refine t_getR 960 dX13_assign_201 F_X13_42 qr_950_22 ?_
    refine mj_iload dX13_assign_204 13 rfl ?_
    refine t_chkK hk (fun c0 hk => ?_)
    refine t_iald dX13_assign_206 qa_960 (t_ixv c0) ?_
    refine mj_goto 212 dX13_assign_207 (by decide) ?_
    refine mj_sublv [(0, .ref 950), (1, .int l1), (2, .int l2), (3, .int l3), (5, .int l5), (7, .int l7), (8, .int l8), (9, .long l9), (11, .long l11), (13, .long l13), (15, .long l15), (17, .int l17), (18, .int (k1 ||| k0)), (21, .int l21)] [1, 2, 3, 4, 5, 6, 7, 8, 9, 10, 11, 12, 0, 14] rfl ?_
    exact B_X13_assign_212 rc H _ _ _ _ _ _ _ _ _ _ _ _ _ _ _ _ (fun y0 y1 y2 y3 y4 y5 y6 y7 y8 y9 y10 y11 hx => Hb78 y0 y1 y2 y3 y4 y5 y6 y7 y8 y9 y10 y11 hx) (fun y0 y1 y2 y3 y4 y5 y6 y7 y8 y9 y10 y11 y12 y13 y14 hx => Hb97 y0 y1 y2 y3 y4 y5 y6 y7 y8 y9 y10 y11 y12 y13 y14 hx) hk
noncomputable def k_X13_assign_171 (rc : RT_X13_assign) (l1 : Int32) (l2 : Int32) (l3 : Int32) (l5 : Int32) (l7 : Int32) (l8 : Int32) (l9 : Int64) (l11 : Int64) (l13 : Int64) (l15 : Int64) (l17 : Int32) (l18 : Int32) (l20 : Int32) (l21 : Int32) (l22 : Int32) (l23 : Int32) (s : t_S) : Option ((Int32 × Int32 × Int32 × Int32 × Int32 × Int32 × Int64 × Int64 × Int64 × Int64 × Int32 × Int32 × Int32 × Int32 × t_S) ⊕ ((Int32 × Int32 × Int32 × Int32 × Int32 × Int32 × Int64 × Int64 × Int64 × Int64 × Int32 × t_S) ⊕ (Int32 × t_S))) :=
 (rc.2.2.2.2.1 l22 l23 s).bind (fun r1 =>
 if r1.1 = (0 : Int32) then (k_X13_assign_192 rc l1 l2 l3 l5 l7 l8 l9 l11 l13 l15 l17 l20 l21 0 l18 r1.2)
 else (k_X13_assign_192 rc l1 l2 l3 l5 l7 l8 l9 l11 l13 l15 l17 l20 l21 ((1 : Int32) <<< (l21 &&& 31)) l18 r1.2))
set_option maxRecDepth 4000 in
set_option maxHeartbeats 1000000 in
theorem B_X13_assign_171 {D : va_G} {cy : Nat → ClassId} {ad : Nat → Nat} {bs : Nat} {X : State → Heap → Prop} (rc : RT_X13_assign) {k : Nat} (H : RH_X13_assign rc k) (l1 : Int32) (l2 : Int32) (l3 : Int32) (l5 : Int32) (l7 : Int32) (l8 : Int32) (l9 : Int64) (l11 : Int64) (l13 : Int64) (l15 : Int64) (l17 : Int32) (l18 : Int32) (l20 : Int32) (l21 : Int32) (l22 : Int32) (l23 : Int32) (s : t_S) (Q : (Int32 × Int32 × Int32 × Int32 × Int32 × Int32 × Int64 × Int64 × Int64 × Int64 × Int32 × Int32 × Int32 × Int32 × t_S) ⊕ ((Int32 × Int32 × Int32 × Int32 × Int32 × Int32 × Int64 × Int64 × Int64 × Int64 × Int32 × t_S) ⊕ (Int32 × t_S)) → Prop) (Hb78 : ∀ (y0 : Int32) (y1 : Int32) (y2 : Int32) (y3 : Int32) (y4 : Int32) (y5 : Int32) (y6 : Int64) (y7 : Int64) (y8 : Int64) (y9 : Int64) (y10 : Int32) (y11 : t_S), Q (.inr (.inl (y0, y1, y2, y3, y4, y5, y6, y7, y8, y9, y10, y11))) → mj_G D cy ad bs X cX13_assign 25 yX13_assign.cls (some .boolean) yX13_assign.name (102 + (k + 1)) 0 0 1065 (t_P (fun v s' => ∃ x, v = some (.int x) ∧ Q (.inr (.inr ((x, s')))))) 78 [(0, .ref 950), (1, .int (y0)), (2, .int (y1)), (3, .int (y2)), (5, .int (y3)), (7, .int (y4)), (8, .int (y5)), (9, .long (y6)), (11, .long (y7)), (13, .long (y8)), (15, .long (y9)), (17, .int (y10))] [] (t_m y11) 1065 0 0) (Hb97 : ∀ (y0 : Int32) (y1 : Int32) (y2 : Int32) (y3 : Int32) (y4 : Int32) (y5 : Int32) (y6 : Int64) (y7 : Int64) (y8 : Int64) (y9 : Int64) (y10 : Int32) (y11 : Int32) (y12 : Int32) (y13 : Int32) (y14 : t_S), Q (.inl (y0, y1, y2, y3, y4, y5, y6, y7, y8, y9, y10, y11, y12, y13, y14)) → mj_G D cy ad bs X cX13_assign 25 yX13_assign.cls (some .boolean) yX13_assign.name (102 + (k + 1)) 0 0 1065 (t_P (fun v s' => ∃ x, v = some (.int x) ∧ Q (.inr (.inr ((x, s')))))) 97 [(0, .ref 950), (1, .int (y0)), (2, .int (y1)), (3, .int (y2)), (5, .int (y3)), (7, .int (y4)), (8, .int (y5)), (9, .long (y6)), (11, .long (y7)), (13, .long (y8)), (15, .long (y9)), (17, .int (y10)), (18, .int (y11)), (20, .int (y12)), (21, .int (y13))] [] (t_m y14) 1065 0 0) (hk : t_hk (k_X13_assign_171 rc l1 l2 l3 l5 l7 l8 l9 l11 l13 l15 l17 l18 l20 l21 l22 l23 s) Q) : mj_G D cy ad bs X cX13_assign 25 yX13_assign.cls (some .boolean) yX13_assign.name (102 + (k + 1)) 0 0 1065 (t_P (fun v s' => ∃ x, v = some (.int x) ∧ Q (.inr (.inr ((x, s')))))) 171 [(0, .ref 950), (1, .int l1), (2, .int l2), (3, .int l3), (5, .int l5), (7, .int l7), (8, .int l8), (9, .long l9), (11, .long l11), (13, .long l13), (15, .long l15), (17, .int l17), (18, .int l18), (20, .int l20), (21, .int l21), (22, .int l22), (23, .int l23)] [] (t_m s) 1065 0 0 := by
  refine mj_iload dX13_assign_171 12 rfl ?_
  refine mj_aload_n dX13_assign_173 0 rfl ?_
  refine mj_iload dX13_assign_174 15 rfl ?_
  refine mj_iload dX13_assign_176 16 rfl ?_
  refine t_bndK hk (fun r1 er1 hk => ?_)
  refine t_callSiE dX13_assign_178 M_X13_match (H.2.2.2.2.1 _ _ _ _ er1) ML_X13_1233 SM_X13_match (As := [.ref 950, .int l22, .int l23]) rfl rfl (by omega) (Nat.le_of_ble_eq_true rfl) (Nat.le_of_ble_eq_true rfl) (Nat.le_of_ble_eq_true rfl) ?_
  refine mj_if_eq 191 dX13_assign_181 (by decide) (fun z => t_posK hk z (fun hk => ?_)) (fun z => t_negK hk z (fun hk => ?_))
  · refine mj_iconst (v := 0) dX13_assign_191 (by decide) ?_
    refine mj_sublv [(0, .ref 950), (1, .int l1), (2, .int l2), (3, .int l3), (5, .int l5), (7, .int l7), (8, .int l8), (9, .long l9), (11, .long l11), (13, .long l13), (15, .long l15), (17, .int l17), (20, .int l20), (21, .int l21)] [0, 1, 2, 3, 4, 5, 6, 7, 8, 9, 10, 11, 13, 14] rfl ?_
    exact B_X13_assign_192 rc H _ _ _ _ _ _ _ _ _ _ _ _ _ _ _ _ _ (fun y0 y1 y2 y3 y4 y5 y6 y7 y8 y9 y10 y11 hx => Hb78 y0 y1 y2 y3 y4 y5 y6 y7 y8 y9 y10 y11 hx) (fun y0 y1 y2 y3 y4 y5 y6 y7 y8 y9 y10 y11 y12 y13 y14 hx => Hb97 y0 y1 y2 y3 y4 y5 y6 y7 y8 y9 y10 y11 y12 y13 y14 hx) hk
  · refine mj_iconst (v := 1) dX13_assign_184 (by decide) ?_
    refine mj_iload dX13_assign_185 14 rfl ?_
    refine mj_ishl dX13_assign_187 ?_
    refine mj_goto 192 dX13_assign_188 (by decide) ?_
    refine mj_sublv [(0, .ref 950), (1, .int l1), (2, .int l2), (3, .int l3), (5, .int l5), (7, .int l7), (8, .int l8), (9, .long l9), (11, .long l11), (13, .long l13), (15, .long l15), (17, .int l17), (20, .int l20), (21, .int l21)] [0, 1, 2, 3, 4, 5, 6, 7, 8, 9, 10, 11, 13, 14] rfl ?_
    exact B_X13_assign_192 rc H _ _ _ _ _ _ _ _ _ _ _ _ _ _ _ _ _ (fun y0 y1 y2 y3 y4 y5 y6 y7 y8 y9 y10 y11 hx => Hb78 y0 y1 y2 y3 y4 y5 y6 y7 y8 y9 y10 y11 hx) (fun y0 y1 y2 y3 y4 y5 y6 y7 y8 y9 y10 y11 y12 y13 y14 hx => Hb97 y0 y1 y2 y3 y4 y5 y6 y7 y8 y9 y10 y11 y12 y13 y14 hx) hk
noncomputable def k_X13_assign_149 (rc : RT_X13_assign) (l1 : Int32) (l2 : Int32) (l3 : Int32) (l5 : Int32) (l7 : Int32) (l8 : Int32) (l9 : Int64) (l11 : Int64) (l13 : Int64) (l15 : Int64) (l17 : Int32) (l18 : Int32) (l20 : Int32) (l21 : Int32) (l22 : Int32) (l23 : Int32) (l24 : Int32) (s : t_S) : Option ((Int32 × Int32 × Int32 × Int32 × Int32 × Int32 × Int64 × Int64 × Int64 × Int64 × Int32 × Int32 × Int32 × Int32 × Int32 × Int32 × Int32 × t_S) ⊕ ((Int32 × Int32 × Int32 × Int32 × Int32 × Int32 × Int64 × Int64 × Int64 × Int64 × Int32 × Int32 × Int32 × Int32 × t_S) ⊕ ((Int32 × Int32 × Int32 × Int32 × Int32 × Int32 × Int64 × Int64 × Int64 × Int64 × Int32 × t_S) ⊕ (Int32 × t_S)))) :=
 if l17 ≤ l24 then ((k_X13_assign_171 rc l1 l2 l3 l5 l7 l8 l9 l11 l13 l15 l17 l18 l20 l21 l22 l23 s).map Sum.inr)
 else (if t_ix l22 13000 = true then
  some (.inl (l1, l2, l3, l5, l7, l8, l9, l11, l13, l15, l17, l18, l20, l21, (s.1 960 (l22.toNatClampNeg)), l23, (l24 + 1), s))
else none)
set_option maxRecDepth 4000 in
set_option maxHeartbeats 1000000 in
theorem B_X13_assign_149 {D : va_G} {cy : Nat → ClassId} {ad : Nat → Nat} {bs : Nat} {X : State → Heap → Prop} (rc : RT_X13_assign) {k : Nat} (H : RH_X13_assign rc k) (l1 : Int32) (l2 : Int32) (l3 : Int32) (l5 : Int32) (l7 : Int32) (l8 : Int32) (l9 : Int64) (l11 : Int64) (l13 : Int64) (l15 : Int64) (l17 : Int32) (l18 : Int32) (l20 : Int32) (l21 : Int32) (l22 : Int32) (l23 : Int32) (l24 : Int32) (s : t_S) (Q : (Int32 × Int32 × Int32 × Int32 × Int32 × Int32 × Int64 × Int64 × Int64 × Int64 × Int32 × Int32 × Int32 × Int32 × Int32 × Int32 × Int32 × t_S) ⊕ ((Int32 × Int32 × Int32 × Int32 × Int32 × Int32 × Int64 × Int64 × Int64 × Int64 × Int32 × Int32 × Int32 × Int32 × t_S) ⊕ ((Int32 × Int32 × Int32 × Int32 × Int32 × Int32 × Int64 × Int64 × Int64 × Int64 × Int32 × t_S) ⊕ (Int32 × t_S))) → Prop) (Hb78 : ∀ (y0 : Int32) (y1 : Int32) (y2 : Int32) (y3 : Int32) (y4 : Int32) (y5 : Int32) (y6 : Int64) (y7 : Int64) (y8 : Int64) (y9 : Int64) (y10 : Int32) (y11 : t_S), Q (.inr (.inr (.inl (y0, y1, y2, y3, y4, y5, y6, y7, y8, y9, y10, y11)))) → mj_G D cy ad bs X cX13_assign 25 yX13_assign.cls (some .boolean) yX13_assign.name (102 + (k + 1)) 0 0 1065 (t_P (fun v s' => ∃ x, v = some (.int x) ∧ Q (.inr (.inr (.inr ((x, s'))))))) 78 [(0, .ref 950), (1, .int (y0)), (2, .int (y1)), (3, .int (y2)), (5, .int (y3)), (7, .int (y4)), (8, .int (y5)), (9, .long (y6)), (11, .long (y7)), (13, .long (y8)), (15, .long (y9)), (17, .int (y10))] [] (t_m y11) 1065 0 0) (Hb97 : ∀ (y0 : Int32) (y1 : Int32) (y2 : Int32) (y3 : Int32) (y4 : Int32) (y5 : Int32) (y6 : Int64) (y7 : Int64) (y8 : Int64) (y9 : Int64) (y10 : Int32) (y11 : Int32) (y12 : Int32) (y13 : Int32) (y14 : t_S), Q (.inr (.inl (y0, y1, y2, y3, y4, y5, y6, y7, y8, y9, y10, y11, y12, y13, y14))) → mj_G D cy ad bs X cX13_assign 25 yX13_assign.cls (some .boolean) yX13_assign.name (102 + (k + 1)) 0 0 1065 (t_P (fun v s' => ∃ x, v = some (.int x) ∧ Q (.inr (.inr (.inr ((x, s'))))))) 97 [(0, .ref 950), (1, .int (y0)), (2, .int (y1)), (3, .int (y2)), (5, .int (y3)), (7, .int (y4)), (8, .int (y5)), (9, .long (y6)), (11, .long (y7)), (13, .long (y8)), (15, .long (y9)), (17, .int (y10)), (18, .int (y11)), (20, .int (y12)), (21, .int (y13))] [] (t_m y14) 1065 0 0) (Hb149 : ∀ (y0 : Int32) (y1 : Int32) (y2 : Int32) (y3 : Int32) (y4 : Int32) (y5 : Int32) (y6 : Int64) (y7 : Int64) (y8 : Int64) (y9 : Int64) (y10 : Int32) (y11 : Int32) (y12 : Int32) (y13 : Int32) (y14 : Int32) (y15 : Int32) (y16 : Int32) (y17 : t_S), Q (.inl (y0, y1, y2, y3, y4, y5, y6, y7, y8, y9, y10, y11, y12, y13, y14, y15, y16, y17)) → mj_G D cy ad bs X cX13_assign 25 yX13_assign.cls (some .boolean) yX13_assign.name (102 + (k + 1)) 0 0 1065 (t_P (fun v s' => ∃ x, v = some (.int x) ∧ Q (.inr (.inr (.inr ((x, s'))))))) 149 [(0, .ref 950), (1, .int (y0)), (2, .int (y1)), (3, .int (y2)), (5, .int (y3)), (7, .int (y4)), (8, .int (y5)), (9, .long (y6)), (11, .long (y7)), (13, .long (y8)), (15, .long (y9)), (17, .int (y10)), (18, .int (y11)), (20, .int (y12)), (21, .int (y13)), (22, .int (y14)), (23, .int (y15)), (24, .int (y16))] [] (t_m y17) 1065 0 0) (hk : t_hk (k_X13_assign_149 rc l1 l2 l3 l5 l7 l8 l9 l11 l13 l15 l17 l18 l20 l21 l22 l23 l24 s) Q) : mj_G D cy ad bs X cX13_assign 25 yX13_assign.cls (some .boolean) yX13_assign.name (102 + (k + 1)) 0 0 1065 (t_P (fun v s' => ∃ x, v = some (.int x) ∧ Q (.inr (.inr (.inr ((x, s'))))))) 149 [(0, .ref 950), (1, .int l1), (2, .int l2), (3, .int l3), (5, .int l5), (7, .int l7), (8, .int l8), (9, .long l9), (11, .long l11), (13, .long l13), (15, .long l15), (17, .int l17), (18, .int l18), (20, .int l20), (21, .int l21), (22, .int l22), (23, .int l23), (24, .int l24)] [] (t_m s) 1065 0 0 := by
  refine mj_iload dX13_assign_149 17 rfl ?_
  refine mj_iload dX13_assign_151 11 rfl ?_
  refine mj_icmp_ge 171 dX13_assign_153 (by decide) (fun z => t_posK hk z (fun hk => ?_)) (fun z => t_negK hk z (fun hk => ?_))
  · refine mj_sublv [(0, .ref 950), (1, .int l1), (2, .int l2), (3, .int l3), (5, .int l5), (7, .int l7), (8, .int l8), (9, .long l9), (11, .long l11), (13, .long l13), (15, .long l15), (17, .int l17), (18, .int l18), (20, .int l20), (21, .int l21), (22, .int l22), (23, .int l23)] [0, 1, 2, 3, 4, 5, 6, 7, 8, 9, 10, 11, 12, 13, 14, 15, 16] rfl ?_
    refine t_mapK hk (fun hk => ?_)
    exact B_X13_assign_171 rc H _ _ _ _ _ _ _ _ _ _ _ _ _ _ _ _ _ _ (fun y0 y1 y2 y3 y4 y5 y6 y7 y8 y9 y10 y11 hx => Hb78 y0 y1 y2 y3 y4 y5 y6 y7 y8 y9 y10 y11 hx) (fun y0 y1 y2 y3 y4 y5 y6 y7 y8 y9 y10 y11 y12 y13 y14 hx => Hb97 y0 y1 y2 y3 y4 y5 y6 y7 y8 y9 y10 y11 y12 y13 y14 hx) hk
  · refine mj_aload_n dX13_assign_156 0 rfl ?_
    refine t_getR 960 dX13_assign_157 F_X13_42 qr_950_22 ?_
    refine mj_iload dX13_assign_160 15 rfl ?_
    refine t_chkK hk (fun c0 hk => ?_)
    refine t_iald dX13_assign_162 qa_960 (t_ixv c0) ?_
    refine mj_istore (lv2 := [(22, .int (s.1 960 (l22.toNatClampNeg))), (0, .ref 950), (1, .int l1), (2, .int l2), (3, .int l3), (5, .int l5), (7, .int l7), (8, .int l8), (9, .long l9), (11, .long l11), (13, .long l13), (15, .long l15), (17, .int l17), (18, .int l18), (20, .int l20), (21, .int l21), (23, .int l23), (24, .int l24)]) dX13_assign_163 (by decide) rfl ?_
    refine mj_iinc (k := 17) (v := (l24 + 1)) (lv2 := [(24, .int (l24 + 1)), (22, .int (s.1 960 (l22.toNatClampNeg))), (0, .ref 950), (1, .int l1), (2, .int l2), (3, .int l3), (5, .int l5), (7, .int l7), (8, .int l8), (9, .long l9), (11, .long l11), (13, .long l13), (15, .long l15), (17, .int l17), (18, .int l18), (20, .int l20), (21, .int l21), (23, .int l23)]) dX13_assign_165 rfl rfl (by decide) rfl ?_
    refine mj_goto 149 dX13_assign_168 (by decide) ?_
    refine mj_sublv [(0, .ref 950), (1, .int l1), (2, .int l2), (3, .int l3), (5, .int l5), (7, .int l7), (8, .int l8), (9, .long l9), (11, .long l11), (13, .long l13), (15, .long l15), (17, .int l17), (18, .int l18), (20, .int l20), (21, .int l21), (22, .int (s.1 960 (l22.toNatClampNeg))), (23, .int l23), (24, .int (l24 + 1))] [2, 3, 4, 5, 6, 7, 8, 9, 10, 11, 12, 13, 14, 15, 16, 1, 17, 0] rfl ?_
    exact t_somK hk (fun hf => Hb149 l1 l2 l3 l5 l7 l8 l9 l11 l13 l15 l17 l18 l20 l21 (s.1 960 (l22.toNatClampNeg)) l23 (l24 + 1) s hf)
noncomputable def b_X13_assign_149 (rc : RT_X13_assign) (x : Int32 × Int32 × Int32 × Int32 × Int32 × Int32 × Int64 × Int64 × Int64 × Int64 × Int32 × Int32 × Int32 × Int32 × Int32 × Int32 × Int32 × t_S) : Option ((Int32 × Int32 × Int32 × Int32 × Int32 × Int32 × Int64 × Int64 × Int64 × Int64 × Int32 × Int32 × Int32 × Int32 × Int32 × Int32 × Int32 × t_S) ⊕ ((Int32 × Int32 × Int32 × Int32 × Int32 × Int32 × Int64 × Int64 × Int64 × Int64 × Int32 × Int32 × Int32 × Int32 × t_S) ⊕ ((Int32 × Int32 × Int32 × Int32 × Int32 × Int32 × Int64 × Int64 × Int64 × Int64 × Int32 × t_S) ⊕ (Int32 × t_S)))) := k_X13_assign_149 rc x.1 x.2.1 x.2.2.1 x.2.2.2.1 x.2.2.2.2.1 x.2.2.2.2.2.1 x.2.2.2.2.2.2.1 x.2.2.2.2.2.2.2.1 x.2.2.2.2.2.2.2.2.1 x.2.2.2.2.2.2.2.2.2.1 x.2.2.2.2.2.2.2.2.2.2.1 x.2.2.2.2.2.2.2.2.2.2.2.1 x.2.2.2.2.2.2.2.2.2.2.2.2.1 x.2.2.2.2.2.2.2.2.2.2.2.2.2.1 x.2.2.2.2.2.2.2.2.2.2.2.2.2.2.1 x.2.2.2.2.2.2.2.2.2.2.2.2.2.2.2.1 x.2.2.2.2.2.2.2.2.2.2.2.2.2.2.2.2.1 x.2.2.2.2.2.2.2.2.2.2.2.2.2.2.2.2.2
set_option maxRecDepth 4000 in
set_option maxHeartbeats 1000000 in
theorem LH_X13_assign_149 {D : va_G} {cy : Nat → ClassId} {ad : Nat → Nat} {bs : Nat} {X : State → Heap → Prop} (rc : RT_X13_assign) {k : Nat} (H : RH_X13_assign rc k) : ∀ (n : Nat) (y0 : Int32) (y1 : Int32) (y2 : Int32) (y3 : Int32) (y4 : Int32) (y5 : Int32) (y6 : Int64) (y7 : Int64) (y8 : Int64) (y9 : Int64) (y10 : Int32) (y11 : Int32) (y12 : Int32) (y13 : Int32) (y14 : Int32) (y15 : Int32) (y16 : Int32) (y17 : t_S) (Q : (Int32 × Int32 × Int32 × Int32 × Int32 × Int32 × Int64 × Int64 × Int64 × Int64 × Int32 × Int32 × Int32 × Int32 × t_S) ⊕ ((Int32 × Int32 × Int32 × Int32 × Int32 × Int32 × Int64 × Int64 × Int64 × Int64 × Int32 × t_S) ⊕ (Int32 × t_S)) → Prop) (Hb78 : ∀ (y0 : Int32) (y1 : Int32) (y2 : Int32) (y3 : Int32) (y4 : Int32) (y5 : Int32) (y6 : Int64) (y7 : Int64) (y8 : Int64) (y9 : Int64) (y10 : Int32) (y11 : t_S), Q (.inr (.inl (y0, y1, y2, y3, y4, y5, y6, y7, y8, y9, y10, y11))) → mj_G D cy ad bs X cX13_assign 25 yX13_assign.cls (some .boolean) yX13_assign.name (102 + (k + 1)) 0 0 1065 (t_P (fun v s' => ∃ x, v = some (.int x) ∧ Q (.inr (.inr ((x, s')))))) 78 [(0, .ref 950), (1, .int (y0)), (2, .int (y1)), (3, .int (y2)), (5, .int (y3)), (7, .int (y4)), (8, .int (y5)), (9, .long (y6)), (11, .long (y7)), (13, .long (y8)), (15, .long (y9)), (17, .int (y10))] [] (t_m y11) 1065 0 0) (Hb97 : ∀ (y0 : Int32) (y1 : Int32) (y2 : Int32) (y3 : Int32) (y4 : Int32) (y5 : Int32) (y6 : Int64) (y7 : Int64) (y8 : Int64) (y9 : Int64) (y10 : Int32) (y11 : Int32) (y12 : Int32) (y13 : Int32) (y14 : t_S), Q (.inl (y0, y1, y2, y3, y4, y5, y6, y7, y8, y9, y10, y11, y12, y13, y14)) → mj_G D cy ad bs X cX13_assign 25 yX13_assign.cls (some .boolean) yX13_assign.name (102 + (k + 1)) 0 0 1065 (t_P (fun v s' => ∃ x, v = some (.int x) ∧ Q (.inr (.inr ((x, s')))))) 97 [(0, .ref 950), (1, .int (y0)), (2, .int (y1)), (3, .int (y2)), (5, .int (y3)), (7, .int (y4)), (8, .int (y5)), (9, .long (y6)), (11, .long (y7)), (13, .long (y8)), (15, .long (y9)), (17, .int (y10)), (18, .int (y11)), (20, .int (y12)), (21, .int (y13))] [] (t_m y14) 1065 0 0) (hk : t_hk (t_loop (b_X13_assign_149 rc) n (y0, y1, y2, y3, y4, y5, y6, y7, y8, y9, y10, y11, y12, y13, y14, y15, y16, y17)) Q), mj_G D cy ad bs X cX13_assign 25 yX13_assign.cls (some .boolean) yX13_assign.name (102 + (k + 1)) 0 0 1065 (t_P (fun v s' => ∃ x, v = some (.int x) ∧ Q (.inr (.inr ((x, s')))))) 149 [(0, .ref 950), (1, .int (y0)), (2, .int (y1)), (3, .int (y2)), (5, .int (y3)), (7, .int (y4)), (8, .int (y5)), (9, .long (y6)), (11, .long (y7)), (13, .long (y8)), (15, .long (y9)), (17, .int (y10)), (18, .int (y11)), (20, .int (y12)), (21, .int (y13)), (22, .int (y14)), (23, .int (y15)), (24, .int (y16))] [] (t_m y17) 1065 0 0 := by
  intro n
  induction n with
  | zero => intro y0 y1 y2 y3 y4 y5 y6 y7 y8 y9 y10 y11 y12 y13 y14 y15 y16 y17 Q Hb78 Hb97 hk; obtain ⟨r, hr, _⟩ := hk; cases hr
  | succ n ih =>
    intro y0 y1 y2 y3 y4 y5 y6 y7 y8 y9 y10 y11 y12 y13 y14 y15 y16 y17 Q Hb78 Hb97 hk
    exact B_X13_assign_149 rc H y0 y1 y2 y3 y4 y5 y6 y7 y8 y9 y10 y11 y12 y13 y14 y15 y16 y17 (fun y => t_lq (b_X13_assign_149 rc) n Q y) (fun y0' y1' y2' y3' y4' y5' y6' y7' y8' y9' y10' y11' hy => Hb78 y0' y1' y2' y3' y4' y5' y6' y7' y8' y9' y10' y11' hy) (fun y0' y1' y2' y3' y4' y5' y6' y7' y8' y9' y10' y11' y12' y13' y14' hy => Hb97 y0' y1' y2' y3' y4' y5' y6' y7' y8' y9' y10' y11' y12' y13' y14' hy) (fun y0' y1' y2' y3' y4' y5' y6' y7' y8' y9' y10' y11' y12' y13' y14' y15' y16' y17' hy => ih y0' y1' y2' y3' y4' y5' y6' y7' y8' y9' y10' y11' y12' y13' y14' y15' y16' y17' Q Hb78 Hb97 hy) (t_lp (b := b_X13_assign_149 rc) (n := n) (x := (y0, y1, y2, y3, y4, y5, y6, y7, y8, y9, y10, y11, y12, y13, y14, y15, y16, y17)) hk)
noncomputable def k_X13_assign_132 (rc : RT_X13_assign) (l1 : Int32) (l2 : Int32) (l3 : Int32) (l5 : Int32) (l7 : Int32) (l8 : Int32) (l9 : Int64) (l11 : Int64) (l13 : Int64) (l15 : Int64) (l17 : Int32) (l18 : Int32) (l20 : Int32) (l21 : Int32) (l22 : Int32) (k0 : Int32) (k1 : Int32) (k2 : Int32) (s : t_S) : Option ((Int32 × Int32 × Int32 × Int32 × Int32 × Int32 × Int64 × Int64 × Int64 × Int64 × Int32 × Int32 × Int32 × Int32 × t_S) ⊕ ((Int32 × Int32 × Int32 × Int32 × Int32 × Int32 × Int64 × Int64 × Int64 × Int64 × Int32 × t_S) ⊕ (Int32 × t_S))) :=
 (f_X13_partOf k2 (k1 + k0) s).bind (fun r1 =>
 if l5 = (0 : Int32) then (t_loop (b_X13_assign_149 rc) t_N (l1, l2, l3, l5, l7, l8, l9, l11, l13, l15, l17, l18, l20, l21, l1, r1, 0, s))
 else (k_X13_assign_171 rc l1 l2 l3 l5 l7 l8 l9 l11 l13 l15 l17 l18 l20 l21 l22 r1 s))
set_option maxRecDepth 4000 in
set_option maxHeartbeats 1000000 in
theorem B_X13_assign_132 {D : va_G} {cy : Nat → ClassId} {ad : Nat → Nat} {bs : Nat} {X : State → Heap → Prop} (rc : RT_X13_assign) {k : Nat} (H : RH_X13_assign rc k) (l1 : Int32) (l2 : Int32) (l3 : Int32) (l5 : Int32) (l7 : Int32) (l8 : Int32) (l9 : Int64) (l11 : Int64) (l13 : Int64) (l15 : Int64) (l17 : Int32) (l18 : Int32) (l20 : Int32) (l21 : Int32) (l22 : Int32) (k0 : Int32) (k1 : Int32) (k2 : Int32) (s : t_S) (Q : (Int32 × Int32 × Int32 × Int32 × Int32 × Int32 × Int64 × Int64 × Int64 × Int64 × Int32 × Int32 × Int32 × Int32 × t_S) ⊕ ((Int32 × Int32 × Int32 × Int32 × Int32 × Int32 × Int64 × Int64 × Int64 × Int64 × Int32 × t_S) ⊕ (Int32 × t_S)) → Prop) (Hb78 : ∀ (y0 : Int32) (y1 : Int32) (y2 : Int32) (y3 : Int32) (y4 : Int32) (y5 : Int32) (y6 : Int64) (y7 : Int64) (y8 : Int64) (y9 : Int64) (y10 : Int32) (y11 : t_S), Q (.inr (.inl (y0, y1, y2, y3, y4, y5, y6, y7, y8, y9, y10, y11))) → mj_G D cy ad bs X cX13_assign 25 yX13_assign.cls (some .boolean) yX13_assign.name (102 + (k + 1)) 0 0 1065 (t_P (fun v s' => ∃ x, v = some (.int x) ∧ Q (.inr (.inr ((x, s')))))) 78 [(0, .ref 950), (1, .int (y0)), (2, .int (y1)), (3, .int (y2)), (5, .int (y3)), (7, .int (y4)), (8, .int (y5)), (9, .long (y6)), (11, .long (y7)), (13, .long (y8)), (15, .long (y9)), (17, .int (y10))] [] (t_m y11) 1065 0 0) (Hb97 : ∀ (y0 : Int32) (y1 : Int32) (y2 : Int32) (y3 : Int32) (y4 : Int32) (y5 : Int32) (y6 : Int64) (y7 : Int64) (y8 : Int64) (y9 : Int64) (y10 : Int32) (y11 : Int32) (y12 : Int32) (y13 : Int32) (y14 : t_S), Q (.inl (y0, y1, y2, y3, y4, y5, y6, y7, y8, y9, y10, y11, y12, y13, y14)) → mj_G D cy ad bs X cX13_assign 25 yX13_assign.cls (some .boolean) yX13_assign.name (102 + (k + 1)) 0 0 1065 (t_P (fun v s' => ∃ x, v = some (.int x) ∧ Q (.inr (.inr ((x, s')))))) 97 [(0, .ref 950), (1, .int (y0)), (2, .int (y1)), (3, .int (y2)), (5, .int (y3)), (7, .int (y4)), (8, .int (y5)), (9, .long (y6)), (11, .long (y7)), (13, .long (y8)), (15, .long (y9)), (17, .int (y10)), (18, .int (y11)), (20, .int (y12)), (21, .int (y13))] [] (t_m y14) 1065 0 0) (hk : t_hk (k_X13_assign_132 rc l1 l2 l3 l5 l7 l8 l9 l11 l13 l15 l17 l18 l20 l21 l22 k0 k1 k2 s) Q) : mj_G D cy ad bs X cX13_assign 25 yX13_assign.cls (some .boolean) yX13_assign.name (102 + (k + 1)) 0 0 1065 (t_P (fun v s' => ∃ x, v = some (.int x) ∧ Q (.inr (.inr ((x, s')))))) 132 [(0, .ref 950), (1, .int l1), (2, .int l2), (3, .int l3), (5, .int l5), (7, .int l7), (8, .int l8), (9, .long l9), (11, .long l11), (13, .long l13), (15, .long l15), (17, .int l17), (18, .int l18), (20, .int l20), (21, .int l21), (22, .int l22)] [.int k0, .int k1, .int k2, .ref 950] (t_m s) 1065 0 0 := by
  refine mj_iadd dX13_assign_132 ?_
  refine t_bndK hk (fun r1 er1 hk => ?_)
  refine t_callViP dX13_assign_133 M_X13_partOf (C_X13_partOf _ _ _ _ er1) ML_X13_855 IM_X13_partOf SE_X13_partOf qc_950 rfl (As := [.int k2, .int (k1 + k0)]) rfl rfl (by omega) (Nat.le_of_ble_eq_true rfl) (Nat.le_of_ble_eq_true rfl) (Nat.le_of_ble_eq_true rfl) ?_
  refine mj_istore (lv2 := [(23, .int r1), (0, .ref 950), (1, .int l1), (2, .int l2), (3, .int l3), (5, .int l5), (7, .int l7), (8, .int l8), (9, .long l9), (11, .long l11), (13, .long l13), (15, .long l15), (17, .int l17), (18, .int l18), (20, .int l20), (21, .int l21), (22, .int l22)]) dX13_assign_136 (by decide) rfl ?_
  refine mj_iload dX13_assign_138 5 rfl ?_
  refine mj_if_ne 171 dX13_assign_140 (by decide) (fun z => t_negK hk z (fun hk => ?_)) (fun z => t_posK hk z (fun hk => ?_))
  · refine mj_sublv [(0, .ref 950), (1, .int l1), (2, .int l2), (3, .int l3), (5, .int l5), (7, .int l7), (8, .int l8), (9, .long l9), (11, .long l11), (13, .long l13), (15, .long l15), (17, .int l17), (18, .int l18), (20, .int l20), (21, .int l21), (22, .int l22), (23, .int r1)] [1, 2, 3, 4, 5, 6, 7, 8, 9, 10, 11, 12, 13, 14, 15, 16, 0] rfl ?_
    exact B_X13_assign_171 rc H _ _ _ _ _ _ _ _ _ _ _ _ _ _ _ _ _ _ (fun y0 y1 y2 y3 y4 y5 y6 y7 y8 y9 y10 y11 hx => Hb78 y0 y1 y2 y3 y4 y5 y6 y7 y8 y9 y10 y11 hx) (fun y0 y1 y2 y3 y4 y5 y6 y7 y8 y9 y10 y11 y12 y13 y14 hx => Hb97 y0 y1 y2 y3 y4 y5 y6 y7 y8 y9 y10 y11 y12 y13 y14 hx) hk
  · refine mj_iload_n dX13_assign_143 2 rfl ?_
    refine mj_istore (lv2 := [(22, .int l1), (23, .int r1), (0, .ref 950), (1, .int l1), (2, .int l2), (3, .int l3), (5, .int l5), (7, .int l7), (8, .int l8), (9, .long l9), (11, .long l11), (13, .long l13), (15, .long l15), (17, .int l17), (18, .int l18), (20, .int l20), (21, .int l21)]) dX13_assign_144 (by decide) rfl ?_
    refine mj_iconst (v := 0) dX13_assign_146 (by decide) ?_
    refine mj_istore (lv2 := [(24, .int 0), (22, .int l1), (23, .int r1), (0, .ref 950), (1, .int l1), (2, .int l2), (3, .int l3), (5, .int l5), (7, .int l7), (8, .int l8), (9, .long l9), (11, .long l11), (13, .long l13), (15, .long l15), (17, .int l17), (18, .int l18), (20, .int l20), (21, .int l21)]) dX13_assign_147 (by decide) rfl ?_
    refine mj_sublv [(0, .ref 950), (1, .int l1), (2, .int l2), (3, .int l3), (5, .int l5), (7, .int l7), (8, .int l8), (9, .long l9), (11, .long l11), (13, .long l13), (15, .long l15), (17, .int l17), (18, .int l18), (20, .int l20), (21, .int l21), (22, .int l1), (23, .int r1), (24, .int 0)] [3, 4, 5, 6, 7, 8, 9, 10, 11, 12, 13, 14, 15, 16, 17, 1, 2, 0] rfl ?_
    exact LH_X13_assign_149 rc H _ l1 l2 l3 l5 l7 l8 l9 l11 l13 l15 l17 l18 l20 l21 l1 r1 0 s _ (fun y0 y1 y2 y3 y4 y5 y6 y7 y8 y9 y10 y11 hx => Hb78 y0 y1 y2 y3 y4 y5 y6 y7 y8 y9 y10 y11 hx) (fun y0 y1 y2 y3 y4 y5 y6 y7 y8 y9 y10 y11 y12 y13 y14 hx => Hb97 y0 y1 y2 y3 y4 y5 y6 y7 y8 y9 y10 y11 y12 y13 y14 hx) hk
noncomputable def k_X13_assign_115 (rc : RT_X13_assign) (l1 : Int32) (l2 : Int32) (l3 : Int32) (l5 : Int32) (l7 : Int32) (l8 : Int32) (l9 : Int64) (l11 : Int64) (l13 : Int64) (l15 : Int64) (l17 : Int32) (l18 : Int32) (l20 : Int32) (l21 : Int32) (k0 : Int32) (s : t_S) : Option ((Int32 × Int32 × Int32 × Int32 × Int32 × Int32 × Int64 × Int64 × Int64 × Int64 × Int32 × Int32 × Int32 × Int32 × t_S) ⊕ ((Int32 × Int32 × Int32 × Int32 × Int32 × Int32 × Int64 × Int64 × Int64 × Int64 × Int32 × t_S) ⊕ (Int32 × t_S))) :=
 if l5 = (0 : Int32) then (k_X13_assign_132 rc l1 l2 l3 l5 l7 l8 l9 l11 l13 l15 l17 l18 l20 l21 k0 l21 l3 l2 s)
 else (k_X13_assign_132 rc l1 l2 l3 l5 l7 l8 l9 l11 l13 l15 l17 l18 l20 l21 k0 l17 l3 l2 s)
set_option maxRecDepth 4000 in
set_option maxHeartbeats 1000000 in
theorem B_X13_assign_115 {D : va_G} {cy : Nat → ClassId} {ad : Nat → Nat} {bs : Nat} {X : State → Heap → Prop} (rc : RT_X13_assign) {k : Nat} (H : RH_X13_assign rc k) (l1 : Int32) (l2 : Int32) (l3 : Int32) (l5 : Int32) (l7 : Int32) (l8 : Int32) (l9 : Int64) (l11 : Int64) (l13 : Int64) (l15 : Int64) (l17 : Int32) (l18 : Int32) (l20 : Int32) (l21 : Int32) (k0 : Int32) (s : t_S) (Q : (Int32 × Int32 × Int32 × Int32 × Int32 × Int32 × Int64 × Int64 × Int64 × Int64 × Int32 × Int32 × Int32 × Int32 × t_S) ⊕ ((Int32 × Int32 × Int32 × Int32 × Int32 × Int32 × Int64 × Int64 × Int64 × Int64 × Int32 × t_S) ⊕ (Int32 × t_S)) → Prop) (Hb78 : ∀ (y0 : Int32) (y1 : Int32) (y2 : Int32) (y3 : Int32) (y4 : Int32) (y5 : Int32) (y6 : Int64) (y7 : Int64) (y8 : Int64) (y9 : Int64) (y10 : Int32) (y11 : t_S), Q (.inr (.inl (y0, y1, y2, y3, y4, y5, y6, y7, y8, y9, y10, y11))) → mj_G D cy ad bs X cX13_assign 25 yX13_assign.cls (some .boolean) yX13_assign.name (102 + (k + 1)) 0 0 1065 (t_P (fun v s' => ∃ x, v = some (.int x) ∧ Q (.inr (.inr ((x, s')))))) 78 [(0, .ref 950), (1, .int (y0)), (2, .int (y1)), (3, .int (y2)), (5, .int (y3)), (7, .int (y4)), (8, .int (y5)), (9, .long (y6)), (11, .long (y7)), (13, .long (y8)), (15, .long (y9)), (17, .int (y10))] [] (t_m y11) 1065 0 0) (Hb97 : ∀ (y0 : Int32) (y1 : Int32) (y2 : Int32) (y3 : Int32) (y4 : Int32) (y5 : Int32) (y6 : Int64) (y7 : Int64) (y8 : Int64) (y9 : Int64) (y10 : Int32) (y11 : Int32) (y12 : Int32) (y13 : Int32) (y14 : t_S), Q (.inl (y0, y1, y2, y3, y4, y5, y6, y7, y8, y9, y10, y11, y12, y13, y14)) → mj_G D cy ad bs X cX13_assign 25 yX13_assign.cls (some .boolean) yX13_assign.name (102 + (k + 1)) 0 0 1065 (t_P (fun v s' => ∃ x, v = some (.int x) ∧ Q (.inr (.inr ((x, s')))))) 97 [(0, .ref 950), (1, .int (y0)), (2, .int (y1)), (3, .int (y2)), (5, .int (y3)), (7, .int (y4)), (8, .int (y5)), (9, .long (y6)), (11, .long (y7)), (13, .long (y8)), (15, .long (y9)), (17, .int (y10)), (18, .int (y11)), (20, .int (y12)), (21, .int (y13))] [] (t_m y14) 1065 0 0) (hk : t_hk (k_X13_assign_115 rc l1 l2 l3 l5 l7 l8 l9 l11 l13 l15 l17 l18 l20 l21 k0 s) Q) : mj_G D cy ad bs X cX13_assign 25 yX13_assign.cls (some .boolean) yX13_assign.name (102 + (k + 1)) 0 0 1065 (t_P (fun v s' => ∃ x, v = some (.int x) ∧ Q (.inr (.inr ((x, s')))))) 115 [(0, .ref 950), (1, .int l1), (2, .int l2), (3, .int l3), (5, .int l5), (7, .int l7), (8, .int l8), (9, .long l9), (11, .long l11), (13, .long l13), (15, .long l15), (17, .int l17), (18, .int l18), (20, .int l20), (21, .int l21)] [.int k0] (t_m s) 1065 0 0 := by
  refine mj_istore (lv2 := [(22, .int k0), (0, .ref 950), (1, .int l1), (2, .int l2), (3, .int l3), (5, .int l5), (7, .int l7), (8, .int l8), (9, .long l9), (11, .long l11), (13, .long l13), (15, .long l15), (17, .int l17), (18, .int l18), (20, .int l20), (21, .int l21)]) dX13_assign_115 (by decide) rfl ?_
  refine mj_aload_n dX13_assign_117 1 rfl ?_
  refine mj_iload_n dX13_assign_118 3 rfl ?_
  refine mj_iload_n dX13_assign_119 4 rfl ?_
  refine mj_iload dX13_assign_120 5 rfl ?_
  refine mj_if_eq 130 dX13_assign_122 (by decide) (fun z => t_posK hk z (fun hk => ?_)) (fun z => t_negK hk z (fun hk => ?_))
  · refine mj_iload dX13_assign_130 15 rfl ?_
    refine mj_sublv [(0, .ref 950), (1, .int l1), (2, .int l2), (3, .int l3), (5, .int l5), (7, .int l7), (8, .int l8), (9, .long l9), (11, .long l11), (13, .long l13), (15, .long l15), (17, .int l17), (18, .int l18), (20, .int l20), (21, .int l21), (22, .int k0)] [1, 2, 3, 4, 5, 6, 7, 8, 9, 10, 11, 12, 13, 14, 15, 0] rfl ?_
    exact B_X13_assign_132 rc H _ _ _ _ _ _ _ _ _ _ _ _ _ _ _ _ _ _ _ _ (fun y0 y1 y2 y3 y4 y5 y6 y7 y8 y9 y10 y11 hx => Hb78 y0 y1 y2 y3 y4 y5 y6 y7 y8 y9 y10 y11 hx) (fun y0 y1 y2 y3 y4 y5 y6 y7 y8 y9 y10 y11 y12 y13 y14 hx => Hb97 y0 y1 y2 y3 y4 y5 y6 y7 y8 y9 y10 y11 y12 y13 y14 hx) hk
  · refine mj_iload dX13_assign_125 12 rfl ?_
    refine mj_goto 132 dX13_assign_127 (by decide) ?_
    refine mj_sublv [(0, .ref 950), (1, .int l1), (2, .int l2), (3, .int l3), (5, .int l5), (7, .int l7), (8, .int l8), (9, .long l9), (11, .long l11), (13, .long l13), (15, .long l15), (17, .int l17), (18, .int l18), (20, .int l20), (21, .int l21), (22, .int k0)] [1, 2, 3, 4, 5, 6, 7, 8, 9, 10, 11, 12, 13, 14, 15, 0] rfl ?_
    exact B_X13_assign_132 rc H _ _ _ _ _ _ _ _ _ _ _ _ _ _ _ _ _ _ _ _ (fun y0 y1 y2 y3 y4 y5 y6 y7 y8 y9 y10 y11 hx => Hb78 y0 y1 y2 y3 y4 y5 y6 y7 y8 y9 y10 y11 hx) (fun y0 y1 y2 y3 y4 y5 y6 y7 y8 y9 y10 y11 y12 y13 y14 hx => Hb97 y0 y1 y2 y3 y4 y5 y6 y7 y8 y9 y10 y11 y12 y13 y14 hx) hk
noncomputable def k_X13_assign_97 (rc : RT_X13_assign) (l1 : Int32) (l2 : Int32) (l3 : Int32) (l5 : Int32) (l7 : Int32) (l8 : Int32) (l9 : Int64) (l11 : Int64) (l13 : Int64) (l15 : Int64) (l17 : Int32) (l18 : Int32) (l20 : Int32) (l21 : Int32) (s : t_S) : Option ((Int32 × Int32 × Int32 × Int32 × Int32 × Int32 × Int64 × Int64 × Int64 × Int64 × Int32 × Int32 × Int32 × Int32 × t_S) ⊕ ((Int32 × Int32 × Int32 × Int32 × Int32 × Int32 × Int64 × Int64 × Int64 × Int64 × Int32 × t_S) ⊕ (Int32 × t_S))) :=
 if l8 ≤ l21 then ((if (4 : Int32) ≤ l17 then (if (8 : Int32) ≤ l17 then (if (12 : Int32) ≤ l17 then (k_X13_assign_313 rc l1 l2 l3 l5 l7 l8 l9 l11 l13 (l15 ||| (l18.toInt64 <<< (((16 : Int32) * (l17 - (12 : Int32))).toInt64 &&& 63))) l17 s)
 else (k_X13_assign_313 rc l1 l2 l3 l5 l7 l8 l9 l11 (l13 ||| (l18.toInt64 <<< (((16 : Int32) * (l17 - (8 : Int32))).toInt64 &&& 63))) l15 l17 s))
 else (k_X13_assign_313 rc l1 l2 l3 l5 l7 l8 l9 (l11 ||| (l18.toInt64 <<< (((16 : Int32) * (l17 - (4 : Int32))).toInt64 &&& 63))) l13 l15 l17 s))
 else (k_X13_assign_313 rc l1 l2 l3 l5 l7 l8 (l9 ||| (l18.toInt64 <<< (((16 : Int32) * l17).toInt64 &&& 63))) l11 l13 l15 l17 s)).map Sum.inr)
 else (if l5 = (0 : Int32) then (k_X13_assign_115 rc l1 l2 l3 l5 l7 l8 l9 l11 l13 l15 l17 l18 l20 l21 (-1) s)
 else (k_X13_assign_115 rc l1 l2 l3 l5 l7 l8 l9 l11 l13 l15 l17 l18 l20 l21 l20 s))
set_option maxRecDepth 4000 in
set_option maxHeartbeats 1000000 in
theorem B_X13_assign_97 {D : va_G} {cy : Nat → ClassId} {ad : Nat → Nat} {bs : Nat} {X : State → Heap → Prop} (rc : RT_X13_assign) {k : Nat} (H : RH_X13_assign rc k) (l1 : Int32) (l2 : Int32) (l3 : Int32) (l5 : Int32) (l7 : Int32) (l8 : Int32) (l9 : Int64) (l11 : Int64) (l13 : Int64) (l15 : Int64) (l17 : Int32) (l18 : Int32) (l20 : Int32) (l21 : Int32) (s : t_S) (Q : (Int32 × Int32 × Int32 × Int32 × Int32 × Int32 × Int64 × Int64 × Int64 × Int64 × Int32 × Int32 × Int32 × Int32 × t_S) ⊕ ((Int32 × Int32 × Int32 × Int32 × Int32 × Int32 × Int64 × Int64 × Int64 × Int64 × Int32 × t_S) ⊕ (Int32 × t_S)) → Prop) (Hb78 : ∀ (y0 : Int32) (y1 : Int32) (y2 : Int32) (y3 : Int32) (y4 : Int32) (y5 : Int32) (y6 : Int64) (y7 : Int64) (y8 : Int64) (y9 : Int64) (y10 : Int32) (y11 : t_S), Q (.inr (.inl (y0, y1, y2, y3, y4, y5, y6, y7, y8, y9, y10, y11))) → mj_G D cy ad bs X cX13_assign 25 yX13_assign.cls (some .boolean) yX13_assign.name (102 + (k + 1)) 0 0 1065 (t_P (fun v s' => ∃ x, v = some (.int x) ∧ Q (.inr (.inr ((x, s')))))) 78 [(0, .ref 950), (1, .int (y0)), (2, .int (y1)), (3, .int (y2)), (5, .int (y3)), (7, .int (y4)), (8, .int (y5)), (9, .long (y6)), (11, .long (y7)), (13, .long (y8)), (15, .long (y9)), (17, .int (y10))] [] (t_m y11) 1065 0 0) (Hb97 : ∀ (y0 : Int32) (y1 : Int32) (y2 : Int32) (y3 : Int32) (y4 : Int32) (y5 : Int32) (y6 : Int64) (y7 : Int64) (y8 : Int64) (y9 : Int64) (y10 : Int32) (y11 : Int32) (y12 : Int32) (y13 : Int32) (y14 : t_S), Q (.inl (y0, y1, y2, y3, y4, y5, y6, y7, y8, y9, y10, y11, y12, y13, y14)) → mj_G D cy ad bs X cX13_assign 25 yX13_assign.cls (some .boolean) yX13_assign.name (102 + (k + 1)) 0 0 1065 (t_P (fun v s' => ∃ x, v = some (.int x) ∧ Q (.inr (.inr ((x, s')))))) 97 [(0, .ref 950), (1, .int (y0)), (2, .int (y1)), (3, .int (y2)), (5, .int (y3)), (7, .int (y4)), (8, .int (y5)), (9, .long (y6)), (11, .long (y7)), (13, .long (y8)), (15, .long (y9)), (17, .int (y10)), (18, .int (y11)), (20, .int (y12)), (21, .int (y13))] [] (t_m y14) 1065 0 0) (hk : t_hk (k_X13_assign_97 rc l1 l2 l3 l5 l7 l8 l9 l11 l13 l15 l17 l18 l20 l21 s) Q) : mj_G D cy ad bs X cX13_assign 25 yX13_assign.cls (some .boolean) yX13_assign.name (102 + (k + 1)) 0 0 1065 (t_P (fun v s' => ∃ x, v = some (.int x) ∧ Q (.inr (.inr ((x, s')))))) 97 [(0, .ref 950), (1, .int l1), (2, .int l2), (3, .int l3), (5, .int l5), (7, .int l7), (8, .int l8), (9, .long l9), (11, .long l11), (13, .long l13), (15, .long l15), (17, .int l17), (18, .int l18), (20, .int l20), (21, .int l21)] [] (t_m s) 1065 0 0 := by
  refine mj_iload dX13_assign_97 14 rfl ?_
  refine mj_iload dX13_assign_99 6 rfl ?_
  refine mj_icmp_ge 220 dX13_assign_101 (by decide) (fun z => t_posK hk z (fun hk => ?_)) (fun z => t_negK hk z (fun hk => ?_))
  · refine t_mapK hk (fun hk => ?_)
    refine mj_iload dX13_assign_220 11 rfl ?_
    refine mj_iconst (v := 4) dX13_assign_222 (by decide) ?_
    refine mj_icmp_ge 243 dX13_assign_223 (by decide) (fun z => t_posK hk z (fun hk => ?_)) (fun z => t_negK hk z (fun hk => ?_))
    · refine mj_iload dX13_assign_243 11 rfl ?_
      refine mj_bipush (v := 8) dX13_assign_245 (by decide) ?_
      refine mj_icmp_ge 269 dX13_assign_247 (by decide) (fun z => t_posK hk z (fun hk => ?_)) (fun z => t_negK hk z (fun hk => ?_))
      · refine mj_iload dX13_assign_269 11 rfl ?_
        refine mj_bipush (v := 12) dX13_assign_271 (by decide) ?_
        refine mj_icmp_ge 296 dX13_assign_273 (by decide) (fun z => t_posK hk z (fun hk => ?_)) (fun z => t_negK hk z (fun hk => ?_))
        · refine mj_lload dX13_assign_296 10 rfl ?_
          refine mj_iload dX13_assign_298 12 rfl ?_
          refine mj_i2l (v := l18.toInt64) dX13_assign_300 rfl ?_
          refine mj_bipush (v := 16) dX13_assign_301 (by decide) ?_
          refine mj_iload dX13_assign_303 11 rfl ?_
          refine mj_bipush (v := 12) dX13_assign_305 (by decide) ?_
          refine mj_isub dX13_assign_307 ?_
          refine mj_imul dX13_assign_308 ?_
          refine mj_lshl dX13_assign_309 rfl ?_
          refine mj_lor dX13_assign_310 ?_
          refine mj_lstore (lv2 := [(15, .long (l15 ||| (l18.toInt64 <<< (((16 : Int32) * (l17 - (12 : Int32))).toInt64 &&& 63)))), (0, .ref 950), (1, .int l1), (2, .int l2), (3, .int l3), (5, .int l5), (7, .int l7), (8, .int l8), (9, .long l9), (11, .long l11), (13, .long l13), (17, .int l17), (18, .int l18), (20, .int l20), (21, .int l21)]) dX13_assign_311 (by decide) rfl ?_
          refine mj_sublv [(0, .ref 950), (1, .int l1), (2, .int l2), (3, .int l3), (5, .int l5), (7, .int l7), (8, .int l8), (9, .long l9), (11, .long l11), (13, .long l13), (15, .long (l15 ||| (l18.toInt64 <<< (((16 : Int32) * (l17 - (12 : Int32))).toInt64 &&& 63)))), (17, .int l17)] [1, 2, 3, 4, 5, 6, 7, 8, 9, 10, 0, 11] rfl ?_
          exact B_X13_assign_313 rc H _ _ _ _ _ _ _ _ _ _ _ _ _ (fun y0 y1 y2 y3 y4 y5 y6 y7 y8 y9 y10 y11 hx => Hb78 y0 y1 y2 y3 y4 y5 y6 y7 y8 y9 y10 y11 hx) hk
        · refine mj_lload dX13_assign_276 9 rfl ?_
          refine mj_iload dX13_assign_278 12 rfl ?_
          refine mj_i2l (v := l18.toInt64) dX13_assign_280 rfl ?_
          refine mj_bipush (v := 16) dX13_assign_281 (by decide) ?_
          refine mj_iload dX13_assign_283 11 rfl ?_
          refine mj_bipush (v := 8) dX13_assign_285 (by decide) ?_
          refine mj_isub dX13_assign_287 ?_
          refine mj_imul dX13_assign_288 ?_
          refine mj_lshl dX13_assign_289 rfl ?_
          refine mj_lor dX13_assign_290 ?_
          refine mj_lstore (lv2 := [(13, .long (l13 ||| (l18.toInt64 <<< (((16 : Int32) * (l17 - (8 : Int32))).toInt64 &&& 63)))), (0, .ref 950), (1, .int l1), (2, .int l2), (3, .int l3), (5, .int l5), (7, .int l7), (8, .int l8), (9, .long l9), (11, .long l11), (15, .long l15), (17, .int l17), (18, .int l18), (20, .int l20), (21, .int l21)]) dX13_assign_291 (by decide) rfl ?_
          refine mj_goto 313 dX13_assign_293 (by decide) ?_
          refine mj_sublv [(0, .ref 950), (1, .int l1), (2, .int l2), (3, .int l3), (5, .int l5), (7, .int l7), (8, .int l8), (9, .long l9), (11, .long l11), (13, .long (l13 ||| (l18.toInt64 <<< (((16 : Int32) * (l17 - (8 : Int32))).toInt64 &&& 63)))), (15, .long l15), (17, .int l17)] [1, 2, 3, 4, 5, 6, 7, 8, 9, 0, 10, 11] rfl ?_
          exact B_X13_assign_313 rc H _ _ _ _ _ _ _ _ _ _ _ _ _ (fun y0 y1 y2 y3 y4 y5 y6 y7 y8 y9 y10 y11 hx => Hb78 y0 y1 y2 y3 y4 y5 y6 y7 y8 y9 y10 y11 hx) hk
      · refine mj_lload dX13_assign_250 8 rfl ?_
        refine mj_iload dX13_assign_252 12 rfl ?_
        refine mj_i2l (v := l18.toInt64) dX13_assign_254 rfl ?_
        refine mj_bipush (v := 16) dX13_assign_255 (by decide) ?_
        refine mj_iload dX13_assign_257 11 rfl ?_
        refine mj_iconst (v := 4) dX13_assign_259 (by decide) ?_
        refine mj_isub dX13_assign_260 ?_
        refine mj_imul dX13_assign_261 ?_
        refine mj_lshl dX13_assign_262 rfl ?_
        refine mj_lor dX13_assign_263 ?_
        refine mj_lstore (lv2 := [(11, .long (l11 ||| (l18.toInt64 <<< (((16 : Int32) * (l17 - (4 : Int32))).toInt64 &&& 63)))), (0, .ref 950), (1, .int l1), (2, .int l2), (3, .int l3), (5, .int l5), (7, .int l7), (8, .int l8), (9, .long l9), (13, .long l13), (15, .long l15), (17, .int l17), (18, .int l18), (20, .int l20), (21, .int l21)]) dX13_assign_264 (by decide) rfl ?_
        refine mj_goto 313 dX13_assign_266 (by decide) ?_
        refine mj_sublv [(0, .ref 950), (1, .int l1), (2, .int l2), (3, .int l3), (5, .int l5), (7, .int l7), (8, .int l8), (9, .long l9), (11, .long (l11 ||| (l18.toInt64 <<< (((16 : Int32) * (l17 - (4 : Int32))).toInt64 &&& 63)))), (13, .long l13), (15, .long l15), (17, .int l17)] [1, 2, 3, 4, 5, 6, 7, 8, 0, 9, 10, 11] rfl ?_
        exact B_X13_assign_313 rc H _ _ _ _ _ _ _ _ _ _ _ _ _ (fun y0 y1 y2 y3 y4 y5 y6 y7 y8 y9 y10 y11 hx => Hb78 y0 y1 y2 y3 y4 y5 y6 y7 y8 y9 y10 y11 hx) hk
    · refine mj_lload dX13_assign_226 7 rfl ?_
      refine mj_iload dX13_assign_228 12 rfl ?_
      refine mj_i2l (v := l18.toInt64) dX13_assign_230 rfl ?_
      refine mj_bipush (v := 16) dX13_assign_231 (by decide) ?_
      refine mj_iload dX13_assign_233 11 rfl ?_
      refine mj_imul dX13_assign_235 ?_
      refine mj_lshl dX13_assign_236 rfl ?_
      refine mj_lor dX13_assign_237 ?_
      refine mj_lstore (lv2 := [(9, .long (l9 ||| (l18.toInt64 <<< (((16 : Int32) * l17).toInt64 &&& 63)))), (0, .ref 950), (1, .int l1), (2, .int l2), (3, .int l3), (5, .int l5), (7, .int l7), (8, .int l8), (11, .long l11), (13, .long l13), (15, .long l15), (17, .int l17), (18, .int l18), (20, .int l20), (21, .int l21)]) dX13_assign_238 (by decide) rfl ?_
      refine mj_goto 313 dX13_assign_240 (by decide) ?_
      refine mj_sublv [(0, .ref 950), (1, .int l1), (2, .int l2), (3, .int l3), (5, .int l5), (7, .int l7), (8, .int l8), (9, .long (l9 ||| (l18.toInt64 <<< (((16 : Int32) * l17).toInt64 &&& 63)))), (11, .long l11), (13, .long l13), (15, .long l15), (17, .int l17)] [1, 2, 3, 4, 5, 6, 7, 0, 8, 9, 10, 11] rfl ?_
      exact B_X13_assign_313 rc H _ _ _ _ _ _ _ _ _ _ _ _ _ (fun y0 y1 y2 y3 y4 y5 y6 y7 y8 y9 y10 y11 hx => Hb78 y0 y1 y2 y3 y4 y5 y6 y7 y8 y9 y10 y11 hx) hk
  · refine mj_iload dX13_assign_104 4 rfl ?_
    refine mj_if_eq 114 dX13_assign_106 (by decide) (fun z => t_posK hk z (fun hk => ?_)) (fun z => t_negK hk z (fun hk => ?_))
    · refine mj_iconst (v := (-1)) dX13_assign_114 (by decide) ?_
      exact B_X13_assign_115 rc H _ _ _ _ _ _ _ _ _ _ _ _ _ _ _ _ _ (fun y0 y1 y2 y3 y4 y5 y6 y7 y8 y9 y10 y11 hx => Hb78 y0 y1 y2 y3 y4 y5 y6 y7 y8 y9 y10 y11 hx) (fun y0 y1 y2 y3 y4 y5 y6 y7 y8 y9 y10 y11 y12 y13 y14 hx => Hb97 y0 y1 y2 y3 y4 y5 y6 y7 y8 y9 y10 y11 y12 y13 y14 hx) hk
    · refine mj_iload dX13_assign_109 13 rfl ?_
      refine mj_goto 115 dX13_assign_111 (by decide) ?_
      exact B_X13_assign_115 rc H _ _ _ _ _ _ _ _ _ _ _ _ _ _ _ _ _ (fun y0 y1 y2 y3 y4 y5 y6 y7 y8 y9 y10 y11 hx => Hb78 y0 y1 y2 y3 y4 y5 y6 y7 y8 y9 y10 y11 hx) (fun y0 y1 y2 y3 y4 y5 y6 y7 y8 y9 y10 y11 y12 y13 y14 hx => Hb97 y0 y1 y2 y3 y4 y5 y6 y7 y8 y9 y10 y11 y12 y13 y14 hx) hk
noncomputable def b_X13_assign_97 (rc : RT_X13_assign) (x : Int32 × Int32 × Int32 × Int32 × Int32 × Int32 × Int64 × Int64 × Int64 × Int64 × Int32 × Int32 × Int32 × Int32 × t_S) : Option ((Int32 × Int32 × Int32 × Int32 × Int32 × Int32 × Int64 × Int64 × Int64 × Int64 × Int32 × Int32 × Int32 × Int32 × t_S) ⊕ ((Int32 × Int32 × Int32 × Int32 × Int32 × Int32 × Int64 × Int64 × Int64 × Int64 × Int32 × t_S) ⊕ (Int32 × t_S))) := k_X13_assign_97 rc x.1 x.2.1 x.2.2.1 x.2.2.2.1 x.2.2.2.2.1 x.2.2.2.2.2.1 x.2.2.2.2.2.2.1 x.2.2.2.2.2.2.2.1 x.2.2.2.2.2.2.2.2.1 x.2.2.2.2.2.2.2.2.2.1 x.2.2.2.2.2.2.2.2.2.2.1 x.2.2.2.2.2.2.2.2.2.2.2.1 x.2.2.2.2.2.2.2.2.2.2.2.2.1 x.2.2.2.2.2.2.2.2.2.2.2.2.2.1 x.2.2.2.2.2.2.2.2.2.2.2.2.2.2
set_option maxRecDepth 4000 in
set_option maxHeartbeats 1000000 in
theorem LH_X13_assign_97 {D : va_G} {cy : Nat → ClassId} {ad : Nat → Nat} {bs : Nat} {X : State → Heap → Prop} (rc : RT_X13_assign) {k : Nat} (H : RH_X13_assign rc k) : ∀ (n : Nat) (y0 : Int32) (y1 : Int32) (y2 : Int32) (y3 : Int32) (y4 : Int32) (y5 : Int32) (y6 : Int64) (y7 : Int64) (y8 : Int64) (y9 : Int64) (y10 : Int32) (y11 : Int32) (y12 : Int32) (y13 : Int32) (y14 : t_S) (Q : (Int32 × Int32 × Int32 × Int32 × Int32 × Int32 × Int64 × Int64 × Int64 × Int64 × Int32 × t_S) ⊕ (Int32 × t_S) → Prop) (Hb78 : ∀ (y0 : Int32) (y1 : Int32) (y2 : Int32) (y3 : Int32) (y4 : Int32) (y5 : Int32) (y6 : Int64) (y7 : Int64) (y8 : Int64) (y9 : Int64) (y10 : Int32) (y11 : t_S), Q (.inl (y0, y1, y2, y3, y4, y5, y6, y7, y8, y9, y10, y11)) → mj_G D cy ad bs X cX13_assign 25 yX13_assign.cls (some .boolean) yX13_assign.name (102 + (k + 1)) 0 0 1065 (t_P (fun v s' => ∃ x, v = some (.int x) ∧ Q (.inr ((x, s'))))) 78 [(0, .ref 950), (1, .int (y0)), (2, .int (y1)), (3, .int (y2)), (5, .int (y3)), (7, .int (y4)), (8, .int (y5)), (9, .long (y6)), (11, .long (y7)), (13, .long (y8)), (15, .long (y9)), (17, .int (y10))] [] (t_m y11) 1065 0 0) (hk : t_hk (t_loop (b_X13_assign_97 rc) n (y0, y1, y2, y3, y4, y5, y6, y7, y8, y9, y10, y11, y12, y13, y14)) Q), mj_G D cy ad bs X cX13_assign 25 yX13_assign.cls (some .boolean) yX13_assign.name (102 + (k + 1)) 0 0 1065 (t_P (fun v s' => ∃ x, v = some (.int x) ∧ Q (.inr ((x, s'))))) 97 [(0, .ref 950), (1, .int (y0)), (2, .int (y1)), (3, .int (y2)), (5, .int (y3)), (7, .int (y4)), (8, .int (y5)), (9, .long (y6)), (11, .long (y7)), (13, .long (y8)), (15, .long (y9)), (17, .int (y10)), (18, .int (y11)), (20, .int (y12)), (21, .int (y13))] [] (t_m y14) 1065 0 0 := by
  intro n
  induction n with
  | zero => intro y0 y1 y2 y3 y4 y5 y6 y7 y8 y9 y10 y11 y12 y13 y14 Q Hb78 hk; obtain ⟨r, hr, _⟩ := hk; cases hr
  | succ n ih =>
    intro y0 y1 y2 y3 y4 y5 y6 y7 y8 y9 y10 y11 y12 y13 y14 Q Hb78 hk
    exact B_X13_assign_97 rc H y0 y1 y2 y3 y4 y5 y6 y7 y8 y9 y10 y11 y12 y13 y14 (fun y => t_lq (b_X13_assign_97 rc) n Q y) (fun y0' y1' y2' y3' y4' y5' y6' y7' y8' y9' y10' y11' hy => Hb78 y0' y1' y2' y3' y4' y5' y6' y7' y8' y9' y10' y11' hy) (fun y0' y1' y2' y3' y4' y5' y6' y7' y8' y9' y10' y11' y12' y13' y14' hy => ih y0' y1' y2' y3' y4' y5' y6' y7' y8' y9' y10' y11' y12' y13' y14' Q Hb78 hy) (t_lp (b := b_X13_assign_97 rc) (n := n) (x := (y0, y1, y2, y3, y4, y5, y6, y7, y8, y9, y10, y11, y12, y13, y14)) hk)
noncomputable def k_X13_assign_78 (rc : RT_X13_assign) (l1 : Int32) (l2 : Int32) (l3 : Int32) (l5 : Int32) (l7 : Int32) (l8 : Int32) (l9 : Int64) (l11 : Int64) (l13 : Int64) (l15 : Int64) (l17 : Int32) (s : t_S) : Option ((Int32 × Int32 × Int32 × Int32 × Int32 × Int32 × Int64 × Int64 × Int64 × Int64 × Int32 × t_S) ⊕ (Int32 × t_S)) :=
 if l7 ≤ l17 then (((f_X13_hasAll l9 l11 l13 l15 l7 l8 s).bind (fun r1 =>
 if r1.1 = 0 ∨ r1.1 = 1 then
  some (r1.1, r1.2)
else none)).map Sum.inr)
 else (t_loop (b_X13_assign_97 rc) t_N (l1, l2, l3, l5, l7, l8, l9, l11, l13, l15, l17, 0, l1, 0, s))
set_option maxRecDepth 4000 in
set_option maxHeartbeats 1000000 in
theorem B_X13_assign_78 {D : va_G} {cy : Nat → ClassId} {ad : Nat → Nat} {bs : Nat} {X : State → Heap → Prop} (rc : RT_X13_assign) {k : Nat} (H : RH_X13_assign rc k) (l1 : Int32) (l2 : Int32) (l3 : Int32) (l5 : Int32) (l7 : Int32) (l8 : Int32) (l9 : Int64) (l11 : Int64) (l13 : Int64) (l15 : Int64) (l17 : Int32) (s : t_S) (Q : (Int32 × Int32 × Int32 × Int32 × Int32 × Int32 × Int64 × Int64 × Int64 × Int64 × Int32 × t_S) ⊕ (Int32 × t_S) → Prop) (Hb78 : ∀ (y0 : Int32) (y1 : Int32) (y2 : Int32) (y3 : Int32) (y4 : Int32) (y5 : Int32) (y6 : Int64) (y7 : Int64) (y8 : Int64) (y9 : Int64) (y10 : Int32) (y11 : t_S), Q (.inl (y0, y1, y2, y3, y4, y5, y6, y7, y8, y9, y10, y11)) → mj_G D cy ad bs X cX13_assign 25 yX13_assign.cls (some .boolean) yX13_assign.name (102 + (k + 1)) 0 0 1065 (t_P (fun v s' => ∃ x, v = some (.int x) ∧ Q (.inr ((x, s'))))) 78 [(0, .ref 950), (1, .int (y0)), (2, .int (y1)), (3, .int (y2)), (5, .int (y3)), (7, .int (y4)), (8, .int (y5)), (9, .long (y6)), (11, .long (y7)), (13, .long (y8)), (15, .long (y9)), (17, .int (y10))] [] (t_m y11) 1065 0 0) (hk : t_hk (k_X13_assign_78 rc l1 l2 l3 l5 l7 l8 l9 l11 l13 l15 l17 s) Q) : mj_G D cy ad bs X cX13_assign 25 yX13_assign.cls (some .boolean) yX13_assign.name (102 + (k + 1)) 0 0 1065 (t_P (fun v s' => ∃ x, v = some (.int x) ∧ Q (.inr ((x, s'))))) 78 [(0, .ref 950), (1, .int l1), (2, .int l2), (3, .int l3), (5, .int l5), (7, .int l7), (8, .int l8), (9, .long l9), (11, .long l11), (13, .long l13), (15, .long l15), (17, .int l17)] [] (t_m s) 1065 0 0 := by
  refine mj_iload dX13_assign_78 11 rfl ?_
  refine mj_iload dX13_assign_80 5 rfl ?_
  refine mj_icmp_ge 319 dX13_assign_82 (by decide) (fun z => t_posK hk z (fun hk => ?_)) (fun z => t_negK hk z (fun hk => ?_))
  · refine t_mapK hk (fun hk => ?_)
    refine mj_aload_n dX13_assign_319 0 rfl ?_
    refine mj_lload dX13_assign_320 7 rfl ?_
    refine mj_lload dX13_assign_322 8 rfl ?_
    refine mj_lload dX13_assign_324 9 rfl ?_
    refine mj_lload dX13_assign_326 10 rfl ?_
    refine mj_iload dX13_assign_328 5 rfl ?_
    refine mj_iload dX13_assign_330 6 rfl ?_
    refine t_bndK hk (fun r1 er1 hk => ?_)
    refine t_callViE dX13_assign_332 M_X13_hasAll (C_X13_hasAll _ _ _ _ _ _ _ _ er1) ML_X13_1273 IM_X13_hasAll SE_X13_hasAll qc_950 rfl (As := [.long l9, .long l11, .long l13, .long l15, .int l7, .int l8]) rfl rfl (by omega) (Nat.le_of_ble_eq_true rfl) (Nat.le_of_ble_eq_true rfl) (Nat.le_of_ble_eq_true rfl) ?_
    refine t_chkK hk (fun c1 hk => ?_)
    exact t_somK hk (fun hf => t_iret dX13_assign_335 rfl (t_zfit c1) ⟨_, rfl, hf⟩ (Nat.le_of_ble_eq_true rfl) (Nat.le_of_ble_eq_true rfl))
  · refine mj_iconst (v := 0) dX13_assign_85 (by decide) ?_
    refine mj_istore (lv2 := [(18, .int 0), (0, .ref 950), (1, .int l1), (2, .int l2), (3, .int l3), (5, .int l5), (7, .int l7), (8, .int l8), (9, .long l9), (11, .long l11), (13, .long l13), (15, .long l15), (17, .int l17)]) dX13_assign_86 (by decide) rfl ?_
    refine mj_iconst (v := 0) dX13_assign_88 (by decide) ?_
    refine mj_istore (lv2 := [(19, .int 0), (18, .int 0), (0, .ref 950), (1, .int l1), (2, .int l2), (3, .int l3), (5, .int l5), (7, .int l7), (8, .int l8), (9, .long l9), (11, .long l11), (13, .long l13), (15, .long l15), (17, .int l17)]) dX13_assign_89 (by decide) rfl ?_
    refine mj_iload_n dX13_assign_91 3 rfl ?_
    refine mj_istore (lv2 := [(20, .int l1), (19, .int 0), (18, .int 0), (0, .ref 950), (1, .int l1), (2, .int l2), (3, .int l3), (5, .int l5), (7, .int l7), (8, .int l8), (9, .long l9), (11, .long l11), (13, .long l13), (15, .long l15), (17, .int l17)]) dX13_assign_92 (by decide) rfl ?_
    refine mj_iconst (v := 0) dX13_assign_94 (by decide) ?_
    refine mj_istore (lv2 := [(21, .int 0), (20, .int l1), (19, .int 0), (18, .int 0), (0, .ref 950), (1, .int l1), (2, .int l2), (3, .int l3), (5, .int l5), (7, .int l7), (8, .int l8), (9, .long l9), (11, .long l11), (13, .long l13), (15, .long l15), (17, .int l17)]) dX13_assign_95 (by decide) rfl ?_
    refine mj_sublv [(0, .ref 950), (1, .int l1), (2, .int l2), (3, .int l3), (5, .int l5), (7, .int l7), (8, .int l8), (9, .long l9), (11, .long l11), (13, .long l13), (15, .long l15), (17, .int l17), (18, .int 0), (20, .int l1), (21, .int 0)] [4, 5, 6, 7, 8, 9, 10, 11, 12, 13, 14, 15, 3, 1, 0] rfl ?_
    exact LH_X13_assign_97 rc H _ l1 l2 l3 l5 l7 l8 l9 l11 l13 l15 l17 0 l1 0 s _ (fun y0 y1 y2 y3 y4 y5 y6 y7 y8 y9 y10 y11 hx => Hb78 y0 y1 y2 y3 y4 y5 y6 y7 y8 y9 y10 y11 hx) hk
noncomputable def b_X13_assign_78 (rc : RT_X13_assign) (x : Int32 × Int32 × Int32 × Int32 × Int32 × Int32 × Int64 × Int64 × Int64 × Int64 × Int32 × t_S) : Option ((Int32 × Int32 × Int32 × Int32 × Int32 × Int32 × Int64 × Int64 × Int64 × Int64 × Int32 × t_S) ⊕ (Int32 × t_S)) := k_X13_assign_78 rc x.1 x.2.1 x.2.2.1 x.2.2.2.1 x.2.2.2.2.1 x.2.2.2.2.2.1 x.2.2.2.2.2.2.1 x.2.2.2.2.2.2.2.1 x.2.2.2.2.2.2.2.2.1 x.2.2.2.2.2.2.2.2.2.1 x.2.2.2.2.2.2.2.2.2.2.1 x.2.2.2.2.2.2.2.2.2.2.2
set_option maxRecDepth 4000 in
set_option maxHeartbeats 1000000 in
theorem LH_X13_assign_78 {D : va_G} {cy : Nat → ClassId} {ad : Nat → Nat} {bs : Nat} {X : State → Heap → Prop} (rc : RT_X13_assign) {k : Nat} (H : RH_X13_assign rc k) : ∀ (n : Nat) (y0 : Int32) (y1 : Int32) (y2 : Int32) (y3 : Int32) (y4 : Int32) (y5 : Int32) (y6 : Int64) (y7 : Int64) (y8 : Int64) (y9 : Int64) (y10 : Int32) (y11 : t_S) (Q : Int32 × t_S → Prop) (hk : t_hk (t_loop (b_X13_assign_78 rc) n (y0, y1, y2, y3, y4, y5, y6, y7, y8, y9, y10, y11)) Q), mj_G D cy ad bs X cX13_assign 25 yX13_assign.cls (some .boolean) yX13_assign.name (102 + (k + 1)) 0 0 1065 (t_P (fun v s' => ∃ x, v = some (.int x) ∧ Q ((x, s')))) 78 [(0, .ref 950), (1, .int (y0)), (2, .int (y1)), (3, .int (y2)), (5, .int (y3)), (7, .int (y4)), (8, .int (y5)), (9, .long (y6)), (11, .long (y7)), (13, .long (y8)), (15, .long (y9)), (17, .int (y10))] [] (t_m y11) 1065 0 0 := by
  intro n
  induction n with
  | zero => intro y0 y1 y2 y3 y4 y5 y6 y7 y8 y9 y10 y11 Q hk; obtain ⟨r, hr, _⟩ := hk; cases hr
  | succ n ih =>
    intro y0 y1 y2 y3 y4 y5 y6 y7 y8 y9 y10 y11 Q hk
    exact B_X13_assign_78 rc H y0 y1 y2 y3 y4 y5 y6 y7 y8 y9 y10 y11 (fun y => t_lq (b_X13_assign_78 rc) n Q y) (fun y0' y1' y2' y3' y4' y5' y6' y7' y8' y9' y10' y11' hy => ih y0' y1' y2' y3' y4' y5' y6' y7' y8' y9' y10' y11' Q hy) (t_lp (b := b_X13_assign_78 rc) (n := n) (x := (y0, y1, y2, y3, y4, y5, y6, y7, y8, y9, y10, y11)) hk)
noncomputable def k_X13_assign_52 (rc : RT_X13_assign) (l1 : Int32) (l2 : Int32) (l3 : Int32) (l5 : Int32) (l7 : Int32) (k0 : Int32) (s : t_S) : Option (Int32 × t_S) :=
 if l7 ≤ k0 then (t_loop (b_X13_assign_78 rc) t_N (l1, l2, l3, l5, l7, k0, 0, 0, 0, 0, 0, s))
 else (some ((0 : Int32), s))
set_option maxRecDepth 4000 in
set_option maxHeartbeats 1000000 in
theorem B_X13_assign_52 {D : va_G} {cy : Nat → ClassId} {ad : Nat → Nat} {bs : Nat} {X : State → Heap → Prop} (rc : RT_X13_assign) {k : Nat} (H : RH_X13_assign rc k) (l1 : Int32) (l2 : Int32) (l3 : Int32) (l5 : Int32) (l7 : Int32) (k0 : Int32) (s : t_S) (Q : Int32 × t_S → Prop) (hk : t_hk (k_X13_assign_52 rc l1 l2 l3 l5 l7 k0 s) Q) : mj_G D cy ad bs X cX13_assign 25 yX13_assign.cls (some .boolean) yX13_assign.name (102 + (k + 1)) 0 0 1065 (t_P (fun v s' => ∃ x, v = some (.int x) ∧ Q ((x, s')))) 52 [(0, .ref 950), (1, .int l1), (2, .int l2), (3, .int l3), (5, .int l5), (7, .int l7)] [.int k0] (t_m s) 1065 0 0 := by
  refine mj_istore (lv2 := [(8, .int k0), (0, .ref 950), (1, .int l1), (2, .int l2), (3, .int l3), (5, .int l5), (7, .int l7)]) dX13_assign_52 (by decide) rfl ?_
  refine mj_iload dX13_assign_54 6 rfl ?_
  refine mj_iload dX13_assign_56 0 rfl ?_
  refine mj_icmp_le 63 dX13_assign_58 (by decide) (fun z => t_posK hk z (fun hk => ?_)) (fun z => t_negK hk z (fun hk => ?_))
  · refine mj_lconst (v := 0) dX13_assign_63 (by decide) ?_
    refine mj_lstore (lv2 := [(9, .long 0), (8, .int k0), (0, .ref 950), (1, .int l1), (2, .int l2), (3, .int l3), (5, .int l5), (7, .int l7)]) dX13_assign_64 (by decide) rfl ?_
    refine mj_lconst (v := 0) dX13_assign_66 (by decide) ?_
    refine mj_lstore (lv2 := [(11, .long 0), (9, .long 0), (8, .int k0), (0, .ref 950), (1, .int l1), (2, .int l2), (3, .int l3), (5, .int l5), (7, .int l7)]) dX13_assign_67 (by decide) rfl ?_
    refine mj_lconst (v := 0) dX13_assign_69 (by decide) ?_
    refine mj_lstore (lv2 := [(13, .long 0), (11, .long 0), (9, .long 0), (8, .int k0), (0, .ref 950), (1, .int l1), (2, .int l2), (3, .int l3), (5, .int l5), (7, .int l7)]) dX13_assign_70 (by decide) rfl ?_
    refine mj_lconst (v := 0) dX13_assign_72 (by decide) ?_
    refine mj_lstore (lv2 := [(15, .long 0), (13, .long 0), (11, .long 0), (9, .long 0), (8, .int k0), (0, .ref 950), (1, .int l1), (2, .int l2), (3, .int l3), (5, .int l5), (7, .int l7)]) dX13_assign_73 (by decide) rfl ?_
    refine mj_iconst (v := 0) dX13_assign_75 (by decide) ?_
    refine mj_istore (lv2 := [(17, .int 0), (15, .long 0), (13, .long 0), (11, .long 0), (9, .long 0), (8, .int k0), (0, .ref 950), (1, .int l1), (2, .int l2), (3, .int l3), (5, .int l5), (7, .int l7)]) dX13_assign_76 (by decide) rfl ?_
    refine mj_sublv [(0, .ref 950), (1, .int l1), (2, .int l2), (3, .int l3), (5, .int l5), (7, .int l7), (8, .int k0), (9, .long 0), (11, .long 0), (13, .long 0), (15, .long 0), (17, .int 0)] [6, 7, 8, 9, 10, 11, 5, 4, 3, 2, 1, 0] rfl ?_
    exact LH_X13_assign_78 rc H _ l1 l2 l3 l5 l7 k0 0 0 0 0 0 s _ hk
  · refine mj_iconst (v := 0) dX13_assign_61 (by decide) ?_
    exact t_somK hk (fun hf => t_iret dX13_assign_62 rfl (by decide) ⟨_, rfl, hf⟩ (Nat.le_of_ble_eq_true rfl) (Nat.le_of_ble_eq_true rfl))
noncomputable def k_X13_assign_38 (rc : RT_X13_assign) (l1 : Int32) (l2 : Int32) (l3 : Int32) (l4 : Int32) (l5 : Int32) (l6 : Int32) (k0 : Int32) (s : t_S) : Option (Int32 × t_S) :=
 if l5 = (0 : Int32) then (k_X13_assign_52 rc l1 l2 l3 l5 k0 l4 s)
 else (k_X13_assign_52 rc l1 l2 l3 l5 k0 l6 s)
set_option maxRecDepth 4000 in
set_option maxHeartbeats 1000000 in
theorem B_X13_assign_38 {D : va_G} {cy : Nat → ClassId} {ad : Nat → Nat} {bs : Nat} {X : State → Heap → Prop} (rc : RT_X13_assign) {k : Nat} (H : RH_X13_assign rc k) (l1 : Int32) (l2 : Int32) (l3 : Int32) (l4 : Int32) (l5 : Int32) (l6 : Int32) (k0 : Int32) (s : t_S) (Q : Int32 × t_S → Prop) (hk : t_hk (k_X13_assign_38 rc l1 l2 l3 l4 l5 l6 k0 s) Q) : mj_G D cy ad bs X cX13_assign 25 yX13_assign.cls (some .boolean) yX13_assign.name (102 + (k + 1)) 0 0 1065 (t_P (fun v s' => ∃ x, v = some (.int x) ∧ Q ((x, s')))) 38 [(0, .ref 950), (1, .int l1), (2, .int l2), (3, .int l3), (4, .int l4), (5, .int l5), (6, .int l6)] [.int k0] (t_m s) 1065 0 0 := by
  refine mj_istore (lv2 := [(7, .int k0), (0, .ref 950), (1, .int l1), (2, .int l2), (3, .int l3), (4, .int l4), (5, .int l5), (6, .int l6)]) dX13_assign_38 (by decide) rfl ?_
  refine mj_iload dX13_assign_40 6 rfl ?_
  refine mj_if_eq 50 dX13_assign_42 (by decide) (fun z => t_posK hk z (fun hk => ?_)) (fun z => t_negK hk z (fun hk => ?_))
  · refine mj_iload dX13_assign_50 5 rfl ?_
    refine mj_sublv [(0, .ref 950), (1, .int l1), (2, .int l2), (3, .int l3), (5, .int l5), (7, .int k0)] [1, 2, 3, 4, 6, 0] rfl ?_
    exact B_X13_assign_52 rc H _ _ _ _ _ _ _ _ hk
  · refine mj_iload dX13_assign_45 7 rfl ?_
    refine mj_goto 52 dX13_assign_47 (by decide) ?_
    refine mj_sublv [(0, .ref 950), (1, .int l1), (2, .int l2), (3, .int l3), (5, .int l5), (7, .int k0)] [1, 2, 3, 4, 6, 0] rfl ?_
    exact B_X13_assign_52 rc H _ _ _ _ _ _ _ _ hk
noncomputable def k_X13_assign_6 (rc : RT_X13_assign) (l1 : Int32) (l2 : Int32) (l3 : Int32) (l4 : Int32) (l5 : Int32) (l6 : Int32) (l7 : Int32) (s : t_S) : Option ((Int32 × Int32 × Int32 × Int32 × Int32 × Int32 × Int32 × t_S) ⊕ (Int32 × t_S)) :=
 if l7 < (0 : Int32) then ((if l5 = (0 : Int32) then (k_X13_assign_38 rc l1 l2 l3 l4 l5 l6 l6 s)
 else (k_X13_assign_38 rc l1 l2 l3 l4 l5 l6 l4 s)).map Sum.inr)
 else (if t_ix l7 13000 = true then
  some (.inl (l1, l2, l3, l4, l5, (l6 + 1), (s.1 960 (l7.toNatClampNeg)), s))
else none)
set_option maxRecDepth 4000 in
set_option maxHeartbeats 1000000 in
theorem B_X13_assign_6 {D : va_G} {cy : Nat → ClassId} {ad : Nat → Nat} {bs : Nat} {X : State → Heap → Prop} (rc : RT_X13_assign) {k : Nat} (H : RH_X13_assign rc k) (l1 : Int32) (l2 : Int32) (l3 : Int32) (l4 : Int32) (l5 : Int32) (l6 : Int32) (l7 : Int32) (s : t_S) (Q : (Int32 × Int32 × Int32 × Int32 × Int32 × Int32 × Int32 × t_S) ⊕ (Int32 × t_S) → Prop) (Hb6 : ∀ (y0 : Int32) (y1 : Int32) (y2 : Int32) (y3 : Int32) (y4 : Int32) (y5 : Int32) (y6 : Int32) (y7 : t_S), Q (.inl (y0, y1, y2, y3, y4, y5, y6, y7)) → mj_G D cy ad bs X cX13_assign 25 yX13_assign.cls (some .boolean) yX13_assign.name (102 + (k + 1)) 0 0 1065 (t_P (fun v s' => ∃ x, v = some (.int x) ∧ Q (.inr ((x, s'))))) 6 [(0, .ref 950), (1, .int (y0)), (2, .int (y1)), (3, .int (y2)), (4, .int (y3)), (5, .int (y4)), (6, .int (y5)), (7, .int (y6))] [] (t_m y7) 1065 0 0) (hk : t_hk (k_X13_assign_6 rc l1 l2 l3 l4 l5 l6 l7 s) Q) : mj_G D cy ad bs X cX13_assign 25 yX13_assign.cls (some .boolean) yX13_assign.name (102 + (k + 1)) 0 0 1065 (t_P (fun v s' => ∃ x, v = some (.int x) ∧ Q (.inr ((x, s'))))) 6 [(0, .ref 950), (1, .int l1), (2, .int l2), (3, .int l3), (4, .int l4), (5, .int l5), (6, .int l6), (7, .int l7)] [] (t_m s) 1065 0 0 := by
  refine mj_iload dX13_assign_6 7 rfl ?_
  refine mj_if_lt 26 dX13_assign_8 (by decide) (fun z => t_posK hk z (fun hk => ?_)) (fun z => t_negK hk z (fun hk => ?_))
  · refine t_mapK hk (fun hk => ?_)
    refine mj_iload dX13_assign_26 5 rfl ?_
    refine mj_if_eq 36 dX13_assign_28 (by decide) (fun z => t_posK hk z (fun hk => ?_)) (fun z => t_negK hk z (fun hk => ?_))
    · refine mj_iload dX13_assign_36 6 rfl ?_
      refine mj_sublv [(0, .ref 950), (1, .int l1), (2, .int l2), (3, .int l3), (4, .int l4), (5, .int l5), (6, .int l6)] [0, 1, 2, 3, 4, 5, 6] rfl ?_
      exact B_X13_assign_38 rc H _ _ _ _ _ _ _ _ _ hk
    · refine mj_iload dX13_assign_31 4 rfl ?_
      refine mj_goto 38 dX13_assign_33 (by decide) ?_
      refine mj_sublv [(0, .ref 950), (1, .int l1), (2, .int l2), (3, .int l3), (4, .int l4), (5, .int l5), (6, .int l6)] [0, 1, 2, 3, 4, 5, 6] rfl ?_
      exact B_X13_assign_38 rc H _ _ _ _ _ _ _ _ _ hk
  · refine mj_iinc (k := 6) (v := (l6 + 1)) (lv2 := [(6, .int (l6 + 1)), (0, .ref 950), (1, .int l1), (2, .int l2), (3, .int l3), (4, .int l4), (5, .int l5), (7, .int l7)]) dX13_assign_11 rfl rfl (by decide) rfl ?_
    refine mj_aload_n dX13_assign_14 1 rfl ?_
    refine t_getR 960 dX13_assign_15 F_X13_42 qr_950_22 ?_
    refine mj_iload dX13_assign_18 7 rfl ?_
    refine t_chkK hk (fun c0 hk => ?_)
    refine t_iald dX13_assign_20 qa_960 (t_ixv c0) ?_
    refine mj_istore (lv2 := [(7, .int (s.1 960 (l7.toNatClampNeg))), (6, .int (l6 + 1)), (0, .ref 950), (1, .int l1), (2, .int l2), (3, .int l3), (4, .int l4), (5, .int l5)]) dX13_assign_21 (by decide) rfl ?_
    refine mj_goto 6 dX13_assign_23 (by decide) ?_
    refine mj_sublv [(0, .ref 950), (1, .int l1), (2, .int l2), (3, .int l3), (4, .int l4), (5, .int l5), (6, .int (l6 + 1)), (7, .int (s.1 960 (l7.toNatClampNeg)))] [2, 3, 4, 5, 6, 7, 1, 0] rfl ?_
    exact t_somK hk (fun hf => Hb6 l1 l2 l3 l4 l5 (l6 + 1) (s.1 960 (l7.toNatClampNeg)) s hf)
noncomputable def b_X13_assign_6 (rc : RT_X13_assign) (x : Int32 × Int32 × Int32 × Int32 × Int32 × Int32 × Int32 × t_S) : Option ((Int32 × Int32 × Int32 × Int32 × Int32 × Int32 × Int32 × t_S) ⊕ (Int32 × t_S)) := k_X13_assign_6 rc x.1 x.2.1 x.2.2.1 x.2.2.2.1 x.2.2.2.2.1 x.2.2.2.2.2.1 x.2.2.2.2.2.2.1 x.2.2.2.2.2.2.2
set_option maxRecDepth 4000 in
set_option maxHeartbeats 1000000 in
theorem LH_X13_assign_6 {D : va_G} {cy : Nat → ClassId} {ad : Nat → Nat} {bs : Nat} {X : State → Heap → Prop} (rc : RT_X13_assign) {k : Nat} (H : RH_X13_assign rc k) : ∀ (n : Nat) (y0 : Int32) (y1 : Int32) (y2 : Int32) (y3 : Int32) (y4 : Int32) (y5 : Int32) (y6 : Int32) (y7 : t_S) (Q : Int32 × t_S → Prop) (hk : t_hk (t_loop (b_X13_assign_6 rc) n (y0, y1, y2, y3, y4, y5, y6, y7)) Q), mj_G D cy ad bs X cX13_assign 25 yX13_assign.cls (some .boolean) yX13_assign.name (102 + (k + 1)) 0 0 1065 (t_P (fun v s' => ∃ x, v = some (.int x) ∧ Q ((x, s')))) 6 [(0, .ref 950), (1, .int (y0)), (2, .int (y1)), (3, .int (y2)), (4, .int (y3)), (5, .int (y4)), (6, .int (y5)), (7, .int (y6))] [] (t_m y7) 1065 0 0 := by
  intro n
  induction n with
  | zero => intro y0 y1 y2 y3 y4 y5 y6 y7 Q hk; obtain ⟨r, hr, _⟩ := hk; cases hr
  | succ n ih =>
    intro y0 y1 y2 y3 y4 y5 y6 y7 Q hk
    exact B_X13_assign_6 rc H y0 y1 y2 y3 y4 y5 y6 y7 (fun y => t_lq (b_X13_assign_6 rc) n Q y) (fun y0' y1' y2' y3' y4' y5' y6' y7' hy => ih y0' y1' y2' y3' y4' y5' y6' y7' Q hy) (t_lp (b := b_X13_assign_6 rc) (n := n) (x := (y0, y1, y2, y3, y4, y5, y6, y7)) hk)
noncomputable def m_X13_assign (rc : RT_X13_assign) (x2 : Int32) (x3 : Int32) (x4 : Int32) (x5 : Int32) (x6 : Int32) (s : t_S) : Option (Int32 × t_S) :=
 t_loop (b_X13_assign_6 rc) t_N (x2, x3, x4, x5, x6, 0, x2, s)
set_option maxRecDepth 4000 in
set_option maxHeartbeats 1000000 in
theorem E_X13_assign (rc : RT_X13_assign) {k : Nat} (H : RH_X13_assign rc k) (x2 : Int32) (x3 : Int32) (x4 : Int32) (x5 : Int32) (x6 : Int32) (s : t_S) (r : Int32 × t_S) (hr : m_X13_assign rc x2 x3 x4 x5 x6 s = some r) : t_C yX13_assign cX13_assign 25 (some .boolean) (102 + (k + 1)) [.ref 950, .int x2, .int x3, .int x4, .int x5, .int x6] s (fun v s' => v = some (.int r.1) ∧ s' = r.2) := by
  refine t_C.imp (P := fun v s' => ∃ x, v = some (.int x) ∧ (fun q => q = r) ((x, s'))) (t_C.of (by decide +kernel) (Nat.le_of_ble_eq_true rfl) ?_) (fun v s' hp => by obtain ⟨x, rfl, rfl⟩ := hp; exact ⟨rfl, rfl⟩)
  intro D cy ad bs X
  have hk : t_hk (m_X13_assign rc x2 x3 x4 x5 x6 s) (fun q => q = r) := ⟨r, hr, rfl⟩
  show mj_G D cy ad bs X cX13_assign 25 yX13_assign.cls (some .boolean) yX13_assign.name (102 + (k + 1)) 0 0 1065 (t_P (fun v s' => ∃ x, v = some (.int x) ∧ (fun q => q = r) ((x, s')))) 0 [(0, .ref 950), (1, .int x2), (2, .int x3), (3, .int x4), (4, .int x5), (5, .int x6)] [] (t_m s) 1065 0 0
  refine mj_iconst (v := 0) dX13_assign_0 (by decide) ?_
  refine mj_istore (lv2 := [(6, .int 0), (0, .ref 950), (1, .int x2), (2, .int x3), (3, .int x4), (4, .int x5), (5, .int x6)]) dX13_assign_1 (by decide) rfl ?_
  refine mj_iload_n dX13_assign_3 2 rfl ?_
  refine mj_istore (lv2 := [(7, .int x2), (6, .int 0), (0, .ref 950), (1, .int x2), (2, .int x3), (3, .int x4), (4, .int x5), (5, .int x6)]) dX13_assign_4 (by decide) rfl ?_
  refine mj_sublv [(0, .ref 950), (1, .int x2), (2, .int x3), (3, .int x4), (4, .int x5), (5, .int x6), (6, .int 0), (7, .int x2)] [2, 3, 4, 5, 6, 7, 1, 0] rfl ?_
  exact LH_X13_assign_6 rc H _ x2 x3 x4 x5 x6 0 x2 s _ hk
noncomputable def k_X13_lengthMatch_35 (rc : RT_X13_assign) (l1 : Int32) (l2 : Int32) (k0 : Int32) (s : t_S) : Option (Int32 × t_S) :=
 if k0 = (0 : Int32) then (some ((0 : Int32), s))
 else (if t_ix (l2 + (1 : Int32)) 626600 = true then
  if t_ix l1 13000 = true then
  if (f_X13_in (s.2.1 1006 ((l2 + (1 : Int32)).toNatClampNeg)) (s.2.1 957 (l1.toNatClampNeg)) (s.2.1 958 (l1.toNatClampNeg)) s) = (0 : Int32) then (some ((0 : Int32), s))
 else ((rc.2.2.2.2.1 (s.1 959 (l1.toNatClampNeg)) l2 s).bind (fun r4 =>
 if r4.1 = (0 : Int32) then (some ((0 : Int32), r4.2))
 else (some ((1 : Int32), r4.2))))
else none
else none)
set_option maxRecDepth 4000 in
set_option maxHeartbeats 1000000 in
theorem B_X13_lengthMatch_35 {D : va_G} {cy : Nat → ClassId} {ad : Nat → Nat} {bs : Nat} {X : State → Heap → Prop} (rc : RT_X13_assign) {k : Nat} (H : RH_X13_assign rc k) (l1 : Int32) (l2 : Int32) (k0 : Int32) (s : t_S) (Q : Int32 × t_S → Prop) (hk : t_hk (k_X13_lengthMatch_35 rc l1 l2 k0 s) Q) : mj_G D cy ad bs X cX13_lengthMatch 4 yX13_lengthMatch.cls (some .boolean) yX13_lengthMatch.name (102 + (k + 1)) 0 0 1065 (t_P (fun v s' => ∃ x, v = some (.int x) ∧ Q ((x, s')))) 35 [(0, .ref 950), (1, .int l1), (2, .int l2)] [.int k0] (t_m s) 1065 0 0 := by
  refine mj_istore_n 3 (lv2 := [(3, .int k0), (0, .ref 950), (1, .int l1), (2, .int l2)]) dX13_lengthMatch_35 rfl (by decide) rfl ?_
  refine mj_iload_n dX13_lengthMatch_36 0 rfl ?_
  refine mj_if_eq 84 dX13_lengthMatch_37 (by decide) (fun z => t_posK hk z (fun hk => ?_)) (fun z => t_negK hk z (fun hk => ?_))
  · refine mj_iconst (v := 0) dX13_lengthMatch_84 (by decide) ?_
    exact t_somK hk (fun hf => t_iret dX13_lengthMatch_85 rfl (by decide) ⟨_, rfl, hf⟩ (Nat.le_of_ble_eq_true rfl) (Nat.le_of_ble_eq_true rfl))
  · refine mj_aload_n dX13_lengthMatch_40 1 rfl ?_
    refine t_getR 1006 dX13_lengthMatch_41 F_X13_182 qr_950_95 ?_
    refine mj_iload_n dX13_lengthMatch_44 3 rfl ?_
    refine mj_iconst (v := 1) dX13_lengthMatch_45 (by decide) ?_
    refine mj_iadd dX13_lengthMatch_46 ?_
    refine t_chkK hk (fun c0 hk => ?_)
    refine t_lald dX13_lengthMatch_47 qa_1006 (t_ixv c0) ?_
    refine mj_aload_n dX13_lengthMatch_48 1 rfl ?_
    refine t_getR 957 dX13_lengthMatch_49 F_X13_32 qr_950_19 ?_
    refine mj_iload_n dX13_lengthMatch_52 2 rfl ?_
    refine t_chkK hk (fun c1 hk => ?_)
    refine t_lald dX13_lengthMatch_53 qa_957 (t_ixv c1) ?_
    refine mj_aload_n dX13_lengthMatch_54 1 rfl ?_
    refine t_getR 958 dX13_lengthMatch_55 F_X13_36 qr_950_20 ?_
    refine mj_iload_n dX13_lengthMatch_58 2 rfl ?_
    refine t_lald dX13_lengthMatch_59 qa_958 (t_ixv c1) ?_
    refine t_callSiP dX13_lengthMatch_60 M_X13_in (C_X13_in _ _ _ _) ML_X13_371 SM_X13_in (As := [.long (s.2.1 1006 ((l2 + (1 : Int32)).toNatClampNeg)), .long (s.2.1 957 (l1.toNatClampNeg)), .long (s.2.1 958 (l1.toNatClampNeg))]) rfl rfl (by omega) (Nat.le_of_ble_eq_true rfl) (Nat.le_of_ble_eq_true rfl) (Nat.le_of_ble_eq_true rfl) ?_
    refine mj_if_eq 84 dX13_lengthMatch_63 (by decide) (fun z => t_posK hk z (fun hk => ?_)) (fun z => t_negK hk z (fun hk => ?_))
    · refine mj_iconst (v := 0) dX13_lengthMatch_84 (by decide) ?_
      exact t_somK hk (fun hf => t_iret dX13_lengthMatch_85 rfl (by decide) ⟨_, rfl, hf⟩ (Nat.le_of_ble_eq_true rfl) (Nat.le_of_ble_eq_true rfl))
    · refine mj_aload_n dX13_lengthMatch_66 1 rfl ?_
      refine mj_aload_n dX13_lengthMatch_67 1 rfl ?_
      refine t_getR 959 dX13_lengthMatch_68 F_X13_39 qr_950_21 ?_
      refine mj_iload_n dX13_lengthMatch_71 2 rfl ?_
      refine t_iald dX13_lengthMatch_72 qa_959 (t_ixv c1) ?_
      refine mj_iload_n dX13_lengthMatch_73 3 rfl ?_
      refine t_bndK hk (fun r4 er4 hk => ?_)
      refine t_callSiE dX13_lengthMatch_74 M_X13_match (H.2.2.2.2.1 _ _ _ _ er4) ML_X13_1233 SM_X13_match (As := [.ref 950, .int (s.1 959 (l1.toNatClampNeg)), .int l2]) rfl rfl (by omega) (Nat.le_of_ble_eq_true rfl) (Nat.le_of_ble_eq_true rfl) (Nat.le_of_ble_eq_true rfl) ?_
      refine mj_if_eq 84 dX13_lengthMatch_77 (by decide) (fun z => t_posK hk z (fun hk => ?_)) (fun z => t_negK hk z (fun hk => ?_))
      · refine mj_iconst (v := 0) dX13_lengthMatch_84 (by decide) ?_
        exact t_somK hk (fun hf => t_iret dX13_lengthMatch_85 rfl (by decide) ⟨_, rfl, hf⟩ (Nat.le_of_ble_eq_true rfl) (Nat.le_of_ble_eq_true rfl))
      · refine mj_iconst (v := 1) dX13_lengthMatch_80 (by decide) ?_
        refine mj_goto 85 dX13_lengthMatch_81 (by decide) ?_
        exact t_somK hk (fun hf => t_iret dX13_lengthMatch_85 rfl (by decide) ⟨_, rfl, hf⟩ (Nat.le_of_ble_eq_true rfl) (Nat.le_of_ble_eq_true rfl))
noncomputable def k_X13_lengthMatch_34 (rc : RT_X13_assign) (l1 : Int32) (l2 : Int32) (s : t_S) : Option (Int32 × t_S) :=
 k_X13_lengthMatch_35 rc l1 l2 0 s
set_option maxRecDepth 4000 in
set_option maxHeartbeats 1000000 in
theorem B_X13_lengthMatch_34 {D : va_G} {cy : Nat → ClassId} {ad : Nat → Nat} {bs : Nat} {X : State → Heap → Prop} (rc : RT_X13_assign) {k : Nat} (H : RH_X13_assign rc k) (l1 : Int32) (l2 : Int32) (s : t_S) (Q : Int32 × t_S → Prop) (hk : t_hk (k_X13_lengthMatch_34 rc l1 l2 s) Q) : mj_G D cy ad bs X cX13_lengthMatch 4 yX13_lengthMatch.cls (some .boolean) yX13_lengthMatch.name (102 + (k + 1)) 0 0 1065 (t_P (fun v s' => ∃ x, v = some (.int x) ∧ Q ((x, s')))) 34 [(0, .ref 950), (1, .int l1), (2, .int l2)] [] (t_m s) 1065 0 0 := by
  refine mj_iconst (v := 0) dX13_lengthMatch_34 (by decide) ?_
  exact B_X13_lengthMatch_35 rc H _ _ _ _ _ hk
noncomputable def k_X13_lengthMatch_30 (rc : RT_X13_assign) (l1 : Int32) (l2 : Int32) (s : t_S) : Option (Int32 × t_S) :=
 k_X13_lengthMatch_35 rc l1 l2 1 s
set_option maxRecDepth 4000 in
set_option maxHeartbeats 1000000 in
theorem B_X13_lengthMatch_30 {D : va_G} {cy : Nat → ClassId} {ad : Nat → Nat} {bs : Nat} {X : State → Heap → Prop} (rc : RT_X13_assign) {k : Nat} (H : RH_X13_assign rc k) (l1 : Int32) (l2 : Int32) (s : t_S) (Q : Int32 × t_S → Prop) (hk : t_hk (k_X13_lengthMatch_30 rc l1 l2 s) Q) : mj_G D cy ad bs X cX13_lengthMatch 4 yX13_lengthMatch.cls (some .boolean) yX13_lengthMatch.name (102 + (k + 1)) 0 0 1065 (t_P (fun v s' => ∃ x, v = some (.int x) ∧ Q ((x, s')))) 30 [(0, .ref 950), (1, .int l1), (2, .int l2)] [] (t_m s) 1065 0 0 := by
  refine mj_iconst (v := 1) dX13_lengthMatch_30 (by decide) ?_
  refine mj_goto 35 dX13_lengthMatch_31 (by decide) ?_
  exact B_X13_lengthMatch_35 rc H _ _ _ _ _ hk
noncomputable def m_X13_lengthMatch (rc : RT_X13_assign) (x2 : Int32) (x3 : Int32) (s : t_S) : Option (Int32 × t_S) :=
 if x3 < (0 : Int32) then (k_X13_lengthMatch_34 rc x2 x3 s)
 else (if t_ix x3 626600 = true then
  if (lg_cmp (s.2.1 1006 (x3.toNatClampNeg)) (2 : Int64)) = (0 : Int32) then (k_X13_lengthMatch_30 rc x2 x3 s)
 else (if (lg_cmp (s.2.1 1006 (x3.toNatClampNeg)) (8 : Int64)) = (0 : Int32) then (k_X13_lengthMatch_30 rc x2 x3 s)
 else (k_X13_lengthMatch_34 rc x2 x3 s))
else none)
set_option maxRecDepth 4000 in
set_option maxHeartbeats 1000000 in
theorem E_X13_lengthMatch (rc : RT_X13_assign) {k : Nat} (H : RH_X13_assign rc k) (x2 : Int32) (x3 : Int32) (s : t_S) (r : Int32 × t_S) (hr : m_X13_lengthMatch rc x2 x3 s = some r) : t_C yX13_lengthMatch cX13_lengthMatch 4 (some .boolean) (102 + (k + 1)) [.ref 950, .int x2, .int x3] s (fun v s' => v = some (.int r.1) ∧ s' = r.2) := by
  refine t_C.imp (P := fun v s' => ∃ x, v = some (.int x) ∧ (fun q => q = r) ((x, s'))) (t_C.of (by decide +kernel) (Nat.le_of_ble_eq_true rfl) ?_) (fun v s' hp => by obtain ⟨x, rfl, rfl⟩ := hp; exact ⟨rfl, rfl⟩)
  intro D cy ad bs X
  have hk : t_hk (m_X13_lengthMatch rc x2 x3 s) (fun q => q = r) := ⟨r, hr, rfl⟩
  show mj_G D cy ad bs X cX13_lengthMatch 4 yX13_lengthMatch.cls (some .boolean) yX13_lengthMatch.name (102 + (k + 1)) 0 0 1065 (t_P (fun v s' => ∃ x, v = some (.int x) ∧ (fun q => q = r) ((x, s')))) 0 [(0, .ref 950), (1, .int x2), (2, .int x3)] [] (t_m s) 1065 0 0
  refine mj_iload_n dX13_lengthMatch_0 2 rfl ?_
  refine mj_if_lt 34 dX13_lengthMatch_1 (by decide) (fun z => t_posK hk z (fun hk => ?_)) (fun z => t_negK hk z (fun hk => ?_))
  · exact B_X13_lengthMatch_34 rc H _ _ _ _ hk
  · refine mj_aload_n dX13_lengthMatch_4 0 rfl ?_
    refine t_getR 1006 dX13_lengthMatch_5 F_X13_182 qr_950_95 ?_
    refine mj_iload_n dX13_lengthMatch_8 2 rfl ?_
    refine t_chkK hk (fun c0 hk => ?_)
    refine t_lald dX13_lengthMatch_9 qa_1006 (t_ixv c0) ?_
    refine mj_ldc2 dX13_lengthMatch_10 K_X13_994 ?_
    refine mj_lcmp dX13_lengthMatch_13 ?_
    refine mj_if_eq 30 dX13_lengthMatch_14 (by decide) (fun z => t_posK hk z (fun hk => ?_)) (fun z => t_negK hk z (fun hk => ?_))
    · exact B_X13_lengthMatch_30 rc H _ _ _ _ hk
    · refine mj_aload_n dX13_lengthMatch_17 0 rfl ?_
      refine t_getR 1006 dX13_lengthMatch_18 F_X13_182 qr_950_95 ?_
      refine mj_iload_n dX13_lengthMatch_21 2 rfl ?_
      refine t_lald dX13_lengthMatch_22 qa_1006 (t_ixv c0) ?_
      refine mj_ldc2 dX13_lengthMatch_23 K_X13_951 ?_
      refine mj_lcmp dX13_lengthMatch_26 ?_
      refine mj_if_ne 34 dX13_lengthMatch_27 (by decide) (fun z => t_negK hk z (fun hk => ?_)) (fun z => t_posK hk z (fun hk => ?_))
      · exact B_X13_lengthMatch_34 rc H _ _ _ _ hk
      · exact B_X13_lengthMatch_30 rc H _ _ _ _ hk
noncomputable def k_X13_listMatch_217 (rc : RT_X13_assign) (l2 : Int32) (l3 : Int32) (l4 : Int32) (l5 : Int32) (l6 : Int32) (l7 : Int32) (l8 : Int32) (l9 : Int32) (s : t_S) : Option ((Int32 × Int32 × Int32 × Int32 × Int32 × Int32 × Int32 × Int32 × t_S) ⊕ ((Int32 × Int32 × Int32 × Int32 × t_S) ⊕ (Int32 × t_S))) :=
 some (.inl (l2, l3, l4, l5, l6, l7, l8, (l9 + 1), s))
set_option maxRecDepth 4000 in
set_option maxHeartbeats 1000000 in
theorem B_X13_listMatch_217 {D : va_G} {cy : Nat → ClassId} {ad : Nat → Nat} {bs : Nat} {X : State → Heap → Prop} (rc : RT_X13_assign) {k : Nat} (H : RH_X13_assign rc k) (l2 : Int32) (l3 : Int32) (l4 : Int32) (l5 : Int32) (l6 : Int32) (l7 : Int32) (l8 : Int32) (l9 : Int32) (s : t_S) (Q : (Int32 × Int32 × Int32 × Int32 × Int32 × Int32 × Int32 × Int32 × t_S) ⊕ ((Int32 × Int32 × Int32 × Int32 × t_S) ⊕ (Int32 × t_S)) → Prop) (Hb21 : ∀ (y0 : Int32) (y1 : Int32) (y2 : Int32) (y3 : Int32) (y4 : t_S), Q (.inr (.inl (y0, y1, y2, y3, y4))) → mj_G D cy ad bs X cX13_listMatch 11 yX13_listMatch.cls (some .boolean) yX13_listMatch.name (102 + (k + 1)) 0 0 1065 (t_P (fun v s' => ∃ x, v = some (.int x) ∧ Q (.inr (.inr ((x, s')))))) 21 [(0, .ref 950), (2, .int (y0)), (3, .int (y1)), (4, .int (y2)), (5, .int (y3))] [] (t_m y4) 1065 0 0) (Hb90 : ∀ (y0 : Int32) (y1 : Int32) (y2 : Int32) (y3 : Int32) (y4 : Int32) (y5 : Int32) (y6 : Int32) (y7 : Int32) (y8 : t_S), Q (.inl (y0, y1, y2, y3, y4, y5, y6, y7, y8)) → mj_G D cy ad bs X cX13_listMatch 11 yX13_listMatch.cls (some .boolean) yX13_listMatch.name (102 + (k + 1)) 0 0 1065 (t_P (fun v s' => ∃ x, v = some (.int x) ∧ Q (.inr (.inr ((x, s')))))) 90 [(0, .ref 950), (2, .int (y0)), (3, .int (y1)), (4, .int (y2)), (5, .int (y3)), (6, .int (y4)), (7, .int (y5)), (8, .int (y6)), (9, .int (y7))] [] (t_m y8) 1065 0 0) (hk : t_hk (k_X13_listMatch_217 rc l2 l3 l4 l5 l6 l7 l8 l9 s) Q) : mj_G D cy ad bs X cX13_listMatch 11 yX13_listMatch.cls (some .boolean) yX13_listMatch.name (102 + (k + 1)) 0 0 1065 (t_P (fun v s' => ∃ x, v = some (.int x) ∧ Q (.inr (.inr ((x, s')))))) 217 [(0, .ref 950), (2, .int l2), (3, .int l3), (4, .int l4), (5, .int l5), (6, .int l6), (7, .int l7), (8, .int l8), (9, .int l9)] [] (t_m s) 1065 0 0 := by
  refine mj_iinc (k := 8) (v := (l9 + 1)) (lv2 := [(9, .int (l9 + 1)), (0, .ref 950), (2, .int l2), (3, .int l3), (4, .int l4), (5, .int l5), (6, .int l6), (7, .int l7), (8, .int l8)]) dX13_listMatch_217 rfl rfl (by decide) rfl ?_
  refine mj_goto 90 dX13_listMatch_220 (by decide) ?_
  refine mj_sublv [(0, .ref 950), (2, .int l2), (3, .int l3), (4, .int l4), (5, .int l5), (6, .int l6), (7, .int l7), (8, .int l8), (9, .int (l9 + 1))] [1, 2, 3, 4, 5, 6, 7, 8, 0] rfl ?_
  exact t_somK hk (fun hf => Hb90 l2 l3 l4 l5 l6 l7 l8 (l9 + 1) s hf)
noncomputable def k_X13_listMatch_214 (rc : RT_X13_assign) (l2 : Int32) (l3 : Int32) (l4 : Int32) (l5 : Int32) (l7 : Int32) (l8 : Int32) (l9 : Int32) (k0 : Int32) (k1 : Int32) (s : t_S) : Option ((Int32 × Int32 × Int32 × Int32 × Int32 × Int32 × Int32 × Int32 × t_S) ⊕ ((Int32 × Int32 × Int32 × Int32 × t_S) ⊕ (Int32 × t_S))) :=
 k_X13_listMatch_217 rc l2 l3 l4 l5 (k1 ||| k0) l7 l8 l9 s
set_option maxRecDepth 4000 in
set_option maxHeartbeats 1000000 in
theorem B_X13_listMatch_214 {D : va_G} {cy : Nat → ClassId} {ad : Nat → Nat} {bs : Nat} {X : State → Heap → Prop} (rc : RT_X13_assign) {k : Nat} (H : RH_X13_assign rc k) (l2 : Int32) (l3 : Int32) (l4 : Int32) (l5 : Int32) (l7 : Int32) (l8 : Int32) (l9 : Int32) (k0 : Int32) (k1 : Int32) (s : t_S) (Q : (Int32 × Int32 × Int32 × Int32 × Int32 × Int32 × Int32 × Int32 × t_S) ⊕ ((Int32 × Int32 × Int32 × Int32 × t_S) ⊕ (Int32 × t_S)) → Prop) (Hb21 : ∀ (y0 : Int32) (y1 : Int32) (y2 : Int32) (y3 : Int32) (y4 : t_S), Q (.inr (.inl (y0, y1, y2, y3, y4))) → mj_G D cy ad bs X cX13_listMatch 11 yX13_listMatch.cls (some .boolean) yX13_listMatch.name (102 + (k + 1)) 0 0 1065 (t_P (fun v s' => ∃ x, v = some (.int x) ∧ Q (.inr (.inr ((x, s')))))) 21 [(0, .ref 950), (2, .int (y0)), (3, .int (y1)), (4, .int (y2)), (5, .int (y3))] [] (t_m y4) 1065 0 0) (Hb90 : ∀ (y0 : Int32) (y1 : Int32) (y2 : Int32) (y3 : Int32) (y4 : Int32) (y5 : Int32) (y6 : Int32) (y7 : Int32) (y8 : t_S), Q (.inl (y0, y1, y2, y3, y4, y5, y6, y7, y8)) → mj_G D cy ad bs X cX13_listMatch 11 yX13_listMatch.cls (some .boolean) yX13_listMatch.name (102 + (k + 1)) 0 0 1065 (t_P (fun v s' => ∃ x, v = some (.int x) ∧ Q (.inr (.inr ((x, s')))))) 90 [(0, .ref 950), (2, .int (y0)), (3, .int (y1)), (4, .int (y2)), (5, .int (y3)), (6, .int (y4)), (7, .int (y5)), (8, .int (y6)), (9, .int (y7))] [] (t_m y8) 1065 0 0) (hk : t_hk (k_X13_listMatch_214 rc l2 l3 l4 l5 l7 l8 l9 k0 k1 s) Q) : mj_G D cy ad bs X cX13_listMatch 11 yX13_listMatch.cls (some .boolean) yX13_listMatch.name (102 + (k + 1)) 0 0 1065 (t_P (fun v s' => ∃ x, v = some (.int x) ∧ Q (.inr (.inr ((x, s')))))) 214 [(0, .ref 950), (2, .int l2), (3, .int l3), (4, .int l4), (5, .int l5), (7, .int l7), (8, .int l8), (9, .int l9)] [.int k0, .int k1] (t_m s) 1065 0 0 := by
  refine mj_ior dX13_listMatch_214 ?_
  refine mj_istore (lv2 := [(6, .int (k1 ||| k0)), (0, .ref 950), (2, .int l2), (3, .int l3), (4, .int l4), (5, .int l5), (7, .int l7), (8, .int l8), (9, .int l9)]) dX13_listMatch_215 (by decide) rfl ?_
  refine mj_sublv [(0, .ref 950), (2, .int l2), (3, .int l3), (4, .int l4), (5, .int l5), (6, .int (k1 ||| k0)), (7, .int l7), (8, .int l8), (9, .int l9)] [1, 2, 3, 4, 5, 0, 6, 7, 8] rfl ?_
  exact B_X13_listMatch_217 rc H _ _ _ _ _ _ _ _ _ _ (fun y0 y1 y2 y3 y4 hx => Hb21 y0 y1 y2 y3 y4 hx) (fun y0 y1 y2 y3 y4 y5 y6 y7 y8 hx => Hb90 y0 y1 y2 y3 y4 y5 y6 y7 y8 hx) hk
noncomputable def k_X13_listMatch_194 (rc : RT_X13_assign) (l2 : Int32) (l3 : Int32) (l4 : Int32) (l5 : Int32) (l6 : Int32) (l7 : Int32) (l8 : Int32) (l9 : Int32) (k0 : Int32) (s : t_S) : Option ((Int32 × Int32 × Int32 × Int32 × Int32 × Int32 × Int32 × Int32 × t_S) ⊕ ((Int32 × Int32 × Int32 × Int32 × t_S) ⊕ (Int32 × t_S))) :=
 if k0 = (0 : Int32) then (k_X13_listMatch_214 rc l2 l3 l4 l5 l7 l8 l9 0 l6 s)
 else (k_X13_listMatch_214 rc l2 l3 l4 l5 l7 l8 l9 ((1 : Int32) <<< ((l9 + l8) &&& 31)) l6 s)
set_option maxRecDepth 4000 in
set_option maxHeartbeats 1000000 in
theorem B_X13_listMatch_194 {D : va_G} {cy : Nat → ClassId} {ad : Nat → Nat} {bs : Nat} {X : State → Heap → Prop} (rc : RT_X13_assign) {k : Nat} (H : RH_X13_assign rc k) (l2 : Int32) (l3 : Int32) (l4 : Int32) (l5 : Int32) (l6 : Int32) (l7 : Int32) (l8 : Int32) (l9 : Int32) (k0 : Int32) (s : t_S) (Q : (Int32 × Int32 × Int32 × Int32 × Int32 × Int32 × Int32 × Int32 × t_S) ⊕ ((Int32 × Int32 × Int32 × Int32 × t_S) ⊕ (Int32 × t_S)) → Prop) (Hb21 : ∀ (y0 : Int32) (y1 : Int32) (y2 : Int32) (y3 : Int32) (y4 : t_S), Q (.inr (.inl (y0, y1, y2, y3, y4))) → mj_G D cy ad bs X cX13_listMatch 11 yX13_listMatch.cls (some .boolean) yX13_listMatch.name (102 + (k + 1)) 0 0 1065 (t_P (fun v s' => ∃ x, v = some (.int x) ∧ Q (.inr (.inr ((x, s')))))) 21 [(0, .ref 950), (2, .int (y0)), (3, .int (y1)), (4, .int (y2)), (5, .int (y3))] [] (t_m y4) 1065 0 0) (Hb90 : ∀ (y0 : Int32) (y1 : Int32) (y2 : Int32) (y3 : Int32) (y4 : Int32) (y5 : Int32) (y6 : Int32) (y7 : Int32) (y8 : t_S), Q (.inl (y0, y1, y2, y3, y4, y5, y6, y7, y8)) → mj_G D cy ad bs X cX13_listMatch 11 yX13_listMatch.cls (some .boolean) yX13_listMatch.name (102 + (k + 1)) 0 0 1065 (t_P (fun v s' => ∃ x, v = some (.int x) ∧ Q (.inr (.inr ((x, s')))))) 90 [(0, .ref 950), (2, .int (y0)), (3, .int (y1)), (4, .int (y2)), (5, .int (y3)), (6, .int (y4)), (7, .int (y5)), (8, .int (y6)), (9, .int (y7))] [] (t_m y8) 1065 0 0) (hk : t_hk (k_X13_listMatch_194 rc l2 l3 l4 l5 l6 l7 l8 l9 k0 s) Q) : mj_G D cy ad bs X cX13_listMatch 11 yX13_listMatch.cls (some .boolean) yX13_listMatch.name (102 + (k + 1)) 0 0 1065 (t_P (fun v s' => ∃ x, v = some (.int x) ∧ Q (.inr (.inr ((x, s')))))) 194 [(0, .ref 950), (2, .int l2), (3, .int l3), (4, .int l4), (5, .int l5), (6, .int l6), (7, .int l7), (8, .int l8), (9, .int l9)] [.int k0] (t_m s) 1065 0 0 := by
  refine mj_istore (lv2 := [(10, .int k0), (0, .ref 950), (2, .int l2), (3, .int l3), (4, .int l4), (5, .int l5), (6, .int l6), (7, .int l7), (8, .int l8), (9, .int l9)]) dX13_listMatch_194 (by decide) rfl ?_
  refine mj_iload dX13_listMatch_196 6 rfl ?_
  refine mj_iload dX13_listMatch_198 0 rfl ?_
  refine mj_if_eq 213 dX13_listMatch_200 (by decide) (fun z => t_posK hk z (fun hk => ?_)) (fun z => t_negK hk z (fun hk => ?_))
  · refine mj_iconst (v := 0) dX13_listMatch_213 (by decide) ?_
    refine mj_sublv [(0, .ref 950), (2, .int l2), (3, .int l3), (4, .int l4), (5, .int l5), (7, .int l7), (8, .int l8), (9, .int l9)] [1, 2, 3, 4, 5, 7, 8, 9] rfl ?_
    exact B_X13_listMatch_214 rc H _ _ _ _ _ _ _ _ _ _ _ (fun y0 y1 y2 y3 y4 hx => Hb21 y0 y1 y2 y3 y4 hx) (fun y0 y1 y2 y3 y4 y5 y6 y7 y8 hx => Hb90 y0 y1 y2 y3 y4 y5 y6 y7 y8 hx) hk
  · refine mj_iconst (v := 1) dX13_listMatch_203 (by decide) ?_
    refine mj_iload dX13_listMatch_204 9 rfl ?_
    refine mj_iload dX13_listMatch_206 8 rfl ?_
    refine mj_iadd dX13_listMatch_208 ?_
    refine mj_ishl dX13_listMatch_209 ?_
    refine mj_goto 214 dX13_listMatch_210 (by decide) ?_
    refine mj_sublv [(0, .ref 950), (2, .int l2), (3, .int l3), (4, .int l4), (5, .int l5), (7, .int l7), (8, .int l8), (9, .int l9)] [1, 2, 3, 4, 5, 7, 8, 9] rfl ?_
    exact B_X13_listMatch_214 rc H _ _ _ _ _ _ _ _ _ _ _ (fun y0 y1 y2 y3 y4 hx => Hb21 y0 y1 y2 y3 y4 hx) (fun y0 y1 y2 y3 y4 y5 y6 y7 y8 hx => Hb90 y0 y1 y2 y3 y4 y5 y6 y7 y8 hx) hk
noncomputable def k_X13_listMatch_116 (rc : RT_X13_assign) (l2 : Int32) (l3 : Int32) (l4 : Int32) (l5 : Int32) (l6 : Int32) (l7 : Int32) (l8 : Int32) (l9 : Int32) (l10 : Int32) (s : t_S) : Option ((Int32 × Int32 × Int32 × Int32 × Int32 × Int32 × Int32 × Int32 × Int32 × t_S) ⊕ ((Int32 × Int32 × Int32 × Int32 × Int32 × Int32 × Int32 × Int32 × t_S) ⊕ ((Int32 × Int32 × Int32 × Int32 × t_S) ⊕ (Int32 × t_S)))) :=
 if l3 < l10 then ((k_X13_listMatch_217 rc l2 l3 l4 l5 l6 l7 l8 l9 s).map Sum.inr)
 else (some (.inl (l2, l3, l4, l5, (l6 ||| ((1 : Int32) <<< (l10 &&& 31))), l7, l8, l9, (l10 + 1), s)))
set_option maxRecDepth 4000 in
set_option maxHeartbeats 1000000 in
theorem B_X13_listMatch_116 {D : va_G} {cy : Nat → ClassId} {ad : Nat → Nat} {bs : Nat} {X : State → Heap → Prop} (rc : RT_X13_assign) {k : Nat} (H : RH_X13_assign rc k) (l2 : Int32) (l3 : Int32) (l4 : Int32) (l5 : Int32) (l6 : Int32) (l7 : Int32) (l8 : Int32) (l9 : Int32) (l10 : Int32) (s : t_S) (Q : (Int32 × Int32 × Int32 × Int32 × Int32 × Int32 × Int32 × Int32 × Int32 × t_S) ⊕ ((Int32 × Int32 × Int32 × Int32 × Int32 × Int32 × Int32 × Int32 × t_S) ⊕ ((Int32 × Int32 × Int32 × Int32 × t_S) ⊕ (Int32 × t_S))) → Prop) (Hb21 : ∀ (y0 : Int32) (y1 : Int32) (y2 : Int32) (y3 : Int32) (y4 : t_S), Q (.inr (.inr (.inl (y0, y1, y2, y3, y4)))) → mj_G D cy ad bs X cX13_listMatch 11 yX13_listMatch.cls (some .boolean) yX13_listMatch.name (102 + (k + 1)) 0 0 1065 (t_P (fun v s' => ∃ x, v = some (.int x) ∧ Q (.inr (.inr (.inr ((x, s'))))))) 21 [(0, .ref 950), (2, .int (y0)), (3, .int (y1)), (4, .int (y2)), (5, .int (y3))] [] (t_m y4) 1065 0 0) (Hb90 : ∀ (y0 : Int32) (y1 : Int32) (y2 : Int32) (y3 : Int32) (y4 : Int32) (y5 : Int32) (y6 : Int32) (y7 : Int32) (y8 : t_S), Q (.inr (.inl (y0, y1, y2, y3, y4, y5, y6, y7, y8))) → mj_G D cy ad bs X cX13_listMatch 11 yX13_listMatch.cls (some .boolean) yX13_listMatch.name (102 + (k + 1)) 0 0 1065 (t_P (fun v s' => ∃ x, v = some (.int x) ∧ Q (.inr (.inr (.inr ((x, s'))))))) 90 [(0, .ref 950), (2, .int (y0)), (3, .int (y1)), (4, .int (y2)), (5, .int (y3)), (6, .int (y4)), (7, .int (y5)), (8, .int (y6)), (9, .int (y7))] [] (t_m y8) 1065 0 0) (Hb116 : ∀ (y0 : Int32) (y1 : Int32) (y2 : Int32) (y3 : Int32) (y4 : Int32) (y5 : Int32) (y6 : Int32) (y7 : Int32) (y8 : Int32) (y9 : t_S), Q (.inl (y0, y1, y2, y3, y4, y5, y6, y7, y8, y9)) → mj_G D cy ad bs X cX13_listMatch 11 yX13_listMatch.cls (some .boolean) yX13_listMatch.name (102 + (k + 1)) 0 0 1065 (t_P (fun v s' => ∃ x, v = some (.int x) ∧ Q (.inr (.inr (.inr ((x, s'))))))) 116 [(0, .ref 950), (2, .int (y0)), (3, .int (y1)), (4, .int (y2)), (5, .int (y3)), (6, .int (y4)), (7, .int (y5)), (8, .int (y6)), (9, .int (y7)), (10, .int (y8))] [] (t_m y9) 1065 0 0) (hk : t_hk (k_X13_listMatch_116 rc l2 l3 l4 l5 l6 l7 l8 l9 l10 s) Q) : mj_G D cy ad bs X cX13_listMatch 11 yX13_listMatch.cls (some .boolean) yX13_listMatch.name (102 + (k + 1)) 0 0 1065 (t_P (fun v s' => ∃ x, v = some (.int x) ∧ Q (.inr (.inr (.inr ((x, s'))))))) 116 [(0, .ref 950), (2, .int l2), (3, .int l3), (4, .int l4), (5, .int l5), (6, .int l6), (7, .int l7), (8, .int l8), (9, .int l9), (10, .int l10)] [] (t_m s) 1065 0 0 := by
  refine mj_iload dX13_listMatch_116 9 rfl ?_
  refine mj_iload_n dX13_listMatch_118 2 rfl ?_
  refine mj_icmp_gt 137 dX13_listMatch_119 (by decide) (fun z => t_posK hk z (fun hk => ?_)) (fun z => t_negK hk z (fun hk => ?_))
  · refine t_mapK hk (fun hk => ?_)
    refine mj_goto 217 dX13_listMatch_137 (by decide) ?_
    refine mj_sublv [(0, .ref 950), (2, .int l2), (3, .int l3), (4, .int l4), (5, .int l5), (6, .int l6), (7, .int l7), (8, .int l8), (9, .int l9)] [0, 1, 2, 3, 4, 5, 6, 7, 8] rfl ?_
    exact B_X13_listMatch_217 rc H _ _ _ _ _ _ _ _ _ _ (fun y0 y1 y2 y3 y4 hx => Hb21 y0 y1 y2 y3 y4 hx) (fun y0 y1 y2 y3 y4 y5 y6 y7 y8 hx => Hb90 y0 y1 y2 y3 y4 y5 y6 y7 y8 hx) hk
  · refine mj_iload dX13_listMatch_122 5 rfl ?_
    refine mj_iconst (v := 1) dX13_listMatch_124 (by decide) ?_
    refine mj_iload dX13_listMatch_125 9 rfl ?_
    refine mj_ishl dX13_listMatch_127 ?_
    refine mj_ior dX13_listMatch_128 ?_
    refine mj_istore (lv2 := [(6, .int (l6 ||| ((1 : Int32) <<< (l10 &&& 31)))), (0, .ref 950), (2, .int l2), (3, .int l3), (4, .int l4), (5, .int l5), (7, .int l7), (8, .int l8), (9, .int l9), (10, .int l10)]) dX13_listMatch_129 (by decide) rfl ?_
    refine mj_iinc (k := 9) (v := (l10 + 1)) (lv2 := [(10, .int (l10 + 1)), (6, .int (l6 ||| ((1 : Int32) <<< (l10 &&& 31)))), (0, .ref 950), (2, .int l2), (3, .int l3), (4, .int l4), (5, .int l5), (7, .int l7), (8, .int l8), (9, .int l9)]) dX13_listMatch_131 rfl rfl (by decide) rfl ?_
    refine mj_goto 116 dX13_listMatch_134 (by decide) ?_
    refine mj_sublv [(0, .ref 950), (2, .int l2), (3, .int l3), (4, .int l4), (5, .int l5), (6, .int (l6 ||| ((1 : Int32) <<< (l10 &&& 31)))), (7, .int l7), (8, .int l8), (9, .int l9), (10, .int (l10 + 1))] [2, 3, 4, 5, 6, 1, 7, 8, 9, 0] rfl ?_
    exact t_somK hk (fun hf => Hb116 l2 l3 l4 l5 (l6 ||| ((1 : Int32) <<< (l10 &&& 31))) l7 l8 l9 (l10 + 1) s hf)
noncomputable def b_X13_listMatch_116 (rc : RT_X13_assign) (x : Int32 × Int32 × Int32 × Int32 × Int32 × Int32 × Int32 × Int32 × Int32 × t_S) : Option ((Int32 × Int32 × Int32 × Int32 × Int32 × Int32 × Int32 × Int32 × Int32 × t_S) ⊕ ((Int32 × Int32 × Int32 × Int32 × Int32 × Int32 × Int32 × Int32 × t_S) ⊕ ((Int32 × Int32 × Int32 × Int32 × t_S) ⊕ (Int32 × t_S)))) := k_X13_listMatch_116 rc x.1 x.2.1 x.2.2.1 x.2.2.2.1 x.2.2.2.2.1 x.2.2.2.2.2.1 x.2.2.2.2.2.2.1 x.2.2.2.2.2.2.2.1 x.2.2.2.2.2.2.2.2.1 x.2.2.2.2.2.2.2.2.2
set_option maxRecDepth 4000 in
set_option maxHeartbeats 1000000 in
theorem LH_X13_listMatch_116 {D : va_G} {cy : Nat → ClassId} {ad : Nat → Nat} {bs : Nat} {X : State → Heap → Prop} (rc : RT_X13_assign) {k : Nat} (H : RH_X13_assign rc k) : ∀ (n : Nat) (y0 : Int32) (y1 : Int32) (y2 : Int32) (y3 : Int32) (y4 : Int32) (y5 : Int32) (y6 : Int32) (y7 : Int32) (y8 : Int32) (y9 : t_S) (Q : (Int32 × Int32 × Int32 × Int32 × Int32 × Int32 × Int32 × Int32 × t_S) ⊕ ((Int32 × Int32 × Int32 × Int32 × t_S) ⊕ (Int32 × t_S)) → Prop) (Hb21 : ∀ (y0 : Int32) (y1 : Int32) (y2 : Int32) (y3 : Int32) (y4 : t_S), Q (.inr (.inl (y0, y1, y2, y3, y4))) → mj_G D cy ad bs X cX13_listMatch 11 yX13_listMatch.cls (some .boolean) yX13_listMatch.name (102 + (k + 1)) 0 0 1065 (t_P (fun v s' => ∃ x, v = some (.int x) ∧ Q (.inr (.inr ((x, s')))))) 21 [(0, .ref 950), (2, .int (y0)), (3, .int (y1)), (4, .int (y2)), (5, .int (y3))] [] (t_m y4) 1065 0 0) (Hb90 : ∀ (y0 : Int32) (y1 : Int32) (y2 : Int32) (y3 : Int32) (y4 : Int32) (y5 : Int32) (y6 : Int32) (y7 : Int32) (y8 : t_S), Q (.inl (y0, y1, y2, y3, y4, y5, y6, y7, y8)) → mj_G D cy ad bs X cX13_listMatch 11 yX13_listMatch.cls (some .boolean) yX13_listMatch.name (102 + (k + 1)) 0 0 1065 (t_P (fun v s' => ∃ x, v = some (.int x) ∧ Q (.inr (.inr ((x, s')))))) 90 [(0, .ref 950), (2, .int (y0)), (3, .int (y1)), (4, .int (y2)), (5, .int (y3)), (6, .int (y4)), (7, .int (y5)), (8, .int (y6)), (9, .int (y7))] [] (t_m y8) 1065 0 0) (hk : t_hk (t_loop (b_X13_listMatch_116 rc) n (y0, y1, y2, y3, y4, y5, y6, y7, y8, y9)) Q), mj_G D cy ad bs X cX13_listMatch 11 yX13_listMatch.cls (some .boolean) yX13_listMatch.name (102 + (k + 1)) 0 0 1065 (t_P (fun v s' => ∃ x, v = some (.int x) ∧ Q (.inr (.inr ((x, s')))))) 116 [(0, .ref 950), (2, .int (y0)), (3, .int (y1)), (4, .int (y2)), (5, .int (y3)), (6, .int (y4)), (7, .int (y5)), (8, .int (y6)), (9, .int (y7)), (10, .int (y8))] [] (t_m y9) 1065 0 0 := by
  intro n
  induction n with
  | zero => intro y0 y1 y2 y3 y4 y5 y6 y7 y8 y9 Q Hb21 Hb90 hk; obtain ⟨r, hr, _⟩ := hk; cases hr
  | succ n ih =>
    intro y0 y1 y2 y3 y4 y5 y6 y7 y8 y9 Q Hb21 Hb90 hk
    exact B_X13_listMatch_116 rc H y0 y1 y2 y3 y4 y5 y6 y7 y8 y9 (fun y => t_lq (b_X13_listMatch_116 rc) n Q y) (fun y0' y1' y2' y3' y4' hy => Hb21 y0' y1' y2' y3' y4' hy) (fun y0' y1' y2' y3' y4' y5' y6' y7' y8' hy => Hb90 y0' y1' y2' y3' y4' y5' y6' y7' y8' hy) (fun y0' y1' y2' y3' y4' y5' y6' y7' y8' y9' hy => ih y0' y1' y2' y3' y4' y5' y6' y7' y8' y9' Q Hb21 Hb90 hy) (t_lp (b := b_X13_listMatch_116 rc) (n := n) (x := (y0, y1, y2, y3, y4, y5, y6, y7, y8, y9)) hk)
noncomputable def k_X13_listMatch_90 (rc : RT_X13_assign) (l2 : Int32) (l3 : Int32) (l4 : Int32) (l5 : Int32) (l6 : Int32) (l7 : Int32) (l8 : Int32) (l9 : Int32) (s : t_S) : Option ((Int32 × Int32 × Int32 × Int32 × Int32 × Int32 × Int32 × Int32 × t_S) ⊕ ((Int32 × Int32 × Int32 × Int32 × t_S) ⊕ (Int32 × t_S))) :=
 if l3 < l9 then ((if t_ix l5 13000 = true then
  some (.inl (l2, l3, l6, (s.1 960 (l5.toNatClampNeg)), s))
else none).map Sum.inr)
 else (if ((l4 >>> (l9 &&& 31)) &&& (1 : Int32)) = (1 : Int32) then (if l7 = (0 : Int32) then (if l3 < (l9 + l8) then (k_X13_listMatch_217 rc l2 l3 l4 l5 l6 l7 l8 l9 s)
 else (if t_ix l5 13000 = true then
  if (s.1 955 (l5.toNatClampNeg)) = (39 : Int32) then ((rc.1 (s.1 959 (l5.toNatClampNeg)) l2 l9 l8 (1 : Int32) s).bind (fun r5 =>
 k_X13_listMatch_194 rc l2 l3 l4 l5 l6 l7 l8 l9 r5.1 r5.2))
 else ((f_X13_partOf l2 l9 s).bind (fun r3 =>
 (rc.2.2.2.2.1 l5 r3 s).bind (fun r4 =>
 k_X13_listMatch_194 rc l2 l3 l4 l5 l6 l7 l8 l9 r4.1 r4.2)))
else none))
 else (t_loop (b_X13_listMatch_116 rc) t_N (l2, l3, l4, l5, l6, l7, l8, l9, l9, s)))
 else (k_X13_listMatch_217 rc l2 l3 l4 l5 l6 l7 l8 l9 s))
set_option maxRecDepth 4000 in
set_option maxHeartbeats 1000000 in
theorem B_X13_listMatch_90 {D : va_G} {cy : Nat → ClassId} {ad : Nat → Nat} {bs : Nat} {X : State → Heap → Prop} (rc : RT_X13_assign) {k : Nat} (H : RH_X13_assign rc k) (l2 : Int32) (l3 : Int32) (l4 : Int32) (l5 : Int32) (l6 : Int32) (l7 : Int32) (l8 : Int32) (l9 : Int32) (s : t_S) (Q : (Int32 × Int32 × Int32 × Int32 × Int32 × Int32 × Int32 × Int32 × t_S) ⊕ ((Int32 × Int32 × Int32 × Int32 × t_S) ⊕ (Int32 × t_S)) → Prop) (Hb21 : ∀ (y0 : Int32) (y1 : Int32) (y2 : Int32) (y3 : Int32) (y4 : t_S), Q (.inr (.inl (y0, y1, y2, y3, y4))) → mj_G D cy ad bs X cX13_listMatch 11 yX13_listMatch.cls (some .boolean) yX13_listMatch.name (102 + (k + 1)) 0 0 1065 (t_P (fun v s' => ∃ x, v = some (.int x) ∧ Q (.inr (.inr ((x, s')))))) 21 [(0, .ref 950), (2, .int (y0)), (3, .int (y1)), (4, .int (y2)), (5, .int (y3))] [] (t_m y4) 1065 0 0) (Hb90 : ∀ (y0 : Int32) (y1 : Int32) (y2 : Int32) (y3 : Int32) (y4 : Int32) (y5 : Int32) (y6 : Int32) (y7 : Int32) (y8 : t_S), Q (.inl (y0, y1, y2, y3, y4, y5, y6, y7, y8)) → mj_G D cy ad bs X cX13_listMatch 11 yX13_listMatch.cls (some .boolean) yX13_listMatch.name (102 + (k + 1)) 0 0 1065 (t_P (fun v s' => ∃ x, v = some (.int x) ∧ Q (.inr (.inr ((x, s')))))) 90 [(0, .ref 950), (2, .int (y0)), (3, .int (y1)), (4, .int (y2)), (5, .int (y3)), (6, .int (y4)), (7, .int (y5)), (8, .int (y6)), (9, .int (y7))] [] (t_m y8) 1065 0 0) (hk : t_hk (k_X13_listMatch_90 rc l2 l3 l4 l5 l6 l7 l8 l9 s) Q) : mj_G D cy ad bs X cX13_listMatch 11 yX13_listMatch.cls (some .boolean) yX13_listMatch.name (102 + (k + 1)) 0 0 1065 (t_P (fun v s' => ∃ x, v = some (.int x) ∧ Q (.inr (.inr ((x, s')))))) 90 [(0, .ref 950), (2, .int l2), (3, .int l3), (4, .int l4), (5, .int l5), (6, .int l6), (7, .int l7), (8, .int l8), (9, .int l9)] [] (t_m s) 1065 0 0 := by
  refine mj_iload dX13_listMatch_90 8 rfl ?_
  refine mj_iload_n dX13_listMatch_92 2 rfl ?_
  refine mj_icmp_gt 223 dX13_listMatch_93 (by decide) (fun z => t_posK hk z (fun hk => ?_)) (fun z => t_negK hk z (fun hk => ?_))
  · refine t_mapK hk (fun hk => ?_)
    refine mj_iload dX13_listMatch_223 5 rfl ?_
    refine mj_istore (lv2 := [(4, .int l6), (0, .ref 950), (2, .int l2), (3, .int l3), (5, .int l5), (6, .int l6), (7, .int l7), (8, .int l8), (9, .int l9)]) dX13_listMatch_225 (by decide) rfl ?_
    refine mj_aload_n dX13_listMatch_227 1 rfl ?_
    refine t_getR 960 dX13_listMatch_228 F_X13_42 qr_950_22 ?_
    refine mj_iload dX13_listMatch_231 4 rfl ?_
    refine t_chkK hk (fun c0 hk => ?_)
    refine t_iald dX13_listMatch_233 qa_960 (t_ixv c0) ?_
    refine mj_istore (lv2 := [(5, .int (s.1 960 (l5.toNatClampNeg))), (4, .int l6), (0, .ref 950), (2, .int l2), (3, .int l3), (6, .int l6), (7, .int l7), (8, .int l8), (9, .int l9)]) dX13_listMatch_234 (by decide) rfl ?_
    refine mj_goto 21 dX13_listMatch_236 (by decide) ?_
    refine mj_sublv [(0, .ref 950), (2, .int l2), (3, .int l3), (4, .int l6), (5, .int (s.1 960 (l5.toNatClampNeg)))] [2, 3, 4, 1, 0] rfl ?_
    exact t_somK hk (fun hf => Hb21 l2 l3 l6 (s.1 960 (l5.toNatClampNeg)) s hf)
  · refine mj_iload dX13_listMatch_96 3 rfl ?_
    refine mj_iload dX13_listMatch_98 8 rfl ?_
    refine mj_ishr dX13_listMatch_100 ?_
    refine mj_iconst (v := 1) dX13_listMatch_101 (by decide) ?_
    refine mj_iand dX13_listMatch_102 ?_
    refine mj_iconst (v := 1) dX13_listMatch_103 (by decide) ?_
    refine mj_icmp_ne 217 dX13_listMatch_104 (by decide) (fun z => t_negK hk z (fun hk => ?_)) (fun z => t_posK hk z (fun hk => ?_))
    · exact B_X13_listMatch_217 rc H _ _ _ _ _ _ _ _ _ _ (fun y0 y1 y2 y3 y4 hx => Hb21 y0 y1 y2 y3 y4 hx) (fun y0 y1 y2 y3 y4 y5 y6 y7 y8 hx => Hb90 y0 y1 y2 y3 y4 y5 y6 y7 y8 hx) hk
    · refine mj_iload dX13_listMatch_107 6 rfl ?_
      refine mj_if_eq 140 dX13_listMatch_109 (by decide) (fun z => t_posK hk z (fun hk => ?_)) (fun z => t_negK hk z (fun hk => ?_))
      · refine mj_iload dX13_listMatch_140 8 rfl ?_
        refine mj_iload dX13_listMatch_142 7 rfl ?_
        refine mj_iadd dX13_listMatch_144 ?_
        refine mj_iload_n dX13_listMatch_145 2 rfl ?_
        refine mj_icmp_gt 217 dX13_listMatch_146 (by decide) (fun z => t_posK hk z (fun hk => ?_)) (fun z => t_negK hk z (fun hk => ?_))
        · exact B_X13_listMatch_217 rc H _ _ _ _ _ _ _ _ _ _ (fun y0 y1 y2 y3 y4 hx => Hb21 y0 y1 y2 y3 y4 hx) (fun y0 y1 y2 y3 y4 y5 y6 y7 y8 hx => Hb90 y0 y1 y2 y3 y4 y5 y6 y7 y8 hx) hk
        · refine mj_aload_n dX13_listMatch_149 0 rfl ?_
          refine t_getR 955 dX13_listMatch_150 F_X13_26 qr_950_17 ?_
          refine mj_iload dX13_listMatch_153 4 rfl ?_
          refine t_chkK hk (fun c1 hk => ?_)
          refine t_iald dX13_listMatch_155 qa_955 (t_ixv c1) ?_
          refine mj_bipush (v := 39) dX13_listMatch_156 (by decide) ?_
          refine mj_icmp_ne 181 dX13_listMatch_158 (by decide) (fun z => t_negK hk z (fun hk => ?_)) (fun z => t_posK hk z (fun hk => ?_))
          · refine mj_aload_n dX13_listMatch_181 0 rfl ?_
            refine mj_iload dX13_listMatch_182 4 rfl ?_
            refine mj_aload_n dX13_listMatch_184 0 rfl ?_
            refine mj_iload_n dX13_listMatch_185 1 rfl ?_
            refine mj_iload dX13_listMatch_186 8 rfl ?_
            refine t_bndK hk (fun r3 er3 hk => ?_)
            refine t_callViP dX13_listMatch_188 M_X13_partOf (C_X13_partOf _ _ _ _ er3) ML_X13_855 IM_X13_partOf SE_X13_partOf qc_950 rfl (As := [.int l2, .int l9]) rfl rfl (by omega) (Nat.le_of_ble_eq_true rfl) (Nat.le_of_ble_eq_true rfl) (Nat.le_of_ble_eq_true rfl) ?_
            refine t_bndK hk (fun r4 er4 hk => ?_)
            refine t_callSiE dX13_listMatch_191 M_X13_match (H.2.2.2.2.1 _ _ _ _ er4) ML_X13_1233 SM_X13_match (As := [.ref 950, .int l5, .int r3]) rfl rfl (by omega) (Nat.le_of_ble_eq_true rfl) (Nat.le_of_ble_eq_true rfl) (Nat.le_of_ble_eq_true rfl) ?_
            exact B_X13_listMatch_194 rc H _ _ _ _ _ _ _ _ _ _ _ (fun y0 y1 y2 y3 y4 hx => Hb21 y0 y1 y2 y3 y4 hx) (fun y0 y1 y2 y3 y4 y5 y6 y7 y8 hx => Hb90 y0 y1 y2 y3 y4 y5 y6 y7 y8 hx) hk
          · refine mj_aload_n dX13_listMatch_161 0 rfl ?_
            refine mj_aload_n dX13_listMatch_162 0 rfl ?_
            refine t_getR 959 dX13_listMatch_163 F_X13_39 qr_950_21 ?_
            refine mj_iload dX13_listMatch_166 4 rfl ?_
            refine t_iald dX13_listMatch_168 qa_959 (t_ixv c1) ?_
            refine mj_iload_n dX13_listMatch_169 1 rfl ?_
            refine mj_iload dX13_listMatch_170 8 rfl ?_
            refine mj_iload dX13_listMatch_172 7 rfl ?_
            refine mj_iconst (v := 1) dX13_listMatch_174 (by decide) ?_
            refine t_bndK hk (fun r5 er5 hk => ?_)
            refine t_callSiE dX13_listMatch_175 M_X13_assign (H.1 _ _ _ _ _ _ _ er5) ML_X13_1269 SM_X13_assign (As := [.ref 950, .int (s.1 959 (l5.toNatClampNeg)), .int l2, .int l9, .int l8, .int 1]) rfl rfl (by omega) (Nat.le_of_ble_eq_true rfl) (Nat.le_of_ble_eq_true rfl) (Nat.le_of_ble_eq_true rfl) ?_
            refine mj_goto 194 dX13_listMatch_178 (by decide) ?_
            exact B_X13_listMatch_194 rc H _ _ _ _ _ _ _ _ _ _ _ (fun y0 y1 y2 y3 y4 hx => Hb21 y0 y1 y2 y3 y4 hx) (fun y0 y1 y2 y3 y4 y5 y6 y7 y8 hx => Hb90 y0 y1 y2 y3 y4 y5 y6 y7 y8 hx) hk
      · refine mj_iload dX13_listMatch_112 8 rfl ?_
        refine mj_istore (lv2 := [(10, .int l9), (0, .ref 950), (2, .int l2), (3, .int l3), (4, .int l4), (5, .int l5), (6, .int l6), (7, .int l7), (8, .int l8), (9, .int l9)]) dX13_listMatch_114 (by decide) rfl ?_
        refine mj_sublv [(0, .ref 950), (2, .int l2), (3, .int l3), (4, .int l4), (5, .int l5), (6, .int l6), (7, .int l7), (8, .int l8), (9, .int l9), (10, .int l9)] [1, 2, 3, 4, 5, 6, 7, 8, 9, 0] rfl ?_
        exact LH_X13_listMatch_116 rc H _ l2 l3 l4 l5 l6 l7 l8 l9 l9 s _ (fun y0 y1 y2 y3 y4 hx => Hb21 y0 y1 y2 y3 y4 hx) (fun y0 y1 y2 y3 y4 y5 y6 y7 y8 hx => Hb90 y0 y1 y2 y3 y4 y5 y6 y7 y8 hx) hk
noncomputable def b_X13_listMatch_90 (rc : RT_X13_assign) (x : Int32 × Int32 × Int32 × Int32 × Int32 × Int32 × Int32 × Int32 × t_S) : Option ((Int32 × Int32 × Int32 × Int32 × Int32 × Int32 × Int32 × Int32 × t_S) ⊕ ((Int32 × Int32 × Int32 × Int32 × t_S) ⊕ (Int32 × t_S))) := k_X13_listMatch_90 rc x.1 x.2.1 x.2.2.1 x.2.2.2.1 x.2.2.2.2.1 x.2.2.2.2.2.1 x.2.2.2.2.2.2.1 x.2.2.2.2.2.2.2.1 x.2.2.2.2.2.2.2.2
set_option maxRecDepth 4000 in
set_option maxHeartbeats 1000000 in
theorem LH_X13_listMatch_90 {D : va_G} {cy : Nat → ClassId} {ad : Nat → Nat} {bs : Nat} {X : State → Heap → Prop} (rc : RT_X13_assign) {k : Nat} (H : RH_X13_assign rc k) : ∀ (n : Nat) (y0 : Int32) (y1 : Int32) (y2 : Int32) (y3 : Int32) (y4 : Int32) (y5 : Int32) (y6 : Int32) (y7 : Int32) (y8 : t_S) (Q : (Int32 × Int32 × Int32 × Int32 × t_S) ⊕ (Int32 × t_S) → Prop) (Hb21 : ∀ (y0 : Int32) (y1 : Int32) (y2 : Int32) (y3 : Int32) (y4 : t_S), Q (.inl (y0, y1, y2, y3, y4)) → mj_G D cy ad bs X cX13_listMatch 11 yX13_listMatch.cls (some .boolean) yX13_listMatch.name (102 + (k + 1)) 0 0 1065 (t_P (fun v s' => ∃ x, v = some (.int x) ∧ Q (.inr ((x, s'))))) 21 [(0, .ref 950), (2, .int (y0)), (3, .int (y1)), (4, .int (y2)), (5, .int (y3))] [] (t_m y4) 1065 0 0) (hk : t_hk (t_loop (b_X13_listMatch_90 rc) n (y0, y1, y2, y3, y4, y5, y6, y7, y8)) Q), mj_G D cy ad bs X cX13_listMatch 11 yX13_listMatch.cls (some .boolean) yX13_listMatch.name (102 + (k + 1)) 0 0 1065 (t_P (fun v s' => ∃ x, v = some (.int x) ∧ Q (.inr ((x, s'))))) 90 [(0, .ref 950), (2, .int (y0)), (3, .int (y1)), (4, .int (y2)), (5, .int (y3)), (6, .int (y4)), (7, .int (y5)), (8, .int (y6)), (9, .int (y7))] [] (t_m y8) 1065 0 0 := by
  intro n
  induction n with
  | zero => intro y0 y1 y2 y3 y4 y5 y6 y7 y8 Q Hb21 hk; obtain ⟨r, hr, _⟩ := hk; cases hr
  | succ n ih =>
    intro y0 y1 y2 y3 y4 y5 y6 y7 y8 Q Hb21 hk
    exact B_X13_listMatch_90 rc H y0 y1 y2 y3 y4 y5 y6 y7 y8 (fun y => t_lq (b_X13_listMatch_90 rc) n Q y) (fun y0' y1' y2' y3' y4' hy => Hb21 y0' y1' y2' y3' y4' hy) (fun y0' y1' y2' y3' y4' y5' y6' y7' y8' hy => ih y0' y1' y2' y3' y4' y5' y6' y7' y8' Q Hb21 hy) (t_lp (b := b_X13_listMatch_90 rc) (n := n) (x := (y0, y1, y2, y3, y4, y5, y6, y7, y8)) hk)
noncomputable def k_X13_listMatch_85 (rc : RT_X13_assign) (l2 : Int32) (l3 : Int32) (l4 : Int32) (l5 : Int32) (l6 : Int32) (l7 : Int32) (k0 : Int32) (s : t_S) : Option ((Int32 × Int32 × Int32 × Int32 × t_S) ⊕ (Int32 × t_S)) :=
 t_loop (b_X13_listMatch_90 rc) t_N (l2, l3, l4, l5, l6, l7, k0, 0, s)
set_option maxRecDepth 4000 in
set_option maxHeartbeats 1000000 in
theorem B_X13_listMatch_85 {D : va_G} {cy : Nat → ClassId} {ad : Nat → Nat} {bs : Nat} {X : State → Heap → Prop} (rc : RT_X13_assign) {k : Nat} (H : RH_X13_assign rc k) (l2 : Int32) (l3 : Int32) (l4 : Int32) (l5 : Int32) (l6 : Int32) (l7 : Int32) (k0 : Int32) (s : t_S) (Q : (Int32 × Int32 × Int32 × Int32 × t_S) ⊕ (Int32 × t_S) → Prop) (Hb21 : ∀ (y0 : Int32) (y1 : Int32) (y2 : Int32) (y3 : Int32) (y4 : t_S), Q (.inl (y0, y1, y2, y3, y4)) → mj_G D cy ad bs X cX13_listMatch 11 yX13_listMatch.cls (some .boolean) yX13_listMatch.name (102 + (k + 1)) 0 0 1065 (t_P (fun v s' => ∃ x, v = some (.int x) ∧ Q (.inr ((x, s'))))) 21 [(0, .ref 950), (2, .int (y0)), (3, .int (y1)), (4, .int (y2)), (5, .int (y3))] [] (t_m y4) 1065 0 0) (hk : t_hk (k_X13_listMatch_85 rc l2 l3 l4 l5 l6 l7 k0 s) Q) : mj_G D cy ad bs X cX13_listMatch 11 yX13_listMatch.cls (some .boolean) yX13_listMatch.name (102 + (k + 1)) 0 0 1065 (t_P (fun v s' => ∃ x, v = some (.int x) ∧ Q (.inr ((x, s'))))) 85 [(0, .ref 950), (2, .int l2), (3, .int l3), (4, .int l4), (5, .int l5), (6, .int l6), (7, .int l7)] [.int k0] (t_m s) 1065 0 0 := by
  refine mj_istore (lv2 := [(8, .int k0), (0, .ref 950), (2, .int l2), (3, .int l3), (4, .int l4), (5, .int l5), (6, .int l6), (7, .int l7)]) dX13_listMatch_85 (by decide) rfl ?_
  refine mj_iconst (v := 0) dX13_listMatch_87 (by decide) ?_
  refine mj_istore (lv2 := [(9, .int 0), (8, .int k0), (0, .ref 950), (2, .int l2), (3, .int l3), (4, .int l4), (5, .int l5), (6, .int l6), (7, .int l7)]) dX13_listMatch_88 (by decide) rfl ?_
  refine mj_sublv [(0, .ref 950), (2, .int l2), (3, .int l3), (4, .int l4), (5, .int l5), (6, .int l6), (7, .int l7), (8, .int k0), (9, .int 0)] [2, 3, 4, 5, 6, 7, 8, 1, 0] rfl ?_
  exact LH_X13_listMatch_90 rc H _ l2 l3 l4 l5 l6 l7 k0 0 s _ (fun y0 y1 y2 y3 y4 hx => Hb21 y0 y1 y2 y3 y4 hx) hk
noncomputable def k_X13_listMatch_61 (rc : RT_X13_assign) (l2 : Int32) (l3 : Int32) (l4 : Int32) (l5 : Int32) (l6 : Int32) (k0 : Int32) (s : t_S) : Option ((Int32 × Int32 × Int32 × Int32 × t_S) ⊕ (Int32 × t_S)) :=
 if t_ix l5 13000 = true then
  if (s.1 955 (l5.toNatClampNeg)) = (39 : Int32) then ((f_X13_partCount l5 s).bind (fun r2 =>
 k_X13_listMatch_85 rc l2 l3 l4 l5 l6 k0 r2 s))
 else (k_X13_listMatch_85 rc l2 l3 l4 l5 l6 k0 1 s)
else none
set_option maxRecDepth 4000 in
set_option maxHeartbeats 1000000 in
theorem B_X13_listMatch_61 {D : va_G} {cy : Nat → ClassId} {ad : Nat → Nat} {bs : Nat} {X : State → Heap → Prop} (rc : RT_X13_assign) {k : Nat} (H : RH_X13_assign rc k) (l2 : Int32) (l3 : Int32) (l4 : Int32) (l5 : Int32) (l6 : Int32) (k0 : Int32) (s : t_S) (Q : (Int32 × Int32 × Int32 × Int32 × t_S) ⊕ (Int32 × t_S) → Prop) (Hb21 : ∀ (y0 : Int32) (y1 : Int32) (y2 : Int32) (y3 : Int32) (y4 : t_S), Q (.inl (y0, y1, y2, y3, y4)) → mj_G D cy ad bs X cX13_listMatch 11 yX13_listMatch.cls (some .boolean) yX13_listMatch.name (102 + (k + 1)) 0 0 1065 (t_P (fun v s' => ∃ x, v = some (.int x) ∧ Q (.inr ((x, s'))))) 21 [(0, .ref 950), (2, .int (y0)), (3, .int (y1)), (4, .int (y2)), (5, .int (y3))] [] (t_m y4) 1065 0 0) (hk : t_hk (k_X13_listMatch_61 rc l2 l3 l4 l5 l6 k0 s) Q) : mj_G D cy ad bs X cX13_listMatch 11 yX13_listMatch.cls (some .boolean) yX13_listMatch.name (102 + (k + 1)) 0 0 1065 (t_P (fun v s' => ∃ x, v = some (.int x) ∧ Q (.inr ((x, s'))))) 61 [(0, .ref 950), (2, .int l2), (3, .int l3), (4, .int l4), (5, .int l5), (6, .int l6)] [.int k0] (t_m s) 1065 0 0 := by
  refine mj_istore (lv2 := [(7, .int k0), (0, .ref 950), (2, .int l2), (3, .int l3), (4, .int l4), (5, .int l5), (6, .int l6)]) dX13_listMatch_61 (by decide) rfl ?_
  refine mj_aload_n dX13_listMatch_63 1 rfl ?_
  refine t_getR 955 dX13_listMatch_64 F_X13_26 qr_950_17 ?_
  refine mj_iload dX13_listMatch_67 5 rfl ?_
  refine t_chkK hk (fun c0 hk => ?_)
  refine t_iald dX13_listMatch_69 qa_955 (t_ixv c0) ?_
  refine mj_bipush (v := 39) dX13_listMatch_70 (by decide) ?_
  refine mj_icmp_ne 84 dX13_listMatch_72 (by decide) (fun z => t_negK hk z (fun hk => ?_)) (fun z => t_posK hk z (fun hk => ?_))
  · refine mj_iconst (v := 1) dX13_listMatch_84 (by decide) ?_
    refine mj_sublv [(0, .ref 950), (2, .int l2), (3, .int l3), (4, .int l4), (5, .int l5), (6, .int l6), (7, .int k0)] [1, 2, 3, 4, 5, 6, 0] rfl ?_
    exact B_X13_listMatch_85 rc H _ _ _ _ _ _ _ _ _ (fun y0 y1 y2 y3 y4 hx => Hb21 y0 y1 y2 y3 y4 hx) hk
  · refine mj_aload_n dX13_listMatch_75 1 rfl ?_
    refine mj_iload dX13_listMatch_76 5 rfl ?_
    refine t_bndK hk (fun r2 er2 hk => ?_)
    refine t_callViP dX13_listMatch_78 M_X13_partCount (C_X13_partCount _ _ _ er2) ML_X13_830 IM_X13_partCount SE_X13_partCount qc_950 rfl (As := [.int l5]) rfl rfl (by omega) (Nat.le_of_ble_eq_true rfl) (Nat.le_of_ble_eq_true rfl) (Nat.le_of_ble_eq_true rfl) ?_
    refine mj_goto 85 dX13_listMatch_81 (by decide) ?_
    refine mj_sublv [(0, .ref 950), (2, .int l2), (3, .int l3), (4, .int l4), (5, .int l5), (6, .int l6), (7, .int k0)] [1, 2, 3, 4, 5, 6, 0] rfl ?_
    exact B_X13_listMatch_85 rc H _ _ _ _ _ _ _ _ _ (fun y0 y1 y2 y3 y4 hx => Hb21 y0 y1 y2 y3 y4 hx) hk
noncomputable def k_X13_listMatch_60 (rc : RT_X13_assign) (l2 : Int32) (l3 : Int32) (l4 : Int32) (l5 : Int32) (l6 : Int32) (s : t_S) : Option ((Int32 × Int32 × Int32 × Int32 × t_S) ⊕ (Int32 × t_S)) :=
 k_X13_listMatch_61 rc l2 l3 l4 l5 l6 0 s
set_option maxRecDepth 4000 in
set_option maxHeartbeats 1000000 in
theorem B_X13_listMatch_60 {D : va_G} {cy : Nat → ClassId} {ad : Nat → Nat} {bs : Nat} {X : State → Heap → Prop} (rc : RT_X13_assign) {k : Nat} (H : RH_X13_assign rc k) (l2 : Int32) (l3 : Int32) (l4 : Int32) (l5 : Int32) (l6 : Int32) (s : t_S) (Q : (Int32 × Int32 × Int32 × Int32 × t_S) ⊕ (Int32 × t_S) → Prop) (Hb21 : ∀ (y0 : Int32) (y1 : Int32) (y2 : Int32) (y3 : Int32) (y4 : t_S), Q (.inl (y0, y1, y2, y3, y4)) → mj_G D cy ad bs X cX13_listMatch 11 yX13_listMatch.cls (some .boolean) yX13_listMatch.name (102 + (k + 1)) 0 0 1065 (t_P (fun v s' => ∃ x, v = some (.int x) ∧ Q (.inr ((x, s'))))) 21 [(0, .ref 950), (2, .int (y0)), (3, .int (y1)), (4, .int (y2)), (5, .int (y3))] [] (t_m y4) 1065 0 0) (hk : t_hk (k_X13_listMatch_60 rc l2 l3 l4 l5 l6 s) Q) : mj_G D cy ad bs X cX13_listMatch 11 yX13_listMatch.cls (some .boolean) yX13_listMatch.name (102 + (k + 1)) 0 0 1065 (t_P (fun v s' => ∃ x, v = some (.int x) ∧ Q (.inr ((x, s'))))) 60 [(0, .ref 950), (2, .int l2), (3, .int l3), (4, .int l4), (5, .int l5), (6, .int l6)] [] (t_m s) 1065 0 0 := by
  refine mj_iconst (v := 0) dX13_listMatch_60 (by decide) ?_
  exact B_X13_listMatch_61 rc H _ _ _ _ _ _ _ _ (fun y0 y1 y2 y3 y4 hx => Hb21 y0 y1 y2 y3 y4 hx) hk
noncomputable def k_X13_listMatch_239 (rc : RT_X13_assign) (l3 : Int32) (l4 : Int32) (s : t_S) : Option (Int32 × t_S) :=
 if ((l4 >>> (l3 &&& 31)) &&& (1 : Int32)) = (1 : Int32) then (some ((1 : Int32), s))
 else (some ((0 : Int32), s))
set_option maxRecDepth 4000 in
set_option maxHeartbeats 1000000 in
theorem B_X13_listMatch_239 {D : va_G} {cy : Nat → ClassId} {ad : Nat → Nat} {bs : Nat} {X : State → Heap → Prop} (rc : RT_X13_assign) {k : Nat} (H : RH_X13_assign rc k) (l3 : Int32) (l4 : Int32) (s : t_S) (Q : Int32 × t_S → Prop) (hk : t_hk (k_X13_listMatch_239 rc l3 l4 s) Q) : mj_G D cy ad bs X cX13_listMatch 11 yX13_listMatch.cls (some .boolean) yX13_listMatch.name (102 + (k + 1)) 0 0 1065 (t_P (fun v s' => ∃ x, v = some (.int x) ∧ Q ((x, s')))) 239 [(3, .int l3), (4, .int l4)] [] (t_m s) 1065 0 0 := by
  refine mj_iload dX13_listMatch_239 1 rfl ?_
  refine mj_iload_n dX13_listMatch_241 0 rfl ?_
  refine mj_ishr dX13_listMatch_242 ?_
  refine mj_iconst (v := 1) dX13_listMatch_243 (by decide) ?_
  refine mj_iand dX13_listMatch_244 ?_
  refine mj_iconst (v := 1) dX13_listMatch_245 (by decide) ?_
  refine mj_icmp_ne 253 dX13_listMatch_246 (by decide) (fun z => t_negK hk z (fun hk => ?_)) (fun z => t_posK hk z (fun hk => ?_))
  · refine mj_iconst (v := 0) dX13_listMatch_253 (by decide) ?_
    exact t_somK hk (fun hf => t_iret dX13_listMatch_254 rfl (by decide) ⟨_, rfl, hf⟩ (Nat.le_of_ble_eq_true rfl) (Nat.le_of_ble_eq_true rfl))
  · refine mj_iconst (v := 1) dX13_listMatch_249 (by decide) ?_
    refine mj_goto 254 dX13_listMatch_250 (by decide) ?_
    exact t_somK hk (fun hf => t_iret dX13_listMatch_254 rfl (by decide) ⟨_, rfl, hf⟩ (Nat.le_of_ble_eq_true rfl) (Nat.le_of_ble_eq_true rfl))
noncomputable def k_X13_listMatch_21 (rc : RT_X13_assign) (l2 : Int32) (l3 : Int32) (l4 : Int32) (l5 : Int32) (s : t_S) : Option ((Int32 × Int32 × Int32 × Int32 × t_S) ⊕ (Int32 × t_S)) :=
 if l5 < (0 : Int32) then ((k_X13_listMatch_239 rc l3 l4 s).map Sum.inr)
 else (if l4 = (0 : Int32) then ((k_X13_listMatch_239 rc l3 l4 s).map Sum.inr)
 else (if t_ix l5 13000 = true then
  if (s.1 955 (l5.toNatClampNeg)) = (21 : Int32) then (if (s.1 961 (l5.toNatClampNeg)) = (0 : Int32) then (k_X13_listMatch_61 rc l2 l3 l4 l5 0 1 s)
 else (k_X13_listMatch_60 rc l2 l3 l4 l5 0 s))
 else (k_X13_listMatch_60 rc l2 l3 l4 l5 0 s)
else none))
set_option maxRecDepth 4000 in
set_option maxHeartbeats 1000000 in
theorem B_X13_listMatch_21 {D : va_G} {cy : Nat → ClassId} {ad : Nat → Nat} {bs : Nat} {X : State → Heap → Prop} (rc : RT_X13_assign) {k : Nat} (H : RH_X13_assign rc k) (l2 : Int32) (l3 : Int32) (l4 : Int32) (l5 : Int32) (s : t_S) (Q : (Int32 × Int32 × Int32 × Int32 × t_S) ⊕ (Int32 × t_S) → Prop) (Hb21 : ∀ (y0 : Int32) (y1 : Int32) (y2 : Int32) (y3 : Int32) (y4 : t_S), Q (.inl (y0, y1, y2, y3, y4)) → mj_G D cy ad bs X cX13_listMatch 11 yX13_listMatch.cls (some .boolean) yX13_listMatch.name (102 + (k + 1)) 0 0 1065 (t_P (fun v s' => ∃ x, v = some (.int x) ∧ Q (.inr ((x, s'))))) 21 [(0, .ref 950), (2, .int (y0)), (3, .int (y1)), (4, .int (y2)), (5, .int (y3))] [] (t_m y4) 1065 0 0) (hk : t_hk (k_X13_listMatch_21 rc l2 l3 l4 l5 s) Q) : mj_G D cy ad bs X cX13_listMatch 11 yX13_listMatch.cls (some .boolean) yX13_listMatch.name (102 + (k + 1)) 0 0 1065 (t_P (fun v s' => ∃ x, v = some (.int x) ∧ Q (.inr ((x, s'))))) 21 [(0, .ref 950), (2, .int l2), (3, .int l3), (4, .int l4), (5, .int l5)] [] (t_m s) 1065 0 0 := by
  refine mj_iload dX13_listMatch_21 4 rfl ?_
  refine mj_if_lt 239 dX13_listMatch_23 (by decide) (fun z => t_posK hk z (fun hk => ?_)) (fun z => t_negK hk z (fun hk => ?_))
  · refine mj_sublv [(3, .int l3), (4, .int l4)] [2, 3] rfl ?_
    refine t_mapK hk (fun hk => ?_)
    exact B_X13_listMatch_239 rc H _ _ _ _ hk
  · refine mj_iload dX13_listMatch_26 3 rfl ?_
    refine mj_if_eq 239 dX13_listMatch_28 (by decide) (fun z => t_posK hk z (fun hk => ?_)) (fun z => t_negK hk z (fun hk => ?_))
    · refine mj_sublv [(3, .int l3), (4, .int l4)] [2, 3] rfl ?_
      refine t_mapK hk (fun hk => ?_)
      exact B_X13_listMatch_239 rc H _ _ _ _ hk
    · refine mj_iconst (v := 0) dX13_listMatch_31 (by decide) ?_
      refine mj_istore (lv2 := [(6, .int 0), (0, .ref 950), (2, .int l2), (3, .int l3), (4, .int l4), (5, .int l5)]) dX13_listMatch_32 (by decide) rfl ?_
      refine mj_aload_n dX13_listMatch_34 1 rfl ?_
      refine t_getR 955 dX13_listMatch_35 F_X13_26 qr_950_17 ?_
      refine mj_iload dX13_listMatch_38 5 rfl ?_
      refine t_chkK hk (fun c0 hk => ?_)
      refine t_iald dX13_listMatch_40 qa_955 (t_ixv c0) ?_
      refine mj_bipush (v := 21) dX13_listMatch_41 (by decide) ?_
      refine mj_icmp_ne 60 dX13_listMatch_43 (by decide) (fun z => t_negK hk z (fun hk => ?_)) (fun z => t_posK hk z (fun hk => ?_))
      · refine mj_sublv [(0, .ref 950), (2, .int l2), (3, .int l3), (4, .int l4), (5, .int l5), (6, .int 0)] [1, 2, 3, 4, 5, 0] rfl ?_
        exact B_X13_listMatch_60 rc H _ _ _ _ _ _ _ (fun y0 y1 y2 y3 y4 hx => Hb21 y0 y1 y2 y3 y4 hx) hk
      · refine mj_aload_n dX13_listMatch_46 1 rfl ?_
        refine t_getR 961 dX13_listMatch_47 F_X13_45 qr_950_23 ?_
        refine mj_iload dX13_listMatch_50 5 rfl ?_
        refine t_iald dX13_listMatch_52 qa_961 (t_ixv c0) ?_
        refine mj_if_ne 60 dX13_listMatch_53 (by decide) (fun z => t_negK hk z (fun hk => ?_)) (fun z => t_posK hk z (fun hk => ?_))
        · refine mj_sublv [(0, .ref 950), (2, .int l2), (3, .int l3), (4, .int l4), (5, .int l5), (6, .int 0)] [1, 2, 3, 4, 5, 0] rfl ?_
          exact B_X13_listMatch_60 rc H _ _ _ _ _ _ _ (fun y0 y1 y2 y3 y4 hx => Hb21 y0 y1 y2 y3 y4 hx) hk
        · refine mj_iconst (v := 1) dX13_listMatch_56 (by decide) ?_
          refine mj_goto 61 dX13_listMatch_57 (by decide) ?_
          refine mj_sublv [(0, .ref 950), (2, .int l2), (3, .int l3), (4, .int l4), (5, .int l5), (6, .int 0)] [1, 2, 3, 4, 5, 0] rfl ?_
          exact B_X13_listMatch_61 rc H _ _ _ _ _ _ _ _ (fun y0 y1 y2 y3 y4 hx => Hb21 y0 y1 y2 y3 y4 hx) hk
noncomputable def b_X13_listMatch_21 (rc : RT_X13_assign) (x : Int32 × Int32 × Int32 × Int32 × t_S) : Option ((Int32 × Int32 × Int32 × Int32 × t_S) ⊕ (Int32 × t_S)) := k_X13_listMatch_21 rc x.1 x.2.1 x.2.2.1 x.2.2.2.1 x.2.2.2.2
set_option maxRecDepth 4000 in
set_option maxHeartbeats 1000000 in
theorem LH_X13_listMatch_21 {D : va_G} {cy : Nat → ClassId} {ad : Nat → Nat} {bs : Nat} {X : State → Heap → Prop} (rc : RT_X13_assign) {k : Nat} (H : RH_X13_assign rc k) : ∀ (n : Nat) (y0 : Int32) (y1 : Int32) (y2 : Int32) (y3 : Int32) (y4 : t_S) (Q : Int32 × t_S → Prop) (hk : t_hk (t_loop (b_X13_listMatch_21 rc) n (y0, y1, y2, y3, y4)) Q), mj_G D cy ad bs X cX13_listMatch 11 yX13_listMatch.cls (some .boolean) yX13_listMatch.name (102 + (k + 1)) 0 0 1065 (t_P (fun v s' => ∃ x, v = some (.int x) ∧ Q ((x, s')))) 21 [(0, .ref 950), (2, .int (y0)), (3, .int (y1)), (4, .int (y2)), (5, .int (y3))] [] (t_m y4) 1065 0 0 := by
  intro n
  induction n with
  | zero => intro y0 y1 y2 y3 y4 Q hk; obtain ⟨r, hr, _⟩ := hk; cases hr
  | succ n ih =>
    intro y0 y1 y2 y3 y4 Q hk
    exact B_X13_listMatch_21 rc H y0 y1 y2 y3 y4 (fun y => t_lq (b_X13_listMatch_21 rc) n Q y) (fun y0' y1' y2' y3' y4' hy => ih y0' y1' y2' y3' y4' Q hy) (t_lp (b := b_X13_listMatch_21 rc) (n := n) (x := (y0, y1, y2, y3, y4)) hk)
noncomputable def m_X13_listMatch (rc : RT_X13_assign) (x2 : Int32) (x3 : Int32) (s : t_S) : Option (Int32 × t_S) :=
 if t_ix (x3 + (1 : Int32)) 626600 = true then
  if t_ix x2 13000 = true then
  t_loop (b_X13_listMatch_21 rc) t_N (x3, ((s.2.1 1006 ((x3 + (1 : Int32)).toNatClampNeg)).toInt32), 1, (s.1 959 (x2.toNatClampNeg)), s)
else none
else none
set_option maxRecDepth 4000 in
set_option maxHeartbeats 1000000 in
theorem E_X13_listMatch (rc : RT_X13_assign) {k : Nat} (H : RH_X13_assign rc k) (x2 : Int32) (x3 : Int32) (s : t_S) (r : Int32 × t_S) (hr : m_X13_listMatch rc x2 x3 s = some r) : t_C yX13_listMatch cX13_listMatch 11 (some .boolean) (102 + (k + 1)) [.ref 950, .int x2, .int x3] s (fun v s' => v = some (.int r.1) ∧ s' = r.2) := by
  refine t_C.imp (P := fun v s' => ∃ x, v = some (.int x) ∧ (fun q => q = r) ((x, s'))) (t_C.of (by decide +kernel) (Nat.le_of_ble_eq_true rfl) ?_) (fun v s' hp => by obtain ⟨x, rfl, rfl⟩ := hp; exact ⟨rfl, rfl⟩)
  intro D cy ad bs X
  have hk : t_hk (m_X13_listMatch rc x2 x3 s) (fun q => q = r) := ⟨r, hr, rfl⟩
  show mj_G D cy ad bs X cX13_listMatch 11 yX13_listMatch.cls (some .boolean) yX13_listMatch.name (102 + (k + 1)) 0 0 1065 (t_P (fun v s' => ∃ x, v = some (.int x) ∧ (fun q => q = r) ((x, s')))) 0 [(0, .ref 950), (1, .int x2), (2, .int x3)] [] (t_m s) 1065 0 0
  refine mj_aload_n dX13_listMatch_0 0 rfl ?_
  refine t_getR 1006 dX13_listMatch_1 F_X13_182 qr_950_95 ?_
  refine mj_iload_n dX13_listMatch_4 2 rfl ?_
  refine mj_iconst (v := 1) dX13_listMatch_5 (by decide) ?_
  refine mj_iadd dX13_listMatch_6 ?_
  refine t_chkK hk (fun c0 hk => ?_)
  refine t_lald dX13_listMatch_7 qa_1006 (t_ixv c0) ?_
  refine mj_l2i (v := (s.2.1 1006 ((x3 + (1 : Int32)).toNatClampNeg)).toInt32) dX13_listMatch_8 rfl ?_
  refine mj_istore_n 3 (lv2 := [(3, .int ((s.2.1 1006 ((x3 + (1 : Int32)).toNatClampNeg)).toInt32)), (0, .ref 950), (1, .int x2), (2, .int x3)]) dX13_listMatch_9 rfl (by decide) rfl ?_
  refine mj_iconst (v := 1) dX13_listMatch_10 (by decide) ?_
  refine mj_istore (lv2 := [(4, .int 1), (3, .int ((s.2.1 1006 ((x3 + (1 : Int32)).toNatClampNeg)).toInt32)), (0, .ref 950), (1, .int x2), (2, .int x3)]) dX13_listMatch_11 (by decide) rfl ?_
  refine mj_aload_n dX13_listMatch_13 2 rfl ?_
  refine t_getR 959 dX13_listMatch_14 F_X13_39 qr_950_21 ?_
  refine mj_iload_n dX13_listMatch_17 3 rfl ?_
  refine t_chkK hk (fun c1 hk => ?_)
  refine t_iald dX13_listMatch_18 qa_959 (t_ixv c1) ?_
  refine mj_istore (lv2 := [(5, .int (s.1 959 (x2.toNatClampNeg))), (4, .int 1), (3, .int ((s.2.1 1006 ((x3 + (1 : Int32)).toNatClampNeg)).toInt32)), (0, .ref 950), (1, .int x2), (2, .int x3)]) dX13_listMatch_19 (by decide) rfl ?_
  refine mj_sublv [(0, .ref 950), (2, .int x3), (3, .int ((s.2.1 1006 ((x3 + (1 : Int32)).toNatClampNeg)).toInt32)), (4, .int 1), (5, .int (s.1 959 (x2.toNatClampNeg)))] [3, 5, 2, 1, 0] rfl ?_
  exact LH_X13_listMatch_21 rc H _ x3 ((s.2.1 1006 ((x3 + (1 : Int32)).toNatClampNeg)).toInt32) 1 (s.1 959 (x2.toNatClampNeg)) s _ hk
noncomputable def k_X13_manyMatch_86 (rc : RT_X13_assign) (k0 : Int32) (k1 : Int32) (k2 : Int32) (k3 : Int32) (k4 : Int32) (s : t_S) : Option (Int32 × t_S) :=
 (rc.1 k4 k3 k2 k1 k0 s).bind (fun r1 =>
 if r1.1 = (0 : Int32) then (some ((0 : Int32), r1.2))
 else (some ((1 : Int32), r1.2)))
set_option maxRecDepth 4000 in
set_option maxHeartbeats 1000000 in
theorem B_X13_manyMatch_86 {D : va_G} {cy : Nat → ClassId} {ad : Nat → Nat} {bs : Nat} {X : State → Heap → Prop} (rc : RT_X13_assign) {k : Nat} (H : RH_X13_assign rc k) (k0 : Int32) (k1 : Int32) (k2 : Int32) (k3 : Int32) (k4 : Int32) (s : t_S) (Q : Int32 × t_S → Prop) (hk : t_hk (k_X13_manyMatch_86 rc k0 k1 k2 k3 k4 s) Q) : mj_G D cy ad bs X cX13_manyMatch 8 yX13_manyMatch.cls (some .boolean) yX13_manyMatch.name (102 + (k + 1)) 0 0 1065 (t_P (fun v s' => ∃ x, v = some (.int x) ∧ Q ((x, s')))) 86 [] [.int k0, .int k1, .int k2, .int k3, .int k4, .ref 950] (t_m s) 1065 0 0 := by
  refine t_bndK hk (fun r1 er1 hk => ?_)
  refine t_callSiE dX13_manyMatch_86 M_X13_assign (H.1 _ _ _ _ _ _ _ er1) ML_X13_1269 SM_X13_assign (As := [.ref 950, .int k4, .int k3, .int k2, .int k1, .int k0]) rfl rfl (by omega) (Nat.le_of_ble_eq_true rfl) (Nat.le_of_ble_eq_true rfl) (Nat.le_of_ble_eq_true rfl) ?_
  refine mj_if_eq 96 dX13_manyMatch_89 (by decide) (fun z => t_posK hk z (fun hk => ?_)) (fun z => t_negK hk z (fun hk => ?_))
  · refine mj_iconst (v := 0) dX13_manyMatch_96 (by decide) ?_
    exact t_somK hk (fun hf => t_iret dX13_manyMatch_97 rfl (by decide) ⟨_, rfl, hf⟩ (Nat.le_of_ble_eq_true rfl) (Nat.le_of_ble_eq_true rfl))
  · refine mj_iconst (v := 1) dX13_manyMatch_92 (by decide) ?_
    refine mj_goto 97 dX13_manyMatch_93 (by decide) ?_
    exact t_somK hk (fun hf => t_iret dX13_manyMatch_97 rfl (by decide) ⟨_, rfl, hf⟩ (Nat.le_of_ble_eq_true rfl) (Nat.le_of_ble_eq_true rfl))
noncomputable def k_X13_manyMatch_50 (rc : RT_X13_assign) (l1 : Int32) (l2 : Int32) (l3 : Int32) (l4 : Int32) (s : t_S) : Option (Int32 × t_S) :=
 if l3 = (8 : Int32) then (if t_ix l1 13000 = true then
  if t_ix (l2 + (1 : Int32)) 626600 = true then
  if l4 = (36 : Int32) then (k_X13_manyMatch_86 rc 1 ((s.2.1 1006 ((l2 + (1 : Int32)).toNatClampNeg)).toInt32) 0 l2 (s.1 959 (l1.toNatClampNeg)) s)
 else (k_X13_manyMatch_86 rc 0 ((s.2.1 1006 ((l2 + (1 : Int32)).toNatClampNeg)).toInt32) 0 l2 (s.1 959 (l1.toNatClampNeg)) s)
else none
else none)
 else (some ((0 : Int32), s))
set_option maxRecDepth 4000 in
set_option maxHeartbeats 1000000 in
theorem B_X13_manyMatch_50 {D : va_G} {cy : Nat → ClassId} {ad : Nat → Nat} {bs : Nat} {X : State → Heap → Prop} (rc : RT_X13_assign) {k : Nat} (H : RH_X13_assign rc k) (l1 : Int32) (l2 : Int32) (l3 : Int32) (l4 : Int32) (s : t_S) (Q : Int32 × t_S → Prop) (hk : t_hk (k_X13_manyMatch_50 rc l1 l2 l3 l4 s) Q) : mj_G D cy ad bs X cX13_manyMatch 8 yX13_manyMatch.cls (some .boolean) yX13_manyMatch.name (102 + (k + 1)) 0 0 1065 (t_P (fun v s' => ∃ x, v = some (.int x) ∧ Q ((x, s')))) 50 [(0, .ref 950), (1, .int l1), (2, .int l2), (3, .int l3), (4, .int l4)] [] (t_m s) 1065 0 0 := by
  refine mj_iload_n dX13_manyMatch_50 3 rfl ?_
  refine mj_bipush (v := 8) dX13_manyMatch_51 (by decide) ?_
  refine mj_icmp_ne 96 dX13_manyMatch_53 (by decide) (fun z => t_negK hk z (fun hk => ?_)) (fun z => t_posK hk z (fun hk => ?_))
  · refine mj_iconst (v := 0) dX13_manyMatch_96 (by decide) ?_
    exact t_somK hk (fun hf => t_iret dX13_manyMatch_97 rfl (by decide) ⟨_, rfl, hf⟩ (Nat.le_of_ble_eq_true rfl) (Nat.le_of_ble_eq_true rfl))
  · refine mj_aload_n dX13_manyMatch_56 0 rfl ?_
    refine mj_aload_n dX13_manyMatch_57 0 rfl ?_
    refine t_getR 959 dX13_manyMatch_58 F_X13_39 qr_950_21 ?_
    refine mj_iload_n dX13_manyMatch_61 1 rfl ?_
    refine t_chkK hk (fun c0 hk => ?_)
    refine t_iald dX13_manyMatch_62 qa_959 (t_ixv c0) ?_
    refine mj_iload_n dX13_manyMatch_63 2 rfl ?_
    refine mj_iconst (v := 0) dX13_manyMatch_64 (by decide) ?_
    refine mj_aload_n dX13_manyMatch_65 0 rfl ?_
    refine t_getR 1006 dX13_manyMatch_66 F_X13_182 qr_950_95 ?_
    refine mj_iload_n dX13_manyMatch_69 2 rfl ?_
    refine mj_iconst (v := 1) dX13_manyMatch_70 (by decide) ?_
    refine mj_iadd dX13_manyMatch_71 ?_
    refine t_chkK hk (fun c1 hk => ?_)
    refine t_lald dX13_manyMatch_72 qa_1006 (t_ixv c1) ?_
    refine mj_l2i (v := (s.2.1 1006 ((l2 + (1 : Int32)).toNatClampNeg)).toInt32) dX13_manyMatch_73 rfl ?_
    refine mj_iload dX13_manyMatch_74 4 rfl ?_
    refine mj_bipush (v := 36) dX13_manyMatch_76 (by decide) ?_
    refine mj_icmp_ne 85 dX13_manyMatch_78 (by decide) (fun z => t_negK hk z (fun hk => ?_)) (fun z => t_posK hk z (fun hk => ?_))
    · refine mj_iconst (v := 0) dX13_manyMatch_85 (by decide) ?_
      refine mj_sublv [] [] rfl ?_
      exact B_X13_manyMatch_86 rc H _ _ _ _ _ _ _ hk
    · refine mj_iconst (v := 1) dX13_manyMatch_81 (by decide) ?_
      refine mj_goto 86 dX13_manyMatch_82 (by decide) ?_
      refine mj_sublv [] [] rfl ?_
      exact B_X13_manyMatch_86 rc H _ _ _ _ _ _ _ hk
noncomputable def k_X13_manyMatch_199 (rc : RT_X13_assign) (l2 : Int32) (l4 : Int32) (l6 : Int32) (k0 : Int32) (s : t_S) : Option ((Int32 × Int32 × Int32 × Int32 × t_S) ⊕ (Int32 × t_S)) :=
 if t_ix l6 13000 = true then
  some (.inl (l2, l4, k0, (s.1 960 (l6.toNatClampNeg)), s))
else none
set_option maxRecDepth 4000 in
set_option maxHeartbeats 1000000 in
theorem B_X13_manyMatch_199 {D : va_G} {cy : Nat → ClassId} {ad : Nat → Nat} {bs : Nat} {X : State → Heap → Prop} (rc : RT_X13_assign) {k : Nat} (H : RH_X13_assign rc k) (l2 : Int32) (l4 : Int32) (l6 : Int32) (k0 : Int32) (s : t_S) (Q : (Int32 × Int32 × Int32 × Int32 × t_S) ⊕ (Int32 × t_S) → Prop) (Hb120 : ∀ (y0 : Int32) (y1 : Int32) (y2 : Int32) (y3 : Int32) (y4 : t_S), Q (.inl (y0, y1, y2, y3, y4)) → mj_G D cy ad bs X cX13_manyMatch 8 yX13_manyMatch.cls (some .boolean) yX13_manyMatch.name (102 + (k + 1)) 0 0 1065 (t_P (fun v s' => ∃ x, v = some (.int x) ∧ Q (.inr ((x, s'))))) 120 [(0, .ref 950), (2, .int (y0)), (4, .int (y1)), (5, .int (y2)), (6, .int (y3))] [] (t_m y4) 1065 0 0) (hk : t_hk (k_X13_manyMatch_199 rc l2 l4 l6 k0 s) Q) : mj_G D cy ad bs X cX13_manyMatch 8 yX13_manyMatch.cls (some .boolean) yX13_manyMatch.name (102 + (k + 1)) 0 0 1065 (t_P (fun v s' => ∃ x, v = some (.int x) ∧ Q (.inr ((x, s'))))) 199 [(0, .ref 950), (2, .int l2), (4, .int l4), (6, .int l6)] [.int k0] (t_m s) 1065 0 0 := by
  refine mj_istore (lv2 := [(5, .int k0), (0, .ref 950), (2, .int l2), (4, .int l4), (6, .int l6)]) dX13_manyMatch_199 (by decide) rfl ?_
  refine mj_aload_n dX13_manyMatch_201 1 rfl ?_
  refine t_getR 960 dX13_manyMatch_202 F_X13_42 qr_950_22 ?_
  refine mj_iload dX13_manyMatch_205 4 rfl ?_
  refine t_chkK hk (fun c0 hk => ?_)
  refine t_iald dX13_manyMatch_207 qa_960 (t_ixv c0) ?_
  refine mj_istore (lv2 := [(6, .int (s.1 960 (l6.toNatClampNeg))), (5, .int k0), (0, .ref 950), (2, .int l2), (4, .int l4)]) dX13_manyMatch_208 (by decide) rfl ?_
  refine mj_goto 120 dX13_manyMatch_210 (by decide) ?_
  refine mj_sublv [(0, .ref 950), (2, .int l2), (4, .int l4), (5, .int k0), (6, .int (s.1 960 (l6.toNatClampNeg)))] [2, 3, 4, 1, 0] rfl ?_
  exact t_somK hk (fun hf => Hb120 l2 l4 k0 (s.1 960 (l6.toNatClampNeg)) s hf)
noncomputable def k_X13_manyMatch_151 (rc : RT_X13_assign) (l2 : Int32) (l4 : Int32) (l6 : Int32) (s : t_S) : Option ((Int32 × Int32 × Int32 × Int32 × t_S) ⊕ (Int32 × t_S)) :=
 k_X13_manyMatch_199 rc l2 l4 l6 1 s
set_option maxRecDepth 4000 in
set_option maxHeartbeats 1000000 in
theorem B_X13_manyMatch_151 {D : va_G} {cy : Nat → ClassId} {ad : Nat → Nat} {bs : Nat} {X : State → Heap → Prop} (rc : RT_X13_assign) {k : Nat} (H : RH_X13_assign rc k) (l2 : Int32) (l4 : Int32) (l6 : Int32) (s : t_S) (Q : (Int32 × Int32 × Int32 × Int32 × t_S) ⊕ (Int32 × t_S) → Prop) (Hb120 : ∀ (y0 : Int32) (y1 : Int32) (y2 : Int32) (y3 : Int32) (y4 : t_S), Q (.inl (y0, y1, y2, y3, y4)) → mj_G D cy ad bs X cX13_manyMatch 8 yX13_manyMatch.cls (some .boolean) yX13_manyMatch.name (102 + (k + 1)) 0 0 1065 (t_P (fun v s' => ∃ x, v = some (.int x) ∧ Q (.inr ((x, s'))))) 120 [(0, .ref 950), (2, .int (y0)), (4, .int (y1)), (5, .int (y2)), (6, .int (y3))] [] (t_m y4) 1065 0 0) (hk : t_hk (k_X13_manyMatch_151 rc l2 l4 l6 s) Q) : mj_G D cy ad bs X cX13_manyMatch 8 yX13_manyMatch.cls (some .boolean) yX13_manyMatch.name (102 + (k + 1)) 0 0 1065 (t_P (fun v s' => ∃ x, v = some (.int x) ∧ Q (.inr ((x, s'))))) 151 [(0, .ref 950), (2, .int l2), (4, .int l4), (6, .int l6)] [] (t_m s) 1065 0 0 := by
  refine mj_iconst (v := 1) dX13_manyMatch_151 (by decide) ?_
  refine mj_goto 199 dX13_manyMatch_152 (by decide) ?_
  exact B_X13_manyMatch_199 rc H _ _ _ _ _ _ (fun y0 y1 y2 y3 y4 hx => Hb120 y0 y1 y2 y3 y4 hx) hk
noncomputable def k_X13_manyMatch_180 (rc : RT_X13_assign) (l2 : Int32) (l4 : Int32) (l6 : Int32) (s : t_S) : Option ((Int32 × Int32 × Int32 × Int32 × t_S) ⊕ (Int32 × t_S)) :=
 k_X13_manyMatch_199 rc l2 l4 l6 0 s
set_option maxRecDepth 4000 in
set_option maxHeartbeats 1000000 in
theorem B_X13_manyMatch_180 {D : va_G} {cy : Nat → ClassId} {ad : Nat → Nat} {bs : Nat} {X : State → Heap → Prop} (rc : RT_X13_assign) {k : Nat} (H : RH_X13_assign rc k) (l2 : Int32) (l4 : Int32) (l6 : Int32) (s : t_S) (Q : (Int32 × Int32 × Int32 × Int32 × t_S) ⊕ (Int32 × t_S) → Prop) (Hb120 : ∀ (y0 : Int32) (y1 : Int32) (y2 : Int32) (y3 : Int32) (y4 : t_S), Q (.inl (y0, y1, y2, y3, y4)) → mj_G D cy ad bs X cX13_manyMatch 8 yX13_manyMatch.cls (some .boolean) yX13_manyMatch.name (102 + (k + 1)) 0 0 1065 (t_P (fun v s' => ∃ x, v = some (.int x) ∧ Q (.inr ((x, s'))))) 120 [(0, .ref 950), (2, .int (y0)), (4, .int (y1)), (5, .int (y2)), (6, .int (y3))] [] (t_m y4) 1065 0 0) (hk : t_hk (k_X13_manyMatch_180 rc l2 l4 l6 s) Q) : mj_G D cy ad bs X cX13_manyMatch 8 yX13_manyMatch.cls (some .boolean) yX13_manyMatch.name (102 + (k + 1)) 0 0 1065 (t_P (fun v s' => ∃ x, v = some (.int x) ∧ Q (.inr ((x, s'))))) 180 [(0, .ref 950), (2, .int l2), (4, .int l4), (6, .int l6)] [] (t_m s) 1065 0 0 := by
  refine mj_iconst (v := 0) dX13_manyMatch_180 (by decide) ?_
  refine mj_goto 199 dX13_manyMatch_181 (by decide) ?_
  exact B_X13_manyMatch_199 rc H _ _ _ _ _ _ (fun y0 y1 y2 y3 y4 hx => Hb120 y0 y1 y2 y3 y4 hx) hk
noncomputable def k_X13_manyMatch_198 (rc : RT_X13_assign) (l2 : Int32) (l4 : Int32) (l6 : Int32) (s : t_S) : Option ((Int32 × Int32 × Int32 × Int32 × t_S) ⊕ (Int32 × t_S)) :=
 k_X13_manyMatch_199 rc l2 l4 l6 0 s
set_option maxRecDepth 4000 in
set_option maxHeartbeats 1000000 in
theorem B_X13_manyMatch_198 {D : va_G} {cy : Nat → ClassId} {ad : Nat → Nat} {bs : Nat} {X : State → Heap → Prop} (rc : RT_X13_assign) {k : Nat} (H : RH_X13_assign rc k) (l2 : Int32) (l4 : Int32) (l6 : Int32) (s : t_S) (Q : (Int32 × Int32 × Int32 × Int32 × t_S) ⊕ (Int32 × t_S) → Prop) (Hb120 : ∀ (y0 : Int32) (y1 : Int32) (y2 : Int32) (y3 : Int32) (y4 : t_S), Q (.inl (y0, y1, y2, y3, y4)) → mj_G D cy ad bs X cX13_manyMatch 8 yX13_manyMatch.cls (some .boolean) yX13_manyMatch.name (102 + (k + 1)) 0 0 1065 (t_P (fun v s' => ∃ x, v = some (.int x) ∧ Q (.inr ((x, s'))))) 120 [(0, .ref 950), (2, .int (y0)), (4, .int (y1)), (5, .int (y2)), (6, .int (y3))] [] (t_m y4) 1065 0 0) (hk : t_hk (k_X13_manyMatch_198 rc l2 l4 l6 s) Q) : mj_G D cy ad bs X cX13_manyMatch 8 yX13_manyMatch.cls (some .boolean) yX13_manyMatch.name (102 + (k + 1)) 0 0 1065 (t_P (fun v s' => ∃ x, v = some (.int x) ∧ Q (.inr ((x, s'))))) 198 [(0, .ref 950), (2, .int l2), (4, .int l4), (6, .int l6)] [] (t_m s) 1065 0 0 := by
  refine mj_iconst (v := 0) dX13_manyMatch_198 (by decide) ?_
  exact B_X13_manyMatch_199 rc H _ _ _ _ _ _ (fun y0 y1 y2 y3 y4 hx => Hb120 y0 y1 y2 y3 y4 hx) hk
noncomputable def k_X13_manyMatch_120 (rc : RT_X13_assign) (l2 : Int32) (l4 : Int32) (l5 : Int32) (l6 : Int32) (s : t_S) : Option ((Int32 × Int32 × Int32 × Int32 × t_S) ⊕ (Int32 × t_S)) :=
 if l6 < (0 : Int32) then ((if l5 = 0 ∨ l5 = 1 then
  some (l5, s)
else none).map Sum.inr)
 else ((rc.2.2.2.2.1 l6 l2 s).bind (fun r2 =>
 if l4 = (34 : Int32) then (if l5 = (0 : Int32) then (if r2.1 = (0 : Int32) then (k_X13_manyMatch_199 rc l2 l4 l6 0 r2.2)
 else (k_X13_manyMatch_151 rc l2 l4 l6 r2.2))
 else (k_X13_manyMatch_151 rc l2 l4 l6 r2.2))
 else (if l4 = (33 : Int32) then (if l5 = (0 : Int32) then (k_X13_manyMatch_180 rc l2 l4 l6 r2.2)
 else (if r2.1 = (0 : Int32) then (k_X13_manyMatch_180 rc l2 l4 l6 r2.2)
 else (k_X13_manyMatch_199 rc l2 l4 l6 1 r2.2)))
 else (if l5 = (0 : Int32) then (k_X13_manyMatch_198 rc l2 l4 l6 r2.2)
 else (if r2.1 = (0 : Int32) then (k_X13_manyMatch_199 rc l2 l4 l6 1 r2.2)
 else (k_X13_manyMatch_198 rc l2 l4 l6 r2.2))))))
set_option maxRecDepth 4000 in
set_option maxHeartbeats 1000000 in
theorem B_X13_manyMatch_120 {D : va_G} {cy : Nat → ClassId} {ad : Nat → Nat} {bs : Nat} {X : State → Heap → Prop} (rc : RT_X13_assign) {k : Nat} (H : RH_X13_assign rc k) (l2 : Int32) (l4 : Int32) (l5 : Int32) (l6 : Int32) (s : t_S) (Q : (Int32 × Int32 × Int32 × Int32 × t_S) ⊕ (Int32 × t_S) → Prop) (Hb120 : ∀ (y0 : Int32) (y1 : Int32) (y2 : Int32) (y3 : Int32) (y4 : t_S), Q (.inl (y0, y1, y2, y3, y4)) → mj_G D cy ad bs X cX13_manyMatch 8 yX13_manyMatch.cls (some .boolean) yX13_manyMatch.name (102 + (k + 1)) 0 0 1065 (t_P (fun v s' => ∃ x, v = some (.int x) ∧ Q (.inr ((x, s'))))) 120 [(0, .ref 950), (2, .int (y0)), (4, .int (y1)), (5, .int (y2)), (6, .int (y3))] [] (t_m y4) 1065 0 0) (hk : t_hk (k_X13_manyMatch_120 rc l2 l4 l5 l6 s) Q) : mj_G D cy ad bs X cX13_manyMatch 8 yX13_manyMatch.cls (some .boolean) yX13_manyMatch.name (102 + (k + 1)) 0 0 1065 (t_P (fun v s' => ∃ x, v = some (.int x) ∧ Q (.inr ((x, s'))))) 120 [(0, .ref 950), (2, .int l2), (4, .int l4), (5, .int l5), (6, .int l6)] [] (t_m s) 1065 0 0 := by
  refine mj_iload dX13_manyMatch_120 4 rfl ?_
  refine mj_if_lt 213 dX13_manyMatch_122 (by decide) (fun z => t_posK hk z (fun hk => ?_)) (fun z => t_negK hk z (fun hk => ?_))
  · refine t_mapK hk (fun hk => ?_)
    refine mj_iload dX13_manyMatch_213 3 rfl ?_
    refine t_chkK hk (fun c0 hk => ?_)
    exact t_somK hk (fun hf => t_iret dX13_manyMatch_215 rfl (t_zfit c0) ⟨_, rfl, hf⟩ (Nat.le_of_ble_eq_true rfl) (Nat.le_of_ble_eq_true rfl))
  · refine mj_aload_n dX13_manyMatch_125 0 rfl ?_
    refine mj_iload dX13_manyMatch_126 4 rfl ?_
    refine mj_iload_n dX13_manyMatch_128 1 rfl ?_
    refine t_bndK hk (fun r2 er2 hk => ?_)
    refine t_callSiE dX13_manyMatch_129 M_X13_match (H.2.2.2.2.1 _ _ _ _ er2) ML_X13_1233 SM_X13_match (As := [.ref 950, .int l6, .int l2]) rfl rfl (by omega) (Nat.le_of_ble_eq_true rfl) (Nat.le_of_ble_eq_true rfl) (Nat.le_of_ble_eq_true rfl) ?_
    refine mj_istore (lv2 := [(7, .int r2.1), (0, .ref 950), (2, .int l2), (4, .int l4), (5, .int l5), (6, .int l6)]) dX13_manyMatch_132 (by decide) rfl ?_
    refine mj_iload dX13_manyMatch_134 3 rfl ?_
    refine mj_bipush (v := 34) dX13_manyMatch_136 (by decide) ?_
    refine mj_icmp_ne 159 dX13_manyMatch_138 (by decide) (fun z => t_negK hk z (fun hk => ?_)) (fun z => t_posK hk z (fun hk => ?_))
    · refine mj_iload dX13_manyMatch_159 3 rfl ?_
      refine mj_bipush (v := 33) dX13_manyMatch_161 (by decide) ?_
      refine mj_icmp_ne 184 dX13_manyMatch_163 (by decide) (fun z => t_negK hk z (fun hk => ?_)) (fun z => t_posK hk z (fun hk => ?_))
      · refine mj_iload dX13_manyMatch_184 4 rfl ?_
        refine mj_if_eq 198 dX13_manyMatch_186 (by decide) (fun z => t_posK hk z (fun hk => ?_)) (fun z => t_negK hk z (fun hk => ?_))
        · refine mj_sublv [(0, .ref 950), (2, .int l2), (4, .int l4), (6, .int l6)] [1, 2, 3, 5] rfl ?_
          exact B_X13_manyMatch_198 rc H _ _ _ _ _ (fun y0 y1 y2 y3 y4 hx => Hb120 y0 y1 y2 y3 y4 hx) hk
        · refine mj_iload dX13_manyMatch_189 0 rfl ?_
          refine mj_if_ne 198 dX13_manyMatch_191 (by decide) (fun z => t_negK hk z (fun hk => ?_)) (fun z => t_posK hk z (fun hk => ?_))
          · refine mj_sublv [(0, .ref 950), (2, .int l2), (4, .int l4), (6, .int l6)] [1, 2, 3, 5] rfl ?_
            exact B_X13_manyMatch_198 rc H _ _ _ _ _ (fun y0 y1 y2 y3 y4 hx => Hb120 y0 y1 y2 y3 y4 hx) hk
          · refine mj_iconst (v := 1) dX13_manyMatch_194 (by decide) ?_
            refine mj_goto 199 dX13_manyMatch_195 (by decide) ?_
            refine mj_sublv [(0, .ref 950), (2, .int l2), (4, .int l4), (6, .int l6)] [1, 2, 3, 5] rfl ?_
            exact B_X13_manyMatch_199 rc H _ _ _ _ _ _ (fun y0 y1 y2 y3 y4 hx => Hb120 y0 y1 y2 y3 y4 hx) hk
      · refine mj_iload dX13_manyMatch_166 4 rfl ?_
        refine mj_if_eq 180 dX13_manyMatch_168 (by decide) (fun z => t_posK hk z (fun hk => ?_)) (fun z => t_negK hk z (fun hk => ?_))
        · refine mj_sublv [(0, .ref 950), (2, .int l2), (4, .int l4), (6, .int l6)] [1, 2, 3, 5] rfl ?_
          exact B_X13_manyMatch_180 rc H _ _ _ _ _ (fun y0 y1 y2 y3 y4 hx => Hb120 y0 y1 y2 y3 y4 hx) hk
        · refine mj_iload dX13_manyMatch_171 0 rfl ?_
          refine mj_if_eq 180 dX13_manyMatch_173 (by decide) (fun z => t_posK hk z (fun hk => ?_)) (fun z => t_negK hk z (fun hk => ?_))
          · refine mj_sublv [(0, .ref 950), (2, .int l2), (4, .int l4), (6, .int l6)] [1, 2, 3, 5] rfl ?_
            exact B_X13_manyMatch_180 rc H _ _ _ _ _ (fun y0 y1 y2 y3 y4 hx => Hb120 y0 y1 y2 y3 y4 hx) hk
          · refine mj_iconst (v := 1) dX13_manyMatch_176 (by decide) ?_
            refine mj_goto 199 dX13_manyMatch_177 (by decide) ?_
            refine mj_sublv [(0, .ref 950), (2, .int l2), (4, .int l4), (6, .int l6)] [1, 2, 3, 5] rfl ?_
            exact B_X13_manyMatch_199 rc H _ _ _ _ _ _ (fun y0 y1 y2 y3 y4 hx => Hb120 y0 y1 y2 y3 y4 hx) hk
    · refine mj_iload dX13_manyMatch_141 4 rfl ?_
      refine mj_if_ne 151 dX13_manyMatch_143 (by decide) (fun z => t_negK hk z (fun hk => ?_)) (fun z => t_posK hk z (fun hk => ?_))
      · refine mj_sublv [(0, .ref 950), (2, .int l2), (4, .int l4), (6, .int l6)] [1, 2, 3, 5] rfl ?_
        exact B_X13_manyMatch_151 rc H _ _ _ _ _ (fun y0 y1 y2 y3 y4 hx => Hb120 y0 y1 y2 y3 y4 hx) hk
      · refine mj_iload dX13_manyMatch_146 0 rfl ?_
        refine mj_if_eq 155 dX13_manyMatch_148 (by decide) (fun z => t_posK hk z (fun hk => ?_)) (fun z => t_negK hk z (fun hk => ?_))
        · refine mj_iconst (v := 0) dX13_manyMatch_155 (by decide) ?_
          refine mj_goto 199 dX13_manyMatch_156 (by decide) ?_
          refine mj_sublv [(0, .ref 950), (2, .int l2), (4, .int l4), (6, .int l6)] [1, 2, 3, 5] rfl ?_
          exact B_X13_manyMatch_199 rc H _ _ _ _ _ _ (fun y0 y1 y2 y3 y4 hx => Hb120 y0 y1 y2 y3 y4 hx) hk
        · refine mj_sublv [(0, .ref 950), (2, .int l2), (4, .int l4), (6, .int l6)] [1, 2, 3, 5] rfl ?_
          exact B_X13_manyMatch_151 rc H _ _ _ _ _ (fun y0 y1 y2 y3 y4 hx => Hb120 y0 y1 y2 y3 y4 hx) hk
noncomputable def b_X13_manyMatch_120 (rc : RT_X13_assign) (x : Int32 × Int32 × Int32 × Int32 × t_S) : Option ((Int32 × Int32 × Int32 × Int32 × t_S) ⊕ (Int32 × t_S)) := k_X13_manyMatch_120 rc x.1 x.2.1 x.2.2.1 x.2.2.2.1 x.2.2.2.2
set_option maxRecDepth 4000 in
set_option maxHeartbeats 1000000 in
theorem LH_X13_manyMatch_120 {D : va_G} {cy : Nat → ClassId} {ad : Nat → Nat} {bs : Nat} {X : State → Heap → Prop} (rc : RT_X13_assign) {k : Nat} (H : RH_X13_assign rc k) : ∀ (n : Nat) (y0 : Int32) (y1 : Int32) (y2 : Int32) (y3 : Int32) (y4 : t_S) (Q : Int32 × t_S → Prop) (hk : t_hk (t_loop (b_X13_manyMatch_120 rc) n (y0, y1, y2, y3, y4)) Q), mj_G D cy ad bs X cX13_manyMatch 8 yX13_manyMatch.cls (some .boolean) yX13_manyMatch.name (102 + (k + 1)) 0 0 1065 (t_P (fun v s' => ∃ x, v = some (.int x) ∧ Q ((x, s')))) 120 [(0, .ref 950), (2, .int (y0)), (4, .int (y1)), (5, .int (y2)), (6, .int (y3))] [] (t_m y4) 1065 0 0 := by
  intro n
  induction n with
  | zero => intro y0 y1 y2 y3 y4 Q hk; obtain ⟨r, hr, _⟩ := hk; cases hr
  | succ n ih =>
    intro y0 y1 y2 y3 y4 Q hk
    exact B_X13_manyMatch_120 rc H y0 y1 y2 y3 y4 (fun y => t_lq (b_X13_manyMatch_120 rc) n Q y) (fun y0' y1' y2' y3' y4' hy => ih y0' y1' y2' y3' y4' Q hy) (t_lp (b := b_X13_manyMatch_120 rc) (n := n) (x := (y0, y1, y2, y3, y4)) hk)
noncomputable def k_X13_manyMatch_110 (rc : RT_X13_assign) (l1 : Int32) (l2 : Int32) (l4 : Int32) (k0 : Int32) (s : t_S) : Option (Int32 × t_S) :=
 if t_ix l1 13000 = true then
  t_loop (b_X13_manyMatch_120 rc) t_N (l2, l4, k0, (s.1 959 (l1.toNatClampNeg)), s)
else none
set_option maxRecDepth 4000 in
set_option maxHeartbeats 1000000 in
theorem B_X13_manyMatch_110 {D : va_G} {cy : Nat → ClassId} {ad : Nat → Nat} {bs : Nat} {X : State → Heap → Prop} (rc : RT_X13_assign) {k : Nat} (H : RH_X13_assign rc k) (l1 : Int32) (l2 : Int32) (l4 : Int32) (k0 : Int32) (s : t_S) (Q : Int32 × t_S → Prop) (hk : t_hk (k_X13_manyMatch_110 rc l1 l2 l4 k0 s) Q) : mj_G D cy ad bs X cX13_manyMatch 8 yX13_manyMatch.cls (some .boolean) yX13_manyMatch.name (102 + (k + 1)) 0 0 1065 (t_P (fun v s' => ∃ x, v = some (.int x) ∧ Q ((x, s')))) 110 [(0, .ref 950), (1, .int l1), (2, .int l2), (4, .int l4)] [.int k0] (t_m s) 1065 0 0 := by
  refine mj_istore (lv2 := [(5, .int k0), (0, .ref 950), (1, .int l1), (2, .int l2), (4, .int l4)]) dX13_manyMatch_110 (by decide) rfl ?_
  refine mj_aload_n dX13_manyMatch_112 1 rfl ?_
  refine t_getR 959 dX13_manyMatch_113 F_X13_39 qr_950_21 ?_
  refine mj_iload_n dX13_manyMatch_116 2 rfl ?_
  refine t_chkK hk (fun c0 hk => ?_)
  refine t_iald dX13_manyMatch_117 qa_959 (t_ixv c0) ?_
  refine mj_istore (lv2 := [(6, .int (s.1 959 (l1.toNatClampNeg))), (5, .int k0), (0, .ref 950), (1, .int l1), (2, .int l2), (4, .int l4)]) dX13_manyMatch_118 (by decide) rfl ?_
  refine mj_sublv [(0, .ref 950), (2, .int l2), (4, .int l4), (5, .int k0), (6, .int (s.1 959 (l1.toNatClampNeg)))] [2, 4, 5, 1, 0] rfl ?_
  exact LH_X13_manyMatch_120 rc H _ l2 l4 k0 (s.1 959 (l1.toNatClampNeg)) s _ hk
noncomputable def m_X13_manyMatch (rc : RT_X13_assign) (x2 : Int32) (x3 : Int32) (x4 : Int32) (s : t_S) : Option (Int32 × t_S) :=
 if t_ix x2 13000 = true then
  if (s.1 955 (x2.toNatClampNeg)) = (31 : Int32) then (if x4 = (8 : Int32) then ((rc.2.2.1 x2 x3 s).bind (fun r2 =>
 if r2.1 = (0 : Int32) then (some ((0 : Int32), r2.2))
 else (some ((1 : Int32), r2.2))))
 else (some ((0 : Int32), s)))
 else (if (s.1 955 (x2.toNatClampNeg)) = (36 : Int32) then (k_X13_manyMatch_50 rc x2 x3 x4 (s.1 955 (x2.toNatClampNeg)) s)
 else (if (s.1 955 (x2.toNatClampNeg)) = (37 : Int32) then (k_X13_manyMatch_50 rc x2 x3 x4 (s.1 955 (x2.toNatClampNeg)) s)
 else (if (s.1 955 (x2.toNatClampNeg)) = (34 : Int32) then (k_X13_manyMatch_110 rc x2 x3 (s.1 955 (x2.toNatClampNeg)) 0 s)
 else (k_X13_manyMatch_110 rc x2 x3 (s.1 955 (x2.toNatClampNeg)) 1 s))))
else none
set_option maxRecDepth 4000 in
set_option maxHeartbeats 1000000 in
theorem E_X13_manyMatch (rc : RT_X13_assign) {k : Nat} (H : RH_X13_assign rc k) (x2 : Int32) (x3 : Int32) (x4 : Int32) (s : t_S) (r : Int32 × t_S) (hr : m_X13_manyMatch rc x2 x3 x4 s = some r) : t_C yX13_manyMatch cX13_manyMatch 8 (some .boolean) (102 + (k + 1)) [.ref 950, .int x2, .int x3, .int x4] s (fun v s' => v = some (.int r.1) ∧ s' = r.2) := by
  refine t_C.imp (P := fun v s' => ∃ x, v = some (.int x) ∧ (fun q => q = r) ((x, s'))) (t_C.of (by decide +kernel) (Nat.le_of_ble_eq_true rfl) ?_) (fun v s' hp => by obtain ⟨x, rfl, rfl⟩ := hp; exact ⟨rfl, rfl⟩)
  intro D cy ad bs X
  have hk : t_hk (m_X13_manyMatch rc x2 x3 x4 s) (fun q => q = r) := ⟨r, hr, rfl⟩
  show mj_G D cy ad bs X cX13_manyMatch 8 yX13_manyMatch.cls (some .boolean) yX13_manyMatch.name (102 + (k + 1)) 0 0 1065 (t_P (fun v s' => ∃ x, v = some (.int x) ∧ (fun q => q = r) ((x, s')))) 0 [(0, .ref 950), (1, .int x2), (2, .int x3), (3, .int x4)] [] (t_m s) 1065 0 0
  refine mj_aload_n dX13_manyMatch_0 0 rfl ?_
  refine t_getR 955 dX13_manyMatch_1 F_X13_26 qr_950_17 ?_
  refine mj_iload_n dX13_manyMatch_4 1 rfl ?_
  refine t_chkK hk (fun c0 hk => ?_)
  refine t_iald dX13_manyMatch_5 qa_955 (t_ixv c0) ?_
  refine mj_istore (lv2 := [(4, .int (s.1 955 (x2.toNatClampNeg))), (0, .ref 950), (1, .int x2), (2, .int x3), (3, .int x4)]) dX13_manyMatch_6 (by decide) rfl ?_
  refine mj_iload dX13_manyMatch_8 0 rfl ?_
  refine mj_bipush (v := 31) dX13_manyMatch_10 (by decide) ?_
  refine mj_icmp_ne 36 dX13_manyMatch_12 (by decide) (fun z => t_negK hk z (fun hk => ?_)) (fun z => t_posK hk z (fun hk => ?_))
  · refine mj_iload dX13_manyMatch_36 0 rfl ?_
    refine mj_bipush (v := 36) dX13_manyMatch_38 (by decide) ?_
    refine mj_icmp_eq 50 dX13_manyMatch_40 (by decide) (fun z => t_posK hk z (fun hk => ?_)) (fun z => t_negK hk z (fun hk => ?_))
    · refine mj_sublv [(0, .ref 950), (1, .int x2), (2, .int x3), (3, .int x4), (4, .int (s.1 955 (x2.toNatClampNeg)))] [1, 2, 3, 4, 0] rfl ?_
      exact B_X13_manyMatch_50 rc H _ _ _ _ _ _ hk
    · refine mj_iload dX13_manyMatch_43 0 rfl ?_
      refine mj_bipush (v := 37) dX13_manyMatch_45 (by decide) ?_
      refine mj_icmp_ne 98 dX13_manyMatch_47 (by decide) (fun z => t_negK hk z (fun hk => ?_)) (fun z => t_posK hk z (fun hk => ?_))
      · refine mj_iload dX13_manyMatch_98 0 rfl ?_
        refine mj_bipush (v := 34) dX13_manyMatch_100 (by decide) ?_
        refine mj_icmp_eq 109 dX13_manyMatch_102 (by decide) (fun z => t_posK hk z (fun hk => ?_)) (fun z => t_negK hk z (fun hk => ?_))
        · refine mj_iconst (v := 0) dX13_manyMatch_109 (by decide) ?_
          refine mj_sublv [(0, .ref 950), (1, .int x2), (2, .int x3), (4, .int (s.1 955 (x2.toNatClampNeg)))] [1, 2, 3, 0] rfl ?_
          exact B_X13_manyMatch_110 rc H _ _ _ _ _ _ hk
        · refine mj_iconst (v := 1) dX13_manyMatch_105 (by decide) ?_
          refine mj_goto 110 dX13_manyMatch_106 (by decide) ?_
          refine mj_sublv [(0, .ref 950), (1, .int x2), (2, .int x3), (4, .int (s.1 955 (x2.toNatClampNeg)))] [1, 2, 3, 0] rfl ?_
          exact B_X13_manyMatch_110 rc H _ _ _ _ _ _ hk
      · refine mj_sublv [(0, .ref 950), (1, .int x2), (2, .int x3), (3, .int x4), (4, .int (s.1 955 (x2.toNatClampNeg)))] [1, 2, 3, 4, 0] rfl ?_
        exact B_X13_manyMatch_50 rc H _ _ _ _ _ _ hk
  · refine mj_iload_n dX13_manyMatch_15 4 rfl ?_
    refine mj_bipush (v := 8) dX13_manyMatch_16 (by decide) ?_
    refine mj_icmp_ne 34 dX13_manyMatch_18 (by decide) (fun z => t_negK hk z (fun hk => ?_)) (fun z => t_posK hk z (fun hk => ?_))
    · refine mj_iconst (v := 0) dX13_manyMatch_34 (by decide) ?_
      exact t_somK hk (fun hf => t_iret dX13_manyMatch_35 rfl (by decide) ⟨_, rfl, hf⟩ (Nat.le_of_ble_eq_true rfl) (Nat.le_of_ble_eq_true rfl))
    · refine mj_aload_n dX13_manyMatch_21 1 rfl ?_
      refine mj_iload_n dX13_manyMatch_22 2 rfl ?_
      refine mj_iload_n dX13_manyMatch_23 3 rfl ?_
      refine t_bndK hk (fun r2 er2 hk => ?_)
      refine t_callSiE dX13_manyMatch_24 M_X13_listMatch (H.2.2.1 _ _ _ _ er2) ML_X13_1266 SM_X13_listMatch (As := [.ref 950, .int x2, .int x3]) rfl rfl (by omega) (Nat.le_of_ble_eq_true rfl) (Nat.le_of_ble_eq_true rfl) (Nat.le_of_ble_eq_true rfl) ?_
      refine mj_if_eq 34 dX13_manyMatch_27 (by decide) (fun z => t_posK hk z (fun hk => ?_)) (fun z => t_negK hk z (fun hk => ?_))
      · refine mj_iconst (v := 0) dX13_manyMatch_34 (by decide) ?_
        exact t_somK hk (fun hf => t_iret dX13_manyMatch_35 rfl (by decide) ⟨_, rfl, hf⟩ (Nat.le_of_ble_eq_true rfl) (Nat.le_of_ble_eq_true rfl))
      · refine mj_iconst (v := 1) dX13_manyMatch_30 (by decide) ?_
        refine mj_goto 35 dX13_manyMatch_31 (by decide) ?_
        exact t_somK hk (fun hf => t_iret dX13_manyMatch_35 rfl (by decide) ⟨_, rfl, hf⟩ (Nat.le_of_ble_eq_true rfl) (Nat.le_of_ble_eq_true rfl))
noncomputable def k_X13_match_183 (rc : RT_X13_assign) (l6 : Int32) (k0 : Int32) (k1 : Int32) (k2 : Int32) (s : t_S) : Option (Int32 × t_S) :=
 if t_ix k2 577000 = true then
  t_let (t_setI s 1028 (k2.toNatClampNeg) (k1 + k0)) (fun s1 =>
 if l6 = 0 ∨ l6 = 1 then
  some (l6, s1)
else none)
else none
set_option maxRecDepth 4000 in
set_option maxHeartbeats 1000000 in
theorem B_X13_match_183 {D : va_G} {cy : Nat → ClassId} {ad : Nat → Nat} {bs : Nat} {X : State → Heap → Prop} (rc : RT_X13_assign) {k : Nat} (H : RH_X13_assign rc k) (l6 : Int32) (k0 : Int32) (k1 : Int32) (k2 : Int32) (s : t_S) (Q : Int32 × t_S → Prop) (hk : t_hk (k_X13_match_183 rc l6 k0 k1 k2 s) Q) : mj_G D cy ad bs X cX13_match 7 yX13_match.cls (some .boolean) yX13_match.name (102 + (k + 1)) 0 0 1065 (t_P (fun v s' => ∃ x, v = some (.int x) ∧ Q ((x, s')))) 183 [(6, .int l6)] [.int k0, .int k1, .int k2, .ref 1028] (t_m s) 1065 0 0 := by
  refine mj_iadd dX13_match_183 ?_
  refine t_chkK hk (fun c0 hk => ?_)
  refine t_iastK dX13_match_184 qa_1028 (t_ixv c0) (fun s1 ws1 => t_letE hk ws1 (fun hk => ?_))
  refine mj_iload dX13_match_185 0 rfl ?_
  refine t_chkK hk (fun c1 hk => ?_)
  exact t_somK hk (fun hf => t_iret dX13_match_187 rfl (t_zfit c1) ⟨_, rfl, hf⟩ (Nat.le_of_ble_eq_true rfl) (Nat.le_of_ble_eq_true rfl))
noncomputable def k_X13_match_161 (rc : RT_X13_assign) (l4 : Int32) (l6 : Int32) (s : t_S) : Option (Int32 × t_S) :=
 if l6 = (0 : Int32) then (k_X13_match_183 rc l6 0 ((2 : Int32) * (s.1 950 137)) l4 s)
 else (k_X13_match_183 rc l6 1 ((2 : Int32) * (s.1 950 137)) l4 s)
set_option maxRecDepth 4000 in
set_option maxHeartbeats 1000000 in
theorem B_X13_match_161 {D : va_G} {cy : Nat → ClassId} {ad : Nat → Nat} {bs : Nat} {X : State → Heap → Prop} (rc : RT_X13_assign) {k : Nat} (H : RH_X13_assign rc k) (l4 : Int32) (l6 : Int32) (s : t_S) (Q : Int32 × t_S → Prop) (hk : t_hk (k_X13_match_161 rc l4 l6 s) Q) : mj_G D cy ad bs X cX13_match 7 yX13_match.cls (some .boolean) yX13_match.name (102 + (k + 1)) 0 0 1065 (t_P (fun v s' => ∃ x, v = some (.int x) ∧ Q ((x, s')))) 161 [(0, .ref 950), (4, .int l4), (6, .int l6)] [] (t_m s) 1065 0 0 := by
  refine mj_aload_n dX13_match_161 0 rfl ?_
  refine t_getR 1028 dX13_match_162 F_X13_252 qr_950_136 ?_
  refine mj_iload dX13_match_165 1 rfl ?_
  refine mj_iconst (v := 2) dX13_match_167 (by decide) ?_
  refine mj_aload_n dX13_match_168 0 rfl ?_
  refine t_getI dX13_match_169 F_X13_1224 qf_950_137 ?_
  refine mj_imul dX13_match_172 ?_
  refine mj_iload dX13_match_173 2 rfl ?_
  refine mj_if_eq 182 dX13_match_175 (by decide) (fun z => t_posK hk z (fun hk => ?_)) (fun z => t_negK hk z (fun hk => ?_))
  · refine mj_iconst (v := 0) dX13_match_182 (by decide) ?_
    refine mj_sublv [(6, .int l6)] [2] rfl ?_
    exact B_X13_match_183 rc H _ _ _ _ _ _ hk
  · refine mj_iconst (v := 1) dX13_match_178 (by decide) ?_
    refine mj_goto 183 dX13_match_179 (by decide) ?_
    refine mj_sublv [(6, .int l6)] [2] rfl ?_
    exact B_X13_match_183 rc H _ _ _ _ _ _ hk
noncomputable def k_X13_match_159 (rc : RT_X13_assign) (l4 : Int32) (k0 : Int32) (s : t_S) : Option (Int32 × t_S) :=
 k_X13_match_161 rc l4 k0 s
set_option maxRecDepth 4000 in
set_option maxHeartbeats 1000000 in
theorem B_X13_match_159 {D : va_G} {cy : Nat → ClassId} {ad : Nat → Nat} {bs : Nat} {X : State → Heap → Prop} (rc : RT_X13_assign) {k : Nat} (H : RH_X13_assign rc k) (l4 : Int32) (k0 : Int32) (s : t_S) (Q : Int32 × t_S → Prop) (hk : t_hk (k_X13_match_159 rc l4 k0 s) Q) : mj_G D cy ad bs X cX13_match 7 yX13_match.cls (some .boolean) yX13_match.name (102 + (k + 1)) 0 0 1065 (t_P (fun v s' => ∃ x, v = some (.int x) ∧ Q ((x, s')))) 159 [(0, .ref 950), (4, .int l4)] [.int k0] (t_m s) 1065 0 0 := by
  refine mj_istore (lv2 := [(6, .int k0), (0, .ref 950), (4, .int l4)]) dX13_match_159 (by decide) rfl ?_
  refine mj_sublv [(0, .ref 950), (4, .int l4), (6, .int k0)] [1, 2, 0] rfl ?_
  exact B_X13_match_161 rc H _ _ _ _ hk
noncomputable def k_X13_match_113 (rc : RT_X13_assign) (l1 : Int32) (l2 : Int32) (l4 : Int32) (l5 : Int32) (k0 : Int32) (s : t_S) : Option (Int32 × t_S) :=
 if k0 = (0 : Int32) then (if t_ix l1 13000 = true then
  if (s.1 955 (l1.toNatClampNeg)) = (41 : Int32) then ((rc.2.1 l1 l2 s).bind (fun r4 =>
 k_X13_match_159 rc l4 r4.1 r4.2))
 else (if l5 = (0 : Int32) then ((rc.2.2.2.2.2.2.2 l1 l2 s).bind (fun r2 =>
 k_X13_match_159 rc l4 r2.1 r2.2))
 else ((rc.2.2.2.2.2.1 l1 s).bind (fun r3 =>
 k_X13_match_159 rc l4 r3.1 r3.2)))
else none)
 else (k_X13_match_161 rc l4 k0 s)
set_option maxRecDepth 4000 in
set_option maxHeartbeats 1000000 in
theorem B_X13_match_113 {D : va_G} {cy : Nat → ClassId} {ad : Nat → Nat} {bs : Nat} {X : State → Heap → Prop} (rc : RT_X13_assign) {k : Nat} (H : RH_X13_assign rc k) (l1 : Int32) (l2 : Int32) (l4 : Int32) (l5 : Int32) (k0 : Int32) (s : t_S) (Q : Int32 × t_S → Prop) (hk : t_hk (k_X13_match_113 rc l1 l2 l4 l5 k0 s) Q) : mj_G D cy ad bs X cX13_match 7 yX13_match.cls (some .boolean) yX13_match.name (102 + (k + 1)) 0 0 1065 (t_P (fun v s' => ∃ x, v = some (.int x) ∧ Q ((x, s')))) 113 [(0, .ref 950), (1, .int l1), (2, .int l2), (4, .int l4), (5, .int l5)] [.int k0] (t_m s) 1065 0 0 := by
  refine mj_istore (lv2 := [(6, .int k0), (0, .ref 950), (1, .int l1), (2, .int l2), (4, .int l4), (5, .int l5)]) dX13_match_113 (by decide) rfl ?_
  refine mj_iload dX13_match_115 0 rfl ?_
  refine mj_if_ne 161 dX13_match_117 (by decide) (fun z => t_negK hk z (fun hk => ?_)) (fun z => t_posK hk z (fun hk => ?_))
  · refine mj_sublv [(0, .ref 950), (4, .int l4), (6, .int k0)] [1, 4, 0] rfl ?_
    exact B_X13_match_161 rc H _ _ _ _ hk
  · refine mj_aload_n dX13_match_120 1 rfl ?_
    refine t_getR 955 dX13_match_121 F_X13_26 qr_950_17 ?_
    refine mj_iload_n dX13_match_124 2 rfl ?_
    refine t_chkK hk (fun c0 hk => ?_)
    refine t_iald dX13_match_125 qa_955 (t_ixv c0) ?_
    refine mj_bipush (v := 41) dX13_match_126 (by decide) ?_
    refine mj_icmp_ne 140 dX13_match_128 (by decide) (fun z => t_negK hk z (fun hk => ?_)) (fun z => t_posK hk z (fun hk => ?_))
    · refine mj_iload dX13_match_140 5 rfl ?_
      refine mj_if_eq 153 dX13_match_142 (by decide) (fun z => t_posK hk z (fun hk => ?_)) (fun z => t_negK hk z (fun hk => ?_))
      · refine mj_aload_n dX13_match_153 1 rfl ?_
        refine mj_iload_n dX13_match_154 2 rfl ?_
        refine mj_iload_n dX13_match_155 3 rfl ?_
        refine t_bndK hk (fun r2 er2 hk => ?_)
        refine t_callSiE dX13_match_156 M_X13_toneMatch (H.2.2.2.2.2.2.2 _ _ _ _ er2) ML_X13_1247 SM_X13_toneMatch (As := [.ref 950, .int l1, .int l2]) rfl rfl (by omega) (Nat.le_of_ble_eq_true rfl) (Nat.le_of_ble_eq_true rfl) (Nat.le_of_ble_eq_true rfl) ?_
        refine mj_sublv [(0, .ref 950), (4, .int l4)] [1, 4] rfl ?_
        exact B_X13_match_159 rc H _ _ _ _ hk
      · refine mj_aload_n dX13_match_145 1 rfl ?_
        refine mj_iload_n dX13_match_146 2 rfl ?_
        refine t_bndK hk (fun r3 er3 hk => ?_)
        refine t_callSiE dX13_match_147 M_X13_omitMatch (H.2.2.2.2.2.1 _ _ _ er3) ML_X13_1243 SM_X13_omitMatch (As := [.ref 950, .int l1]) rfl rfl (by omega) (Nat.le_of_ble_eq_true rfl) (Nat.le_of_ble_eq_true rfl) (Nat.le_of_ble_eq_true rfl) ?_
        refine mj_goto 159 dX13_match_150 (by decide) ?_
        refine mj_sublv [(0, .ref 950), (4, .int l4)] [1, 4] rfl ?_
        exact B_X13_match_159 rc H _ _ _ _ hk
    · refine mj_aload_n dX13_match_131 1 rfl ?_
      refine mj_iload_n dX13_match_132 2 rfl ?_
      refine mj_iload_n dX13_match_133 3 rfl ?_
      refine t_bndK hk (fun r4 er4 hk => ?_)
      refine t_callSiE dX13_match_134 M_X13_lengthMatch (H.2.1 _ _ _ _ er4) ML_X13_1240 SM_X13_lengthMatch (As := [.ref 950, .int l1, .int l2]) rfl rfl (by omega) (Nat.le_of_ble_eq_true rfl) (Nat.le_of_ble_eq_true rfl) (Nat.le_of_ble_eq_true rfl) ?_
      refine mj_goto 159 dX13_match_137 (by decide) ?_
      refine mj_sublv [(0, .ref 950), (4, .int l4)] [1, 4] rfl ?_
      exact B_X13_match_159 rc H _ _ _ _ hk
noncomputable def k_X13_match_112 (rc : RT_X13_assign) (l1 : Int32) (l2 : Int32) (l4 : Int32) (l5 : Int32) (s : t_S) : Option (Int32 × t_S) :=
 k_X13_match_113 rc l1 l2 l4 l5 0 s
set_option maxRecDepth 4000 in
set_option maxHeartbeats 1000000 in
theorem B_X13_match_112 {D : va_G} {cy : Nat → ClassId} {ad : Nat → Nat} {bs : Nat} {X : State → Heap → Prop} (rc : RT_X13_assign) {k : Nat} (H : RH_X13_assign rc k) (l1 : Int32) (l2 : Int32) (l4 : Int32) (l5 : Int32) (s : t_S) (Q : Int32 × t_S → Prop) (hk : t_hk (k_X13_match_112 rc l1 l2 l4 l5 s) Q) : mj_G D cy ad bs X cX13_match 7 yX13_match.cls (some .boolean) yX13_match.name (102 + (k + 1)) 0 0 1065 (t_P (fun v s' => ∃ x, v = some (.int x) ∧ Q ((x, s')))) 112 [(0, .ref 950), (1, .int l1), (2, .int l2), (4, .int l4), (5, .int l5)] [] (t_m s) 1065 0 0 := by
  refine mj_iconst (v := 0) dX13_match_112 (by decide) ?_
  exact B_X13_match_113 rc H _ _ _ _ _ _ _ hk
noncomputable def k_X13_match_91 (rc : RT_X13_assign) (l1 : Int32) (l2 : Int32) (l4 : Int32) (k0 : Int32) (s : t_S) : Option (Int32 × t_S) :=
 if k0 = (0 : Int32) then (k_X13_match_112 rc l1 l2 l4 k0 s)
 else (if t_ix l1 13000 = true then
  if (s.1 961 (l1.toNatClampNeg)) = (1 : Int32) then (k_X13_match_113 rc l1 l2 l4 k0 1 s)
 else (k_X13_match_112 rc l1 l2 l4 k0 s)
else none)
set_option maxRecDepth 4000 in
set_option maxHeartbeats 1000000 in
theorem B_X13_match_91 {D : va_G} {cy : Nat → ClassId} {ad : Nat → Nat} {bs : Nat} {X : State → Heap → Prop} (rc : RT_X13_assign) {k : Nat} (H : RH_X13_assign rc k) (l1 : Int32) (l2 : Int32) (l4 : Int32) (k0 : Int32) (s : t_S) (Q : Int32 × t_S → Prop) (hk : t_hk (k_X13_match_91 rc l1 l2 l4 k0 s) Q) : mj_G D cy ad bs X cX13_match 7 yX13_match.cls (some .boolean) yX13_match.name (102 + (k + 1)) 0 0 1065 (t_P (fun v s' => ∃ x, v = some (.int x) ∧ Q ((x, s')))) 91 [(0, .ref 950), (1, .int l1), (2, .int l2), (4, .int l4)] [.int k0] (t_m s) 1065 0 0 := by
  refine mj_istore (lv2 := [(5, .int k0), (0, .ref 950), (1, .int l1), (2, .int l2), (4, .int l4)]) dX13_match_91 (by decide) rfl ?_
  refine mj_iload dX13_match_93 0 rfl ?_
  refine mj_if_eq 112 dX13_match_95 (by decide) (fun z => t_posK hk z (fun hk => ?_)) (fun z => t_negK hk z (fun hk => ?_))
  · refine mj_sublv [(0, .ref 950), (1, .int l1), (2, .int l2), (4, .int l4), (5, .int k0)] [1, 2, 3, 4, 0] rfl ?_
    exact B_X13_match_112 rc H _ _ _ _ _ _ hk
  · refine mj_aload_n dX13_match_98 1 rfl ?_
    refine t_getR 961 dX13_match_99 F_X13_45 qr_950_23 ?_
    refine mj_iload_n dX13_match_102 2 rfl ?_
    refine t_chkK hk (fun c0 hk => ?_)
    refine t_iald dX13_match_103 qa_961 (t_ixv c0) ?_
    refine mj_iconst (v := 1) dX13_match_104 (by decide) ?_
    refine mj_icmp_ne 112 dX13_match_105 (by decide) (fun z => t_negK hk z (fun hk => ?_)) (fun z => t_posK hk z (fun hk => ?_))
    · refine mj_sublv [(0, .ref 950), (1, .int l1), (2, .int l2), (4, .int l4), (5, .int k0)] [1, 2, 3, 4, 0] rfl ?_
      exact B_X13_match_112 rc H _ _ _ _ _ _ hk
    · refine mj_iconst (v := 1) dX13_match_108 (by decide) ?_
      refine mj_goto 113 dX13_match_109 (by decide) ?_
      refine mj_sublv [(0, .ref 950), (1, .int l1), (2, .int l2), (4, .int l4), (5, .int k0)] [1, 2, 3, 4, 0] rfl ?_
      exact B_X13_match_113 rc H _ _ _ _ _ _ _ hk
noncomputable def k_X13_match_86 (rc : RT_X13_assign) (l1 : Int32) (l2 : Int32) (l4 : Int32) (s : t_S) : Option (Int32 × t_S) :=
 k_X13_match_91 rc l1 l2 l4 1 s
set_option maxRecDepth 4000 in
set_option maxHeartbeats 1000000 in
theorem B_X13_match_86 {D : va_G} {cy : Nat → ClassId} {ad : Nat → Nat} {bs : Nat} {X : State → Heap → Prop} (rc : RT_X13_assign) {k : Nat} (H : RH_X13_assign rc k) (l1 : Int32) (l2 : Int32) (l4 : Int32) (s : t_S) (Q : Int32 × t_S → Prop) (hk : t_hk (k_X13_match_86 rc l1 l2 l4 s) Q) : mj_G D cy ad bs X cX13_match 7 yX13_match.cls (some .boolean) yX13_match.name (102 + (k + 1)) 0 0 1065 (t_P (fun v s' => ∃ x, v = some (.int x) ∧ Q ((x, s')))) 86 [(0, .ref 950), (1, .int l1), (2, .int l2), (4, .int l4)] [] (t_m s) 1065 0 0 := by
  refine mj_iconst (v := 1) dX13_match_86 (by decide) ?_
  refine mj_goto 91 dX13_match_87 (by decide) ?_
  exact B_X13_match_91 rc H _ _ _ _ _ _ hk
noncomputable def k_X13_match_19 (rc : RT_X13_assign) (l1 : Int32) (l2 : Int32) (k0 : Int32) (s : t_S) : Option (Int32 × t_S) :=
 if t_ix l1 13000 = true then
  if t_ix (((131 : Int32) * (s.1 962 (l1.toNatClampNeg))) + k0) 577000 = true then
  if ((s.1 1028 ((((131 : Int32) * (s.1 962 (l1.toNatClampNeg))) + k0).toNatClampNeg)) / (2 : Int32)) = (s.1 950 137) then (if ((s.1 1028 ((((131 : Int32) * (s.1 962 (l1.toNatClampNeg))) + k0).toNatClampNeg)) - (s.1 1028 ((((131 : Int32) * (s.1 962 (l1.toNatClampNeg))) + k0).toNatClampNeg)) / (2 : Int32) * (2 : Int32)) = (1 : Int32) then (some ((1 : Int32), s))
 else (some ((0 : Int32), s)))
 else (if l2 < (0 : Int32) then (k_X13_match_86 rc l1 l2 (((131 : Int32) * (s.1 962 (l1.toNatClampNeg))) + k0) s)
 else (if t_ix l2 626600 = true then
  if (lg_cmp (s.2.1 1006 (l2.toNatClampNeg)) (4 : Int64)) = (0 : Int32) then (k_X13_match_86 rc l1 l2 (((131 : Int32) * (s.1 962 (l1.toNatClampNeg))) + k0) s)
 else (k_X13_match_91 rc l1 l2 (((131 : Int32) * (s.1 962 (l1.toNatClampNeg))) + k0) 0 s)
else none))
else none
else none
set_option maxRecDepth 4000 in
set_option maxHeartbeats 1000000 in
theorem B_X13_match_19 {D : va_G} {cy : Nat → ClassId} {ad : Nat → Nat} {bs : Nat} {X : State → Heap → Prop} (rc : RT_X13_assign) {k : Nat} (H : RH_X13_assign rc k) (l1 : Int32) (l2 : Int32) (k0 : Int32) (s : t_S) (Q : Int32 × t_S → Prop) (hk : t_hk (k_X13_match_19 rc l1 l2 k0 s) Q) : mj_G D cy ad bs X cX13_match 7 yX13_match.cls (some .boolean) yX13_match.name (102 + (k + 1)) 0 0 1065 (t_P (fun v s' => ∃ x, v = some (.int x) ∧ Q ((x, s')))) 19 [(0, .ref 950), (1, .int l1), (2, .int l2)] [.int k0] (t_m s) 1065 0 0 := by
  refine mj_istore_n 3 (lv2 := [(3, .int k0), (0, .ref 950), (1, .int l1), (2, .int l2)]) dX13_match_19 rfl (by decide) rfl ?_
  refine mj_sipush (v := 131) dX13_match_20 (by decide) ?_
  refine mj_aload_n dX13_match_23 1 rfl ?_
  refine t_getR 962 dX13_match_24 F_X13_48 qr_950_25 ?_
  refine mj_iload_n dX13_match_27 2 rfl ?_
  refine t_chkK hk (fun c0 hk => ?_)
  refine t_iald dX13_match_28 qa_962 (t_ixv c0) ?_
  refine mj_imul dX13_match_29 ?_
  refine mj_iload_n dX13_match_30 0 rfl ?_
  refine mj_iadd dX13_match_31 ?_
  refine mj_istore (lv2 := [(4, .int (((131 : Int32) * (s.1 962 (l1.toNatClampNeg))) + k0)), (3, .int k0), (0, .ref 950), (1, .int l1), (2, .int l2)]) dX13_match_32 (by decide) rfl ?_
  refine mj_aload_n dX13_match_34 2 rfl ?_
  refine t_getR 1028 dX13_match_35 F_X13_252 qr_950_136 ?_
  refine mj_iload dX13_match_38 0 rfl ?_
  refine t_chkK hk (fun c1 hk => ?_)
  refine t_iald dX13_match_40 qa_1028 (t_ixv c1) ?_
  refine mj_iconst (v := 2) dX13_match_41 (by decide) ?_
  refine mj_idiv dX13_match_42 (by decide) ?_
  refine mj_aload_n dX13_match_43 2 rfl ?_
  refine t_getI dX13_match_44 F_X13_1224 qf_950_137 ?_
  refine mj_icmp_ne 69 dX13_match_47 (by decide) (fun z => t_negK hk z (fun hk => ?_)) (fun z => t_posK hk z (fun hk => ?_))
  · refine mj_iload_n dX13_match_69 4 rfl ?_
    refine mj_if_lt 86 dX13_match_70 (by decide) (fun z => t_posK hk z (fun hk => ?_)) (fun z => t_negK hk z (fun hk => ?_))
    · refine mj_sublv [(0, .ref 950), (1, .int l1), (2, .int l2), (4, .int (((131 : Int32) * (s.1 962 (l1.toNatClampNeg))) + k0))] [2, 3, 4, 0] rfl ?_
      exact B_X13_match_86 rc H _ _ _ _ _ hk
    · refine mj_aload_n dX13_match_73 2 rfl ?_
      refine t_getR 1006 dX13_match_74 F_X13_182 qr_950_95 ?_
      refine mj_iload_n dX13_match_77 4 rfl ?_
      refine t_chkK hk (fun c2 hk => ?_)
      refine t_lald dX13_match_78 qa_1006 (t_ixv c2) ?_
      refine mj_ldc2 dX13_match_79 K_X13_969 ?_
      refine mj_lcmp dX13_match_82 ?_
      refine mj_if_ne 90 dX13_match_83 (by decide) (fun z => t_negK hk z (fun hk => ?_)) (fun z => t_posK hk z (fun hk => ?_))
      · refine mj_iconst (v := 0) dX13_match_90 (by decide) ?_
        refine mj_sublv [(0, .ref 950), (1, .int l1), (2, .int l2), (4, .int (((131 : Int32) * (s.1 962 (l1.toNatClampNeg))) + k0))] [2, 3, 4, 0] rfl ?_
        exact B_X13_match_91 rc H _ _ _ _ _ _ hk
      · refine mj_sublv [(0, .ref 950), (1, .int l1), (2, .int l2), (4, .int (((131 : Int32) * (s.1 962 (l1.toNatClampNeg))) + k0))] [2, 3, 4, 0] rfl ?_
        exact B_X13_match_86 rc H _ _ _ _ _ hk
  · refine mj_aload_n dX13_match_50 2 rfl ?_
    refine t_getR 1028 dX13_match_51 F_X13_252 qr_950_136 ?_
    refine mj_iload dX13_match_54 0 rfl ?_
    refine t_iald dX13_match_56 qa_1028 (t_ixv c1) ?_
    refine mj_iconst (v := 2) dX13_match_57 (by decide) ?_
    refine mj_irem dX13_match_58 (by decide) ?_
    refine mj_iconst (v := 1) dX13_match_59 (by decide) ?_
    refine mj_icmp_ne 67 dX13_match_60 (by decide) (fun z => t_negK hk z (fun hk => ?_)) (fun z => t_posK hk z (fun hk => ?_))
    · refine mj_iconst (v := 0) dX13_match_67 (by decide) ?_
      exact t_somK hk (fun hf => t_iret dX13_match_68 rfl (by decide) ⟨_, rfl, hf⟩ (Nat.le_of_ble_eq_true rfl) (Nat.le_of_ble_eq_true rfl))
    · refine mj_iconst (v := 1) dX13_match_63 (by decide) ?_
      refine mj_goto 68 dX13_match_64 (by decide) ?_
      exact t_somK hk (fun hf => t_iret dX13_match_68 rfl (by decide) ⟨_, rfl, hf⟩ (Nat.le_of_ble_eq_true rfl) (Nat.le_of_ble_eq_true rfl))
noncomputable def m_X13_match (rc : RT_X13_assign) (x2 : Int32) (x3 : Int32) (s : t_S) : Option (Int32 × t_S) :=
 if (0 : Int32) ≤ x3 then (if t_ix (x3 - (s.1 950 141)) 270 = true then
  k_X13_match_19 rc x2 x3 (s.1 1029 ((x3 - (s.1 950 141)).toNatClampNeg)) s
else none)
 else (k_X13_match_19 rc x2 x3 0 s)
set_option maxRecDepth 4000 in
set_option maxHeartbeats 1000000 in
theorem E_X13_match (rc : RT_X13_assign) {k : Nat} (H : RH_X13_assign rc k) (x2 : Int32) (x3 : Int32) (s : t_S) (r : Int32 × t_S) (hr : m_X13_match rc x2 x3 s = some r) : t_C yX13_match cX13_match 7 (some .boolean) (102 + (k + 1)) [.ref 950, .int x2, .int x3] s (fun v s' => v = some (.int r.1) ∧ s' = r.2) := by
  refine t_C.imp (P := fun v s' => ∃ x, v = some (.int x) ∧ (fun q => q = r) ((x, s'))) (t_C.of (by decide +kernel) (Nat.le_of_ble_eq_true rfl) ?_) (fun v s' hp => by obtain ⟨x, rfl, rfl⟩ := hp; exact ⟨rfl, rfl⟩)
  intro D cy ad bs X
  have hk : t_hk (m_X13_match rc x2 x3 s) (fun q => q = r) := ⟨r, hr, rfl⟩
  show mj_G D cy ad bs X cX13_match 7 yX13_match.cls (some .boolean) yX13_match.name (102 + (k + 1)) 0 0 1065 (t_P (fun v s' => ∃ x, v = some (.int x) ∧ (fun q => q = r) ((x, s')))) 0 [(0, .ref 950), (1, .int x2), (2, .int x3)] [] (t_m s) 1065 0 0
  refine mj_iload_n dX13_match_0 2 rfl ?_
  refine mj_if_ge 8 dX13_match_1 (by decide) (fun z => t_posK hk z (fun hk => ?_)) (fun z => t_negK hk z (fun hk => ?_))
  · refine mj_aload_n dX13_match_8 0 rfl ?_
    refine t_getR 1029 dX13_match_9 F_X13_255 qr_950_139 ?_
    refine mj_iload_n dX13_match_12 2 rfl ?_
    refine mj_aload_n dX13_match_13 0 rfl ?_
    refine t_getI dX13_match_14 F_X13_1227 qf_950_141 ?_
    refine mj_isub dX13_match_17 ?_
    refine t_chkK hk (fun c0 hk => ?_)
    refine t_iald dX13_match_18 qa_1029 (t_ixv c0) ?_
    exact B_X13_match_19 rc H _ _ _ _ _ hk
  · refine mj_iconst (v := 0) dX13_match_4 (by decide) ?_
    refine mj_goto 19 dX13_match_5 (by decide) ?_
    exact B_X13_match_19 rc H _ _ _ _ _ hk
noncomputable def k_X13_omitMatch_218 (rc : RT_X13_assign) (l3 : Int32) (l5 : Int32) (k0 : Int32) (s : t_S) : Option ((Int32 × Int32 × Int32 × t_S) ⊕ (Int32 × t_S)) :=
 if t_ix l5 13000 = true then
  some (.inl (l3, k0, (s.1 960 (l5.toNatClampNeg)), s))
else none
set_option maxRecDepth 4000 in
set_option maxHeartbeats 1000000 in
theorem B_X13_omitMatch_218 {D : va_G} {cy : Nat → ClassId} {ad : Nat → Nat} {bs : Nat} {X : State → Heap → Prop} (rc : RT_X13_assign) {k : Nat} (H : RH_X13_assign rc k) (l3 : Int32) (l5 : Int32) (k0 : Int32) (s : t_S) (Q : (Int32 × Int32 × Int32 × t_S) ⊕ (Int32 × t_S) → Prop) (Hb167 : ∀ (y0 : Int32) (y1 : Int32) (y2 : Int32) (y3 : t_S), Q (.inl (y0, y1, y2, y3)) → mj_G D cy ad bs X cX13_omitMatch 7 yX13_omitMatch.cls (some .boolean) yX13_omitMatch.name (102 + (k + 1)) 0 0 1065 (t_P (fun v s' => ∃ x, v = some (.int x) ∧ Q (.inr ((x, s'))))) 167 [(0, .ref 950), (3, .int (y0)), (4, .int (y1)), (5, .int (y2))] [] (t_m y3) 1065 0 0) (hk : t_hk (k_X13_omitMatch_218 rc l3 l5 k0 s) Q) : mj_G D cy ad bs X cX13_omitMatch 7 yX13_omitMatch.cls (some .boolean) yX13_omitMatch.name (102 + (k + 1)) 0 0 1065 (t_P (fun v s' => ∃ x, v = some (.int x) ∧ Q (.inr ((x, s'))))) 218 [(0, .ref 950), (3, .int l3), (5, .int l5)] [.int k0] (t_m s) 1065 0 0 := by
  refine mj_istore (lv2 := [(4, .int k0), (0, .ref 950), (3, .int l3), (5, .int l5)]) dX13_omitMatch_218 (by decide) rfl ?_
  refine mj_aload_n dX13_omitMatch_220 1 rfl ?_
  refine t_getR 960 dX13_omitMatch_221 F_X13_42 qr_950_22 ?_
  refine mj_iload dX13_omitMatch_224 3 rfl ?_
  refine t_chkK hk (fun c0 hk => ?_)
  refine t_iald dX13_omitMatch_226 qa_960 (t_ixv c0) ?_
  refine mj_istore (lv2 := [(5, .int (s.1 960 (l5.toNatClampNeg))), (4, .int k0), (0, .ref 950), (3, .int l3)]) dX13_omitMatch_227 (by decide) rfl ?_
  refine mj_goto 167 dX13_omitMatch_229 (by decide) ?_
  refine mj_sublv [(0, .ref 950), (3, .int l3), (4, .int k0), (5, .int (s.1 960 (l5.toNatClampNeg)))] [2, 3, 1, 0] rfl ?_
  exact t_somK hk (fun hf => Hb167 l3 k0 (s.1 960 (l5.toNatClampNeg)) s hf)
noncomputable def k_X13_omitMatch_213 (rc : RT_X13_assign) (l3 : Int32) (l5 : Int32) (s : t_S) : Option ((Int32 × Int32 × Int32 × t_S) ⊕ (Int32 × t_S)) :=
 k_X13_omitMatch_218 rc l3 l5 1 s
set_option maxRecDepth 4000 in
set_option maxHeartbeats 1000000 in
theorem B_X13_omitMatch_213 {D : va_G} {cy : Nat → ClassId} {ad : Nat → Nat} {bs : Nat} {X : State → Heap → Prop} (rc : RT_X13_assign) {k : Nat} (H : RH_X13_assign rc k) (l3 : Int32) (l5 : Int32) (s : t_S) (Q : (Int32 × Int32 × Int32 × t_S) ⊕ (Int32 × t_S) → Prop) (Hb167 : ∀ (y0 : Int32) (y1 : Int32) (y2 : Int32) (y3 : t_S), Q (.inl (y0, y1, y2, y3)) → mj_G D cy ad bs X cX13_omitMatch 7 yX13_omitMatch.cls (some .boolean) yX13_omitMatch.name (102 + (k + 1)) 0 0 1065 (t_P (fun v s' => ∃ x, v = some (.int x) ∧ Q (.inr ((x, s'))))) 167 [(0, .ref 950), (3, .int (y0)), (4, .int (y1)), (5, .int (y2))] [] (t_m y3) 1065 0 0) (hk : t_hk (k_X13_omitMatch_213 rc l3 l5 s) Q) : mj_G D cy ad bs X cX13_omitMatch 7 yX13_omitMatch.cls (some .boolean) yX13_omitMatch.name (102 + (k + 1)) 0 0 1065 (t_P (fun v s' => ∃ x, v = some (.int x) ∧ Q (.inr ((x, s'))))) 213 [(0, .ref 950), (3, .int l3), (5, .int l5)] [] (t_m s) 1065 0 0 := by
  refine mj_iconst (v := 1) dX13_omitMatch_213 (by decide) ?_
  refine mj_goto 218 dX13_omitMatch_214 (by decide) ?_
  exact B_X13_omitMatch_218 rc H _ _ _ _ _ (fun y0 y1 y2 y3 hx => Hb167 y0 y1 y2 y3 hx) hk
noncomputable def k_X13_omitMatch_199 (rc : RT_X13_assign) (l3 : Int32) (l5 : Int32) (s : t_S) : Option ((Int32 × Int32 × Int32 × t_S) ⊕ (Int32 × t_S)) :=
 k_X13_omitMatch_218 rc l3 l5 0 s
set_option maxRecDepth 4000 in
set_option maxHeartbeats 1000000 in
theorem B_X13_omitMatch_199 {D : va_G} {cy : Nat → ClassId} {ad : Nat → Nat} {bs : Nat} {X : State → Heap → Prop} (rc : RT_X13_assign) {k : Nat} (H : RH_X13_assign rc k) (l3 : Int32) (l5 : Int32) (s : t_S) (Q : (Int32 × Int32 × Int32 × t_S) ⊕ (Int32 × t_S) → Prop) (Hb167 : ∀ (y0 : Int32) (y1 : Int32) (y2 : Int32) (y3 : t_S), Q (.inl (y0, y1, y2, y3)) → mj_G D cy ad bs X cX13_omitMatch 7 yX13_omitMatch.cls (some .boolean) yX13_omitMatch.name (102 + (k + 1)) 0 0 1065 (t_P (fun v s' => ∃ x, v = some (.int x) ∧ Q (.inr ((x, s'))))) 167 [(0, .ref 950), (3, .int (y0)), (4, .int (y1)), (5, .int (y2))] [] (t_m y3) 1065 0 0) (hk : t_hk (k_X13_omitMatch_199 rc l3 l5 s) Q) : mj_G D cy ad bs X cX13_omitMatch 7 yX13_omitMatch.cls (some .boolean) yX13_omitMatch.name (102 + (k + 1)) 0 0 1065 (t_P (fun v s' => ∃ x, v = some (.int x) ∧ Q (.inr ((x, s'))))) 199 [(0, .ref 950), (3, .int l3), (5, .int l5)] [] (t_m s) 1065 0 0 := by
  refine mj_iconst (v := 0) dX13_omitMatch_199 (by decide) ?_
  refine mj_goto 218 dX13_omitMatch_200 (by decide) ?_
  exact B_X13_omitMatch_218 rc H _ _ _ _ _ (fun y0 y1 y2 y3 hx => Hb167 y0 y1 y2 y3 hx) hk
noncomputable def k_X13_omitMatch_167 (rc : RT_X13_assign) (l3 : Int32) (l4 : Int32) (l5 : Int32) (s : t_S) : Option ((Int32 × Int32 × Int32 × t_S) ⊕ (Int32 × t_S)) :=
 if l5 < (0 : Int32) then ((if l4 = 0 ∨ l4 = 1 then
  some (l4, s)
else none).map Sum.inr)
 else ((rc.2.2.2.2.1 l5 (-1 : Int32) s).bind (fun r2 =>
 if l3 = (0 : Int32) then (if l4 = (0 : Int32) then (if r2.1 = (0 : Int32) then (k_X13_omitMatch_218 rc l3 l5 0 r2.2)
 else (k_X13_omitMatch_213 rc l3 l5 r2.2))
 else (k_X13_omitMatch_213 rc l3 l5 r2.2))
 else (if l4 = (0 : Int32) then (k_X13_omitMatch_199 rc l3 l5 r2.2)
 else (if r2.1 = (0 : Int32) then (k_X13_omitMatch_199 rc l3 l5 r2.2)
 else (k_X13_omitMatch_218 rc l3 l5 1 r2.2)))))
set_option maxRecDepth 4000 in
set_option maxHeartbeats 1000000 in
theorem B_X13_omitMatch_167 {D : va_G} {cy : Nat → ClassId} {ad : Nat → Nat} {bs : Nat} {X : State → Heap → Prop} (rc : RT_X13_assign) {k : Nat} (H : RH_X13_assign rc k) (l3 : Int32) (l4 : Int32) (l5 : Int32) (s : t_S) (Q : (Int32 × Int32 × Int32 × t_S) ⊕ (Int32 × t_S) → Prop) (Hb167 : ∀ (y0 : Int32) (y1 : Int32) (y2 : Int32) (y3 : t_S), Q (.inl (y0, y1, y2, y3)) → mj_G D cy ad bs X cX13_omitMatch 7 yX13_omitMatch.cls (some .boolean) yX13_omitMatch.name (102 + (k + 1)) 0 0 1065 (t_P (fun v s' => ∃ x, v = some (.int x) ∧ Q (.inr ((x, s'))))) 167 [(0, .ref 950), (3, .int (y0)), (4, .int (y1)), (5, .int (y2))] [] (t_m y3) 1065 0 0) (hk : t_hk (k_X13_omitMatch_167 rc l3 l4 l5 s) Q) : mj_G D cy ad bs X cX13_omitMatch 7 yX13_omitMatch.cls (some .boolean) yX13_omitMatch.name (102 + (k + 1)) 0 0 1065 (t_P (fun v s' => ∃ x, v = some (.int x) ∧ Q (.inr ((x, s'))))) 167 [(0, .ref 950), (3, .int l3), (4, .int l4), (5, .int l5)] [] (t_m s) 1065 0 0 := by
  refine mj_iload dX13_omitMatch_167 3 rfl ?_
  refine mj_if_lt 232 dX13_omitMatch_169 (by decide) (fun z => t_posK hk z (fun hk => ?_)) (fun z => t_negK hk z (fun hk => ?_))
  · refine t_mapK hk (fun hk => ?_)
    refine mj_iload dX13_omitMatch_232 2 rfl ?_
    refine t_chkK hk (fun c0 hk => ?_)
    exact t_somK hk (fun hf => t_iret dX13_omitMatch_234 rfl (t_zfit c0) ⟨_, rfl, hf⟩ (Nat.le_of_ble_eq_true rfl) (Nat.le_of_ble_eq_true rfl))
  · refine mj_aload_n dX13_omitMatch_172 0 rfl ?_
    refine mj_iload dX13_omitMatch_173 3 rfl ?_
    refine mj_iconst (v := (-1)) dX13_omitMatch_175 (by decide) ?_
    refine t_bndK hk (fun r2 er2 hk => ?_)
    refine t_callSiE dX13_omitMatch_176 M_X13_match (H.2.2.2.2.1 _ _ _ _ er2) ML_X13_1233 SM_X13_match (As := [.ref 950, .int l5, .int (-1)]) rfl rfl (by omega) (Nat.le_of_ble_eq_true rfl) (Nat.le_of_ble_eq_true rfl) (Nat.le_of_ble_eq_true rfl) ?_
    refine mj_istore (lv2 := [(6, .int r2.1), (0, .ref 950), (3, .int l3), (4, .int l4), (5, .int l5)]) dX13_omitMatch_179 (by decide) rfl ?_
    refine mj_iload_n dX13_omitMatch_181 2 rfl ?_
    refine mj_if_eq 203 dX13_omitMatch_182 (by decide) (fun z => t_posK hk z (fun hk => ?_)) (fun z => t_negK hk z (fun hk => ?_))
    · refine mj_iload dX13_omitMatch_203 3 rfl ?_
      refine mj_if_ne 213 dX13_omitMatch_205 (by decide) (fun z => t_negK hk z (fun hk => ?_)) (fun z => t_posK hk z (fun hk => ?_))
      · refine mj_sublv [(0, .ref 950), (3, .int l3), (5, .int l5)] [1, 2, 4] rfl ?_
        exact B_X13_omitMatch_213 rc H _ _ _ _ (fun y0 y1 y2 y3 hx => Hb167 y0 y1 y2 y3 hx) hk
      · refine mj_iload dX13_omitMatch_208 0 rfl ?_
        refine mj_if_eq 217 dX13_omitMatch_210 (by decide) (fun z => t_posK hk z (fun hk => ?_)) (fun z => t_negK hk z (fun hk => ?_))
        · refine mj_iconst (v := 0) dX13_omitMatch_217 (by decide) ?_
          refine mj_sublv [(0, .ref 950), (3, .int l3), (5, .int l5)] [1, 2, 4] rfl ?_
          exact B_X13_omitMatch_218 rc H _ _ _ _ _ (fun y0 y1 y2 y3 hx => Hb167 y0 y1 y2 y3 hx) hk
        · refine mj_sublv [(0, .ref 950), (3, .int l3), (5, .int l5)] [1, 2, 4] rfl ?_
          exact B_X13_omitMatch_213 rc H _ _ _ _ (fun y0 y1 y2 y3 hx => Hb167 y0 y1 y2 y3 hx) hk
    · refine mj_iload dX13_omitMatch_185 3 rfl ?_
      refine mj_if_eq 199 dX13_omitMatch_187 (by decide) (fun z => t_posK hk z (fun hk => ?_)) (fun z => t_negK hk z (fun hk => ?_))
      · refine mj_sublv [(0, .ref 950), (3, .int l3), (5, .int l5)] [1, 2, 4] rfl ?_
        exact B_X13_omitMatch_199 rc H _ _ _ _ (fun y0 y1 y2 y3 hx => Hb167 y0 y1 y2 y3 hx) hk
      · refine mj_iload dX13_omitMatch_190 0 rfl ?_
        refine mj_if_eq 199 dX13_omitMatch_192 (by decide) (fun z => t_posK hk z (fun hk => ?_)) (fun z => t_negK hk z (fun hk => ?_))
        · refine mj_sublv [(0, .ref 950), (3, .int l3), (5, .int l5)] [1, 2, 4] rfl ?_
          exact B_X13_omitMatch_199 rc H _ _ _ _ (fun y0 y1 y2 y3 hx => Hb167 y0 y1 y2 y3 hx) hk
        · refine mj_iconst (v := 1) dX13_omitMatch_195 (by decide) ?_
          refine mj_goto 218 dX13_omitMatch_196 (by decide) ?_
          refine mj_sublv [(0, .ref 950), (3, .int l3), (5, .int l5)] [1, 2, 4] rfl ?_
          exact B_X13_omitMatch_218 rc H _ _ _ _ _ (fun y0 y1 y2 y3 hx => Hb167 y0 y1 y2 y3 hx) hk
noncomputable def b_X13_omitMatch_167 (rc : RT_X13_assign) (x : Int32 × Int32 × Int32 × t_S) : Option ((Int32 × Int32 × Int32 × t_S) ⊕ (Int32 × t_S)) := k_X13_omitMatch_167 rc x.1 x.2.1 x.2.2.1 x.2.2.2
set_option maxRecDepth 4000 in
set_option maxHeartbeats 1000000 in
theorem LH_X13_omitMatch_167 {D : va_G} {cy : Nat → ClassId} {ad : Nat → Nat} {bs : Nat} {X : State → Heap → Prop} (rc : RT_X13_assign) {k : Nat} (H : RH_X13_assign rc k) : ∀ (n : Nat) (y0 : Int32) (y1 : Int32) (y2 : Int32) (y3 : t_S) (Q : Int32 × t_S → Prop) (hk : t_hk (t_loop (b_X13_omitMatch_167 rc) n (y0, y1, y2, y3)) Q), mj_G D cy ad bs X cX13_omitMatch 7 yX13_omitMatch.cls (some .boolean) yX13_omitMatch.name (102 + (k + 1)) 0 0 1065 (t_P (fun v s' => ∃ x, v = some (.int x) ∧ Q ((x, s')))) 167 [(0, .ref 950), (3, .int (y0)), (4, .int (y1)), (5, .int (y2))] [] (t_m y3) 1065 0 0 := by
  intro n
  induction n with
  | zero => intro y0 y1 y2 y3 Q hk; obtain ⟨r, hr, _⟩ := hk; cases hr
  | succ n ih =>
    intro y0 y1 y2 y3 Q hk
    exact B_X13_omitMatch_167 rc H y0 y1 y2 y3 (fun y => t_lq (b_X13_omitMatch_167 rc) n Q y) (fun y0' y1' y2' y3' hy => ih y0' y1' y2' y3' Q hy) (t_lp (b := b_X13_omitMatch_167 rc) (n := n) (x := (y0, y1, y2, y3)) hk)
noncomputable def k_X13_omitMatch_155 (rc : RT_X13_assign) (l1 : Int32) (k0 : Int32) (s : t_S) : Option (Int32 × t_S) :=
 if t_ix l1 13000 = true then
  t_loop (b_X13_omitMatch_167 rc) t_N (k0, k0, (s.1 959 (l1.toNatClampNeg)), s)
else none
set_option maxRecDepth 4000 in
set_option maxHeartbeats 1000000 in
theorem B_X13_omitMatch_155 {D : va_G} {cy : Nat → ClassId} {ad : Nat → Nat} {bs : Nat} {X : State → Heap → Prop} (rc : RT_X13_assign) {k : Nat} (H : RH_X13_assign rc k) (l1 : Int32) (k0 : Int32) (s : t_S) (Q : Int32 × t_S → Prop) (hk : t_hk (k_X13_omitMatch_155 rc l1 k0 s) Q) : mj_G D cy ad bs X cX13_omitMatch 7 yX13_omitMatch.cls (some .boolean) yX13_omitMatch.name (102 + (k + 1)) 0 0 1065 (t_P (fun v s' => ∃ x, v = some (.int x) ∧ Q ((x, s')))) 155 [(0, .ref 950), (1, .int l1)] [.int k0] (t_m s) 1065 0 0 := by
  refine mj_istore_n 3 (lv2 := [(3, .int k0), (0, .ref 950), (1, .int l1)]) dX13_omitMatch_155 rfl (by decide) rfl ?_
  refine mj_iload_n dX13_omitMatch_156 0 rfl ?_
  refine mj_istore (lv2 := [(4, .int k0), (3, .int k0), (0, .ref 950), (1, .int l1)]) dX13_omitMatch_157 (by decide) rfl ?_
  refine mj_aload_n dX13_omitMatch_159 2 rfl ?_
  refine t_getR 959 dX13_omitMatch_160 F_X13_39 qr_950_21 ?_
  refine mj_iload_n dX13_omitMatch_163 3 rfl ?_
  refine t_chkK hk (fun c0 hk => ?_)
  refine t_iald dX13_omitMatch_164 qa_959 (t_ixv c0) ?_
  refine mj_istore (lv2 := [(5, .int (s.1 959 (l1.toNatClampNeg))), (4, .int k0), (3, .int k0), (0, .ref 950), (1, .int l1)]) dX13_omitMatch_165 (by decide) rfl ?_
  refine mj_sublv [(0, .ref 950), (3, .int k0), (4, .int k0), (5, .int (s.1 959 (l1.toNatClampNeg)))] [3, 2, 1, 0] rfl ?_
  exact LH_X13_omitMatch_167 rc H _ k0 k0 (s.1 959 (l1.toNatClampNeg)) s _ hk
noncomputable def m_X13_omitMatch (rc : RT_X13_assign) (x2 : Int32) (s : t_S) : Option (Int32 × t_S) :=
 if t_ix x2 13000 = true then
  if (s.1 955 (x2.toNatClampNeg)).toInt < 21 ∨ 38 < (s.1 955 (x2.toNatClampNeg)).toInt then (some ((0 : Int32), s))
 else if (s.1 955 (x2.toNatClampNeg)).toInt = 21 then (some ((1 : Int32), s))
 else if (s.1 955 (x2.toNatClampNeg)).toInt = 22 then (some ((0 : Int32), s))
 else if (s.1 955 (x2.toNatClampNeg)).toInt = 23 then (some ((0 : Int32), s))
 else if (s.1 955 (x2.toNatClampNeg)).toInt = 24 then (some ((0 : Int32), s))
 else if (s.1 955 (x2.toNatClampNeg)).toInt = 25 then (some ((0 : Int32), s))
 else if (s.1 955 (x2.toNatClampNeg)).toInt = 26 then (some ((0 : Int32), s))
 else if (s.1 955 (x2.toNatClampNeg)).toInt = 27 then (some ((1 : Int32), s))
 else if (s.1 955 (x2.toNatClampNeg)).toInt = 28 then ((f_X13_find 967 (0 : Int32) (s.1 950 44) ((s.2.1 957 (x2.toNatClampNeg)).toInt32) s).bind (fun r2 =>
 if r2 < (0 : Int32) then (some ((0 : Int32), s))
 else (if t_ix r2 60 = true then
  (rc.2.2.2.2.1 (s.1 968 (r2.toNatClampNeg)) (-1 : Int32) s).bind (fun r4 =>
 if r4.1 = (0 : Int32) then (some ((0 : Int32), r4.2))
 else (some ((1 : Int32), r4.2)))
else none)))
 else if (s.1 955 (x2.toNatClampNeg)).toInt = 29 then (some ((0 : Int32), s))
 else if (s.1 955 (x2.toNatClampNeg)).toInt = 30 then (some ((0 : Int32), s))
 else if (s.1 955 (x2.toNatClampNeg)).toInt = 31 then (some ((0 : Int32), s))
 else if (s.1 955 (x2.toNatClampNeg)).toInt = 32 then (some ((0 : Int32), s))
 else if (s.1 955 (x2.toNatClampNeg)).toInt = 33 then (if (s.1 955 (x2.toNatClampNeg)) = (33 : Int32) then (k_X13_omitMatch_155 rc x2 1 s)
 else (k_X13_omitMatch_155 rc x2 0 s))
 else if (s.1 955 (x2.toNatClampNeg)).toInt = 34 then (if (s.1 955 (x2.toNatClampNeg)) = (33 : Int32) then (k_X13_omitMatch_155 rc x2 1 s)
 else (k_X13_omitMatch_155 rc x2 0 s))
 else if (s.1 955 (x2.toNatClampNeg)).toInt = 35 then (some ((0 : Int32), s))
 else if (s.1 955 (x2.toNatClampNeg)).toInt = 36 then (some ((0 : Int32), s))
 else if (s.1 955 (x2.toNatClampNeg)).toInt = 37 then (some ((0 : Int32), s))
 else (if t_ix (s.1 1026 (x2.toNatClampNeg)) 370000 = true then
  if (lg_cmp (s.2.1 1027 ((s.1 1026 (x2.toNatClampNeg)).toNatClampNeg)) (4 : Int64)) = (0 : Int32) then (some ((1 : Int32), s))
 else (some ((0 : Int32), s))
else none)
else none
set_option maxRecDepth 4000 in
set_option maxHeartbeats 1000000 in
theorem E_X13_omitMatch (rc : RT_X13_assign) {k : Nat} (H : RH_X13_assign rc k) (x2 : Int32) (s : t_S) (r : Int32 × t_S) (hr : m_X13_omitMatch rc x2 s = some r) : t_C yX13_omitMatch cX13_omitMatch 7 (some .boolean) (102 + (k + 1)) [.ref 950, .int x2] s (fun v s' => v = some (.int r.1) ∧ s' = r.2) := by
  refine t_C.imp (P := fun v s' => ∃ x, v = some (.int x) ∧ (fun q => q = r) ((x, s'))) (t_C.of (by decide +kernel) (Nat.le_of_ble_eq_true rfl) ?_) (fun v s' hp => by obtain ⟨x, rfl, rfl⟩ := hp; exact ⟨rfl, rfl⟩)
  intro D cy ad bs X
  have hk : t_hk (m_X13_omitMatch rc x2 s) (fun q => q = r) := ⟨r, hr, rfl⟩
  show mj_G D cy ad bs X cX13_omitMatch 7 yX13_omitMatch.cls (some .boolean) yX13_omitMatch.name (102 + (k + 1)) 0 0 1065 (t_P (fun v s' => ∃ x, v = some (.int x) ∧ (fun q => q = r) ((x, s')))) 0 [(0, .ref 950), (1, .int x2)] [] (t_m s) 1065 0 0
  refine mj_aload_n dX13_omitMatch_0 0 rfl ?_
  refine t_getR 955 dX13_omitMatch_1 F_X13_26 qr_950_17 ?_
  refine mj_iload_n dX13_omitMatch_4 1 rfl ?_
  refine t_chkK hk (fun c0 hk => ?_)
  refine t_iald dX13_omitMatch_5 qa_955 (t_ixv c0) ?_
  by_cases hout : (s.1 955 (x2.toNatClampNeg)).toInt < 21 ∨ 38 < (s.1 955 (x2.toNatClampNeg)).toInt
  · replace hk := t_pos hk hout
    refine mj_tableOut 259 dX13_omitMatch_6 hout (by decide) ?_
    refine mj_iconst (v := 0) dX13_omitMatch_259 (by decide) ?_
    exact t_somK hk (fun hf => t_iret dX13_omitMatch_260 rfl (by decide) ⟨_, rfl, hf⟩ (Nat.le_of_ble_eq_true rfl) (Nat.le_of_ble_eq_true rfl))
  · replace hk := t_neg hk hout
    have hh1 : ¬ (s.1 955 (x2.toNatClampNeg)).toInt < 21 := fun z => hout (Or.inl z)
    have hh2 : ¬ (38 : Int) < (s.1 955 (x2.toNatClampNeg)).toInt := fun z => hout (Or.inr z)
    by_cases h0 : (s.1 955 (x2.toNatClampNeg)).toInt = 21
    · replace hk := t_pos hk h0
      refine mj_tableIn 92 dX13_omitMatch_6 hh1 hh2 (by rw [h0]; rfl) (by decide) ?_
      refine mj_iconst (v := 1) dX13_omitMatch_92 (by decide) ?_
      exact t_somK hk (fun hf => t_iret dX13_omitMatch_93 rfl (by decide) ⟨_, rfl, hf⟩ (Nat.le_of_ble_eq_true rfl) (Nat.le_of_ble_eq_true rfl))
    replace hk := t_neg hk h0
    by_cases h1 : (s.1 955 (x2.toNatClampNeg)).toInt = 22
    · replace hk := t_pos hk h1
      refine mj_tableIn 259 dX13_omitMatch_6 hh1 hh2 (by rw [h1]; rfl) (by decide) ?_
      refine mj_iconst (v := 0) dX13_omitMatch_259 (by decide) ?_
      exact t_somK hk (fun hf => t_iret dX13_omitMatch_260 rfl (by decide) ⟨_, rfl, hf⟩ (Nat.le_of_ble_eq_true rfl) (Nat.le_of_ble_eq_true rfl))
    replace hk := t_neg hk h1
    by_cases h2 : (s.1 955 (x2.toNatClampNeg)).toInt = 23
    · replace hk := t_pos hk h2
      refine mj_tableIn 259 dX13_omitMatch_6 hh1 hh2 (by rw [h2]; rfl) (by decide) ?_
      refine mj_iconst (v := 0) dX13_omitMatch_259 (by decide) ?_
      exact t_somK hk (fun hf => t_iret dX13_omitMatch_260 rfl (by decide) ⟨_, rfl, hf⟩ (Nat.le_of_ble_eq_true rfl) (Nat.le_of_ble_eq_true rfl))
    replace hk := t_neg hk h2
    by_cases h3 : (s.1 955 (x2.toNatClampNeg)).toInt = 24
    · replace hk := t_pos hk h3
      refine mj_tableIn 259 dX13_omitMatch_6 hh1 hh2 (by rw [h3]; rfl) (by decide) ?_
      refine mj_iconst (v := 0) dX13_omitMatch_259 (by decide) ?_
      exact t_somK hk (fun hf => t_iret dX13_omitMatch_260 rfl (by decide) ⟨_, rfl, hf⟩ (Nat.le_of_ble_eq_true rfl) (Nat.le_of_ble_eq_true rfl))
    replace hk := t_neg hk h3
    by_cases h4 : (s.1 955 (x2.toNatClampNeg)).toInt = 25
    · replace hk := t_pos hk h4
      refine mj_tableIn 259 dX13_omitMatch_6 hh1 hh2 (by rw [h4]; rfl) (by decide) ?_
      refine mj_iconst (v := 0) dX13_omitMatch_259 (by decide) ?_
      exact t_somK hk (fun hf => t_iret dX13_omitMatch_260 rfl (by decide) ⟨_, rfl, hf⟩ (Nat.le_of_ble_eq_true rfl) (Nat.le_of_ble_eq_true rfl))
    replace hk := t_neg hk h4
    by_cases h5 : (s.1 955 (x2.toNatClampNeg)).toInt = 26
    · replace hk := t_pos hk h5
      refine mj_tableIn 259 dX13_omitMatch_6 hh1 hh2 (by rw [h5]; rfl) (by decide) ?_
      refine mj_iconst (v := 0) dX13_omitMatch_259 (by decide) ?_
      exact t_somK hk (fun hf => t_iret dX13_omitMatch_260 rfl (by decide) ⟨_, rfl, hf⟩ (Nat.le_of_ble_eq_true rfl) (Nat.le_of_ble_eq_true rfl))
    replace hk := t_neg hk h5
    by_cases h6 : (s.1 955 (x2.toNatClampNeg)).toInt = 27
    · replace hk := t_pos hk h6
      refine mj_tableIn 92 dX13_omitMatch_6 hh1 hh2 (by rw [h6]; rfl) (by decide) ?_
      refine mj_iconst (v := 1) dX13_omitMatch_92 (by decide) ?_
      exact t_somK hk (fun hf => t_iret dX13_omitMatch_93 rfl (by decide) ⟨_, rfl, hf⟩ (Nat.le_of_ble_eq_true rfl) (Nat.le_of_ble_eq_true rfl))
    replace hk := t_neg hk h6
    by_cases h7 : (s.1 955 (x2.toNatClampNeg)).toInt = 28
    · replace hk := t_pos hk h7
      refine mj_tableIn 94 dX13_omitMatch_6 hh1 hh2 (by rw [h7]; rfl) (by decide) ?_
      refine mj_aload_n dX13_omitMatch_94 0 rfl ?_
      refine mj_aload_n dX13_omitMatch_95 0 rfl ?_
      refine t_getR 967 dX13_omitMatch_96 F_X13_63 qr_950_41 ?_
      refine mj_iconst (v := 0) dX13_omitMatch_99 (by decide) ?_
      refine mj_aload_n dX13_omitMatch_100 0 rfl ?_
      refine t_getI dX13_omitMatch_101 F_X13_627 qf_950_44 ?_
      refine mj_aload_n dX13_omitMatch_104 0 rfl ?_
      refine t_getR 957 dX13_omitMatch_105 F_X13_32 qr_950_19 ?_
      refine mj_iload_n dX13_omitMatch_108 1 rfl ?_
      refine t_lald dX13_omitMatch_109 qa_957 (t_ixv c0) ?_
      refine mj_l2i (v := (s.2.1 957 (x2.toNatClampNeg)).toInt32) dX13_omitMatch_110 rfl ?_
      refine t_bndK hk (fun r2 er2 hk => ?_)
      refine t_callViP dX13_omitMatch_111 M_X13_find (C_X13_find _ _ _ _ _ _ er2) ML_X13_788 IM_X13_find SE_X13_find qc_950 rfl (As := [.ref 967, .int 0, .int (s.1 950 44), .int ((s.2.1 957 (x2.toNatClampNeg)).toInt32)]) rfl rfl (by omega) (Nat.le_of_ble_eq_true rfl) (Nat.le_of_ble_eq_true rfl) (Nat.le_of_ble_eq_true rfl) ?_
      refine mj_istore_n 2 (lv2 := [(2, .int r2), (0, .ref 950), (1, .int x2)]) dX13_omitMatch_114 rfl (by decide) rfl ?_
      refine mj_iload_n dX13_omitMatch_115 0 rfl ?_
      refine mj_if_lt 137 dX13_omitMatch_116 (by decide) (fun z => t_posK hk z (fun hk => ?_)) (fun z => t_negK hk z (fun hk => ?_))
      · refine mj_iconst (v := 0) dX13_omitMatch_137 (by decide) ?_
        exact t_somK hk (fun hf => t_iret dX13_omitMatch_138 rfl (by decide) ⟨_, rfl, hf⟩ (Nat.le_of_ble_eq_true rfl) (Nat.le_of_ble_eq_true rfl))
      · refine mj_aload_n dX13_omitMatch_119 1 rfl ?_
        refine mj_aload_n dX13_omitMatch_120 1 rfl ?_
        refine t_getR 968 dX13_omitMatch_121 F_X13_66 qr_950_42 ?_
        refine mj_iload_n dX13_omitMatch_124 0 rfl ?_
        refine t_chkK hk (fun c2 hk => ?_)
        refine t_iald dX13_omitMatch_125 qa_968 (t_ixv c2) ?_
        refine mj_iconst (v := (-1)) dX13_omitMatch_126 (by decide) ?_
        refine t_bndK hk (fun r4 er4 hk => ?_)
        refine t_callSiE dX13_omitMatch_127 M_X13_match (H.2.2.2.2.1 _ _ _ _ er4) ML_X13_1233 SM_X13_match (As := [.ref 950, .int (s.1 968 (r2.toNatClampNeg)), .int (-1)]) rfl rfl (by omega) (Nat.le_of_ble_eq_true rfl) (Nat.le_of_ble_eq_true rfl) (Nat.le_of_ble_eq_true rfl) ?_
        refine mj_if_eq 137 dX13_omitMatch_130 (by decide) (fun z => t_posK hk z (fun hk => ?_)) (fun z => t_negK hk z (fun hk => ?_))
        · refine mj_iconst (v := 0) dX13_omitMatch_137 (by decide) ?_
          exact t_somK hk (fun hf => t_iret dX13_omitMatch_138 rfl (by decide) ⟨_, rfl, hf⟩ (Nat.le_of_ble_eq_true rfl) (Nat.le_of_ble_eq_true rfl))
        · refine mj_iconst (v := 1) dX13_omitMatch_133 (by decide) ?_
          refine mj_goto 138 dX13_omitMatch_134 (by decide) ?_
          exact t_somK hk (fun hf => t_iret dX13_omitMatch_138 rfl (by decide) ⟨_, rfl, hf⟩ (Nat.le_of_ble_eq_true rfl) (Nat.le_of_ble_eq_true rfl))
    replace hk := t_neg hk h7
    by_cases h8 : (s.1 955 (x2.toNatClampNeg)).toInt = 29
    · replace hk := t_pos hk h8
      refine mj_tableIn 259 dX13_omitMatch_6 hh1 hh2 (by rw [h8]; rfl) (by decide) ?_
      refine mj_iconst (v := 0) dX13_omitMatch_259 (by decide) ?_
      exact t_somK hk (fun hf => t_iret dX13_omitMatch_260 rfl (by decide) ⟨_, rfl, hf⟩ (Nat.le_of_ble_eq_true rfl) (Nat.le_of_ble_eq_true rfl))
    replace hk := t_neg hk h8
    by_cases h9 : (s.1 955 (x2.toNatClampNeg)).toInt = 30
    · replace hk := t_pos hk h9
      refine mj_tableIn 259 dX13_omitMatch_6 hh1 hh2 (by rw [h9]; rfl) (by decide) ?_
      refine mj_iconst (v := 0) dX13_omitMatch_259 (by decide) ?_
      exact t_somK hk (fun hf => t_iret dX13_omitMatch_260 rfl (by decide) ⟨_, rfl, hf⟩ (Nat.le_of_ble_eq_true rfl) (Nat.le_of_ble_eq_true rfl))
    replace hk := t_neg hk h9
    by_cases h10 : (s.1 955 (x2.toNatClampNeg)).toInt = 31
    · replace hk := t_pos hk h10
      refine mj_tableIn 259 dX13_omitMatch_6 hh1 hh2 (by rw [h10]; rfl) (by decide) ?_
      refine mj_iconst (v := 0) dX13_omitMatch_259 (by decide) ?_
      exact t_somK hk (fun hf => t_iret dX13_omitMatch_260 rfl (by decide) ⟨_, rfl, hf⟩ (Nat.le_of_ble_eq_true rfl) (Nat.le_of_ble_eq_true rfl))
    replace hk := t_neg hk h10
    by_cases h11 : (s.1 955 (x2.toNatClampNeg)).toInt = 32
    · replace hk := t_pos hk h11
      refine mj_tableIn 259 dX13_omitMatch_6 hh1 hh2 (by rw [h11]; rfl) (by decide) ?_
      refine mj_iconst (v := 0) dX13_omitMatch_259 (by decide) ?_
      exact t_somK hk (fun hf => t_iret dX13_omitMatch_260 rfl (by decide) ⟨_, rfl, hf⟩ (Nat.le_of_ble_eq_true rfl) (Nat.le_of_ble_eq_true rfl))
    replace hk := t_neg hk h11
    by_cases h12 : (s.1 955 (x2.toNatClampNeg)).toInt = 33
    · replace hk := t_pos hk h12
      refine mj_tableIn 139 dX13_omitMatch_6 hh1 hh2 (by rw [h12]; rfl) (by decide) ?_
      refine mj_aload_n dX13_omitMatch_139 0 rfl ?_
      refine t_getR 955 dX13_omitMatch_140 F_X13_26 qr_950_17 ?_
      refine mj_iload_n dX13_omitMatch_143 1 rfl ?_
      refine t_iald dX13_omitMatch_144 qa_955 (t_ixv c0) ?_
      refine mj_bipush (v := 33) dX13_omitMatch_145 (by decide) ?_
      refine mj_icmp_ne 154 dX13_omitMatch_147 (by decide) (fun z => t_negK hk z (fun hk => ?_)) (fun z => t_posK hk z (fun hk => ?_))
      · refine mj_iconst (v := 0) dX13_omitMatch_154 (by decide) ?_
        exact B_X13_omitMatch_155 rc H _ _ _ _ hk
      · refine mj_iconst (v := 1) dX13_omitMatch_150 (by decide) ?_
        refine mj_goto 155 dX13_omitMatch_151 (by decide) ?_
        exact B_X13_omitMatch_155 rc H _ _ _ _ hk
    replace hk := t_neg hk h12
    by_cases h13 : (s.1 955 (x2.toNatClampNeg)).toInt = 34
    · replace hk := t_pos hk h13
      refine mj_tableIn 139 dX13_omitMatch_6 hh1 hh2 (by rw [h13]; rfl) (by decide) ?_
      refine mj_aload_n dX13_omitMatch_139 0 rfl ?_
      refine t_getR 955 dX13_omitMatch_140 F_X13_26 qr_950_17 ?_
      refine mj_iload_n dX13_omitMatch_143 1 rfl ?_
      refine t_iald dX13_omitMatch_144 qa_955 (t_ixv c0) ?_
      refine mj_bipush (v := 33) dX13_omitMatch_145 (by decide) ?_
      refine mj_icmp_ne 154 dX13_omitMatch_147 (by decide) (fun z => t_negK hk z (fun hk => ?_)) (fun z => t_posK hk z (fun hk => ?_))
      · refine mj_iconst (v := 0) dX13_omitMatch_154 (by decide) ?_
        exact B_X13_omitMatch_155 rc H _ _ _ _ hk
      · refine mj_iconst (v := 1) dX13_omitMatch_150 (by decide) ?_
        refine mj_goto 155 dX13_omitMatch_151 (by decide) ?_
        exact B_X13_omitMatch_155 rc H _ _ _ _ hk
    replace hk := t_neg hk h13
    by_cases h14 : (s.1 955 (x2.toNatClampNeg)).toInt = 35
    · replace hk := t_pos hk h14
      refine mj_tableIn 259 dX13_omitMatch_6 hh1 hh2 (by rw [h14]; rfl) (by decide) ?_
      refine mj_iconst (v := 0) dX13_omitMatch_259 (by decide) ?_
      exact t_somK hk (fun hf => t_iret dX13_omitMatch_260 rfl (by decide) ⟨_, rfl, hf⟩ (Nat.le_of_ble_eq_true rfl) (Nat.le_of_ble_eq_true rfl))
    replace hk := t_neg hk h14
    by_cases h15 : (s.1 955 (x2.toNatClampNeg)).toInt = 36
    · replace hk := t_pos hk h15
      refine mj_tableIn 259 dX13_omitMatch_6 hh1 hh2 (by rw [h15]; rfl) (by decide) ?_
      refine mj_iconst (v := 0) dX13_omitMatch_259 (by decide) ?_
      exact t_somK hk (fun hf => t_iret dX13_omitMatch_260 rfl (by decide) ⟨_, rfl, hf⟩ (Nat.le_of_ble_eq_true rfl) (Nat.le_of_ble_eq_true rfl))
    replace hk := t_neg hk h15
    by_cases h16 : (s.1 955 (x2.toNatClampNeg)).toInt = 37
    · replace hk := t_pos hk h16
      refine mj_tableIn 259 dX13_omitMatch_6 hh1 hh2 (by rw [h16]; rfl) (by decide) ?_
      refine mj_iconst (v := 0) dX13_omitMatch_259 (by decide) ?_
      exact t_somK hk (fun hf => t_iret dX13_omitMatch_260 rfl (by decide) ⟨_, rfl, hf⟩ (Nat.le_of_ble_eq_true rfl) (Nat.le_of_ble_eq_true rfl))
    replace hk := t_neg hk h16
    have h17 : (s.1 955 (x2.toNatClampNeg)).toInt = 38 := by omega
    refine mj_tableIn 235 dX13_omitMatch_6 hh1 hh2 (by rw [h17]; rfl) (by decide) ?_
    refine mj_aload_n dX13_omitMatch_235 0 rfl ?_
    refine t_getR 1027 dX13_omitMatch_236 F_X13_248 qr_950_134 ?_
    refine mj_aload_n dX13_omitMatch_239 0 rfl ?_
    refine t_getR 1026 dX13_omitMatch_240 F_X13_244 qr_950_132 ?_
    refine mj_iload_n dX13_omitMatch_243 1 rfl ?_
    refine t_iald dX13_omitMatch_244 qa_1026 (t_ixv c0) ?_
    refine t_chkK hk (fun c4 hk => ?_)
    refine t_lald dX13_omitMatch_245 qa_1027 (t_ixv c4) ?_
    refine mj_ldc2 dX13_omitMatch_246 K_X13_969 ?_
    refine mj_lcmp dX13_omitMatch_249 ?_
    refine mj_if_ne 257 dX13_omitMatch_250 (by decide) (fun z => t_negK hk z (fun hk => ?_)) (fun z => t_posK hk z (fun hk => ?_))
    · refine mj_iconst (v := 0) dX13_omitMatch_257 (by decide) ?_
      exact t_somK hk (fun hf => t_iret dX13_omitMatch_258 rfl (by decide) ⟨_, rfl, hf⟩ (Nat.le_of_ble_eq_true rfl) (Nat.le_of_ble_eq_true rfl))
    · refine mj_iconst (v := 1) dX13_omitMatch_253 (by decide) ?_
      refine mj_goto 258 dX13_omitMatch_254 (by decide) ?_
      exact t_somK hk (fun hf => t_iret dX13_omitMatch_258 rfl (by decide) ⟨_, rfl, hf⟩ (Nat.le_of_ble_eq_true rfl) (Nat.le_of_ble_eq_true rfl))
noncomputable def k_X13_recordMatch_58 (rc : RT_X13_assign) (l2 : Int32) (l4 : Int32) (k0 : Int32) (k1 : Int32) (s : t_S) : Option ((Int32 × Int32 × Int32 × t_S) ⊕ (Int32 × t_S)) :=
 if t_ix l4 13000 = true then
  some (.inl (l2, (k1 + k0), (s.1 960 (l4.toNatClampNeg)), s))
else none
set_option maxRecDepth 4000 in
set_option maxHeartbeats 1000000 in
theorem B_X13_recordMatch_58 {D : va_G} {cy : Nat → ClassId} {ad : Nat → Nat} {bs : Nat} {X : State → Heap → Prop} (rc : RT_X13_assign) {k : Nat} (H : RH_X13_assign rc k) (l2 : Int32) (l4 : Int32) (k0 : Int32) (k1 : Int32) (s : t_S) (Q : (Int32 × Int32 × Int32 × t_S) ⊕ (Int32 × t_S) → Prop) (Hb10 : ∀ (y0 : Int32) (y1 : Int32) (y2 : Int32) (y3 : t_S), Q (.inl (y0, y1, y2, y3)) → mj_G D cy ad bs X cX13_recordMatch 6 yX13_recordMatch.cls (some .boolean) yX13_recordMatch.name (102 + (k + 1)) 0 0 1065 (t_P (fun v s' => ∃ x, v = some (.int x) ∧ Q (.inr ((x, s'))))) 10 [(0, .ref 950), (2, .int (y0)), (3, .int (y1)), (4, .int (y2))] [] (t_m y3) 1065 0 0) (hk : t_hk (k_X13_recordMatch_58 rc l2 l4 k0 k1 s) Q) : mj_G D cy ad bs X cX13_recordMatch 6 yX13_recordMatch.cls (some .boolean) yX13_recordMatch.name (102 + (k + 1)) 0 0 1065 (t_P (fun v s' => ∃ x, v = some (.int x) ∧ Q (.inr ((x, s'))))) 58 [(0, .ref 950), (2, .int l2), (4, .int l4)] [.int k0, .int k1] (t_m s) 1065 0 0 := by
  refine mj_iadd dX13_recordMatch_58 ?_
  refine mj_istore_n 3 (lv2 := [(3, .int (k1 + k0)), (0, .ref 950), (2, .int l2), (4, .int l4)]) dX13_recordMatch_59 rfl (by decide) rfl ?_
  refine mj_aload_n dX13_recordMatch_60 1 rfl ?_
  refine t_getR 960 dX13_recordMatch_61 F_X13_42 qr_950_22 ?_
  refine mj_iload dX13_recordMatch_64 3 rfl ?_
  refine t_chkK hk (fun c0 hk => ?_)
  refine t_iald dX13_recordMatch_66 qa_960 (t_ixv c0) ?_
  refine mj_istore (lv2 := [(4, .int (s.1 960 (l4.toNatClampNeg))), (3, .int (k1 + k0)), (0, .ref 950), (2, .int l2)]) dX13_recordMatch_67 (by decide) rfl ?_
  refine mj_goto 10 dX13_recordMatch_69 (by decide) ?_
  refine mj_sublv [(0, .ref 950), (2, .int l2), (3, .int (k1 + k0)), (4, .int (s.1 960 (l4.toNatClampNeg)))] [2, 3, 1, 0] rfl ?_
  exact t_somK hk (fun hf => Hb10 l2 (k1 + k0) (s.1 960 (l4.toNatClampNeg)) s hf)
noncomputable def k_X13_recordMatch_10 (rc : RT_X13_assign) (l2 : Int32) (l3 : Int32) (l4 : Int32) (s : t_S) : Option ((Int32 × Int32 × Int32 × t_S) ⊕ (Int32 × t_S)) :=
 if l4 < (0 : Int32) then ((if t_ix (l2 + (1 : Int32)) 626600 = true then
  if l3 = ((s.2.1 1006 ((l2 + (1 : Int32)).toNatClampNeg)).toInt32) then (some ((1 : Int32), s))
 else (some ((0 : Int32), s))
else none).map Sum.inr)
 else (if t_ix l4 13000 = true then
  (f_X13_fieldOf l2 (s.2.1 957 (l4.toNatClampNeg)) s).bind (fun r3 =>
 (rc.2.2.2.2.1 (s.1 959 (l4.toNatClampNeg)) r3 s).bind (fun r4 =>
 if r4.1 = (0 : Int32) then ((some ((0 : Int32), r4.2)).map Sum.inr)
 else (if r3 < (0 : Int32) then (k_X13_recordMatch_58 rc l2 l4 0 l3 r4.2)
 else (k_X13_recordMatch_58 rc l2 l4 1 l3 r4.2))))
else none)
set_option maxRecDepth 4000 in
set_option maxHeartbeats 1000000 in
theorem B_X13_recordMatch_10 {D : va_G} {cy : Nat → ClassId} {ad : Nat → Nat} {bs : Nat} {X : State → Heap → Prop} (rc : RT_X13_assign) {k : Nat} (H : RH_X13_assign rc k) (l2 : Int32) (l3 : Int32) (l4 : Int32) (s : t_S) (Q : (Int32 × Int32 × Int32 × t_S) ⊕ (Int32 × t_S) → Prop) (Hb10 : ∀ (y0 : Int32) (y1 : Int32) (y2 : Int32) (y3 : t_S), Q (.inl (y0, y1, y2, y3)) → mj_G D cy ad bs X cX13_recordMatch 6 yX13_recordMatch.cls (some .boolean) yX13_recordMatch.name (102 + (k + 1)) 0 0 1065 (t_P (fun v s' => ∃ x, v = some (.int x) ∧ Q (.inr ((x, s'))))) 10 [(0, .ref 950), (2, .int (y0)), (3, .int (y1)), (4, .int (y2))] [] (t_m y3) 1065 0 0) (hk : t_hk (k_X13_recordMatch_10 rc l2 l3 l4 s) Q) : mj_G D cy ad bs X cX13_recordMatch 6 yX13_recordMatch.cls (some .boolean) yX13_recordMatch.name (102 + (k + 1)) 0 0 1065 (t_P (fun v s' => ∃ x, v = some (.int x) ∧ Q (.inr ((x, s'))))) 10 [(0, .ref 950), (2, .int l2), (3, .int l3), (4, .int l4)] [] (t_m s) 1065 0 0 := by
  refine mj_iload dX13_recordMatch_10 3 rfl ?_
  refine mj_if_lt 72 dX13_recordMatch_12 (by decide) (fun z => t_posK hk z (fun hk => ?_)) (fun z => t_negK hk z (fun hk => ?_))
  · refine t_mapK hk (fun hk => ?_)
    refine mj_iload_n dX13_recordMatch_72 2 rfl ?_
    refine mj_aload_n dX13_recordMatch_73 0 rfl ?_
    refine t_getR 1006 dX13_recordMatch_74 F_X13_182 qr_950_95 ?_
    refine mj_iload_n dX13_recordMatch_77 1 rfl ?_
    refine mj_iconst (v := 1) dX13_recordMatch_78 (by decide) ?_
    refine mj_iadd dX13_recordMatch_79 ?_
    refine t_chkK hk (fun c0 hk => ?_)
    refine t_lald dX13_recordMatch_80 qa_1006 (t_ixv c0) ?_
    refine mj_l2i (v := (s.2.1 1006 ((l2 + (1 : Int32)).toNatClampNeg)).toInt32) dX13_recordMatch_81 rfl ?_
    refine mj_icmp_ne 89 dX13_recordMatch_82 (by decide) (fun z => t_negK hk z (fun hk => ?_)) (fun z => t_posK hk z (fun hk => ?_))
    · refine mj_iconst (v := 0) dX13_recordMatch_89 (by decide) ?_
      exact t_somK hk (fun hf => t_iret dX13_recordMatch_90 rfl (by decide) ⟨_, rfl, hf⟩ (Nat.le_of_ble_eq_true rfl) (Nat.le_of_ble_eq_true rfl))
    · refine mj_iconst (v := 1) dX13_recordMatch_85 (by decide) ?_
      refine mj_goto 90 dX13_recordMatch_86 (by decide) ?_
      exact t_somK hk (fun hf => t_iret dX13_recordMatch_90 rfl (by decide) ⟨_, rfl, hf⟩ (Nat.le_of_ble_eq_true rfl) (Nat.le_of_ble_eq_true rfl))
  · refine mj_aload_n dX13_recordMatch_15 0 rfl ?_
    refine mj_iload_n dX13_recordMatch_16 1 rfl ?_
    refine mj_aload_n dX13_recordMatch_17 0 rfl ?_
    refine t_getR 957 dX13_recordMatch_18 F_X13_32 qr_950_19 ?_
    refine mj_iload dX13_recordMatch_21 3 rfl ?_
    refine t_chkK hk (fun c1 hk => ?_)
    refine t_lald dX13_recordMatch_23 qa_957 (t_ixv c1) ?_
    refine t_bndK hk (fun r3 er3 hk => ?_)
    refine t_callViP dX13_recordMatch_24 M_X13_fieldOf (C_X13_fieldOf _ _ _ _ er3) ML_X13_966 IM_X13_fieldOf SE_X13_fieldOf qc_950 rfl (As := [.int l2, .long (s.2.1 957 (l4.toNatClampNeg))]) rfl rfl (by omega) (Nat.le_of_ble_eq_true rfl) (Nat.le_of_ble_eq_true rfl) (Nat.le_of_ble_eq_true rfl) ?_
    refine mj_istore (lv2 := [(5, .int r3), (0, .ref 950), (2, .int l2), (3, .int l3), (4, .int l4)]) dX13_recordMatch_27 (by decide) rfl ?_
    refine mj_aload_n dX13_recordMatch_29 1 rfl ?_
    refine mj_aload_n dX13_recordMatch_30 1 rfl ?_
    refine t_getR 959 dX13_recordMatch_31 F_X13_39 qr_950_21 ?_
    refine mj_iload dX13_recordMatch_34 4 rfl ?_
    refine t_iald dX13_recordMatch_36 qa_959 (t_ixv c1) ?_
    refine mj_iload dX13_recordMatch_37 0 rfl ?_
    refine t_bndK hk (fun r4 er4 hk => ?_)
    refine t_callSiE dX13_recordMatch_39 M_X13_match (H.2.2.2.2.1 _ _ _ _ er4) ML_X13_1233 SM_X13_match (As := [.ref 950, .int (s.1 959 (l4.toNatClampNeg)), .int r3]) rfl rfl (by omega) (Nat.le_of_ble_eq_true rfl) (Nat.le_of_ble_eq_true rfl) (Nat.le_of_ble_eq_true rfl) ?_
    refine mj_if_ne 47 dX13_recordMatch_42 (by decide) (fun z => t_negK hk z (fun hk => ?_)) (fun z => t_posK hk z (fun hk => ?_))
    · refine mj_iload_n dX13_recordMatch_47 3 rfl ?_
      refine mj_iload dX13_recordMatch_48 0 rfl ?_
      refine mj_if_lt 57 dX13_recordMatch_50 (by decide) (fun z => t_posK hk z (fun hk => ?_)) (fun z => t_negK hk z (fun hk => ?_))
      · refine mj_iconst (v := 0) dX13_recordMatch_57 (by decide) ?_
        refine mj_sublv [(0, .ref 950), (2, .int l2), (4, .int l4)] [1, 2, 4] rfl ?_
        exact B_X13_recordMatch_58 rc H _ _ _ _ _ _ (fun y0 y1 y2 y3 hx => Hb10 y0 y1 y2 y3 hx) hk
      · refine mj_iconst (v := 1) dX13_recordMatch_53 (by decide) ?_
        refine mj_goto 58 dX13_recordMatch_54 (by decide) ?_
        refine mj_sublv [(0, .ref 950), (2, .int l2), (4, .int l4)] [1, 2, 4] rfl ?_
        exact B_X13_recordMatch_58 rc H _ _ _ _ _ _ (fun y0 y1 y2 y3 hx => Hb10 y0 y1 y2 y3 hx) hk
    · refine t_mapK hk (fun hk => ?_)
      refine mj_iconst (v := 0) dX13_recordMatch_45 (by decide) ?_
      exact t_somK hk (fun hf => t_iret dX13_recordMatch_46 rfl (by decide) ⟨_, rfl, hf⟩ (Nat.le_of_ble_eq_true rfl) (Nat.le_of_ble_eq_true rfl))
noncomputable def b_X13_recordMatch_10 (rc : RT_X13_assign) (x : Int32 × Int32 × Int32 × t_S) : Option ((Int32 × Int32 × Int32 × t_S) ⊕ (Int32 × t_S)) := k_X13_recordMatch_10 rc x.1 x.2.1 x.2.2.1 x.2.2.2
set_option maxRecDepth 4000 in
set_option maxHeartbeats 1000000 in
theorem LH_X13_recordMatch_10 {D : va_G} {cy : Nat → ClassId} {ad : Nat → Nat} {bs : Nat} {X : State → Heap → Prop} (rc : RT_X13_assign) {k : Nat} (H : RH_X13_assign rc k) : ∀ (n : Nat) (y0 : Int32) (y1 : Int32) (y2 : Int32) (y3 : t_S) (Q : Int32 × t_S → Prop) (hk : t_hk (t_loop (b_X13_recordMatch_10 rc) n (y0, y1, y2, y3)) Q), mj_G D cy ad bs X cX13_recordMatch 6 yX13_recordMatch.cls (some .boolean) yX13_recordMatch.name (102 + (k + 1)) 0 0 1065 (t_P (fun v s' => ∃ x, v = some (.int x) ∧ Q ((x, s')))) 10 [(0, .ref 950), (2, .int (y0)), (3, .int (y1)), (4, .int (y2))] [] (t_m y3) 1065 0 0 := by
  intro n
  induction n with
  | zero => intro y0 y1 y2 y3 Q hk; obtain ⟨r, hr, _⟩ := hk; cases hr
  | succ n ih =>
    intro y0 y1 y2 y3 Q hk
    exact B_X13_recordMatch_10 rc H y0 y1 y2 y3 (fun y => t_lq (b_X13_recordMatch_10 rc) n Q y) (fun y0' y1' y2' y3' hy => ih y0' y1' y2' y3' Q hy) (t_lp (b := b_X13_recordMatch_10 rc) (n := n) (x := (y0, y1, y2, y3)) hk)
noncomputable def m_X13_recordMatch (rc : RT_X13_assign) (x2 : Int32) (x3 : Int32) (s : t_S) : Option (Int32 × t_S) :=
 if t_ix x2 13000 = true then
  t_loop (b_X13_recordMatch_10 rc) t_N (x3, 0, (s.1 959 (x2.toNatClampNeg)), s)
else none
set_option maxRecDepth 4000 in
set_option maxHeartbeats 1000000 in
theorem E_X13_recordMatch (rc : RT_X13_assign) {k : Nat} (H : RH_X13_assign rc k) (x2 : Int32) (x3 : Int32) (s : t_S) (r : Int32 × t_S) (hr : m_X13_recordMatch rc x2 x3 s = some r) : t_C yX13_recordMatch cX13_recordMatch 6 (some .boolean) (102 + (k + 1)) [.ref 950, .int x2, .int x3] s (fun v s' => v = some (.int r.1) ∧ s' = r.2) := by
  refine t_C.imp (P := fun v s' => ∃ x, v = some (.int x) ∧ (fun q => q = r) ((x, s'))) (t_C.of (by decide +kernel) (Nat.le_of_ble_eq_true rfl) ?_) (fun v s' hp => by obtain ⟨x, rfl, rfl⟩ := hp; exact ⟨rfl, rfl⟩)
  intro D cy ad bs X
  have hk : t_hk (m_X13_recordMatch rc x2 x3 s) (fun q => q = r) := ⟨r, hr, rfl⟩
  show mj_G D cy ad bs X cX13_recordMatch 6 yX13_recordMatch.cls (some .boolean) yX13_recordMatch.name (102 + (k + 1)) 0 0 1065 (t_P (fun v s' => ∃ x, v = some (.int x) ∧ (fun q => q = r) ((x, s')))) 0 [(0, .ref 950), (1, .int x2), (2, .int x3)] [] (t_m s) 1065 0 0
  refine mj_iconst (v := 0) dX13_recordMatch_0 (by decide) ?_
  refine mj_istore_n 3 (lv2 := [(3, .int 0), (0, .ref 950), (1, .int x2), (2, .int x3)]) dX13_recordMatch_1 rfl (by decide) rfl ?_
  refine mj_aload_n dX13_recordMatch_2 1 rfl ?_
  refine t_getR 959 dX13_recordMatch_3 F_X13_39 qr_950_21 ?_
  refine mj_iload_n dX13_recordMatch_6 2 rfl ?_
  refine t_chkK hk (fun c0 hk => ?_)
  refine t_iald dX13_recordMatch_7 qa_959 (t_ixv c0) ?_
  refine mj_istore (lv2 := [(4, .int (s.1 959 (x2.toNatClampNeg))), (3, .int 0), (0, .ref 950), (1, .int x2), (2, .int x3)]) dX13_recordMatch_8 (by decide) rfl ?_
  refine mj_sublv [(0, .ref 950), (2, .int x3), (3, .int 0), (4, .int (s.1 959 (x2.toNatClampNeg)))] [2, 4, 1, 0] rfl ?_
  exact LH_X13_recordMatch_10 rc H _ x3 0 (s.1 959 (x2.toNatClampNeg)) s _ hk
noncomputable def k_X13_toneMatch_173 (rc : RT_X13_assign) (k0 : Int64) (k1 : Int64) (s : t_S) : Option (Int32 × t_S) :=
 if (lg_cmp k1 k0) = (0 : Int32) then (some ((1 : Int32), s))
 else (some ((0 : Int32), s))
set_option maxRecDepth 4000 in
set_option maxHeartbeats 1000000 in
theorem B_X13_toneMatch_173 {D : va_G} {cy : Nat → ClassId} {ad : Nat → Nat} {bs : Nat} {X : State → Heap → Prop} (rc : RT_X13_assign) {k : Nat} (H : RH_X13_assign rc k) (k0 : Int64) (k1 : Int64) (s : t_S) (Q : Int32 × t_S → Prop) (hk : t_hk (k_X13_toneMatch_173 rc k0 k1 s) Q) : mj_G D cy ad bs X cX13_toneMatch 5 yX13_toneMatch.cls (some .boolean) yX13_toneMatch.name (102 + (k + 1)) 0 0 1065 (t_P (fun v s' => ∃ x, v = some (.int x) ∧ Q ((x, s')))) 173 [] [.long k0, .long k1] (t_m s) 1065 0 0 := by
  refine mj_lcmp dX13_toneMatch_173 ?_
  refine mj_if_ne 181 dX13_toneMatch_174 (by decide) (fun z => t_negK hk z (fun hk => ?_)) (fun z => t_posK hk z (fun hk => ?_))
  · refine mj_iconst (v := 0) dX13_toneMatch_181 (by decide) ?_
    exact t_somK hk (fun hf => t_iret dX13_toneMatch_182 rfl (by decide) ⟨_, rfl, hf⟩ (Nat.le_of_ble_eq_true rfl) (Nat.le_of_ble_eq_true rfl))
  · refine mj_iconst (v := 1) dX13_toneMatch_177 (by decide) ?_
    refine mj_goto 182 dX13_toneMatch_178 (by decide) ?_
    exact t_somK hk (fun hf => t_iret dX13_toneMatch_182 rfl (by decide) ⟨_, rfl, hf⟩ (Nat.le_of_ble_eq_true rfl) (Nat.le_of_ble_eq_true rfl))
noncomputable def m_X13_toneMatch (rc : RT_X13_assign) (x2 : Int32) (x3 : Int32) (s : t_S) : Option (Int32 × t_S) :=
 if t_ix x3 626600 = true then
  if t_ix x2 13000 = true then
  if (s.1 955 (x2.toNatClampNeg)).toInt < 20 ∨ 38 < (s.1 955 (x2.toNatClampNeg)).toInt then ((rc.2.2.2.1 x2 x3 ((s.2.1 1006 (x3.toNatClampNeg)).toInt32) s).bind (fun r3 =>
 if r3.1 = 0 ∨ r3.1 = 1 then
  some (r3.1, r3.2)
else none))
 else if (s.1 955 (x2.toNatClampNeg)).toInt = 20 then (some ((1 : Int32), s))
 else if (s.1 955 (x2.toNatClampNeg)).toInt = 21 then (some ((1 : Int32), s))
 else if (s.1 955 (x2.toNatClampNeg)).toInt = 22 then (if ((s.2.1 1006 (x3.toNatClampNeg)).toInt32) = (0 : Int32) then (if t_ix (x3 + (1 : Int32)) 626600 = true then
  if (f_X13_in (s.2.1 1006 ((x3 + (1 : Int32)).toNatClampNeg)) (s.2.1 957 (x2.toNatClampNeg)) (s.2.1 958 (x2.toNatClampNeg)) s) = (0 : Int32) then (some ((0 : Int32), s))
 else (some ((1 : Int32), s))
else none)
 else (some ((0 : Int32), s)))
 else if (s.1 955 (x2.toNatClampNeg)).toInt = 23 then (if ((s.2.1 1006 (x3.toNatClampNeg)).toInt32) = (0 : Int32) then (if t_ix (x3 + (1 : Int32)) 626600 = true then
  if (f_X13_in (s.2.1 1006 ((x3 + (1 : Int32)).toNatClampNeg)) (s.2.1 957 (x2.toNatClampNeg)) (s.2.1 958 (x2.toNatClampNeg)) s) = (0 : Int32) then (some ((0 : Int32), s))
 else (some ((1 : Int32), s))
else none)
 else (some ((0 : Int32), s)))
 else if (s.1 955 (x2.toNatClampNeg)).toInt = 24 then (if ((s.2.1 1006 (x3.toNatClampNeg)).toInt32) = (1 : Int32) then (if t_ix (x3 + (1 : Int32)) 626600 = true then
  if (s.1 955 (x2.toNatClampNeg)) = (24 : Int32) then (k_X13_toneMatch_173 rc 1 (s.2.1 1006 ((x3 + (1 : Int32)).toNatClampNeg)) s)
 else (k_X13_toneMatch_173 rc 0 (s.2.1 1006 ((x3 + (1 : Int32)).toNatClampNeg)) s)
else none)
 else (some ((0 : Int32), s)))
 else if (s.1 955 (x2.toNatClampNeg)).toInt = 25 then (if ((s.2.1 1006 (x3.toNatClampNeg)).toInt32) = (1 : Int32) then (if t_ix (x3 + (1 : Int32)) 626600 = true then
  if (s.1 955 (x2.toNatClampNeg)) = (24 : Int32) then (k_X13_toneMatch_173 rc 1 (s.2.1 1006 ((x3 + (1 : Int32)).toNatClampNeg)) s)
 else (k_X13_toneMatch_173 rc 0 (s.2.1 1006 ((x3 + (1 : Int32)).toNatClampNeg)) s)
else none)
 else (some ((0 : Int32), s)))
 else if (s.1 955 (x2.toNatClampNeg)).toInt = 26 then ((f_X13_isTextOf x2 x3 s).bind (fun r11 =>
 if r11 = 0 ∨ r11 = 1 then
  some (r11, s)
else none))
 else if (s.1 955 (x2.toNatClampNeg)).toInt = 27 then (some ((0 : Int32), s))
 else if (s.1 955 (x2.toNatClampNeg)).toInt = 28 then ((f_X13_find 967 (0 : Int32) (s.1 950 44) ((s.2.1 957 (x2.toNatClampNeg)).toInt32) s).bind (fun r13 =>
 if r13 < (0 : Int32) then (if ((s.2.1 1006 (x3.toNatClampNeg)).toInt32) = (3 : Int32) then (if t_ix (x3 + (1 : Int32)) 626600 = true then
  if (lg_cmp (s.2.1 1006 ((x3 + (1 : Int32)).toNatClampNeg)) (s.2.1 957 (x2.toNatClampNeg))) = (0 : Int32) then (some ((1 : Int32), s))
 else (some ((0 : Int32), s))
else none)
 else (some ((0 : Int32), s)))
 else (if t_ix r13 60 = true then
  (rc.2.2.2.2.1 (s.1 968 (r13.toNatClampNeg)) x3 s).bind (fun r16 =>
 if r16.1 = 0 ∨ r16.1 = 1 then
  some (r16.1, r16.2)
else none)
else none)))
 else if (s.1 955 (x2.toNatClampNeg)).toInt = 29 then (if ((s.2.1 1006 (x3.toNatClampNeg)).toInt32) = (6 : Int32) then ((rc.2.2.2.2.2.2.1 x2 x3 s).bind (fun r18 =>
 if r18.1 = (0 : Int32) then (some ((0 : Int32), r18.2))
 else (some ((1 : Int32), r18.2))))
 else (some ((0 : Int32), s)))
 else if (s.1 955 (x2.toNatClampNeg)).toInt = 30 then (if ((s.2.1 1006 (x3.toNatClampNeg)).toInt32) = (7 : Int32) then (if t_ix (x3 + (1 : Int32)) 626600 = true then
  if (lg_cmp (s.2.1 1006 ((x3 + (1 : Int32)).toNatClampNeg)) (s.2.1 957 (x2.toNatClampNeg))) = (0 : Int32) then ((rc.2.2.2.2.1 (s.1 959 (x2.toNatClampNeg)) (x3 + (2 : Int32)) s).bind (fun r20 =>
 if r20.1 = (0 : Int32) then (some ((0 : Int32), r20.2))
 else (some ((1 : Int32), r20.2))))
 else (some ((0 : Int32), s))
else none)
 else (some ((0 : Int32), s)))
 else if (s.1 955 (x2.toNatClampNeg)).toInt = 31 then ((rc.2.2.2.1 x2 x3 ((s.2.1 1006 (x3.toNatClampNeg)).toInt32) s).bind (fun r21 =>
 if r21.1 = 0 ∨ r21.1 = 1 then
  some (r21.1, r21.2)
else none))
 else if (s.1 955 (x2.toNatClampNeg)).toInt = 32 then ((rc.2.2.2.1 x2 x3 ((s.2.1 1006 (x3.toNatClampNeg)).toInt32) s).bind (fun r23 =>
 if r23.1 = 0 ∨ r23.1 = 1 then
  some (r23.1, r23.2)
else none))
 else if (s.1 955 (x2.toNatClampNeg)).toInt = 33 then ((rc.2.2.2.1 x2 x3 ((s.2.1 1006 (x3.toNatClampNeg)).toInt32) s).bind (fun r25 =>
 if r25.1 = 0 ∨ r25.1 = 1 then
  some (r25.1, r25.2)
else none))
 else if (s.1 955 (x2.toNatClampNeg)).toInt = 34 then ((rc.2.2.2.1 x2 x3 ((s.2.1 1006 (x3.toNatClampNeg)).toInt32) s).bind (fun r27 =>
 if r27.1 = 0 ∨ r27.1 = 1 then
  some (r27.1, r27.2)
else none))
 else if (s.1 955 (x2.toNatClampNeg)).toInt = 35 then (if ((s.2.1 1006 (x3.toNatClampNeg)).toInt32) = (2 : Int32) then ((f_X13_isPattern x2 x3 s).bind (fun r29 =>
 if r29 = (0 : Int32) then (some ((0 : Int32), s))
 else (some ((1 : Int32), s))))
 else (some ((0 : Int32), s)))
 else if (s.1 955 (x2.toNatClampNeg)).toInt = 36 then ((rc.2.2.2.1 x2 x3 ((s.2.1 1006 (x3.toNatClampNeg)).toInt32) s).bind (fun r30 =>
 if r30.1 = 0 ∨ r30.1 = 1 then
  some (r30.1, r30.2)
else none))
 else if (s.1 955 (x2.toNatClampNeg)).toInt = 37 then ((rc.2.2.2.1 x2 x3 ((s.2.1 1006 (x3.toNatClampNeg)).toInt32) s).bind (fun r32 =>
 if r32.1 = 0 ∨ r32.1 = 1 then
  some (r32.1, r32.2)
else none))
 else ((f_X13_isPrepared x2 x3 s).bind (fun r34 =>
 if r34 = 0 ∨ r34 = 1 then
  some (r34, s)
else none))
else none
else none
set_option maxRecDepth 4000 in
set_option maxHeartbeats 1000000 in
theorem E_X13_toneMatch (rc : RT_X13_assign) {k : Nat} (H : RH_X13_assign rc k) (x2 : Int32) (x3 : Int32) (s : t_S) (r : Int32 × t_S) (hr : m_X13_toneMatch rc x2 x3 s = some r) : t_C yX13_toneMatch cX13_toneMatch 5 (some .boolean) (102 + (k + 1)) [.ref 950, .int x2, .int x3] s (fun v s' => v = some (.int r.1) ∧ s' = r.2) := by
  refine t_C.imp (P := fun v s' => ∃ x, v = some (.int x) ∧ (fun q => q = r) ((x, s'))) (t_C.of (by decide +kernel) (Nat.le_of_ble_eq_true rfl) ?_) (fun v s' hp => by obtain ⟨x, rfl, rfl⟩ := hp; exact ⟨rfl, rfl⟩)
  intro D cy ad bs X
  have hk : t_hk (m_X13_toneMatch rc x2 x3 s) (fun q => q = r) := ⟨r, hr, rfl⟩
  show mj_G D cy ad bs X cX13_toneMatch 5 yX13_toneMatch.cls (some .boolean) yX13_toneMatch.name (102 + (k + 1)) 0 0 1065 (t_P (fun v s' => ∃ x, v = some (.int x) ∧ (fun q => q = r) ((x, s')))) 0 [(0, .ref 950), (1, .int x2), (2, .int x3)] [] (t_m s) 1065 0 0
  refine mj_aload_n dX13_toneMatch_0 0 rfl ?_
  refine t_getR 1006 dX13_toneMatch_1 F_X13_182 qr_950_95 ?_
  refine mj_iload_n dX13_toneMatch_4 2 rfl ?_
  refine t_chkK hk (fun c0 hk => ?_)
  refine t_lald dX13_toneMatch_5 qa_1006 (t_ixv c0) ?_
  refine mj_l2i (v := (s.2.1 1006 (x3.toNatClampNeg)).toInt32) dX13_toneMatch_6 rfl ?_
  refine mj_istore_n 3 (lv2 := [(3, .int ((s.2.1 1006 (x3.toNatClampNeg)).toInt32)), (0, .ref 950), (1, .int x2), (2, .int x3)]) dX13_toneMatch_7 rfl (by decide) rfl ?_
  refine mj_aload_n dX13_toneMatch_8 1 rfl ?_
  refine t_getR 955 dX13_toneMatch_9 F_X13_26 qr_950_17 ?_
  refine mj_iload_n dX13_toneMatch_12 2 rfl ?_
  refine t_chkK hk (fun c1 hk => ?_)
  refine t_iald dX13_toneMatch_13 qa_955 (t_ixv c1) ?_
  by_cases hout : (s.1 955 (x2.toNatClampNeg)).toInt < 20 ∨ 38 < (s.1 955 (x2.toNatClampNeg)).toInt
  · replace hk := t_pos hk hout
    refine mj_tableOut 355 dX13_toneMatch_14 hout (by decide) ?_
    refine mj_aload_n dX13_toneMatch_355 1 rfl ?_
    refine mj_iload_n dX13_toneMatch_356 2 rfl ?_
    refine mj_iload_n dX13_toneMatch_357 3 rfl ?_
    refine mj_iload_n dX13_toneMatch_358 0 rfl ?_
    refine t_bndK hk (fun r3 er3 hk => ?_)
    refine t_callSiE dX13_toneMatch_359 M_X13_manyMatch (H.2.2.2.1 _ _ _ _ _ er3) ML_X13_1262 SM_X13_manyMatch (As := [.ref 950, .int x2, .int x3, .int ((s.2.1 1006 (x3.toNatClampNeg)).toInt32)]) rfl rfl (by omega) (Nat.le_of_ble_eq_true rfl) (Nat.le_of_ble_eq_true rfl) (Nat.le_of_ble_eq_true rfl) ?_
    refine t_chkK hk (fun c3 hk => ?_)
    exact t_somK hk (fun hf => t_iret dX13_toneMatch_362 rfl (t_zfit c3) ⟨_, rfl, hf⟩ (Nat.le_of_ble_eq_true rfl) (Nat.le_of_ble_eq_true rfl))
  · replace hk := t_neg hk hout
    have hh1 : ¬ (s.1 955 (x2.toNatClampNeg)).toInt < 20 := fun z => hout (Or.inl z)
    have hh2 : ¬ (38 : Int) < (s.1 955 (x2.toNatClampNeg)).toInt := fun z => hout (Or.inr z)
    by_cases h0 : (s.1 955 (x2.toNatClampNeg)).toInt = 20
    · replace hk := t_pos hk h0
      refine mj_tableIn 104 dX13_toneMatch_14 hh1 hh2 (by rw [h0]; rfl) (by decide) ?_
      refine mj_iconst (v := 1) dX13_toneMatch_104 (by decide) ?_
      exact t_somK hk (fun hf => t_iret dX13_toneMatch_105 rfl (by decide) ⟨_, rfl, hf⟩ (Nat.le_of_ble_eq_true rfl) (Nat.le_of_ble_eq_true rfl))
    replace hk := t_neg hk h0
    by_cases h1 : (s.1 955 (x2.toNatClampNeg)).toInt = 21
    · replace hk := t_pos hk h1
      refine mj_tableIn 104 dX13_toneMatch_14 hh1 hh2 (by rw [h1]; rfl) (by decide) ?_
      refine mj_iconst (v := 1) dX13_toneMatch_104 (by decide) ?_
      exact t_somK hk (fun hf => t_iret dX13_toneMatch_105 rfl (by decide) ⟨_, rfl, hf⟩ (Nat.le_of_ble_eq_true rfl) (Nat.le_of_ble_eq_true rfl))
    replace hk := t_neg hk h1
    by_cases h2 : (s.1 955 (x2.toNatClampNeg)).toInt = 22
    · replace hk := t_pos hk h2
      refine mj_tableIn 108 dX13_toneMatch_14 hh1 hh2 (by rw [h2]; rfl) (by decide) ?_
      refine mj_iload_n dX13_toneMatch_108 0 rfl ?_
      refine mj_if_ne 142 dX13_toneMatch_109 (by decide) (fun z => t_negK hk z (fun hk => ?_)) (fun z => t_posK hk z (fun hk => ?_))
      · refine mj_iconst (v := 0) dX13_toneMatch_142 (by decide) ?_
        exact t_somK hk (fun hf => t_iret dX13_toneMatch_143 rfl (by decide) ⟨_, rfl, hf⟩ (Nat.le_of_ble_eq_true rfl) (Nat.le_of_ble_eq_true rfl))
      · refine mj_aload_n dX13_toneMatch_112 1 rfl ?_
        refine t_getR 1006 dX13_toneMatch_113 F_X13_182 qr_950_95 ?_
        refine mj_iload_n dX13_toneMatch_116 3 rfl ?_
        refine mj_iconst (v := 1) dX13_toneMatch_117 (by decide) ?_
        refine mj_iadd dX13_toneMatch_118 ?_
        refine t_chkK hk (fun c4 hk => ?_)
        refine t_lald dX13_toneMatch_119 qa_1006 (t_ixv c4) ?_
        refine mj_aload_n dX13_toneMatch_120 1 rfl ?_
        refine t_getR 957 dX13_toneMatch_121 F_X13_32 qr_950_19 ?_
        refine mj_iload_n dX13_toneMatch_124 2 rfl ?_
        refine t_lald dX13_toneMatch_125 qa_957 (t_ixv c1) ?_
        refine mj_aload_n dX13_toneMatch_126 1 rfl ?_
        refine t_getR 958 dX13_toneMatch_127 F_X13_36 qr_950_20 ?_
        refine mj_iload_n dX13_toneMatch_130 2 rfl ?_
        refine t_lald dX13_toneMatch_131 qa_958 (t_ixv c1) ?_
        refine t_callSiP dX13_toneMatch_132 M_X13_in (C_X13_in _ _ _ _) ML_X13_371 SM_X13_in (As := [.long (s.2.1 1006 ((x3 + (1 : Int32)).toNatClampNeg)), .long (s.2.1 957 (x2.toNatClampNeg)), .long (s.2.1 958 (x2.toNatClampNeg))]) rfl rfl (by omega) (Nat.le_of_ble_eq_true rfl) (Nat.le_of_ble_eq_true rfl) (Nat.le_of_ble_eq_true rfl) ?_
        refine mj_if_eq 142 dX13_toneMatch_135 (by decide) (fun z => t_posK hk z (fun hk => ?_)) (fun z => t_negK hk z (fun hk => ?_))
        · refine mj_iconst (v := 0) dX13_toneMatch_142 (by decide) ?_
          exact t_somK hk (fun hf => t_iret dX13_toneMatch_143 rfl (by decide) ⟨_, rfl, hf⟩ (Nat.le_of_ble_eq_true rfl) (Nat.le_of_ble_eq_true rfl))
        · refine mj_iconst (v := 1) dX13_toneMatch_138 (by decide) ?_
          refine mj_goto 143 dX13_toneMatch_139 (by decide) ?_
          exact t_somK hk (fun hf => t_iret dX13_toneMatch_143 rfl (by decide) ⟨_, rfl, hf⟩ (Nat.le_of_ble_eq_true rfl) (Nat.le_of_ble_eq_true rfl))
    replace hk := t_neg hk h2
    by_cases h3 : (s.1 955 (x2.toNatClampNeg)).toInt = 23
    · replace hk := t_pos hk h3
      refine mj_tableIn 108 dX13_toneMatch_14 hh1 hh2 (by rw [h3]; rfl) (by decide) ?_
      refine mj_iload_n dX13_toneMatch_108 0 rfl ?_
      refine mj_if_ne 142 dX13_toneMatch_109 (by decide) (fun z => t_negK hk z (fun hk => ?_)) (fun z => t_posK hk z (fun hk => ?_))
      · refine mj_iconst (v := 0) dX13_toneMatch_142 (by decide) ?_
        exact t_somK hk (fun hf => t_iret dX13_toneMatch_143 rfl (by decide) ⟨_, rfl, hf⟩ (Nat.le_of_ble_eq_true rfl) (Nat.le_of_ble_eq_true rfl))
      · refine mj_aload_n dX13_toneMatch_112 1 rfl ?_
        refine t_getR 1006 dX13_toneMatch_113 F_X13_182 qr_950_95 ?_
        refine mj_iload_n dX13_toneMatch_116 3 rfl ?_
        refine mj_iconst (v := 1) dX13_toneMatch_117 (by decide) ?_
        refine mj_iadd dX13_toneMatch_118 ?_
        refine t_chkK hk (fun c6 hk => ?_)
        refine t_lald dX13_toneMatch_119 qa_1006 (t_ixv c6) ?_
        refine mj_aload_n dX13_toneMatch_120 1 rfl ?_
        refine t_getR 957 dX13_toneMatch_121 F_X13_32 qr_950_19 ?_
        refine mj_iload_n dX13_toneMatch_124 2 rfl ?_
        refine t_lald dX13_toneMatch_125 qa_957 (t_ixv c1) ?_
        refine mj_aload_n dX13_toneMatch_126 1 rfl ?_
        refine t_getR 958 dX13_toneMatch_127 F_X13_36 qr_950_20 ?_
        refine mj_iload_n dX13_toneMatch_130 2 rfl ?_
        refine t_lald dX13_toneMatch_131 qa_958 (t_ixv c1) ?_
        refine t_callSiP dX13_toneMatch_132 M_X13_in (C_X13_in _ _ _ _) ML_X13_371 SM_X13_in (As := [.long (s.2.1 1006 ((x3 + (1 : Int32)).toNatClampNeg)), .long (s.2.1 957 (x2.toNatClampNeg)), .long (s.2.1 958 (x2.toNatClampNeg))]) rfl rfl (by omega) (Nat.le_of_ble_eq_true rfl) (Nat.le_of_ble_eq_true rfl) (Nat.le_of_ble_eq_true rfl) ?_
        refine mj_if_eq 142 dX13_toneMatch_135 (by decide) (fun z => t_posK hk z (fun hk => ?_)) (fun z => t_negK hk z (fun hk => ?_))
        · refine mj_iconst (v := 0) dX13_toneMatch_142 (by decide) ?_
          exact t_somK hk (fun hf => t_iret dX13_toneMatch_143 rfl (by decide) ⟨_, rfl, hf⟩ (Nat.le_of_ble_eq_true rfl) (Nat.le_of_ble_eq_true rfl))
        · refine mj_iconst (v := 1) dX13_toneMatch_138 (by decide) ?_
          refine mj_goto 143 dX13_toneMatch_139 (by decide) ?_
          exact t_somK hk (fun hf => t_iret dX13_toneMatch_143 rfl (by decide) ⟨_, rfl, hf⟩ (Nat.le_of_ble_eq_true rfl) (Nat.le_of_ble_eq_true rfl))
    replace hk := t_neg hk h3
    by_cases h4 : (s.1 955 (x2.toNatClampNeg)).toInt = 24
    · replace hk := t_pos hk h4
      refine mj_tableIn 144 dX13_toneMatch_14 hh1 hh2 (by rw [h4]; rfl) (by decide) ?_
      refine mj_iload_n dX13_toneMatch_144 0 rfl ?_
      refine mj_iconst (v := 1) dX13_toneMatch_145 (by decide) ?_
      refine mj_icmp_ne 181 dX13_toneMatch_146 (by decide) (fun z => t_negK hk z (fun hk => ?_)) (fun z => t_posK hk z (fun hk => ?_))
      · refine mj_iconst (v := 0) dX13_toneMatch_181 (by decide) ?_
        exact t_somK hk (fun hf => t_iret dX13_toneMatch_182 rfl (by decide) ⟨_, rfl, hf⟩ (Nat.le_of_ble_eq_true rfl) (Nat.le_of_ble_eq_true rfl))
      · refine mj_aload_n dX13_toneMatch_149 1 rfl ?_
        refine t_getR 1006 dX13_toneMatch_150 F_X13_182 qr_950_95 ?_
        refine mj_iload_n dX13_toneMatch_153 3 rfl ?_
        refine mj_iconst (v := 1) dX13_toneMatch_154 (by decide) ?_
        refine mj_iadd dX13_toneMatch_155 ?_
        refine t_chkK hk (fun c8 hk => ?_)
        refine t_lald dX13_toneMatch_156 qa_1006 (t_ixv c8) ?_
        refine mj_aload_n dX13_toneMatch_157 1 rfl ?_
        refine t_getR 955 dX13_toneMatch_158 F_X13_26 qr_950_17 ?_
        refine mj_iload_n dX13_toneMatch_161 2 rfl ?_
        refine t_iald dX13_toneMatch_162 qa_955 (t_ixv c1) ?_
        refine mj_bipush (v := 24) dX13_toneMatch_163 (by decide) ?_
        refine mj_icmp_ne 172 dX13_toneMatch_165 (by decide) (fun z => t_negK hk z (fun hk => ?_)) (fun z => t_posK hk z (fun hk => ?_))
        · refine mj_lconst (v := 0) dX13_toneMatch_172 (by decide) ?_
          refine mj_sublv [] [] rfl ?_
          exact B_X13_toneMatch_173 rc H _ _ _ _ hk
        · refine mj_lconst (v := 1) dX13_toneMatch_168 (by decide) ?_
          refine mj_goto 173 dX13_toneMatch_169 (by decide) ?_
          refine mj_sublv [] [] rfl ?_
          exact B_X13_toneMatch_173 rc H _ _ _ _ hk
    replace hk := t_neg hk h4
    by_cases h5 : (s.1 955 (x2.toNatClampNeg)).toInt = 25
    · replace hk := t_pos hk h5
      refine mj_tableIn 144 dX13_toneMatch_14 hh1 hh2 (by rw [h5]; rfl) (by decide) ?_
      refine mj_iload_n dX13_toneMatch_144 0 rfl ?_
      refine mj_iconst (v := 1) dX13_toneMatch_145 (by decide) ?_
      refine mj_icmp_ne 181 dX13_toneMatch_146 (by decide) (fun z => t_negK hk z (fun hk => ?_)) (fun z => t_posK hk z (fun hk => ?_))
      · refine mj_iconst (v := 0) dX13_toneMatch_181 (by decide) ?_
        exact t_somK hk (fun hf => t_iret dX13_toneMatch_182 rfl (by decide) ⟨_, rfl, hf⟩ (Nat.le_of_ble_eq_true rfl) (Nat.le_of_ble_eq_true rfl))
      · refine mj_aload_n dX13_toneMatch_149 1 rfl ?_
        refine t_getR 1006 dX13_toneMatch_150 F_X13_182 qr_950_95 ?_
        refine mj_iload_n dX13_toneMatch_153 3 rfl ?_
        refine mj_iconst (v := 1) dX13_toneMatch_154 (by decide) ?_
        refine mj_iadd dX13_toneMatch_155 ?_
        refine t_chkK hk (fun c9 hk => ?_)
        refine t_lald dX13_toneMatch_156 qa_1006 (t_ixv c9) ?_
        refine mj_aload_n dX13_toneMatch_157 1 rfl ?_
        refine t_getR 955 dX13_toneMatch_158 F_X13_26 qr_950_17 ?_
        refine mj_iload_n dX13_toneMatch_161 2 rfl ?_
        refine t_iald dX13_toneMatch_162 qa_955 (t_ixv c1) ?_
        refine mj_bipush (v := 24) dX13_toneMatch_163 (by decide) ?_
        refine mj_icmp_ne 172 dX13_toneMatch_165 (by decide) (fun z => t_negK hk z (fun hk => ?_)) (fun z => t_posK hk z (fun hk => ?_))
        · refine mj_lconst (v := 0) dX13_toneMatch_172 (by decide) ?_
          refine mj_sublv [] [] rfl ?_
          exact B_X13_toneMatch_173 rc H _ _ _ _ hk
        · refine mj_lconst (v := 1) dX13_toneMatch_168 (by decide) ?_
          refine mj_goto 173 dX13_toneMatch_169 (by decide) ?_
          refine mj_sublv [] [] rfl ?_
          exact B_X13_toneMatch_173 rc H _ _ _ _ hk
    replace hk := t_neg hk h5
    by_cases h6 : (s.1 955 (x2.toNatClampNeg)).toInt = 26
    · replace hk := t_pos hk h6
      refine mj_tableIn 183 dX13_toneMatch_14 hh1 hh2 (by rw [h6]; rfl) (by decide) ?_
      refine mj_aload_n dX13_toneMatch_183 1 rfl ?_
      refine mj_iload_n dX13_toneMatch_184 2 rfl ?_
      refine mj_iload_n dX13_toneMatch_185 3 rfl ?_
      refine t_bndK hk (fun r11 er11 hk => ?_)
      refine t_callViP dX13_toneMatch_186 M_X13_isTextOf (C_X13_isTextOf _ _ _ _ er11) ML_X13_1250 IM_X13_isTextOf SE_X13_isTextOf qc_950 rfl (As := [.int x2, .int x3]) rfl rfl (by omega) (Nat.le_of_ble_eq_true rfl) (Nat.le_of_ble_eq_true rfl) (Nat.le_of_ble_eq_true rfl) ?_
      refine t_chkK hk (fun c11 hk => ?_)
      exact t_somK hk (fun hf => t_iret dX13_toneMatch_189 rfl (t_zfit c11) ⟨_, rfl, hf⟩ (Nat.le_of_ble_eq_true rfl) (Nat.le_of_ble_eq_true rfl))
    replace hk := t_neg hk h6
    by_cases h7 : (s.1 955 (x2.toNatClampNeg)).toInt = 27
    · replace hk := t_pos hk h7
      refine mj_tableIn 106 dX13_toneMatch_14 hh1 hh2 (by rw [h7]; rfl) (by decide) ?_
      refine mj_iconst (v := 0) dX13_toneMatch_106 (by decide) ?_
      exact t_somK hk (fun hf => t_iret dX13_toneMatch_107 rfl (by decide) ⟨_, rfl, hf⟩ (Nat.le_of_ble_eq_true rfl) (Nat.le_of_ble_eq_true rfl))
    replace hk := t_neg hk h7
    by_cases h8 : (s.1 955 (x2.toNatClampNeg)).toInt = 28
    · replace hk := t_pos hk h8
      refine mj_tableIn 190 dX13_toneMatch_14 hh1 hh2 (by rw [h8]; rfl) (by decide) ?_
      refine mj_aload_n dX13_toneMatch_190 1 rfl ?_
      refine mj_aload_n dX13_toneMatch_191 1 rfl ?_
      refine t_getR 967 dX13_toneMatch_192 F_X13_63 qr_950_41 ?_
      refine mj_iconst (v := 0) dX13_toneMatch_195 (by decide) ?_
      refine mj_aload_n dX13_toneMatch_196 1 rfl ?_
      refine t_getI dX13_toneMatch_197 F_X13_627 qf_950_44 ?_
      refine mj_aload_n dX13_toneMatch_200 1 rfl ?_
      refine t_getR 957 dX13_toneMatch_201 F_X13_32 qr_950_19 ?_
      refine mj_iload_n dX13_toneMatch_204 2 rfl ?_
      refine t_lald dX13_toneMatch_205 qa_957 (t_ixv c1) ?_
      refine mj_l2i (v := (s.2.1 957 (x2.toNatClampNeg)).toInt32) dX13_toneMatch_206 rfl ?_
      refine t_bndK hk (fun r13 er13 hk => ?_)
      refine t_callViP dX13_toneMatch_207 M_X13_find (C_X13_find _ _ _ _ _ _ er13) ML_X13_788 IM_X13_find SE_X13_find qc_950 rfl (As := [.ref 967, .int 0, .int (s.1 950 44), .int ((s.2.1 957 (x2.toNatClampNeg)).toInt32)]) rfl rfl (by omega) (Nat.le_of_ble_eq_true rfl) (Nat.le_of_ble_eq_true rfl) (Nat.le_of_ble_eq_true rfl) ?_
      refine mj_istore (lv2 := [(4, .int r13), (3, .int ((s.2.1 1006 (x3.toNatClampNeg)).toInt32)), (0, .ref 950), (1, .int x2), (2, .int x3)]) dX13_toneMatch_210 (by decide) rfl ?_
      refine mj_iload dX13_toneMatch_212 0 rfl ?_
      refine mj_if_lt 232 dX13_toneMatch_214 (by decide) (fun z => t_posK hk z (fun hk => ?_)) (fun z => t_negK hk z (fun hk => ?_))
      · refine mj_iload_n dX13_toneMatch_232 1 rfl ?_
        refine mj_iconst (v := 3) dX13_toneMatch_233 (by decide) ?_
        refine mj_icmp_ne 259 dX13_toneMatch_234 (by decide) (fun z => t_negK hk z (fun hk => ?_)) (fun z => t_posK hk z (fun hk => ?_))
        · refine mj_iconst (v := 0) dX13_toneMatch_259 (by decide) ?_
          exact t_somK hk (fun hf => t_iret dX13_toneMatch_260 rfl (by decide) ⟨_, rfl, hf⟩ (Nat.le_of_ble_eq_true rfl) (Nat.le_of_ble_eq_true rfl))
        · refine mj_aload_n dX13_toneMatch_237 2 rfl ?_
          refine t_getR 1006 dX13_toneMatch_238 F_X13_182 qr_950_95 ?_
          refine mj_iload_n dX13_toneMatch_241 4 rfl ?_
          refine mj_iconst (v := 1) dX13_toneMatch_242 (by decide) ?_
          refine mj_iadd dX13_toneMatch_243 ?_
          refine t_chkK hk (fun c13 hk => ?_)
          refine t_lald dX13_toneMatch_244 qa_1006 (t_ixv c13) ?_
          refine mj_aload_n dX13_toneMatch_245 2 rfl ?_
          refine t_getR 957 dX13_toneMatch_246 F_X13_32 qr_950_19 ?_
          refine mj_iload_n dX13_toneMatch_249 3 rfl ?_
          refine t_lald dX13_toneMatch_250 qa_957 (t_ixv c1) ?_
          refine mj_lcmp dX13_toneMatch_251 ?_
          refine mj_if_ne 259 dX13_toneMatch_252 (by decide) (fun z => t_negK hk z (fun hk => ?_)) (fun z => t_posK hk z (fun hk => ?_))
          · refine mj_iconst (v := 0) dX13_toneMatch_259 (by decide) ?_
            exact t_somK hk (fun hf => t_iret dX13_toneMatch_260 rfl (by decide) ⟨_, rfl, hf⟩ (Nat.le_of_ble_eq_true rfl) (Nat.le_of_ble_eq_true rfl))
          · refine mj_iconst (v := 1) dX13_toneMatch_255 (by decide) ?_
            refine mj_goto 260 dX13_toneMatch_256 (by decide) ?_
            exact t_somK hk (fun hf => t_iret dX13_toneMatch_260 rfl (by decide) ⟨_, rfl, hf⟩ (Nat.le_of_ble_eq_true rfl) (Nat.le_of_ble_eq_true rfl))
      · refine mj_aload_n dX13_toneMatch_217 2 rfl ?_
        refine mj_aload_n dX13_toneMatch_218 2 rfl ?_
        refine t_getR 968 dX13_toneMatch_219 F_X13_66 qr_950_42 ?_
        refine mj_iload dX13_toneMatch_222 0 rfl ?_
        refine t_chkK hk (fun c14 hk => ?_)
        refine t_iald dX13_toneMatch_224 qa_968 (t_ixv c14) ?_
        refine mj_iload_n dX13_toneMatch_225 4 rfl ?_
        refine t_bndK hk (fun r16 er16 hk => ?_)
        refine t_callSiE dX13_toneMatch_226 M_X13_match (H.2.2.2.2.1 _ _ _ _ er16) ML_X13_1233 SM_X13_match (As := [.ref 950, .int (s.1 968 (r13.toNatClampNeg)), .int x3]) rfl rfl (by omega) (Nat.le_of_ble_eq_true rfl) (Nat.le_of_ble_eq_true rfl) (Nat.le_of_ble_eq_true rfl) ?_
        refine mj_goto 260 dX13_toneMatch_229 (by decide) ?_
        refine t_chkK hk (fun c16 hk => ?_)
        exact t_somK hk (fun hf => t_iret dX13_toneMatch_260 rfl (t_zfit c16) ⟨_, rfl, hf⟩ (Nat.le_of_ble_eq_true rfl) (Nat.le_of_ble_eq_true rfl))
    replace hk := t_neg hk h8
    by_cases h9 : (s.1 955 (x2.toNatClampNeg)).toInt = 29
    · replace hk := t_pos hk h9
      refine mj_tableIn 334 dX13_toneMatch_14 hh1 hh2 (by rw [h9]; rfl) (by decide) ?_
      refine mj_iload_n dX13_toneMatch_334 0 rfl ?_
      refine mj_bipush (v := 6) dX13_toneMatch_335 (by decide) ?_
      refine mj_icmp_ne 353 dX13_toneMatch_337 (by decide) (fun z => t_negK hk z (fun hk => ?_)) (fun z => t_posK hk z (fun hk => ?_))
      · refine mj_iconst (v := 0) dX13_toneMatch_353 (by decide) ?_
        exact t_somK hk (fun hf => t_iret dX13_toneMatch_354 rfl (by decide) ⟨_, rfl, hf⟩ (Nat.le_of_ble_eq_true rfl) (Nat.le_of_ble_eq_true rfl))
      · refine mj_aload_n dX13_toneMatch_340 1 rfl ?_
        refine mj_iload_n dX13_toneMatch_341 2 rfl ?_
        refine mj_iload_n dX13_toneMatch_342 3 rfl ?_
        refine t_bndK hk (fun r18 er18 hk => ?_)
        refine t_callSiE dX13_toneMatch_343 M_X13_recordMatch (H.2.2.2.2.2.2.1 _ _ _ _ er18) ML_X13_1259 SM_X13_recordMatch (As := [.ref 950, .int x2, .int x3]) rfl rfl (by omega) (Nat.le_of_ble_eq_true rfl) (Nat.le_of_ble_eq_true rfl) (Nat.le_of_ble_eq_true rfl) ?_
        refine mj_if_eq 353 dX13_toneMatch_346 (by decide) (fun z => t_posK hk z (fun hk => ?_)) (fun z => t_negK hk z (fun hk => ?_))
        · refine mj_iconst (v := 0) dX13_toneMatch_353 (by decide) ?_
          exact t_somK hk (fun hf => t_iret dX13_toneMatch_354 rfl (by decide) ⟨_, rfl, hf⟩ (Nat.le_of_ble_eq_true rfl) (Nat.le_of_ble_eq_true rfl))
        · refine mj_iconst (v := 1) dX13_toneMatch_349 (by decide) ?_
          refine mj_goto 354 dX13_toneMatch_350 (by decide) ?_
          exact t_somK hk (fun hf => t_iret dX13_toneMatch_354 rfl (by decide) ⟨_, rfl, hf⟩ (Nat.le_of_ble_eq_true rfl) (Nat.le_of_ble_eq_true rfl))
    replace hk := t_neg hk h9
    by_cases h10 : (s.1 955 (x2.toNatClampNeg)).toInt = 30
    · replace hk := t_pos hk h10
      refine mj_tableIn 261 dX13_toneMatch_14 hh1 hh2 (by rw [h10]; rfl) (by decide) ?_
      refine mj_iload_n dX13_toneMatch_261 0 rfl ?_
      refine mj_bipush (v := 7) dX13_toneMatch_262 (by decide) ?_
      refine mj_icmp_ne 305 dX13_toneMatch_264 (by decide) (fun z => t_negK hk z (fun hk => ?_)) (fun z => t_posK hk z (fun hk => ?_))
      · refine mj_iconst (v := 0) dX13_toneMatch_305 (by decide) ?_
        exact t_somK hk (fun hf => t_iret dX13_toneMatch_306 rfl (by decide) ⟨_, rfl, hf⟩ (Nat.le_of_ble_eq_true rfl) (Nat.le_of_ble_eq_true rfl))
      · refine mj_aload_n dX13_toneMatch_267 1 rfl ?_
        refine t_getR 1006 dX13_toneMatch_268 F_X13_182 qr_950_95 ?_
        refine mj_iload_n dX13_toneMatch_271 3 rfl ?_
        refine mj_iconst (v := 1) dX13_toneMatch_272 (by decide) ?_
        refine mj_iadd dX13_toneMatch_273 ?_
        refine t_chkK hk (fun c18 hk => ?_)
        refine t_lald dX13_toneMatch_274 qa_1006 (t_ixv c18) ?_
        refine mj_aload_n dX13_toneMatch_275 1 rfl ?_
        refine t_getR 957 dX13_toneMatch_276 F_X13_32 qr_950_19 ?_
        refine mj_iload_n dX13_toneMatch_279 2 rfl ?_
        refine t_lald dX13_toneMatch_280 qa_957 (t_ixv c1) ?_
        refine mj_lcmp dX13_toneMatch_281 ?_
        refine mj_if_ne 305 dX13_toneMatch_282 (by decide) (fun z => t_negK hk z (fun hk => ?_)) (fun z => t_posK hk z (fun hk => ?_))
        · refine mj_iconst (v := 0) dX13_toneMatch_305 (by decide) ?_
          exact t_somK hk (fun hf => t_iret dX13_toneMatch_306 rfl (by decide) ⟨_, rfl, hf⟩ (Nat.le_of_ble_eq_true rfl) (Nat.le_of_ble_eq_true rfl))
        · refine mj_aload_n dX13_toneMatch_285 1 rfl ?_
          refine mj_aload_n dX13_toneMatch_286 1 rfl ?_
          refine t_getR 959 dX13_toneMatch_287 F_X13_39 qr_950_21 ?_
          refine mj_iload_n dX13_toneMatch_290 2 rfl ?_
          refine t_iald dX13_toneMatch_291 qa_959 (t_ixv c1) ?_
          refine mj_iload_n dX13_toneMatch_292 3 rfl ?_
          refine mj_iconst (v := 2) dX13_toneMatch_293 (by decide) ?_
          refine mj_iadd dX13_toneMatch_294 ?_
          refine t_bndK hk (fun r20 er20 hk => ?_)
          refine t_callSiE dX13_toneMatch_295 M_X13_match (H.2.2.2.2.1 _ _ _ _ er20) ML_X13_1233 SM_X13_match (As := [.ref 950, .int (s.1 959 (x2.toNatClampNeg)), .int (x3 + (2 : Int32))]) rfl rfl (by omega) (Nat.le_of_ble_eq_true rfl) (Nat.le_of_ble_eq_true rfl) (Nat.le_of_ble_eq_true rfl) ?_
          refine mj_if_eq 305 dX13_toneMatch_298 (by decide) (fun z => t_posK hk z (fun hk => ?_)) (fun z => t_negK hk z (fun hk => ?_))
          · refine mj_iconst (v := 0) dX13_toneMatch_305 (by decide) ?_
            exact t_somK hk (fun hf => t_iret dX13_toneMatch_306 rfl (by decide) ⟨_, rfl, hf⟩ (Nat.le_of_ble_eq_true rfl) (Nat.le_of_ble_eq_true rfl))
          · refine mj_iconst (v := 1) dX13_toneMatch_301 (by decide) ?_
            refine mj_goto 306 dX13_toneMatch_302 (by decide) ?_
            exact t_somK hk (fun hf => t_iret dX13_toneMatch_306 rfl (by decide) ⟨_, rfl, hf⟩ (Nat.le_of_ble_eq_true rfl) (Nat.le_of_ble_eq_true rfl))
    replace hk := t_neg hk h10
    by_cases h11 : (s.1 955 (x2.toNatClampNeg)).toInt = 31
    · replace hk := t_pos hk h11
      refine mj_tableIn 355 dX13_toneMatch_14 hh1 hh2 (by rw [h11]; rfl) (by decide) ?_
      refine mj_aload_n dX13_toneMatch_355 1 rfl ?_
      refine mj_iload_n dX13_toneMatch_356 2 rfl ?_
      refine mj_iload_n dX13_toneMatch_357 3 rfl ?_
      refine mj_iload_n dX13_toneMatch_358 0 rfl ?_
      refine t_bndK hk (fun r21 er21 hk => ?_)
      refine t_callSiE dX13_toneMatch_359 M_X13_manyMatch (H.2.2.2.1 _ _ _ _ _ er21) ML_X13_1262 SM_X13_manyMatch (As := [.ref 950, .int x2, .int x3, .int ((s.2.1 1006 (x3.toNatClampNeg)).toInt32)]) rfl rfl (by omega) (Nat.le_of_ble_eq_true rfl) (Nat.le_of_ble_eq_true rfl) (Nat.le_of_ble_eq_true rfl) ?_
      refine t_chkK hk (fun c21 hk => ?_)
      exact t_somK hk (fun hf => t_iret dX13_toneMatch_362 rfl (t_zfit c21) ⟨_, rfl, hf⟩ (Nat.le_of_ble_eq_true rfl) (Nat.le_of_ble_eq_true rfl))
    replace hk := t_neg hk h11
    by_cases h12 : (s.1 955 (x2.toNatClampNeg)).toInt = 32
    · replace hk := t_pos hk h12
      refine mj_tableIn 355 dX13_toneMatch_14 hh1 hh2 (by rw [h12]; rfl) (by decide) ?_
      refine mj_aload_n dX13_toneMatch_355 1 rfl ?_
      refine mj_iload_n dX13_toneMatch_356 2 rfl ?_
      refine mj_iload_n dX13_toneMatch_357 3 rfl ?_
      refine mj_iload_n dX13_toneMatch_358 0 rfl ?_
      refine t_bndK hk (fun r23 er23 hk => ?_)
      refine t_callSiE dX13_toneMatch_359 M_X13_manyMatch (H.2.2.2.1 _ _ _ _ _ er23) ML_X13_1262 SM_X13_manyMatch (As := [.ref 950, .int x2, .int x3, .int ((s.2.1 1006 (x3.toNatClampNeg)).toInt32)]) rfl rfl (by omega) (Nat.le_of_ble_eq_true rfl) (Nat.le_of_ble_eq_true rfl) (Nat.le_of_ble_eq_true rfl) ?_
      refine t_chkK hk (fun c23 hk => ?_)
      exact t_somK hk (fun hf => t_iret dX13_toneMatch_362 rfl (t_zfit c23) ⟨_, rfl, hf⟩ (Nat.le_of_ble_eq_true rfl) (Nat.le_of_ble_eq_true rfl))
    replace hk := t_neg hk h12
    by_cases h13 : (s.1 955 (x2.toNatClampNeg)).toInt = 33
    · replace hk := t_pos hk h13
      refine mj_tableIn 355 dX13_toneMatch_14 hh1 hh2 (by rw [h13]; rfl) (by decide) ?_
      refine mj_aload_n dX13_toneMatch_355 1 rfl ?_
      refine mj_iload_n dX13_toneMatch_356 2 rfl ?_
      refine mj_iload_n dX13_toneMatch_357 3 rfl ?_
      refine mj_iload_n dX13_toneMatch_358 0 rfl ?_
      refine t_bndK hk (fun r25 er25 hk => ?_)
      refine t_callSiE dX13_toneMatch_359 M_X13_manyMatch (H.2.2.2.1 _ _ _ _ _ er25) ML_X13_1262 SM_X13_manyMatch (As := [.ref 950, .int x2, .int x3, .int ((s.2.1 1006 (x3.toNatClampNeg)).toInt32)]) rfl rfl (by omega) (Nat.le_of_ble_eq_true rfl) (Nat.le_of_ble_eq_true rfl) (Nat.le_of_ble_eq_true rfl) ?_
      refine t_chkK hk (fun c25 hk => ?_)
      exact t_somK hk (fun hf => t_iret dX13_toneMatch_362 rfl (t_zfit c25) ⟨_, rfl, hf⟩ (Nat.le_of_ble_eq_true rfl) (Nat.le_of_ble_eq_true rfl))
    replace hk := t_neg hk h13
    by_cases h14 : (s.1 955 (x2.toNatClampNeg)).toInt = 34
    · replace hk := t_pos hk h14
      refine mj_tableIn 355 dX13_toneMatch_14 hh1 hh2 (by rw [h14]; rfl) (by decide) ?_
      refine mj_aload_n dX13_toneMatch_355 1 rfl ?_
      refine mj_iload_n dX13_toneMatch_356 2 rfl ?_
      refine mj_iload_n dX13_toneMatch_357 3 rfl ?_
      refine mj_iload_n dX13_toneMatch_358 0 rfl ?_
      refine t_bndK hk (fun r27 er27 hk => ?_)
      refine t_callSiE dX13_toneMatch_359 M_X13_manyMatch (H.2.2.2.1 _ _ _ _ _ er27) ML_X13_1262 SM_X13_manyMatch (As := [.ref 950, .int x2, .int x3, .int ((s.2.1 1006 (x3.toNatClampNeg)).toInt32)]) rfl rfl (by omega) (Nat.le_of_ble_eq_true rfl) (Nat.le_of_ble_eq_true rfl) (Nat.le_of_ble_eq_true rfl) ?_
      refine t_chkK hk (fun c27 hk => ?_)
      exact t_somK hk (fun hf => t_iret dX13_toneMatch_362 rfl (t_zfit c27) ⟨_, rfl, hf⟩ (Nat.le_of_ble_eq_true rfl) (Nat.le_of_ble_eq_true rfl))
    replace hk := t_neg hk h14
    by_cases h15 : (s.1 955 (x2.toNatClampNeg)).toInt = 35
    · replace hk := t_pos hk h15
      refine mj_tableIn 307 dX13_toneMatch_14 hh1 hh2 (by rw [h15]; rfl) (by decide) ?_
      refine mj_iload_n dX13_toneMatch_307 0 rfl ?_
      refine mj_iconst (v := 2) dX13_toneMatch_308 (by decide) ?_
      refine mj_icmp_ne 325 dX13_toneMatch_309 (by decide) (fun z => t_negK hk z (fun hk => ?_)) (fun z => t_posK hk z (fun hk => ?_))
      · refine mj_iconst (v := 0) dX13_toneMatch_325 (by decide) ?_
        exact t_somK hk (fun hf => t_iret dX13_toneMatch_326 rfl (by decide) ⟨_, rfl, hf⟩ (Nat.le_of_ble_eq_true rfl) (Nat.le_of_ble_eq_true rfl))
      · refine mj_aload_n dX13_toneMatch_312 1 rfl ?_
        refine mj_iload_n dX13_toneMatch_313 2 rfl ?_
        refine mj_iload_n dX13_toneMatch_314 3 rfl ?_
        refine t_bndK hk (fun r29 er29 hk => ?_)
        refine t_callViP dX13_toneMatch_315 M_X13_isPattern (C_X13_isPattern _ _ _ _ er29) ML_X13_1253 IM_X13_isPattern SE_X13_isPattern qc_950 rfl (As := [.int x2, .int x3]) rfl rfl (by omega) (Nat.le_of_ble_eq_true rfl) (Nat.le_of_ble_eq_true rfl) (Nat.le_of_ble_eq_true rfl) ?_
        refine mj_if_eq 325 dX13_toneMatch_318 (by decide) (fun z => t_posK hk z (fun hk => ?_)) (fun z => t_negK hk z (fun hk => ?_))
        · refine mj_iconst (v := 0) dX13_toneMatch_325 (by decide) ?_
          exact t_somK hk (fun hf => t_iret dX13_toneMatch_326 rfl (by decide) ⟨_, rfl, hf⟩ (Nat.le_of_ble_eq_true rfl) (Nat.le_of_ble_eq_true rfl))
        · refine mj_iconst (v := 1) dX13_toneMatch_321 (by decide) ?_
          refine mj_goto 326 dX13_toneMatch_322 (by decide) ?_
          exact t_somK hk (fun hf => t_iret dX13_toneMatch_326 rfl (by decide) ⟨_, rfl, hf⟩ (Nat.le_of_ble_eq_true rfl) (Nat.le_of_ble_eq_true rfl))
    replace hk := t_neg hk h15
    by_cases h16 : (s.1 955 (x2.toNatClampNeg)).toInt = 36
    · replace hk := t_pos hk h16
      refine mj_tableIn 355 dX13_toneMatch_14 hh1 hh2 (by rw [h16]; rfl) (by decide) ?_
      refine mj_aload_n dX13_toneMatch_355 1 rfl ?_
      refine mj_iload_n dX13_toneMatch_356 2 rfl ?_
      refine mj_iload_n dX13_toneMatch_357 3 rfl ?_
      refine mj_iload_n dX13_toneMatch_358 0 rfl ?_
      refine t_bndK hk (fun r30 er30 hk => ?_)
      refine t_callSiE dX13_toneMatch_359 M_X13_manyMatch (H.2.2.2.1 _ _ _ _ _ er30) ML_X13_1262 SM_X13_manyMatch (As := [.ref 950, .int x2, .int x3, .int ((s.2.1 1006 (x3.toNatClampNeg)).toInt32)]) rfl rfl (by omega) (Nat.le_of_ble_eq_true rfl) (Nat.le_of_ble_eq_true rfl) (Nat.le_of_ble_eq_true rfl) ?_
      refine t_chkK hk (fun c30 hk => ?_)
      exact t_somK hk (fun hf => t_iret dX13_toneMatch_362 rfl (t_zfit c30) ⟨_, rfl, hf⟩ (Nat.le_of_ble_eq_true rfl) (Nat.le_of_ble_eq_true rfl))
    replace hk := t_neg hk h16
    by_cases h17 : (s.1 955 (x2.toNatClampNeg)).toInt = 37
    · replace hk := t_pos hk h17
      refine mj_tableIn 355 dX13_toneMatch_14 hh1 hh2 (by rw [h17]; rfl) (by decide) ?_
      refine mj_aload_n dX13_toneMatch_355 1 rfl ?_
      refine mj_iload_n dX13_toneMatch_356 2 rfl ?_
      refine mj_iload_n dX13_toneMatch_357 3 rfl ?_
      refine mj_iload_n dX13_toneMatch_358 0 rfl ?_
      refine t_bndK hk (fun r32 er32 hk => ?_)
      refine t_callSiE dX13_toneMatch_359 M_X13_manyMatch (H.2.2.2.1 _ _ _ _ _ er32) ML_X13_1262 SM_X13_manyMatch (As := [.ref 950, .int x2, .int x3, .int ((s.2.1 1006 (x3.toNatClampNeg)).toInt32)]) rfl rfl (by omega) (Nat.le_of_ble_eq_true rfl) (Nat.le_of_ble_eq_true rfl) (Nat.le_of_ble_eq_true rfl) ?_
      refine t_chkK hk (fun c32 hk => ?_)
      exact t_somK hk (fun hf => t_iret dX13_toneMatch_362 rfl (t_zfit c32) ⟨_, rfl, hf⟩ (Nat.le_of_ble_eq_true rfl) (Nat.le_of_ble_eq_true rfl))
    replace hk := t_neg hk h17
    have h18 : (s.1 955 (x2.toNatClampNeg)).toInt = 38 := by omega
    refine mj_tableIn 327 dX13_toneMatch_14 hh1 hh2 (by rw [h18]; rfl) (by decide) ?_
    refine mj_aload_n dX13_toneMatch_327 1 rfl ?_
    refine mj_iload_n dX13_toneMatch_328 2 rfl ?_
    refine mj_iload_n dX13_toneMatch_329 3 rfl ?_
    refine t_bndK hk (fun r34 er34 hk => ?_)
    refine t_callViP dX13_toneMatch_330 M_X13_isPrepared (C_X13_isPrepared _ _ _ _ er34) ML_X13_1256 IM_X13_isPrepared SE_X13_isPrepared qc_950 rfl (As := [.int x2, .int x3]) rfl rfl (by omega) (Nat.le_of_ble_eq_true rfl) (Nat.le_of_ble_eq_true rfl) (Nat.le_of_ble_eq_true rfl) ?_
    refine t_chkK hk (fun c34 hk => ?_)
    exact t_somK hk (fun hf => t_iret dX13_toneMatch_333 rfl (t_zfit c34) ⟨_, rfl, hf⟩ (Nat.le_of_ble_eq_true rfl) (Nat.le_of_ble_eq_true rfl))
/-- so many calls deep -/
noncomputable def R_X13_assign : Nat → RT_X13_assign
  | 0 => ⟨fun _ _ _ _ _ _ => none, fun _ _ _ => none, fun _ _ _ => none, fun _ _ _ _ => none, fun _ _ _ => none, fun _ _ => none, fun _ _ _ => none, fun _ _ _ => none⟩
  | k + 1 => ⟨fun x2 x3 x4 x5 x6 s => m_X13_assign (R_X13_assign k) x2 x3 x4 x5 x6 s, fun x2 x3 s => m_X13_lengthMatch (R_X13_assign k) x2 x3 s, fun x2 x3 s => m_X13_listMatch (R_X13_assign k) x2 x3 s, fun x2 x3 x4 s => m_X13_manyMatch (R_X13_assign k) x2 x3 x4 s, fun x2 x3 s => m_X13_match (R_X13_assign k) x2 x3 s, fun x2 s => m_X13_omitMatch (R_X13_assign k) x2 s, fun x2 x3 s => m_X13_recordMatch (R_X13_assign k) x2 x3 s, fun x2 x3 s => m_X13_toneMatch (R_X13_assign k) x2 x3 s⟩
theorem RR_X13_assign : ∀ k : Nat, RH_X13_assign (R_X13_assign k) k := by
  intro k
  induction k with
  | zero => exact ⟨fun _ _ _ _ _ _ _ h => (by cases h), fun _ _ _ _ h => (by cases h), fun _ _ _ _ h => (by cases h), fun _ _ _ _ _ h => (by cases h), fun _ _ _ _ h => (by cases h), fun _ _ _ h => (by cases h), fun _ _ _ _ h => (by cases h), fun _ _ _ _ h => (by cases h)⟩
  | succ k ih => exact ⟨fun x2 x3 x4 x5 x6 s r h => E_X13_assign (R_X13_assign k) ih x2 x3 x4 x5 x6 s r h, fun x2 x3 s r h => E_X13_lengthMatch (R_X13_assign k) ih x2 x3 s r h, fun x2 x3 s r h => E_X13_listMatch (R_X13_assign k) ih x2 x3 s r h, fun x2 x3 x4 s r h => E_X13_manyMatch (R_X13_assign k) ih x2 x3 x4 s r h, fun x2 x3 s r h => E_X13_match (R_X13_assign k) ih x2 x3 s r h, fun x2 s r h => E_X13_omitMatch (R_X13_assign k) ih x2 s r h, fun x2 x3 s r h => E_X13_recordMatch (R_X13_assign k) ih x2 x3 s r h, fun x2 x3 s r h => E_X13_toneMatch (R_X13_assign k) ih x2 x3 s r h⟩
noncomputable def f_X13_assign (x2 : Int32) (x3 : Int32) (x4 : Int32) (x5 : Int32) (x6 : Int32) (s : t_S) : Option (Int32 × t_S) := (R_X13_assign 680).1 x2 x3 x4 x5 x6 s
theorem C_X13_assign (x2 : Int32) (x3 : Int32) (x4 : Int32) (x5 : Int32) (x6 : Int32) (s : t_S) (r : Int32 × t_S) (hr : f_X13_assign x2 x3 x4 x5 x6 s = some r) : t_C yX13_assign cX13_assign 25 (some .boolean) 782 [.ref 950, .int x2, .int x3, .int x4, .int x5, .int x6] s (fun v s' => v = some (.int r.1) ∧ s' = r.2) := (RR_X13_assign 680).1 x2 x3 x4 x5 x6 s r hr
noncomputable def f_X13_lengthMatch (x2 : Int32) (x3 : Int32) (s : t_S) : Option (Int32 × t_S) := (R_X13_assign 680).2.1 x2 x3 s
theorem C_X13_lengthMatch (x2 : Int32) (x3 : Int32) (s : t_S) (r : Int32 × t_S) (hr : f_X13_lengthMatch x2 x3 s = some r) : t_C yX13_lengthMatch cX13_lengthMatch 4 (some .boolean) 782 [.ref 950, .int x2, .int x3] s (fun v s' => v = some (.int r.1) ∧ s' = r.2) := (RR_X13_assign 680).2.1 x2 x3 s r hr
noncomputable def f_X13_listMatch (x2 : Int32) (x3 : Int32) (s : t_S) : Option (Int32 × t_S) := (R_X13_assign 680).2.2.1 x2 x3 s
theorem C_X13_listMatch (x2 : Int32) (x3 : Int32) (s : t_S) (r : Int32 × t_S) (hr : f_X13_listMatch x2 x3 s = some r) : t_C yX13_listMatch cX13_listMatch 11 (some .boolean) 782 [.ref 950, .int x2, .int x3] s (fun v s' => v = some (.int r.1) ∧ s' = r.2) := (RR_X13_assign 680).2.2.1 x2 x3 s r hr
noncomputable def f_X13_manyMatch (x2 : Int32) (x3 : Int32) (x4 : Int32) (s : t_S) : Option (Int32 × t_S) := (R_X13_assign 680).2.2.2.1 x2 x3 x4 s
theorem C_X13_manyMatch (x2 : Int32) (x3 : Int32) (x4 : Int32) (s : t_S) (r : Int32 × t_S) (hr : f_X13_manyMatch x2 x3 x4 s = some r) : t_C yX13_manyMatch cX13_manyMatch 8 (some .boolean) 782 [.ref 950, .int x2, .int x3, .int x4] s (fun v s' => v = some (.int r.1) ∧ s' = r.2) := (RR_X13_assign 680).2.2.2.1 x2 x3 x4 s r hr
noncomputable def f_X13_match (x2 : Int32) (x3 : Int32) (s : t_S) : Option (Int32 × t_S) := (R_X13_assign 680).2.2.2.2.1 x2 x3 s
theorem C_X13_match (x2 : Int32) (x3 : Int32) (s : t_S) (r : Int32 × t_S) (hr : f_X13_match x2 x3 s = some r) : t_C yX13_match cX13_match 7 (some .boolean) 782 [.ref 950, .int x2, .int x3] s (fun v s' => v = some (.int r.1) ∧ s' = r.2) := (RR_X13_assign 680).2.2.2.2.1 x2 x3 s r hr
noncomputable def f_X13_omitMatch (x2 : Int32) (s : t_S) : Option (Int32 × t_S) := (R_X13_assign 680).2.2.2.2.2.1 x2 s
theorem C_X13_omitMatch (x2 : Int32) (s : t_S) (r : Int32 × t_S) (hr : f_X13_omitMatch x2 s = some r) : t_C yX13_omitMatch cX13_omitMatch 7 (some .boolean) 782 [.ref 950, .int x2] s (fun v s' => v = some (.int r.1) ∧ s' = r.2) := (RR_X13_assign 680).2.2.2.2.2.1 x2 s r hr
noncomputable def f_X13_recordMatch (x2 : Int32) (x3 : Int32) (s : t_S) : Option (Int32 × t_S) := (R_X13_assign 680).2.2.2.2.2.2.1 x2 x3 s
theorem C_X13_recordMatch (x2 : Int32) (x3 : Int32) (s : t_S) (r : Int32 × t_S) (hr : f_X13_recordMatch x2 x3 s = some r) : t_C yX13_recordMatch cX13_recordMatch 6 (some .boolean) 782 [.ref 950, .int x2, .int x3] s (fun v s' => v = some (.int r.1) ∧ s' = r.2) := (RR_X13_assign 680).2.2.2.2.2.2.1 x2 x3 s r hr
noncomputable def f_X13_toneMatch (x2 : Int32) (x3 : Int32) (s : t_S) : Option (Int32 × t_S) := (R_X13_assign 680).2.2.2.2.2.2.2 x2 x3 s
theorem C_X13_toneMatch (x2 : Int32) (x3 : Int32) (s : t_S) (r : Int32 × t_S) (hr : f_X13_toneMatch x2 x3 s = some r) : t_C yX13_toneMatch cX13_toneMatch 5 (some .boolean) 782 [.ref 950, .int x2, .int x3] s (fun v s' => v = some (.int r.1) ∧ s' = r.2) := (RR_X13_assign 680).2.2.2.2.2.2.2 x2 x3 s r hr

