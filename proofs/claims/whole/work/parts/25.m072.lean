/-! Methods as functions, 72: X13_makeComponent, X13_newFrame, X13_settle -/
theorem qa_981 : t_oka 981 1 40 = true := by decide +kernel
theorem qf_950_65 : t_okf 950 13 65 0 = true := by decide +kernel
theorem qr_950_57 : t_okr 950 13 57 981 = true := by decide +kernel
theorem dX13_makeComponent_0 : decode cX13_makeComponent 0 = .ok (.aload_n 0, 1) := by decide +kernel
theorem dX13_makeComponent_1 : decode cX13_makeComponent 1 = .ok (.getfield 1315, 3) := by decide +kernel
theorem dX13_makeComponent_10 : decode cX13_makeComponent 10 = .ok (.iconst 1, 1) := by decide +kernel
theorem dX13_makeComponent_100 : decode cX13_makeComponent 100 = .ok (.bipush 6, 2) := by decide +kernel
theorem dX13_makeComponent_102 : decode cX13_makeComponent 102 = .ok (.iload_n 2, 1) := by decide +kernel
theorem dX13_makeComponent_103 : decode cX13_makeComponent 103 = .ok (.imul, 1) := by decide +kernel
theorem dX13_makeComponent_104 : decode cX13_makeComponent 104 = .ok (.iload_n 3, 1) := by decide +kernel
theorem dX13_makeComponent_105 : decode cX13_makeComponent 105 = .ok (.iadd, 1) := by decide +kernel
theorem dX13_makeComponent_106 : decode cX13_makeComponent 106 = .ok (.iconst (-1), 1) := by decide +kernel
theorem dX13_makeComponent_107 : decode cX13_makeComponent 107 = .ok (.iastore, 1) := by decide +kernel
theorem dX13_makeComponent_108 : decode cX13_makeComponent 108 = .ok (.iinc 3 1, 3) := by decide +kernel
theorem dX13_makeComponent_11 : decode cX13_makeComponent 11 = .ok (.iadd, 1) := by decide +kernel
theorem dX13_makeComponent_111 : decode cX13_makeComponent 111 = .ok (.goto (-45), 3) := by decide +kernel
theorem dX13_makeComponent_114 : decode cX13_makeComponent 114 = .ok (.iconst 0, 1) := by decide +kernel
theorem dX13_makeComponent_115 : decode cX13_makeComponent 115 = .ok (.istore_n 3, 1) := by decide +kernel
theorem dX13_makeComponent_116 : decode cX13_makeComponent 116 = .ok (.iload_n 3, 1) := by decide +kernel
theorem dX13_makeComponent_117 : decode cX13_makeComponent 117 = .ok (.iconst 4, 1) := by decide +kernel
theorem dX13_makeComponent_118 : decode cX13_makeComponent 118 = .ok (.if_icmp .ge 22, 3) := by decide +kernel
theorem dX13_makeComponent_12 : decode cX13_makeComponent 12 = .ok (.putfield 1315, 3) := by decide +kernel
theorem dX13_makeComponent_121 : decode cX13_makeComponent 121 = .ok (.aload_n 0, 1) := by decide +kernel
theorem dX13_makeComponent_122 : decode cX13_makeComponent 122 = .ok (.getfield 321, 3) := by decide +kernel
theorem dX13_makeComponent_125 : decode cX13_makeComponent 125 = .ok (.iconst 4, 1) := by decide +kernel
theorem dX13_makeComponent_126 : decode cX13_makeComponent 126 = .ok (.iload_n 2, 1) := by decide +kernel
theorem dX13_makeComponent_127 : decode cX13_makeComponent 127 = .ok (.imul, 1) := by decide +kernel
theorem dX13_makeComponent_128 : decode cX13_makeComponent 128 = .ok (.iload_n 3, 1) := by decide +kernel
theorem dX13_makeComponent_129 : decode cX13_makeComponent 129 = .ok (.iadd, 1) := by decide +kernel
theorem dX13_makeComponent_130 : decode cX13_makeComponent 130 = .ok (.ldc2_w 1087, 3) := by decide +kernel
theorem dX13_makeComponent_133 : decode cX13_makeComponent 133 = .ok (.lastore, 1) := by decide +kernel
theorem dX13_makeComponent_134 : decode cX13_makeComponent 134 = .ok (.iinc 3 1, 3) := by decide +kernel
theorem dX13_makeComponent_137 : decode cX13_makeComponent 137 = .ok (.goto (-21), 3) := by decide +kernel
theorem dX13_makeComponent_140 : decode cX13_makeComponent 140 = .ok (.iconst 0, 1) := by decide +kernel
theorem dX13_makeComponent_141 : decode cX13_makeComponent 141 = .ok (.istore_n 3, 1) := by decide +kernel
theorem dX13_makeComponent_142 : decode cX13_makeComponent 142 = .ok (.iload_n 3, 1) := by decide +kernel
theorem dX13_makeComponent_143 : decode cX13_makeComponent 143 = .ok (.bipush 8, 2) := by decide +kernel
theorem dX13_makeComponent_145 : decode cX13_makeComponent 145 = .ok (.if_icmp .ge 35, 3) := by decide +kernel
theorem dX13_makeComponent_148 : decode cX13_makeComponent 148 = .ok (.aload_n 0, 1) := by decide +kernel
theorem dX13_makeComponent_149 : decode cX13_makeComponent 149 = .ok (.sipush 840, 3) := by decide +kernel
theorem dX13_makeComponent_15 : decode cX13_makeComponent 15 = .ok (.aload_n 0, 1) := by decide +kernel
theorem dX13_makeComponent_152 : decode cX13_makeComponent 152 = .ok (.bipush 8, 2) := by decide +kernel
theorem dX13_makeComponent_154 : decode cX13_makeComponent 154 = .ok (.iload_n 2, 1) := by decide +kernel
theorem dX13_makeComponent_155 : decode cX13_makeComponent 155 = .ok (.imul, 1) := by decide +kernel
theorem dX13_makeComponent_156 : decode cX13_makeComponent 156 = .ok (.iadd, 1) := by decide +kernel
theorem dX13_makeComponent_157 : decode cX13_makeComponent 157 = .ok (.iload_n 3, 1) := by decide +kernel
theorem dX13_makeComponent_158 : decode cX13_makeComponent 158 = .ok (.iadd, 1) := by decide +kernel
theorem dX13_makeComponent_159 : decode cX13_makeComponent 159 = .ok (.invokevirtual 1318, 3) := by decide +kernel
theorem dX13_makeComponent_16 : decode cX13_makeComponent 16 = .ok (.getfield 273, 3) := by decide +kernel
theorem dX13_makeComponent_162 : decode cX13_makeComponent 162 = .ok (.aload_n 0, 1) := by decide +kernel
theorem dX13_makeComponent_163 : decode cX13_makeComponent 163 = .ok (.getfield 336, 3) := by decide +kernel
theorem dX13_makeComponent_166 : decode cX13_makeComponent 166 = .ok (.bipush 8, 2) := by decide +kernel
theorem dX13_makeComponent_168 : decode cX13_makeComponent 168 = .ok (.iload_n 2, 1) := by decide +kernel
theorem dX13_makeComponent_169 : decode cX13_makeComponent 169 = .ok (.imul, 1) := by decide +kernel
theorem dX13_makeComponent_170 : decode cX13_makeComponent 170 = .ok (.iload_n 3, 1) := by decide +kernel
theorem dX13_makeComponent_171 : decode cX13_makeComponent 171 = .ok (.iadd, 1) := by decide +kernel
theorem dX13_makeComponent_172 : decode cX13_makeComponent 172 = .ok (.iconst 0, 1) := by decide +kernel
theorem dX13_makeComponent_173 : decode cX13_makeComponent 173 = .ok (.bastore, 1) := by decide +kernel
theorem dX13_makeComponent_174 : decode cX13_makeComponent 174 = .ok (.iinc 3 1, 3) := by decide +kernel
theorem dX13_makeComponent_177 : decode cX13_makeComponent 177 = .ok (.goto (-35), 3) := by decide +kernel
theorem dX13_makeComponent_180 : decode cX13_makeComponent 180 = .ok (.aload_n 0, 1) := by decide +kernel
theorem dX13_makeComponent_181 : decode cX13_makeComponent 181 = .ok (.getfield 917, 3) := by decide +kernel
theorem dX13_makeComponent_184 : decode cX13_makeComponent 184 = .ok (.istore_n 3, 1) := by decide +kernel
theorem dX13_makeComponent_185 : decode cX13_makeComponent 185 = .ok (.aload_n 0, 1) := by decide +kernel
theorem dX13_makeComponent_186 : decode cX13_makeComponent 186 = .ok (.getfield 935, 3) := by decide +kernel
theorem dX13_makeComponent_189 : decode cX13_makeComponent 189 = .ok (.istore 4, 2) := by decide +kernel
theorem dX13_makeComponent_19 : decode cX13_makeComponent 19 = .ok (.iload_n 2, 1) := by decide +kernel
theorem dX13_makeComponent_191 : decode cX13_makeComponent 191 = .ok (.aload_n 0, 1) := by decide +kernel
theorem dX13_makeComponent_192 : decode cX13_makeComponent 192 = .ok (.iload_n 2, 1) := by decide +kernel
theorem dX13_makeComponent_193 : decode cX13_makeComponent 193 = .ok (.putfield 917, 3) := by decide +kernel
theorem dX13_makeComponent_196 : decode cX13_makeComponent 196 = .ok (.aload_n 0, 1) := by decide +kernel
theorem dX13_makeComponent_197 : decode cX13_makeComponent 197 = .ok (.iconst (-1), 1) := by decide +kernel
theorem dX13_makeComponent_198 : decode cX13_makeComponent 198 = .ok (.putfield 935, 3) := by decide +kernel
theorem dX13_makeComponent_20 : decode cX13_makeComponent 20 = .ok (.iload_n 1, 1) := by decide +kernel
theorem dX13_makeComponent_201 : decode cX13_makeComponent 201 = .ok (.iconst 0, 1) := by decide +kernel
theorem dX13_makeComponent_202 : decode cX13_makeComponent 202 = .ok (.istore 5, 2) := by decide +kernel
theorem dX13_makeComponent_204 : decode cX13_makeComponent 204 = .ok (.iload 5, 2) := by decide +kernel
theorem dX13_makeComponent_206 : decode cX13_makeComponent 206 = .ok (.aload_n 0, 1) := by decide +kernel
theorem dX13_makeComponent_207 : decode cX13_makeComponent 207 = .ok (.getfield 99, 3) := by decide +kernel
theorem dX13_makeComponent_21 : decode cX13_makeComponent 21 = .ok (.iastore, 1) := by decide +kernel
theorem dX13_makeComponent_210 : decode cX13_makeComponent 210 = .ok (.iload_n 1, 1) := by decide +kernel
theorem dX13_makeComponent_211 : decode cX13_makeComponent 211 = .ok (.iaload, 1) := by decide +kernel
theorem dX13_makeComponent_212 : decode cX13_makeComponent 212 = .ok (.if_icmp .ge 110, 3) := by decide +kernel
theorem dX13_makeComponent_215 : decode cX13_makeComponent 215 = .ok (.aload_n 0, 1) := by decide +kernel
theorem dX13_makeComponent_216 : decode cX13_makeComponent 216 = .ok (.getfield 842, 3) := by decide +kernel
theorem dX13_makeComponent_219 : decode cX13_makeComponent 219 = .ok (.ifCond .ne 103, 3) := by decide +kernel
theorem dX13_makeComponent_22 : decode cX13_makeComponent 22 = .ok (.aload_n 0, 1) := by decide +kernel
theorem dX13_makeComponent_222 : decode cX13_makeComponent 222 = .ok (.aload_n 0, 1) := by decide +kernel
theorem dX13_makeComponent_223 : decode cX13_makeComponent 223 = .ok (.getfield 858, 3) := by decide +kernel
theorem dX13_makeComponent_226 : decode cX13_makeComponent 226 = .ok (.istore 6, 2) := by decide +kernel
theorem dX13_makeComponent_228 : decode cX13_makeComponent 228 = .ok (.aload_n 0, 1) := by decide +kernel
theorem dX13_makeComponent_229 : decode cX13_makeComponent 229 = .ok (.aload_n 0, 1) := by decide +kernel
theorem dX13_makeComponent_23 : decode cX13_makeComponent 23 = .ok (.getfield 276, 3) := by decide +kernel
theorem dX13_makeComponent_230 : decode cX13_makeComponent 230 = .ok (.getfield 96, 3) := by decide +kernel
theorem dX13_makeComponent_233 : decode cX13_makeComponent 233 = .ok (.bipush 8, 2) := by decide +kernel
theorem dX13_makeComponent_235 : decode cX13_makeComponent 235 = .ok (.iload_n 1, 1) := by decide +kernel
theorem dX13_makeComponent_236 : decode cX13_makeComponent 236 = .ok (.imul, 1) := by decide +kernel
theorem dX13_makeComponent_237 : decode cX13_makeComponent 237 = .ok (.iload 5, 2) := by decide +kernel
theorem dX13_makeComponent_239 : decode cX13_makeComponent 239 = .ok (.iadd, 1) := by decide +kernel
theorem dX13_makeComponent_240 : decode cX13_makeComponent 240 = .ok (.iaload, 1) := by decide +kernel
theorem dX13_makeComponent_241 : decode cX13_makeComponent 241 = .ok (.invokestatic 897, 3) := by decide +kernel
theorem dX13_makeComponent_244 : decode cX13_makeComponent 244 = .ok (.aload_n 0, 1) := by decide +kernel
theorem dX13_makeComponent_245 : decode cX13_makeComponent 245 = .ok (.getfield 842, 3) := by decide +kernel
theorem dX13_makeComponent_248 : decode cX13_makeComponent 248 = .ok (.ifCond .ne 23, 3) := by decide +kernel
theorem dX13_makeComponent_251 : decode cX13_makeComponent 251 = .ok (.aload_n 0, 1) := by decide +kernel
theorem dX13_makeComponent_252 : decode cX13_makeComponent 252 = .ok (.aload_n 0, 1) := by decide +kernel
theorem dX13_makeComponent_253 : decode cX13_makeComponent 253 = .ok (.getfield 90, 3) := by decide +kernel
theorem dX13_makeComponent_256 : decode cX13_makeComponent 256 = .ok (.bipush 8, 2) := by decide +kernel
theorem dX13_makeComponent_258 : decode cX13_makeComponent 258 = .ok (.iload_n 1, 1) := by decide +kernel
theorem dX13_makeComponent_259 : decode cX13_makeComponent 259 = .ok (.imul, 1) := by decide +kernel
theorem dX13_makeComponent_26 : decode cX13_makeComponent 26 = .ok (.iload_n 2, 1) := by decide +kernel
theorem dX13_makeComponent_260 : decode cX13_makeComponent 260 = .ok (.iload 5, 2) := by decide +kernel
theorem dX13_makeComponent_262 : decode cX13_makeComponent 262 = .ok (.iadd, 1) := by decide +kernel
theorem dX13_makeComponent_263 : decode cX13_makeComponent 263 = .ok (.iaload, 1) := by decide +kernel
theorem dX13_makeComponent_264 : decode cX13_makeComponent 264 = .ok (.aload_n 0, 1) := by decide +kernel
theorem dX13_makeComponent_265 : decode cX13_makeComponent 265 = .ok (.invokevirtual 941, 3) := by decide +kernel
theorem dX13_makeComponent_268 : decode cX13_makeComponent 268 = .ok (.invokevirtual 1321, 3) := by decide +kernel
theorem dX13_makeComponent_27 : decode cX13_makeComponent 27 = .ok (.iconst 0, 1) := by decide +kernel
theorem dX13_makeComponent_271 : decode cX13_makeComponent 271 = .ok (.aload_n 0, 1) := by decide +kernel
theorem dX13_makeComponent_272 : decode cX13_makeComponent 272 = .ok (.getfield 842, 3) := by decide +kernel
theorem dX13_makeComponent_275 : decode cX13_makeComponent 275 = .ok (.ifCond .ne 35, 3) := by decide +kernel
theorem dX13_makeComponent_278 : decode cX13_makeComponent 278 = .ok (.aload_n 0, 1) := by decide +kernel
theorem dX13_makeComponent_279 : decode cX13_makeComponent 279 = .ok (.aload_n 0, 1) := by decide +kernel
theorem dX13_makeComponent_28 : decode cX13_makeComponent 28 = .ok (.iastore, 1) := by decide +kernel
theorem dX13_makeComponent_280 : decode cX13_makeComponent 280 = .ok (.invokevirtual 941, 3) := by decide +kernel
theorem dX13_makeComponent_283 : decode cX13_makeComponent 283 = .ok (.sipush 840, 3) := by decide +kernel
theorem dX13_makeComponent_286 : decode cX13_makeComponent 286 = .ok (.bipush 8, 2) := by decide +kernel
theorem dX13_makeComponent_288 : decode cX13_makeComponent 288 = .ok (.iload_n 2, 1) := by decide +kernel
theorem dX13_makeComponent_289 : decode cX13_makeComponent 289 = .ok (.imul, 1) := by decide +kernel
theorem dX13_makeComponent_29 : decode cX13_makeComponent 29 = .ok (.aload_n 0, 1) := by decide +kernel
theorem dX13_makeComponent_290 : decode cX13_makeComponent 290 = .ok (.iadd, 1) := by decide +kernel
theorem dX13_makeComponent_291 : decode cX13_makeComponent 291 = .ok (.iload 5, 2) := by decide +kernel
theorem dX13_makeComponent_293 : decode cX13_makeComponent 293 = .ok (.iadd, 1) := by decide +kernel
theorem dX13_makeComponent_294 : decode cX13_makeComponent 294 = .ok (.invokevirtual 861, 3) := by decide +kernel
theorem dX13_makeComponent_297 : decode cX13_makeComponent 297 = .ok (.aload_n 0, 1) := by decide +kernel
theorem dX13_makeComponent_298 : decode cX13_makeComponent 298 = .ok (.getfield 336, 3) := by decide +kernel
theorem dX13_makeComponent_30 : decode cX13_makeComponent 30 = .ok (.getfield 279, 3) := by decide +kernel
theorem dX13_makeComponent_301 : decode cX13_makeComponent 301 = .ok (.bipush 8, 2) := by decide +kernel
theorem dX13_makeComponent_303 : decode cX13_makeComponent 303 = .ok (.iload_n 2, 1) := by decide +kernel
theorem dX13_makeComponent_304 : decode cX13_makeComponent 304 = .ok (.imul, 1) := by decide +kernel
theorem dX13_makeComponent_305 : decode cX13_makeComponent 305 = .ok (.iload 5, 2) := by decide +kernel
theorem dX13_makeComponent_307 : decode cX13_makeComponent 307 = .ok (.iadd, 1) := by decide +kernel
theorem dX13_makeComponent_308 : decode cX13_makeComponent 308 = .ok (.iconst 1, 1) := by decide +kernel
theorem dX13_makeComponent_309 : decode cX13_makeComponent 309 = .ok (.bastore, 1) := by decide +kernel
theorem dX13_makeComponent_310 : decode cX13_makeComponent 310 = .ok (.aload_n 0, 1) := by decide +kernel
theorem dX13_makeComponent_311 : decode cX13_makeComponent 311 = .ok (.iload 6, 2) := by decide +kernel
theorem dX13_makeComponent_313 : decode cX13_makeComponent 313 = .ok (.putfield 858, 3) := by decide +kernel
theorem dX13_makeComponent_316 : decode cX13_makeComponent 316 = .ok (.iinc 5 1, 3) := by decide +kernel
theorem dX13_makeComponent_319 : decode cX13_makeComponent 319 = .ok (.goto (-115), 3) := by decide +kernel
theorem dX13_makeComponent_322 : decode cX13_makeComponent 322 = .ok (.aload_n 0, 1) := by decide +kernel
theorem dX13_makeComponent_323 : decode cX13_makeComponent 323 = .ok (.iload_n 3, 1) := by decide +kernel
theorem dX13_makeComponent_324 : decode cX13_makeComponent 324 = .ok (.putfield 917, 3) := by decide +kernel
theorem dX13_makeComponent_327 : decode cX13_makeComponent 327 = .ok (.aload_n 0, 1) := by decide +kernel
theorem dX13_makeComponent_328 : decode cX13_makeComponent 328 = .ok (.iload 4, 2) := by decide +kernel
theorem dX13_makeComponent_33 : decode cX13_makeComponent 33 = .ok (.iload_n 2, 1) := by decide +kernel
theorem dX13_makeComponent_330 : decode cX13_makeComponent 330 = .ok (.putfield 935, 3) := by decide +kernel
theorem dX13_makeComponent_333 : decode cX13_makeComponent 333 = .ok (.iload_n 2, 1) := by decide +kernel
theorem dX13_makeComponent_334 : decode cX13_makeComponent 334 = .ok (.ireturn, 1) := by decide +kernel
theorem dX13_makeComponent_34 : decode cX13_makeComponent 34 = .ok (.iconst 0, 1) := by decide +kernel
theorem dX13_makeComponent_35 : decode cX13_makeComponent 35 = .ok (.iastore, 1) := by decide +kernel
theorem dX13_makeComponent_36 : decode cX13_makeComponent 36 = .ok (.aload_n 0, 1) := by decide +kernel
theorem dX13_makeComponent_37 : decode cX13_makeComponent 37 = .ok (.getfield 282, 3) := by decide +kernel
theorem dX13_makeComponent_4 : decode cX13_makeComponent 4 = .ok (.istore_n 2, 1) := by decide +kernel
theorem dX13_makeComponent_40 : decode cX13_makeComponent 40 = .ok (.iload_n 2, 1) := by decide +kernel
theorem dX13_makeComponent_41 : decode cX13_makeComponent 41 = .ok (.iconst 0, 1) := by decide +kernel
theorem dX13_makeComponent_42 : decode cX13_makeComponent 42 = .ok (.iastore, 1) := by decide +kernel
theorem dX13_makeComponent_43 : decode cX13_makeComponent 43 = .ok (.aload_n 0, 1) := by decide +kernel
theorem dX13_makeComponent_44 : decode cX13_makeComponent 44 = .ok (.getfield 294, 3) := by decide +kernel
theorem dX13_makeComponent_47 : decode cX13_makeComponent 47 = .ok (.iload_n 2, 1) := by decide +kernel
theorem dX13_makeComponent_48 : decode cX13_makeComponent 48 = .ok (.iconst 0, 1) := by decide +kernel
theorem dX13_makeComponent_49 : decode cX13_makeComponent 49 = .ok (.iastore, 1) := by decide +kernel
theorem dX13_makeComponent_5 : decode cX13_makeComponent 5 = .ok (.aload_n 0, 1) := by decide +kernel
theorem dX13_makeComponent_50 : decode cX13_makeComponent 50 = .ok (.aload_n 0, 1) := by decide +kernel
theorem dX13_makeComponent_51 : decode cX13_makeComponent 51 = .ok (.getfield 300, 3) := by decide +kernel
theorem dX13_makeComponent_54 : decode cX13_makeComponent 54 = .ok (.iload_n 2, 1) := by decide +kernel
theorem dX13_makeComponent_55 : decode cX13_makeComponent 55 = .ok (.iconst 0, 1) := by decide +kernel
theorem dX13_makeComponent_56 : decode cX13_makeComponent 56 = .ok (.iastore, 1) := by decide +kernel
theorem dX13_makeComponent_57 : decode cX13_makeComponent 57 = .ok (.aload_n 0, 1) := by decide +kernel
theorem dX13_makeComponent_58 : decode cX13_makeComponent 58 = .ok (.getfield 303, 3) := by decide +kernel
theorem dX13_makeComponent_6 : decode cX13_makeComponent 6 = .ok (.dup, 1) := by decide +kernel
theorem dX13_makeComponent_61 : decode cX13_makeComponent 61 = .ok (.iload_n 2, 1) := by decide +kernel
theorem dX13_makeComponent_62 : decode cX13_makeComponent 62 = .ok (.iconst 0, 1) := by decide +kernel
theorem dX13_makeComponent_63 : decode cX13_makeComponent 63 = .ok (.iastore, 1) := by decide +kernel
theorem dX13_makeComponent_64 : decode cX13_makeComponent 64 = .ok (.iconst 0, 1) := by decide +kernel
theorem dX13_makeComponent_65 : decode cX13_makeComponent 65 = .ok (.istore_n 3, 1) := by decide +kernel
theorem dX13_makeComponent_66 : decode cX13_makeComponent 66 = .ok (.iload_n 3, 1) := by decide +kernel
theorem dX13_makeComponent_67 : decode cX13_makeComponent 67 = .ok (.bipush 6, 2) := by decide +kernel
theorem dX13_makeComponent_69 : decode cX13_makeComponent 69 = .ok (.if_icmp .ge 45, 3) := by decide +kernel
theorem dX13_makeComponent_7 : decode cX13_makeComponent 7 = .ok (.getfield 1315, 3) := by decide +kernel
theorem dX13_makeComponent_72 : decode cX13_makeComponent 72 = .ok (.aload_n 0, 1) := by decide +kernel
theorem dX13_makeComponent_73 : decode cX13_makeComponent 73 = .ok (.getfield 306, 3) := by decide +kernel
theorem dX13_makeComponent_76 : decode cX13_makeComponent 76 = .ok (.bipush 6, 2) := by decide +kernel
theorem dX13_makeComponent_78 : decode cX13_makeComponent 78 = .ok (.iload_n 2, 1) := by decide +kernel
theorem dX13_makeComponent_79 : decode cX13_makeComponent 79 = .ok (.imul, 1) := by decide +kernel
theorem dX13_makeComponent_80 : decode cX13_makeComponent 80 = .ok (.iload_n 3, 1) := by decide +kernel
theorem dX13_makeComponent_81 : decode cX13_makeComponent 81 = .ok (.iadd, 1) := by decide +kernel
theorem dX13_makeComponent_82 : decode cX13_makeComponent 82 = .ok (.iconst 0, 1) := by decide +kernel
theorem dX13_makeComponent_83 : decode cX13_makeComponent 83 = .ok (.iastore, 1) := by decide +kernel
theorem dX13_makeComponent_84 : decode cX13_makeComponent 84 = .ok (.aload_n 0, 1) := by decide +kernel
theorem dX13_makeComponent_85 : decode cX13_makeComponent 85 = .ok (.getfield 309, 3) := by decide +kernel
theorem dX13_makeComponent_88 : decode cX13_makeComponent 88 = .ok (.bipush 6, 2) := by decide +kernel
theorem dX13_makeComponent_90 : decode cX13_makeComponent 90 = .ok (.iload_n 2, 1) := by decide +kernel
theorem dX13_makeComponent_91 : decode cX13_makeComponent 91 = .ok (.imul, 1) := by decide +kernel
theorem dX13_makeComponent_92 : decode cX13_makeComponent 92 = .ok (.iload_n 3, 1) := by decide +kernel
theorem dX13_makeComponent_93 : decode cX13_makeComponent 93 = .ok (.iadd, 1) := by decide +kernel
theorem dX13_makeComponent_94 : decode cX13_makeComponent 94 = .ok (.iconst 0, 1) := by decide +kernel
theorem dX13_makeComponent_95 : decode cX13_makeComponent 95 = .ok (.iastore, 1) := by decide +kernel
theorem dX13_makeComponent_96 : decode cX13_makeComponent 96 = .ok (.aload_n 0, 1) := by decide +kernel
theorem dX13_makeComponent_97 : decode cX13_makeComponent 97 = .ok (.getfield 315, 3) := by decide +kernel
noncomputable def k_X13_makeComponent_322 (l2 : Int32) (l3 : Int32) (l4 : Int32) (s : t_S) : Option (Int32 × t_S) :=
 t_let (t_setI s 950 100 l3) (fun s1 =>
 t_let (t_setI s1 950 101 l4) (fun s2 =>
 some (l2, s2)))
set_option maxRecDepth 4000 in
set_option maxHeartbeats 1000000 in
theorem B_X13_makeComponent_322 {D : va_G} {cy : Nat → ClassId} {ad : Nat → Nat} {bs : Nat} {X : State → Heap → Prop} (l2 : Int32) (l3 : Int32) (l4 : Int32) (s : t_S) (Q : Int32 × t_S → Prop) (hk : t_hk (k_X13_makeComponent_322 l2 l3 l4 s) Q) : mj_G D cy ad bs X cX13_makeComponent 7 yX13_makeComponent.cls (some .int) yX13_makeComponent.name 1784 0 0 1065 (t_P (fun v s' => ∃ x, v = some (.int x) ∧ Q ((x, s')))) 322 [(0, .ref 950), (2, .int l2), (3, .int l3), (4, .int l4)] [] (t_m s) 1065 0 0 := by
  refine mj_aload_n dX13_makeComponent_322 0 rfl ?_
  refine mj_iload_n dX13_makeComponent_323 2 rfl ?_
  refine t_putIK dX13_makeComponent_324 F_X13_917 qf_950_100 rfl (fun s1 ws1 => t_letE hk ws1 (fun hk => ?_))
  refine mj_aload_n dX13_makeComponent_327 0 rfl ?_
  refine mj_iload dX13_makeComponent_328 3 rfl ?_
  refine t_putIK dX13_makeComponent_330 F_X13_935 qf_950_101 rfl (fun s2 ws2 => t_letE hk ws2 (fun hk => ?_))
  refine mj_iload_n dX13_makeComponent_333 1 rfl ?_
  exact t_somK hk (fun hf => t_iret dX13_makeComponent_334 rfl rfl ⟨_, rfl, hf⟩ (Nat.le_of_ble_eq_true rfl) (Nat.le_of_ble_eq_true rfl))
noncomputable def k_X13_makeComponent_310 (l1 : Int32) (l2 : Int32) (l3 : Int32) (l4 : Int32) (l5 : Int32) (l6 : Int32) (s : t_S) : Option ((Int32 × Int32 × Int32 × Int32 × Int32 × t_S) ⊕ (Int32 × t_S)) :=
 t_let (t_setI s 950 98 l6) (fun s1 =>
 some (.inl (l1, l2, l3, l4, (l5 + 1), s1)))
set_option maxRecDepth 4000 in
set_option maxHeartbeats 1000000 in
theorem B_X13_makeComponent_310 {D : va_G} {cy : Nat → ClassId} {ad : Nat → Nat} {bs : Nat} {X : State → Heap → Prop} (l1 : Int32) (l2 : Int32) (l3 : Int32) (l4 : Int32) (l5 : Int32) (l6 : Int32) (s : t_S) (Q : (Int32 × Int32 × Int32 × Int32 × Int32 × t_S) ⊕ (Int32 × t_S) → Prop) (Hb204 : ∀ (y0 : Int32) (y1 : Int32) (y2 : Int32) (y3 : Int32) (y4 : Int32) (y5 : t_S), Q (.inl (y0, y1, y2, y3, y4, y5)) → mj_G D cy ad bs X cX13_makeComponent 7 yX13_makeComponent.cls (some .int) yX13_makeComponent.name 1784 0 0 1065 (t_P (fun v s' => ∃ x, v = some (.int x) ∧ Q (.inr ((x, s'))))) 204 [(0, .ref 950), (1, .int (y0)), (2, .int (y1)), (3, .int (y2)), (4, .int (y3)), (5, .int (y4))] [] (t_m y5) 1065 0 0) (hk : t_hk (k_X13_makeComponent_310 l1 l2 l3 l4 l5 l6 s) Q) : mj_G D cy ad bs X cX13_makeComponent 7 yX13_makeComponent.cls (some .int) yX13_makeComponent.name 1784 0 0 1065 (t_P (fun v s' => ∃ x, v = some (.int x) ∧ Q (.inr ((x, s'))))) 310 [(0, .ref 950), (1, .int l1), (2, .int l2), (3, .int l3), (4, .int l4), (5, .int l5), (6, .int l6)] [] (t_m s) 1065 0 0 := by
  refine mj_aload_n dX13_makeComponent_310 0 rfl ?_
  refine mj_iload dX13_makeComponent_311 6 rfl ?_
  refine t_putIK dX13_makeComponent_313 F_X13_858 qf_950_98 rfl (fun s1 ws1 => t_letE hk ws1 (fun hk => ?_))
  refine mj_iinc (k := 5) (v := (l5 + 1)) (lv2 := [(5, .int (l5 + 1)), (0, .ref 950), (1, .int l1), (2, .int l2), (3, .int l3), (4, .int l4), (6, .int l6)]) dX13_makeComponent_316 rfl rfl (by decide) rfl ?_
  refine mj_goto 204 dX13_makeComponent_319 (by decide) ?_
  refine mj_sublv [(0, .ref 950), (1, .int l1), (2, .int l2), (3, .int l3), (4, .int l4), (5, .int (l5 + 1))] [1, 2, 3, 4, 5, 0] rfl ?_
  exact t_somK hk (fun hf => Hb204 l1 l2 l3 l4 (l5 + 1) s1 hf)
noncomputable def k_X13_makeComponent_271 (l1 : Int32) (l2 : Int32) (l3 : Int32) (l4 : Int32) (l5 : Int32) (l6 : Int32) (s : t_S) : Option ((Int32 × Int32 × Int32 × Int32 × Int32 × t_S) ⊕ (Int32 × t_S)) :=
 if (s.1 950 97) = (0 : Int32) then ((f_X13_copy (f_X13_top s) (((840 : Int32) + ((8 : Int32) * l2)) + l5) s).bind (fun r2 =>
 if t_ix (((8 : Int32) * l2) + l5) 64 = true then
  t_let (t_setI r2 1056 ((((8 : Int32) * l2) + l5).toNatClampNeg) (1 : Int32)) (fun s1 =>
 k_X13_makeComponent_310 l1 l2 l3 l4 l5 l6 s1)
else none))
 else (k_X13_makeComponent_310 l1 l2 l3 l4 l5 l6 s)
set_option maxRecDepth 4000 in
set_option maxHeartbeats 1000000 in
theorem B_X13_makeComponent_271 {D : va_G} {cy : Nat → ClassId} {ad : Nat → Nat} {bs : Nat} {X : State → Heap → Prop} (l1 : Int32) (l2 : Int32) (l3 : Int32) (l4 : Int32) (l5 : Int32) (l6 : Int32) (s : t_S) (Q : (Int32 × Int32 × Int32 × Int32 × Int32 × t_S) ⊕ (Int32 × t_S) → Prop) (Hb204 : ∀ (y0 : Int32) (y1 : Int32) (y2 : Int32) (y3 : Int32) (y4 : Int32) (y5 : t_S), Q (.inl (y0, y1, y2, y3, y4, y5)) → mj_G D cy ad bs X cX13_makeComponent 7 yX13_makeComponent.cls (some .int) yX13_makeComponent.name 1784 0 0 1065 (t_P (fun v s' => ∃ x, v = some (.int x) ∧ Q (.inr ((x, s'))))) 204 [(0, .ref 950), (1, .int (y0)), (2, .int (y1)), (3, .int (y2)), (4, .int (y3)), (5, .int (y4))] [] (t_m y5) 1065 0 0) (hk : t_hk (k_X13_makeComponent_271 l1 l2 l3 l4 l5 l6 s) Q) : mj_G D cy ad bs X cX13_makeComponent 7 yX13_makeComponent.cls (some .int) yX13_makeComponent.name 1784 0 0 1065 (t_P (fun v s' => ∃ x, v = some (.int x) ∧ Q (.inr ((x, s'))))) 271 [(0, .ref 950), (1, .int l1), (2, .int l2), (3, .int l3), (4, .int l4), (5, .int l5), (6, .int l6)] [] (t_m s) 1065 0 0 := by
  refine mj_aload_n dX13_makeComponent_271 0 rfl ?_
  refine t_getI dX13_makeComponent_272 F_X13_842 qf_950_97 ?_
  refine mj_if_ne 310 dX13_makeComponent_275 (by decide) (fun z => t_negK hk z (fun hk => ?_)) (fun z => t_posK hk z (fun hk => ?_))
  · exact B_X13_makeComponent_310 _ _ _ _ _ _ _ _ (fun y0 y1 y2 y3 y4 y5 hx => Hb204 y0 y1 y2 y3 y4 y5 hx) hk
  · refine mj_aload_n dX13_makeComponent_278 0 rfl ?_
    refine mj_aload_n dX13_makeComponent_279 0 rfl ?_
    refine t_callViP dX13_makeComponent_280 M_X13_top (C_X13_top _) ML_X13_941 IM_X13_top SE_X13_top qc_950 rfl (As := []) rfl rfl (Nat.le_of_ble_eq_true rfl) (Nat.le_of_ble_eq_true rfl) (Nat.le_of_ble_eq_true rfl) (Nat.le_of_ble_eq_true rfl) ?_
    refine mj_sipush (v := 840) dX13_makeComponent_283 (by decide) ?_
    refine mj_bipush (v := 8) dX13_makeComponent_286 (by decide) ?_
    refine mj_iload_n dX13_makeComponent_288 2 rfl ?_
    refine mj_imul dX13_makeComponent_289 ?_
    refine mj_iadd dX13_makeComponent_290 ?_
    refine mj_iload dX13_makeComponent_291 5 rfl ?_
    refine mj_iadd dX13_makeComponent_293 ?_
    refine t_bndK hk (fun r2 er2 hk => ?_)
    refine t_callVvE dX13_makeComponent_294 M_X13_copy (C_X13_copy _ _ _ _ er2) ML_X13_861 IM_X13_copy SE_X13_copy qc_950 rfl (As := [.int (f_X13_top s), .int (((840 : Int32) + ((8 : Int32) * l2)) + l5)]) rfl rfl (Nat.le_of_ble_eq_true rfl) (Nat.le_of_ble_eq_true rfl) (Nat.le_of_ble_eq_true rfl) (Nat.le_of_ble_eq_true rfl) ?_
    refine mj_aload_n dX13_makeComponent_297 0 rfl ?_
    refine t_getR 1056 dX13_makeComponent_298 F_X13_336 qr_950_173 ?_
    refine mj_bipush (v := 8) dX13_makeComponent_301 (by decide) ?_
    refine mj_iload_n dX13_makeComponent_303 2 rfl ?_
    refine mj_imul dX13_makeComponent_304 ?_
    refine mj_iload dX13_makeComponent_305 5 rfl ?_
    refine mj_iadd dX13_makeComponent_307 ?_
    refine mj_iconst (v := 1) dX13_makeComponent_308 (by decide) ?_
    refine t_chkK hk (fun c2 hk => ?_)
    refine t_zastK dX13_makeComponent_309 qa_1056 (t_ixv c2) (by decide) (fun s1 ws1 => t_letE hk ws1 (fun hk => ?_))
    exact B_X13_makeComponent_310 _ _ _ _ _ _ _ _ (fun y0 y1 y2 y3 y4 y5 hx => Hb204 y0 y1 y2 y3 y4 y5 hx) hk
noncomputable def k_X13_makeComponent_204 (l1 : Int32) (l2 : Int32) (l3 : Int32) (l4 : Int32) (l5 : Int32) (s : t_S) : Option ((Int32 × Int32 × Int32 × Int32 × Int32 × t_S) ⊕ (Int32 × t_S)) :=
 if t_ix l1 8 = true then
  if (s.1 979 (l1.toNatClampNeg)) ≤ l5 then ((k_X13_makeComponent_322 l2 l3 l4 s).map Sum.inr)
 else (if (s.1 950 97) = (0 : Int32) then (if t_ix (((8 : Int32) * l1) + l5) 64 = true then
  (f_X13_work (s.1 978 ((((8 : Int32) * l1) + l5).toNatClampNeg)) s).bind (fun r3 =>
 if (r3.1 950 97) = (0 : Int32) then ((f_X13_checkType (r3.1 976 ((((8 : Int32) * l1) + l5).toNatClampNeg)) (f_X13_top r3) r3).bind (fun r5 =>
 k_X13_makeComponent_271 l1 l2 l3 l4 l5 (s.1 950 98) r5))
 else (k_X13_makeComponent_271 l1 l2 l3 l4 l5 (s.1 950 98) r3))
else none)
 else ((k_X13_makeComponent_322 l2 l3 l4 s).map Sum.inr))
else none
set_option maxRecDepth 4000 in
set_option maxHeartbeats 1000000 in
theorem B_X13_makeComponent_204 {D : va_G} {cy : Nat → ClassId} {ad : Nat → Nat} {bs : Nat} {X : State → Heap → Prop} (l1 : Int32) (l2 : Int32) (l3 : Int32) (l4 : Int32) (l5 : Int32) (s : t_S) (Q : (Int32 × Int32 × Int32 × Int32 × Int32 × t_S) ⊕ (Int32 × t_S) → Prop) (Hb204 : ∀ (y0 : Int32) (y1 : Int32) (y2 : Int32) (y3 : Int32) (y4 : Int32) (y5 : t_S), Q (.inl (y0, y1, y2, y3, y4, y5)) → mj_G D cy ad bs X cX13_makeComponent 7 yX13_makeComponent.cls (some .int) yX13_makeComponent.name 1784 0 0 1065 (t_P (fun v s' => ∃ x, v = some (.int x) ∧ Q (.inr ((x, s'))))) 204 [(0, .ref 950), (1, .int (y0)), (2, .int (y1)), (3, .int (y2)), (4, .int (y3)), (5, .int (y4))] [] (t_m y5) 1065 0 0) (hk : t_hk (k_X13_makeComponent_204 l1 l2 l3 l4 l5 s) Q) : mj_G D cy ad bs X cX13_makeComponent 7 yX13_makeComponent.cls (some .int) yX13_makeComponent.name 1784 0 0 1065 (t_P (fun v s' => ∃ x, v = some (.int x) ∧ Q (.inr ((x, s'))))) 204 [(0, .ref 950), (1, .int l1), (2, .int l2), (3, .int l3), (4, .int l4), (5, .int l5)] [] (t_m s) 1065 0 0 := by
  refine mj_iload dX13_makeComponent_204 5 rfl ?_
  refine mj_aload_n dX13_makeComponent_206 0 rfl ?_
  refine t_getR 979 dX13_makeComponent_207 F_X13_99 qr_950_54 ?_
  refine mj_iload_n dX13_makeComponent_210 1 rfl ?_
  refine t_chkK hk (fun c0 hk => ?_)
  refine t_iald dX13_makeComponent_211 qa_979 (t_ixv c0) ?_
  refine mj_icmp_ge 322 dX13_makeComponent_212 (by decide) (fun z => t_posK hk z (fun hk => ?_)) (fun z => t_negK hk z (fun hk => ?_))
  · refine mj_sublv [(0, .ref 950), (2, .int l2), (3, .int l3), (4, .int l4)] [0, 2, 3, 4] rfl ?_
    refine t_mapK hk (fun hk => ?_)
    exact B_X13_makeComponent_322 _ _ _ _ _ hk
  · refine mj_aload_n dX13_makeComponent_215 0 rfl ?_
    refine t_getI dX13_makeComponent_216 F_X13_842 qf_950_97 ?_
    refine mj_if_ne 322 dX13_makeComponent_219 (by decide) (fun z => t_negK hk z (fun hk => ?_)) (fun z => t_posK hk z (fun hk => ?_))
    · refine mj_sublv [(0, .ref 950), (2, .int l2), (3, .int l3), (4, .int l4)] [0, 2, 3, 4] rfl ?_
      refine t_mapK hk (fun hk => ?_)
      exact B_X13_makeComponent_322 _ _ _ _ _ hk
    · refine mj_aload_n dX13_makeComponent_222 0 rfl ?_
      refine t_getI dX13_makeComponent_223 F_X13_858 qf_950_98 ?_
      refine mj_istore (lv2 := [(6, .int (s.1 950 98)), (0, .ref 950), (1, .int l1), (2, .int l2), (3, .int l3), (4, .int l4), (5, .int l5)]) dX13_makeComponent_226 (by decide) rfl ?_
      refine mj_aload_n dX13_makeComponent_228 1 rfl ?_
      refine mj_aload_n dX13_makeComponent_229 1 rfl ?_
      refine t_getR 978 dX13_makeComponent_230 F_X13_96 qr_950_53 ?_
      refine mj_bipush (v := 8) dX13_makeComponent_233 (by decide) ?_
      refine mj_iload_n dX13_makeComponent_235 2 rfl ?_
      refine mj_imul dX13_makeComponent_236 ?_
      refine mj_iload dX13_makeComponent_237 6 rfl ?_
      refine mj_iadd dX13_makeComponent_239 ?_
      refine t_chkK hk (fun c1 hk => ?_)
      refine t_iald dX13_makeComponent_240 qa_978 (t_ixv c1) ?_
      refine t_bndK hk (fun r3 er3 hk => ?_)
      refine t_callSvE dX13_makeComponent_241 M_X13_work (C_X13_work _ _ _ er3) ML_X13_897 SM_X13_work (As := [.ref 950, .int (s.1 978 ((((8 : Int32) * l1) + l5).toNatClampNeg))]) rfl rfl (Nat.le_of_ble_eq_true rfl) (Nat.le_of_ble_eq_true rfl) (Nat.le_of_ble_eq_true rfl) (Nat.le_of_ble_eq_true rfl) ?_
      refine mj_aload_n dX13_makeComponent_244 1 rfl ?_
      refine t_getI dX13_makeComponent_245 F_X13_842 qf_950_97 ?_
      refine mj_if_ne 271 dX13_makeComponent_248 (by decide) (fun z => t_negK hk z (fun hk => ?_)) (fun z => t_posK hk z (fun hk => ?_))
      · refine mj_sublv [(0, .ref 950), (1, .int l1), (2, .int l2), (3, .int l3), (4, .int l4), (5, .int l5), (6, .int (s.1 950 98))] [1, 2, 3, 4, 5, 6, 0] rfl ?_
        exact B_X13_makeComponent_271 _ _ _ _ _ _ _ _ (fun y0 y1 y2 y3 y4 y5 hx => Hb204 y0 y1 y2 y3 y4 y5 hx) hk
      · refine mj_aload_n dX13_makeComponent_251 1 rfl ?_
        refine mj_aload_n dX13_makeComponent_252 1 rfl ?_
        refine t_getR 976 dX13_makeComponent_253 F_X13_90 qr_950_51 ?_
        refine mj_bipush (v := 8) dX13_makeComponent_256 (by decide) ?_
        refine mj_iload_n dX13_makeComponent_258 2 rfl ?_
        refine mj_imul dX13_makeComponent_259 ?_
        refine mj_iload dX13_makeComponent_260 6 rfl ?_
        refine mj_iadd dX13_makeComponent_262 ?_
        refine t_iald dX13_makeComponent_263 qa_976 (t_ixv c1) ?_
        refine mj_aload_n dX13_makeComponent_264 1 rfl ?_
        refine t_callViP dX13_makeComponent_265 M_X13_top (C_X13_top _) ML_X13_941 IM_X13_top SE_X13_top qc_950 rfl (As := []) rfl rfl (Nat.le_of_ble_eq_true rfl) (Nat.le_of_ble_eq_true rfl) (Nat.le_of_ble_eq_true rfl) (Nat.le_of_ble_eq_true rfl) ?_
        refine t_bndK hk (fun r5 er5 hk => ?_)
        refine t_callVvE dX13_makeComponent_268 M_X13_checkType (C_X13_checkType _ _ _ _ er5) ML_X13_1321 IM_X13_checkType SE_X13_checkType qc_950 rfl (As := [.int (r3.1 976 ((((8 : Int32) * l1) + l5).toNatClampNeg)), .int (f_X13_top r3)]) rfl rfl (Nat.le_of_ble_eq_true rfl) (Nat.le_of_ble_eq_true rfl) (Nat.le_of_ble_eq_true rfl) (Nat.le_of_ble_eq_true rfl) ?_
        refine mj_sublv [(0, .ref 950), (1, .int l1), (2, .int l2), (3, .int l3), (4, .int l4), (5, .int l5), (6, .int (s.1 950 98))] [1, 2, 3, 4, 5, 6, 0] rfl ?_
        exact B_X13_makeComponent_271 _ _ _ _ _ _ _ _ (fun y0 y1 y2 y3 y4 y5 hx => Hb204 y0 y1 y2 y3 y4 y5 hx) hk
noncomputable def b_X13_makeComponent_204 (x : Int32 × Int32 × Int32 × Int32 × Int32 × t_S) : Option ((Int32 × Int32 × Int32 × Int32 × Int32 × t_S) ⊕ (Int32 × t_S)) := k_X13_makeComponent_204 x.1 x.2.1 x.2.2.1 x.2.2.2.1 x.2.2.2.2.1 x.2.2.2.2.2
set_option maxRecDepth 4000 in
set_option maxHeartbeats 1000000 in
theorem LH_X13_makeComponent_204 {D : va_G} {cy : Nat → ClassId} {ad : Nat → Nat} {bs : Nat} {X : State → Heap → Prop} : ∀ (n : Nat) (y0 : Int32) (y1 : Int32) (y2 : Int32) (y3 : Int32) (y4 : Int32) (y5 : t_S) (Q : Int32 × t_S → Prop) (hk : t_hk (t_loop (b_X13_makeComponent_204) n (y0, y1, y2, y3, y4, y5)) Q), mj_G D cy ad bs X cX13_makeComponent 7 yX13_makeComponent.cls (some .int) yX13_makeComponent.name 1784 0 0 1065 (t_P (fun v s' => ∃ x, v = some (.int x) ∧ Q ((x, s')))) 204 [(0, .ref 950), (1, .int (y0)), (2, .int (y1)), (3, .int (y2)), (4, .int (y3)), (5, .int (y4))] [] (t_m y5) 1065 0 0 := by
  intro n
  induction n with
  | zero => intro y0 y1 y2 y3 y4 y5 Q hk; obtain ⟨r, hr, _⟩ := hk; cases hr
  | succ n ih =>
    intro y0 y1 y2 y3 y4 y5 Q hk
    exact B_X13_makeComponent_204 y0 y1 y2 y3 y4 y5 (fun y => t_lq (b_X13_makeComponent_204) n Q y) (fun y0' y1' y2' y3' y4' y5' hy => ih y0' y1' y2' y3' y4' y5' Q hy) (t_lp (b := b_X13_makeComponent_204) (n := n) (x := (y0, y1, y2, y3, y4, y5)) hk)
noncomputable def k_X13_makeComponent_142 (l1 : Int32) (l2 : Int32) (l3 : Int32) (s : t_S) : Option ((Int32 × Int32 × Int32 × t_S) ⊕ (Int32 × t_S)) :=
 if (8 : Int32) ≤ l3 then ((t_let (t_setI s 950 100 l2) (fun s1 =>
 t_let (t_setI s1 950 101 (-1 : Int32)) (fun s2 =>
 t_loop (b_X13_makeComponent_204) t_N (l1, l2, (s.1 950 100), (s.1 950 101), 0, s2)))).map Sum.inr)
 else ((f_X13_setOmit (((840 : Int32) + ((8 : Int32) * l2)) + l3) s).bind (fun r1 =>
 if t_ix (((8 : Int32) * l2) + l3) 64 = true then
  t_let (t_setI r1 1056 ((((8 : Int32) * l2) + l3).toNatClampNeg) (0 : Int32)) (fun s3 =>
 some (.inl (l1, l2, (l3 + 1), s3)))
else none))
set_option maxRecDepth 4000 in
set_option maxHeartbeats 1000000 in
theorem B_X13_makeComponent_142 {D : va_G} {cy : Nat → ClassId} {ad : Nat → Nat} {bs : Nat} {X : State → Heap → Prop} (l1 : Int32) (l2 : Int32) (l3 : Int32) (s : t_S) (Q : (Int32 × Int32 × Int32 × t_S) ⊕ (Int32 × t_S) → Prop) (Hb142 : ∀ (y0 : Int32) (y1 : Int32) (y2 : Int32) (y3 : t_S), Q (.inl (y0, y1, y2, y3)) → mj_G D cy ad bs X cX13_makeComponent 7 yX13_makeComponent.cls (some .int) yX13_makeComponent.name 1784 0 0 1065 (t_P (fun v s' => ∃ x, v = some (.int x) ∧ Q (.inr ((x, s'))))) 142 [(0, .ref 950), (1, .int (y0)), (2, .int (y1)), (3, .int (y2))] [] (t_m y3) 1065 0 0) (hk : t_hk (k_X13_makeComponent_142 l1 l2 l3 s) Q) : mj_G D cy ad bs X cX13_makeComponent 7 yX13_makeComponent.cls (some .int) yX13_makeComponent.name 1784 0 0 1065 (t_P (fun v s' => ∃ x, v = some (.int x) ∧ Q (.inr ((x, s'))))) 142 [(0, .ref 950), (1, .int l1), (2, .int l2), (3, .int l3)] [] (t_m s) 1065 0 0 := by
  refine mj_iload_n dX13_makeComponent_142 3 rfl ?_
  refine mj_bipush (v := 8) dX13_makeComponent_143 (by decide) ?_
  refine mj_icmp_ge 180 dX13_makeComponent_145 (by decide) (fun z => t_posK hk z (fun hk => ?_)) (fun z => t_negK hk z (fun hk => ?_))
  · refine t_mapK hk (fun hk => ?_)
    refine mj_aload_n dX13_makeComponent_180 0 rfl ?_
    refine t_getI dX13_makeComponent_181 F_X13_917 qf_950_100 ?_
    refine mj_istore_n 3 (lv2 := [(3, .int (s.1 950 100)), (0, .ref 950), (1, .int l1), (2, .int l2)]) dX13_makeComponent_184 rfl (by decide) rfl ?_
    refine mj_aload_n dX13_makeComponent_185 1 rfl ?_
    refine t_getI dX13_makeComponent_186 F_X13_935 qf_950_101 ?_
    refine mj_istore (lv2 := [(4, .int (s.1 950 101)), (3, .int (s.1 950 100)), (0, .ref 950), (1, .int l1), (2, .int l2)]) dX13_makeComponent_189 (by decide) rfl ?_
    refine mj_aload_n dX13_makeComponent_191 2 rfl ?_
    refine mj_iload_n dX13_makeComponent_192 4 rfl ?_
    refine t_putIK dX13_makeComponent_193 F_X13_917 qf_950_100 rfl (fun s1 ws1 => t_letE hk ws1 (fun hk => ?_))
    refine mj_aload_n dX13_makeComponent_196 2 rfl ?_
    refine mj_iconst (v := (-1)) dX13_makeComponent_197 (by decide) ?_
    refine t_putIK dX13_makeComponent_198 F_X13_935 qf_950_101 rfl (fun s2 ws2 => t_letE hk ws2 (fun hk => ?_))
    refine mj_iconst (v := 0) dX13_makeComponent_201 (by decide) ?_
    refine mj_istore (lv2 := [(5, .int 0), (4, .int (s.1 950 101)), (3, .int (s.1 950 100)), (0, .ref 950), (1, .int l1), (2, .int l2)]) dX13_makeComponent_202 (by decide) rfl ?_
    refine mj_sublv [(0, .ref 950), (1, .int l1), (2, .int l2), (3, .int (s.1 950 100)), (4, .int (s.1 950 101)), (5, .int 0)] [3, 4, 5, 2, 1, 0] rfl ?_
    exact LH_X13_makeComponent_204 _ l1 l2 (s.1 950 100) (s.1 950 101) 0 s2 _ hk
  · refine mj_aload_n dX13_makeComponent_148 0 rfl ?_
    refine mj_sipush (v := 840) dX13_makeComponent_149 (by decide) ?_
    refine mj_bipush (v := 8) dX13_makeComponent_152 (by decide) ?_
    refine mj_iload_n dX13_makeComponent_154 2 rfl ?_
    refine mj_imul dX13_makeComponent_155 ?_
    refine mj_iadd dX13_makeComponent_156 ?_
    refine mj_iload_n dX13_makeComponent_157 3 rfl ?_
    refine mj_iadd dX13_makeComponent_158 ?_
    refine t_bndK hk (fun r1 er1 hk => ?_)
    refine t_callVvE dX13_makeComponent_159 M_X13_setOmit (C_X13_setOmit _ _ _ er1) ML_X13_1318 IM_X13_setOmit SE_X13_setOmit qc_950 rfl (As := [.int (((840 : Int32) + ((8 : Int32) * l2)) + l3)]) rfl rfl (Nat.le_of_ble_eq_true rfl) (Nat.le_of_ble_eq_true rfl) (Nat.le_of_ble_eq_true rfl) (Nat.le_of_ble_eq_true rfl) ?_
    refine mj_aload_n dX13_makeComponent_162 0 rfl ?_
    refine t_getR 1056 dX13_makeComponent_163 F_X13_336 qr_950_173 ?_
    refine mj_bipush (v := 8) dX13_makeComponent_166 (by decide) ?_
    refine mj_iload_n dX13_makeComponent_168 2 rfl ?_
    refine mj_imul dX13_makeComponent_169 ?_
    refine mj_iload_n dX13_makeComponent_170 3 rfl ?_
    refine mj_iadd dX13_makeComponent_171 ?_
    refine mj_iconst (v := 0) dX13_makeComponent_172 (by decide) ?_
    refine t_chkK hk (fun c1 hk => ?_)
    refine t_zastK dX13_makeComponent_173 qa_1056 (t_ixv c1) (by decide) (fun s3 ws3 => t_letE hk ws3 (fun hk => ?_))
    refine mj_iinc (k := 3) (v := (l3 + 1)) (lv2 := [(3, .int (l3 + 1)), (0, .ref 950), (1, .int l1), (2, .int l2)]) dX13_makeComponent_174 rfl rfl (by decide) rfl ?_
    refine mj_goto 142 dX13_makeComponent_177 (by decide) ?_
    refine mj_sublv [(0, .ref 950), (1, .int l1), (2, .int l2), (3, .int (l3 + 1))] [1, 2, 3, 0] rfl ?_
    exact t_somK hk (fun hf => Hb142 l1 l2 (l3 + 1) s3 hf)
noncomputable def b_X13_makeComponent_142 (x : Int32 × Int32 × Int32 × t_S) : Option ((Int32 × Int32 × Int32 × t_S) ⊕ (Int32 × t_S)) := k_X13_makeComponent_142 x.1 x.2.1 x.2.2.1 x.2.2.2
set_option maxRecDepth 4000 in
set_option maxHeartbeats 1000000 in
theorem LH_X13_makeComponent_142 {D : va_G} {cy : Nat → ClassId} {ad : Nat → Nat} {bs : Nat} {X : State → Heap → Prop} : ∀ (n : Nat) (y0 : Int32) (y1 : Int32) (y2 : Int32) (y3 : t_S) (Q : Int32 × t_S → Prop) (hk : t_hk (t_loop (b_X13_makeComponent_142) n (y0, y1, y2, y3)) Q), mj_G D cy ad bs X cX13_makeComponent 7 yX13_makeComponent.cls (some .int) yX13_makeComponent.name 1784 0 0 1065 (t_P (fun v s' => ∃ x, v = some (.int x) ∧ Q ((x, s')))) 142 [(0, .ref 950), (1, .int (y0)), (2, .int (y1)), (3, .int (y2))] [] (t_m y3) 1065 0 0 := by
  intro n
  induction n with
  | zero => intro y0 y1 y2 y3 Q hk; obtain ⟨r, hr, _⟩ := hk; cases hr
  | succ n ih =>
    intro y0 y1 y2 y3 Q hk
    exact B_X13_makeComponent_142 y0 y1 y2 y3 (fun y => t_lq (b_X13_makeComponent_142) n Q y) (fun y0' y1' y2' y3' hy => ih y0' y1' y2' y3' Q hy) (t_lp (b := b_X13_makeComponent_142) (n := n) (x := (y0, y1, y2, y3)) hk)
noncomputable def k_X13_makeComponent_116 (l1 : Int32) (l2 : Int32) (l3 : Int32) (s : t_S) : Option ((Int32 × Int32 × Int32 × t_S) ⊕ (Int32 × t_S)) :=
 if (4 : Int32) ≤ l3 then ((t_loop (b_X13_makeComponent_142) t_N (l1, l2, 0, s)).map Sum.inr)
 else (if t_ix (((4 : Int32) * l2) + l3) 32 = true then
  t_let (t_setJ s 1051 ((((4 : Int32) * l2) + l3).toNatClampNeg) (-1 : Int64)) (fun s1 =>
 some (.inl (l1, l2, (l3 + 1), s1)))
else none)
set_option maxRecDepth 4000 in
set_option maxHeartbeats 1000000 in
theorem B_X13_makeComponent_116 {D : va_G} {cy : Nat → ClassId} {ad : Nat → Nat} {bs : Nat} {X : State → Heap → Prop} (l1 : Int32) (l2 : Int32) (l3 : Int32) (s : t_S) (Q : (Int32 × Int32 × Int32 × t_S) ⊕ (Int32 × t_S) → Prop) (Hb116 : ∀ (y0 : Int32) (y1 : Int32) (y2 : Int32) (y3 : t_S), Q (.inl (y0, y1, y2, y3)) → mj_G D cy ad bs X cX13_makeComponent 7 yX13_makeComponent.cls (some .int) yX13_makeComponent.name 1784 0 0 1065 (t_P (fun v s' => ∃ x, v = some (.int x) ∧ Q (.inr ((x, s'))))) 116 [(0, .ref 950), (1, .int (y0)), (2, .int (y1)), (3, .int (y2))] [] (t_m y3) 1065 0 0) (hk : t_hk (k_X13_makeComponent_116 l1 l2 l3 s) Q) : mj_G D cy ad bs X cX13_makeComponent 7 yX13_makeComponent.cls (some .int) yX13_makeComponent.name 1784 0 0 1065 (t_P (fun v s' => ∃ x, v = some (.int x) ∧ Q (.inr ((x, s'))))) 116 [(0, .ref 950), (1, .int l1), (2, .int l2), (3, .int l3)] [] (t_m s) 1065 0 0 := by
  refine mj_iload_n dX13_makeComponent_116 3 rfl ?_
  refine mj_iconst (v := 4) dX13_makeComponent_117 (by decide) ?_
  refine mj_icmp_ge 140 dX13_makeComponent_118 (by decide) (fun z => t_posK hk z (fun hk => ?_)) (fun z => t_negK hk z (fun hk => ?_))
  · refine t_mapK hk (fun hk => ?_)
    refine mj_iconst (v := 0) dX13_makeComponent_140 (by decide) ?_
    refine mj_istore_n 3 (lv2 := [(3, .int 0), (0, .ref 950), (1, .int l1), (2, .int l2)]) dX13_makeComponent_141 rfl (by decide) rfl ?_
    refine mj_sublv [(0, .ref 950), (1, .int l1), (2, .int l2), (3, .int 0)] [1, 2, 3, 0] rfl ?_
    exact LH_X13_makeComponent_142 _ l1 l2 0 s _ hk
  · refine mj_aload_n dX13_makeComponent_121 0 rfl ?_
    refine t_getR 1051 dX13_makeComponent_122 F_X13_321 qr_950_166 ?_
    refine mj_iconst (v := 4) dX13_makeComponent_125 (by decide) ?_
    refine mj_iload_n dX13_makeComponent_126 2 rfl ?_
    refine mj_imul dX13_makeComponent_127 ?_
    refine mj_iload_n dX13_makeComponent_128 3 rfl ?_
    refine mj_iadd dX13_makeComponent_129 ?_
    refine mj_ldc2 dX13_makeComponent_130 K_X13_1087 ?_
    refine t_chkK hk (fun c0 hk => ?_)
    refine t_lastK dX13_makeComponent_133 qa_1051 (t_ixv c0) (fun s1 ws1 => t_letE hk ws1 (fun hk => ?_))
    refine mj_iinc (k := 3) (v := (l3 + 1)) (lv2 := [(3, .int (l3 + 1)), (0, .ref 950), (1, .int l1), (2, .int l2)]) dX13_makeComponent_134 rfl rfl (by decide) rfl ?_
    refine mj_goto 116 dX13_makeComponent_137 (by decide) ?_
    refine mj_sublv [(0, .ref 950), (1, .int l1), (2, .int l2), (3, .int (l3 + 1))] [1, 2, 3, 0] rfl ?_
    exact t_somK hk (fun hf => Hb116 l1 l2 (l3 + 1) s1 hf)
noncomputable def b_X13_makeComponent_116 (x : Int32 × Int32 × Int32 × t_S) : Option ((Int32 × Int32 × Int32 × t_S) ⊕ (Int32 × t_S)) := k_X13_makeComponent_116 x.1 x.2.1 x.2.2.1 x.2.2.2
set_option maxRecDepth 4000 in
set_option maxHeartbeats 1000000 in
theorem LH_X13_makeComponent_116 {D : va_G} {cy : Nat → ClassId} {ad : Nat → Nat} {bs : Nat} {X : State → Heap → Prop} : ∀ (n : Nat) (y0 : Int32) (y1 : Int32) (y2 : Int32) (y3 : t_S) (Q : Int32 × t_S → Prop) (hk : t_hk (t_loop (b_X13_makeComponent_116) n (y0, y1, y2, y3)) Q), mj_G D cy ad bs X cX13_makeComponent 7 yX13_makeComponent.cls (some .int) yX13_makeComponent.name 1784 0 0 1065 (t_P (fun v s' => ∃ x, v = some (.int x) ∧ Q ((x, s')))) 116 [(0, .ref 950), (1, .int (y0)), (2, .int (y1)), (3, .int (y2))] [] (t_m y3) 1065 0 0 := by
  intro n
  induction n with
  | zero => intro y0 y1 y2 y3 Q hk; obtain ⟨r, hr, _⟩ := hk; cases hr
  | succ n ih =>
    intro y0 y1 y2 y3 Q hk
    exact B_X13_makeComponent_116 y0 y1 y2 y3 (fun y => t_lq (b_X13_makeComponent_116) n Q y) (fun y0' y1' y2' y3' hy => ih y0' y1' y2' y3' Q hy) (t_lp (b := b_X13_makeComponent_116) (n := n) (x := (y0, y1, y2, y3)) hk)
noncomputable def k_X13_makeComponent_66 (l1 : Int32) (l2 : Int32) (l3 : Int32) (s : t_S) : Option ((Int32 × Int32 × Int32 × t_S) ⊕ (Int32 × t_S)) :=
 if (6 : Int32) ≤ l3 then ((t_loop (b_X13_makeComponent_116) t_N (l1, l2, 0, s)).map Sum.inr)
 else (if t_ix (((6 : Int32) * l2) + l3) 48 = true then
  t_let (t_setI s 1046 ((((6 : Int32) * l2) + l3).toNatClampNeg) (0 : Int32)) (fun s1 =>
 t_let (t_setI s1 1047 ((((6 : Int32) * l2) + l3).toNatClampNeg) (0 : Int32)) (fun s2 =>
 t_let (t_setI s2 1049 ((((6 : Int32) * l2) + l3).toNatClampNeg) (-1 : Int32)) (fun s3 =>
 some (.inl (l1, l2, (l3 + 1), s3)))))
else none)
set_option maxRecDepth 4000 in
set_option maxHeartbeats 1000000 in
theorem B_X13_makeComponent_66 {D : va_G} {cy : Nat → ClassId} {ad : Nat → Nat} {bs : Nat} {X : State → Heap → Prop} (l1 : Int32) (l2 : Int32) (l3 : Int32) (s : t_S) (Q : (Int32 × Int32 × Int32 × t_S) ⊕ (Int32 × t_S) → Prop) (Hb66 : ∀ (y0 : Int32) (y1 : Int32) (y2 : Int32) (y3 : t_S), Q (.inl (y0, y1, y2, y3)) → mj_G D cy ad bs X cX13_makeComponent 7 yX13_makeComponent.cls (some .int) yX13_makeComponent.name 1784 0 0 1065 (t_P (fun v s' => ∃ x, v = some (.int x) ∧ Q (.inr ((x, s'))))) 66 [(0, .ref 950), (1, .int (y0)), (2, .int (y1)), (3, .int (y2))] [] (t_m y3) 1065 0 0) (hk : t_hk (k_X13_makeComponent_66 l1 l2 l3 s) Q) : mj_G D cy ad bs X cX13_makeComponent 7 yX13_makeComponent.cls (some .int) yX13_makeComponent.name 1784 0 0 1065 (t_P (fun v s' => ∃ x, v = some (.int x) ∧ Q (.inr ((x, s'))))) 66 [(0, .ref 950), (1, .int l1), (2, .int l2), (3, .int l3)] [] (t_m s) 1065 0 0 := by
  refine mj_iload_n dX13_makeComponent_66 3 rfl ?_
  refine mj_bipush (v := 6) dX13_makeComponent_67 (by decide) ?_
  refine mj_icmp_ge 114 dX13_makeComponent_69 (by decide) (fun z => t_posK hk z (fun hk => ?_)) (fun z => t_negK hk z (fun hk => ?_))
  · refine t_mapK hk (fun hk => ?_)
    refine mj_iconst (v := 0) dX13_makeComponent_114 (by decide) ?_
    refine mj_istore_n 3 (lv2 := [(3, .int 0), (0, .ref 950), (1, .int l1), (2, .int l2)]) dX13_makeComponent_115 rfl (by decide) rfl ?_
    refine mj_sublv [(0, .ref 950), (1, .int l1), (2, .int l2), (3, .int 0)] [1, 2, 3, 0] rfl ?_
    exact LH_X13_makeComponent_116 _ l1 l2 0 s _ hk
  · refine mj_aload_n dX13_makeComponent_72 0 rfl ?_
    refine t_getR 1046 dX13_makeComponent_73 F_X13_306 qr_950_161 ?_
    refine mj_bipush (v := 6) dX13_makeComponent_76 (by decide) ?_
    refine mj_iload_n dX13_makeComponent_78 2 rfl ?_
    refine mj_imul dX13_makeComponent_79 ?_
    refine mj_iload_n dX13_makeComponent_80 3 rfl ?_
    refine mj_iadd dX13_makeComponent_81 ?_
    refine mj_iconst (v := 0) dX13_makeComponent_82 (by decide) ?_
    refine t_chkK hk (fun c0 hk => ?_)
    refine t_iastK dX13_makeComponent_83 qa_1046 (t_ixv c0) (fun s1 ws1 => t_letE hk ws1 (fun hk => ?_))
    refine mj_aload_n dX13_makeComponent_84 0 rfl ?_
    refine t_getR 1047 dX13_makeComponent_85 F_X13_309 qr_950_162 ?_
    refine mj_bipush (v := 6) dX13_makeComponent_88 (by decide) ?_
    refine mj_iload_n dX13_makeComponent_90 2 rfl ?_
    refine mj_imul dX13_makeComponent_91 ?_
    refine mj_iload_n dX13_makeComponent_92 3 rfl ?_
    refine mj_iadd dX13_makeComponent_93 ?_
    refine mj_iconst (v := 0) dX13_makeComponent_94 (by decide) ?_
    refine t_iastK dX13_makeComponent_95 qa_1047 (t_ixv c0) (fun s2 ws2 => t_letE hk ws2 (fun hk => ?_))
    refine mj_aload_n dX13_makeComponent_96 0 rfl ?_
    refine t_getR 1049 dX13_makeComponent_97 F_X13_315 qr_950_164 ?_
    refine mj_bipush (v := 6) dX13_makeComponent_100 (by decide) ?_
    refine mj_iload_n dX13_makeComponent_102 2 rfl ?_
    refine mj_imul dX13_makeComponent_103 ?_
    refine mj_iload_n dX13_makeComponent_104 3 rfl ?_
    refine mj_iadd dX13_makeComponent_105 ?_
    refine mj_iconst (v := (-1)) dX13_makeComponent_106 (by decide) ?_
    refine t_iastK dX13_makeComponent_107 qa_1049 (t_ixv c0) (fun s3 ws3 => t_letE hk ws3 (fun hk => ?_))
    refine mj_iinc (k := 3) (v := (l3 + 1)) (lv2 := [(3, .int (l3 + 1)), (0, .ref 950), (1, .int l1), (2, .int l2)]) dX13_makeComponent_108 rfl rfl (by decide) rfl ?_
    refine mj_goto 66 dX13_makeComponent_111 (by decide) ?_
    refine mj_sublv [(0, .ref 950), (1, .int l1), (2, .int l2), (3, .int (l3 + 1))] [1, 2, 3, 0] rfl ?_
    exact t_somK hk (fun hf => Hb66 l1 l2 (l3 + 1) s3 hf)
noncomputable def b_X13_makeComponent_66 (x : Int32 × Int32 × Int32 × t_S) : Option ((Int32 × Int32 × Int32 × t_S) ⊕ (Int32 × t_S)) := k_X13_makeComponent_66 x.1 x.2.1 x.2.2.1 x.2.2.2
set_option maxRecDepth 4000 in
set_option maxHeartbeats 1000000 in
theorem LH_X13_makeComponent_66 {D : va_G} {cy : Nat → ClassId} {ad : Nat → Nat} {bs : Nat} {X : State → Heap → Prop} : ∀ (n : Nat) (y0 : Int32) (y1 : Int32) (y2 : Int32) (y3 : t_S) (Q : Int32 × t_S → Prop) (hk : t_hk (t_loop (b_X13_makeComponent_66) n (y0, y1, y2, y3)) Q), mj_G D cy ad bs X cX13_makeComponent 7 yX13_makeComponent.cls (some .int) yX13_makeComponent.name 1784 0 0 1065 (t_P (fun v s' => ∃ x, v = some (.int x) ∧ Q ((x, s')))) 66 [(0, .ref 950), (1, .int (y0)), (2, .int (y1)), (3, .int (y2))] [] (t_m y3) 1065 0 0 := by
  intro n
  induction n with
  | zero => intro y0 y1 y2 y3 Q hk; obtain ⟨r, hr, _⟩ := hk; cases hr
  | succ n ih =>
    intro y0 y1 y2 y3 Q hk
    exact B_X13_makeComponent_66 y0 y1 y2 y3 (fun y => t_lq (b_X13_makeComponent_66) n Q y) (fun y0' y1' y2' y3' hy => ih y0' y1' y2' y3' Q hy) (t_lp (b := b_X13_makeComponent_66) (n := n) (x := (y0, y1, y2, y3)) hk)
noncomputable def f_X13_makeComponent (x1 : Int32) (s : t_S) : Option (Int32 × t_S) :=
 t_let (t_setI s 950 149 ((s.1 950 149) + (1 : Int32))) (fun s1 =>
 if t_ix (s.1 950 149) 8 = true then
  t_let (t_setI s1 1035 ((s.1 950 149).toNatClampNeg) x1) (fun s2 =>
 t_let (t_setI s2 1036 ((s.1 950 149).toNatClampNeg) (0 : Int32)) (fun s3 =>
 t_let (t_setI s3 1037 ((s.1 950 149).toNatClampNeg) (0 : Int32)) (fun s4 =>
 t_let (t_setI s4 1038 ((s.1 950 149).toNatClampNeg) (0 : Int32)) (fun s5 =>
 t_let (t_setI s5 1042 ((s.1 950 149).toNatClampNeg) (0 : Int32)) (fun s6 =>
 t_let (t_setI s6 1044 ((s.1 950 149).toNatClampNeg) (0 : Int32)) (fun s7 =>
 t_let (t_setI s7 1045 ((s.1 950 149).toNatClampNeg) (0 : Int32)) (fun s8 =>
 t_loop (b_X13_makeComponent_66) t_N (x1, (s.1 950 149), 0, s8))))))))
else none)
set_option maxRecDepth 4000 in
set_option maxHeartbeats 1000000 in
theorem C_X13_makeComponent (x1 : Int32) (s : t_S) (r : Int32 × t_S) (hr : f_X13_makeComponent x1 s = some r) : t_C yX13_makeComponent cX13_makeComponent 7 (some .int) 1784 [.ref 950, .int x1] s (fun v s' => v = some (.int r.1) ∧ s' = r.2) := by
  refine t_C.imp (P := fun v s' => ∃ x, v = some (.int x) ∧ (fun q => q = r) ((x, s'))) (t_C.of (by decide +kernel) (Nat.le_of_ble_eq_true rfl) ?_) (fun v s' hp => by obtain ⟨x, rfl, rfl⟩ := hp; exact ⟨rfl, rfl⟩)
  intro D cy ad bs X
  have hk : t_hk (f_X13_makeComponent x1 s) (fun q => q = r) := ⟨r, hr, rfl⟩
  show mj_G D cy ad bs X cX13_makeComponent 7 yX13_makeComponent.cls (some .int) yX13_makeComponent.name 1784 0 0 1065 (t_P (fun v s' => ∃ x, v = some (.int x) ∧ (fun q => q = r) ((x, s')))) 0 [(0, .ref 950), (1, .int x1)] [] (t_m s) 1065 0 0
  refine mj_aload_n dX13_makeComponent_0 0 rfl ?_
  refine t_getI dX13_makeComponent_1 F_X13_1315 qf_950_149 ?_
  refine mj_istore_n 2 (lv2 := [(2, .int (s.1 950 149)), (0, .ref 950), (1, .int x1)]) dX13_makeComponent_4 rfl (by decide) rfl ?_
  refine mj_aload_n dX13_makeComponent_5 1 rfl ?_
  refine mj_dup dX13_makeComponent_6 rfl ?_
  refine t_getI dX13_makeComponent_7 F_X13_1315 qf_950_149 ?_
  refine mj_iconst (v := 1) dX13_makeComponent_10 (by decide) ?_
  refine mj_iadd dX13_makeComponent_11 ?_
  refine t_putIK dX13_makeComponent_12 F_X13_1315 qf_950_149 rfl (fun s1 ws1 => t_letE hk ws1 (fun hk => ?_))
  refine mj_aload_n dX13_makeComponent_15 1 rfl ?_
  refine t_getR 1035 dX13_makeComponent_16 F_X13_273 qr_950_150 ?_
  refine mj_iload_n dX13_makeComponent_19 0 rfl ?_
  refine mj_iload_n dX13_makeComponent_20 2 rfl ?_
  refine t_chkK hk (fun c0 hk => ?_)
  refine t_iastK dX13_makeComponent_21 qa_1035 (t_ixv c0) (fun s2 ws2 => t_letE hk ws2 (fun hk => ?_))
  refine mj_aload_n dX13_makeComponent_22 1 rfl ?_
  refine t_getR 1036 dX13_makeComponent_23 F_X13_276 qr_950_151 ?_
  refine mj_iload_n dX13_makeComponent_26 0 rfl ?_
  refine mj_iconst (v := 0) dX13_makeComponent_27 (by decide) ?_
  refine t_iastK dX13_makeComponent_28 qa_1036 (t_ixv c0) (fun s3 ws3 => t_letE hk ws3 (fun hk => ?_))
  refine mj_aload_n dX13_makeComponent_29 1 rfl ?_
  refine t_getR 1037 dX13_makeComponent_30 F_X13_279 qr_950_152 ?_
  refine mj_iload_n dX13_makeComponent_33 0 rfl ?_
  refine mj_iconst (v := 0) dX13_makeComponent_34 (by decide) ?_
  refine t_iastK dX13_makeComponent_35 qa_1037 (t_ixv c0) (fun s4 ws4 => t_letE hk ws4 (fun hk => ?_))
  refine mj_aload_n dX13_makeComponent_36 1 rfl ?_
  refine t_getR 1038 dX13_makeComponent_37 F_X13_282 qr_950_153 ?_
  refine mj_iload_n dX13_makeComponent_40 0 rfl ?_
  refine mj_iconst (v := 0) dX13_makeComponent_41 (by decide) ?_
  refine t_iastK dX13_makeComponent_42 qa_1038 (t_ixv c0) (fun s5 ws5 => t_letE hk ws5 (fun hk => ?_))
  refine mj_aload_n dX13_makeComponent_43 1 rfl ?_
  refine t_getR 1042 dX13_makeComponent_44 F_X13_294 qr_950_157 ?_
  refine mj_iload_n dX13_makeComponent_47 0 rfl ?_
  refine mj_iconst (v := 0) dX13_makeComponent_48 (by decide) ?_
  refine t_iastK dX13_makeComponent_49 qa_1042 (t_ixv c0) (fun s6 ws6 => t_letE hk ws6 (fun hk => ?_))
  refine mj_aload_n dX13_makeComponent_50 1 rfl ?_
  refine t_getR 1044 dX13_makeComponent_51 F_X13_300 qr_950_159 ?_
  refine mj_iload_n dX13_makeComponent_54 0 rfl ?_
  refine mj_iconst (v := 0) dX13_makeComponent_55 (by decide) ?_
  refine t_iastK dX13_makeComponent_56 qa_1044 (t_ixv c0) (fun s7 ws7 => t_letE hk ws7 (fun hk => ?_))
  refine mj_aload_n dX13_makeComponent_57 1 rfl ?_
  refine t_getR 1045 dX13_makeComponent_58 F_X13_303 qr_950_160 ?_
  refine mj_iload_n dX13_makeComponent_61 0 rfl ?_
  refine mj_iconst (v := 0) dX13_makeComponent_62 (by decide) ?_
  refine t_iastK dX13_makeComponent_63 qa_1045 (t_ixv c0) (fun s8 ws8 => t_letE hk ws8 (fun hk => ?_))
  refine mj_iconst (v := 0) dX13_makeComponent_64 (by decide) ?_
  refine mj_istore_n 3 (lv2 := [(3, .int 0), (2, .int (s.1 950 149)), (0, .ref 950), (1, .int x1)]) dX13_makeComponent_65 rfl (by decide) rfl ?_
  refine mj_sublv [(0, .ref 950), (1, .int x1), (2, .int (s.1 950 149)), (3, .int 0)] [2, 3, 1, 0] rfl ?_
  exact LH_X13_makeComponent_66 _ x1 (s.1 950 149) 0 s8 _ hk

theorem dX13_newFrame_0 : decode cX13_newFrame 0 = .ok (.aload_n 0, 1) := by decide +kernel
theorem dX13_newFrame_1 : decode cX13_newFrame 1 = .ok (.iload_n 1, 1) := by decide +kernel
theorem dX13_newFrame_102 : decode cX13_newFrame 102 = .ok (.goto (-36), 3) := by decide +kernel
theorem dX13_newFrame_105 : decode cX13_newFrame 105 = .ok (.return_, 1) := by decide +kernel
theorem dX13_newFrame_11 : decode cX13_newFrame 11 = .ok (.iload_n 1, 1) := by decide +kernel
theorem dX13_newFrame_12 : decode cX13_newFrame 12 = .ok (.iaload, 1) := by decide +kernel
theorem dX13_newFrame_13 : decode cX13_newFrame 13 = .ok (.iconst 1, 1) := by decide +kernel
theorem dX13_newFrame_14 : decode cX13_newFrame 14 = .ok (.isub, 1) := by decide +kernel
theorem dX13_newFrame_15 : decode cX13_newFrame 15 = .ok (.istore 6, 2) := by decide +kernel
theorem dX13_newFrame_17 : decode cX13_newFrame 17 = .ok (.iconst 0, 1) := by decide +kernel
theorem dX13_newFrame_18 : decode cX13_newFrame 18 = .ok (.istore 7, 2) := by decide +kernel
theorem dX13_newFrame_2 : decode cX13_newFrame 2 = .ok (.iload_n 2, 1) := by decide +kernel
theorem dX13_newFrame_20 : decode cX13_newFrame 20 = .ok (.iload 7, 2) := by decide +kernel
theorem dX13_newFrame_22 : decode cX13_newFrame 22 = .ok (.bipush 8, 2) := by decide +kernel
theorem dX13_newFrame_24 : decode cX13_newFrame 24 = .ok (.if_icmp .ge 39, 3) := by decide +kernel
theorem dX13_newFrame_27 : decode cX13_newFrame 27 = .ok (.aload_n 0, 1) := by decide +kernel
theorem dX13_newFrame_28 : decode cX13_newFrame 28 = .ok (.getfield 342, 3) := by decide +kernel
theorem dX13_newFrame_3 : decode cX13_newFrame 3 = .ok (.iload_n 3, 1) := by decide +kernel
theorem dX13_newFrame_31 : decode cX13_newFrame 31 = .ok (.bipush 64, 2) := by decide +kernel
theorem dX13_newFrame_33 : decode cX13_newFrame 33 = .ok (.iload_n 1, 1) := by decide +kernel
theorem dX13_newFrame_34 : decode cX13_newFrame 34 = .ok (.imul, 1) := by decide +kernel
theorem dX13_newFrame_35 : decode cX13_newFrame 35 = .ok (.bipush 8, 2) := by decide +kernel
theorem dX13_newFrame_37 : decode cX13_newFrame 37 = .ok (.iload 6, 2) := by decide +kernel
theorem dX13_newFrame_39 : decode cX13_newFrame 39 = .ok (.imul, 1) := by decide +kernel
theorem dX13_newFrame_4 : decode cX13_newFrame 4 = .ok (.invokevirtual 1436, 3) := by decide +kernel
theorem dX13_newFrame_40 : decode cX13_newFrame 40 = .ok (.iadd, 1) := by decide +kernel
theorem dX13_newFrame_41 : decode cX13_newFrame 41 = .ok (.iload 7, 2) := by decide +kernel
theorem dX13_newFrame_43 : decode cX13_newFrame 43 = .ok (.iadd, 1) := by decide +kernel
theorem dX13_newFrame_44 : decode cX13_newFrame 44 = .ok (.iload 7, 2) := by decide +kernel
theorem dX13_newFrame_46 : decode cX13_newFrame 46 = .ok (.iload 5, 2) := by decide +kernel
theorem dX13_newFrame_48 : decode cX13_newFrame 48 = .ok (.if_icmp .ge 7, 3) := by decide +kernel
theorem dX13_newFrame_51 : decode cX13_newFrame 51 = .ok (.iconst 1, 1) := by decide +kernel
theorem dX13_newFrame_52 : decode cX13_newFrame 52 = .ok (.goto 4, 3) := by decide +kernel
theorem dX13_newFrame_55 : decode cX13_newFrame 55 = .ok (.iconst 0, 1) := by decide +kernel
theorem dX13_newFrame_56 : decode cX13_newFrame 56 = .ok (.bastore, 1) := by decide +kernel
theorem dX13_newFrame_57 : decode cX13_newFrame 57 = .ok (.iinc 7 1, 3) := by decide +kernel
theorem dX13_newFrame_60 : decode cX13_newFrame 60 = .ok (.goto (-40), 3) := by decide +kernel
theorem dX13_newFrame_63 : decode cX13_newFrame 63 = .ok (.iconst 0, 1) := by decide +kernel
theorem dX13_newFrame_64 : decode cX13_newFrame 64 = .ok (.istore 7, 2) := by decide +kernel
theorem dX13_newFrame_66 : decode cX13_newFrame 66 = .ok (.iload 7, 2) := by decide +kernel
theorem dX13_newFrame_68 : decode cX13_newFrame 68 = .ok (.iload 5, 2) := by decide +kernel
theorem dX13_newFrame_7 : decode cX13_newFrame 7 = .ok (.aload_n 0, 1) := by decide +kernel
theorem dX13_newFrame_70 : decode cX13_newFrame 70 = .ok (.if_icmp .ge 35, 3) := by decide +kernel
theorem dX13_newFrame_73 : decode cX13_newFrame 73 = .ok (.aload_n 0, 1) := by decide +kernel
theorem dX13_newFrame_74 : decode cX13_newFrame 74 = .ok (.sipush 260, 3) := by decide +kernel
theorem dX13_newFrame_77 : decode cX13_newFrame 77 = .ok (.bipush 40, 2) := by decide +kernel
theorem dX13_newFrame_79 : decode cX13_newFrame 79 = .ok (.iload 4, 2) := by decide +kernel
theorem dX13_newFrame_8 : decode cX13_newFrame 8 = .ok (.getfield 282, 3) := by decide +kernel
theorem dX13_newFrame_81 : decode cX13_newFrame 81 = .ok (.iadd, 1) := by decide +kernel
theorem dX13_newFrame_82 : decode cX13_newFrame 82 = .ok (.iload 7, 2) := by decide +kernel
theorem dX13_newFrame_84 : decode cX13_newFrame 84 = .ok (.iadd, 1) := by decide +kernel
theorem dX13_newFrame_85 : decode cX13_newFrame 85 = .ok (.imul, 1) := by decide +kernel
theorem dX13_newFrame_86 : decode cX13_newFrame 86 = .ok (.aload_n 0, 1) := by decide +kernel
theorem dX13_newFrame_87 : decode cX13_newFrame 87 = .ok (.iload_n 1, 1) := by decide +kernel
theorem dX13_newFrame_88 : decode cX13_newFrame 88 = .ok (.iload 6, 2) := by decide +kernel
theorem dX13_newFrame_90 : decode cX13_newFrame 90 = .ok (.invokevirtual 1340, 3) := by decide +kernel
theorem dX13_newFrame_93 : decode cX13_newFrame 93 = .ok (.iload 7, 2) := by decide +kernel
theorem dX13_newFrame_95 : decode cX13_newFrame 95 = .ok (.iadd, 1) := by decide +kernel
theorem dX13_newFrame_96 : decode cX13_newFrame 96 = .ok (.invokevirtual 861, 3) := by decide +kernel
theorem dX13_newFrame_99 : decode cX13_newFrame 99 = .ok (.iinc 7 1, 3) := by decide +kernel
noncomputable def k_X13_newFrame_56 (l1 : Int32) (l4 : Int32) (l5 : Int32) (l6 : Int32) (l7 : Int32) (k0 : Int32) (k1 : Int32) (s : t_S) : Option ((Int32 × Int32 × Int32 × Int32 × Int32 × t_S) ⊕ (t_S)) :=
 if t_ix k1 512 = true then
  if k0 = 0 ∨ k0 = 1 then
  t_let (t_setI s 1058 (k1.toNatClampNeg) k0) (fun s1 =>
 some (.inl (l1, l4, l5, l6, (l7 + 1), s1)))
else none
else none
set_option maxRecDepth 4000 in
set_option maxHeartbeats 1000000 in
theorem B_X13_newFrame_56 {D : va_G} {cy : Nat → ClassId} {ad : Nat → Nat} {bs : Nat} {X : State → Heap → Prop} (l1 : Int32) (l4 : Int32) (l5 : Int32) (l6 : Int32) (l7 : Int32) (k0 : Int32) (k1 : Int32) (s : t_S) (Q : (Int32 × Int32 × Int32 × Int32 × Int32 × t_S) ⊕ (t_S) → Prop) (Hb20 : ∀ (y0 : Int32) (y1 : Int32) (y2 : Int32) (y3 : Int32) (y4 : Int32) (y5 : t_S), Q (.inl (y0, y1, y2, y3, y4, y5)) → mj_G D cy ad bs X cX13_newFrame 8 yX13_newFrame.cls none yX13_newFrame.name 3 0 0 1065 (t_P (fun v s' => v = none ∧ Q (.inr (s')))) 20 [(0, .ref 950), (1, .int (y0)), (4, .int (y1)), (5, .int (y2)), (6, .int (y3)), (7, .int (y4))] [] (t_m y5) 1065 0 0) (hk : t_hk (k_X13_newFrame_56 l1 l4 l5 l6 l7 k0 k1 s) Q) : mj_G D cy ad bs X cX13_newFrame 8 yX13_newFrame.cls none yX13_newFrame.name 3 0 0 1065 (t_P (fun v s' => v = none ∧ Q (.inr (s')))) 56 [(0, .ref 950), (1, .int l1), (4, .int l4), (5, .int l5), (6, .int l6), (7, .int l7)] [.int k0, .int k1, .ref 1058] (t_m s) 1065 0 0 := by
  refine t_chkK hk (fun c0 hk => ?_)
  refine t_chkK hk (fun c1 hk => ?_)
  refine t_zastK dX13_newFrame_56 qa_1058 (t_ixv c0) c1 (fun s1 ws1 => t_letE hk ws1 (fun hk => ?_))
  refine mj_iinc (k := 5) (v := (l7 + 1)) (lv2 := [(7, .int (l7 + 1)), (0, .ref 950), (1, .int l1), (4, .int l4), (5, .int l5), (6, .int l6)]) dX13_newFrame_57 rfl rfl (by decide) rfl ?_
  refine mj_goto 20 dX13_newFrame_60 (by decide) ?_
  refine mj_sublv [(0, .ref 950), (1, .int l1), (4, .int l4), (5, .int l5), (6, .int l6), (7, .int (l7 + 1))] [1, 2, 3, 4, 5, 0] rfl ?_
  exact t_somK hk (fun hf => Hb20 l1 l4 l5 l6 (l7 + 1) s1 hf)
noncomputable def k_X13_newFrame_66 (l1 : Int32) (l4 : Int32) (l5 : Int32) (l6 : Int32) (l7 : Int32) (s : t_S) : Option ((Int32 × Int32 × Int32 × Int32 × Int32 × t_S) ⊕ (t_S)) :=
 if l5 ≤ l7 then ((some (s)).map Sum.inr)
 else ((f_X13_copy ((260 : Int32) * (((40 : Int32) + l4) + l7)) ((f_X13_frameSlot l1 l6 s) + l7) s).bind (fun r2 =>
 some (.inl (l1, l4, l5, l6, (l7 + 1), r2))))
set_option maxRecDepth 4000 in
set_option maxHeartbeats 1000000 in
theorem B_X13_newFrame_66 {D : va_G} {cy : Nat → ClassId} {ad : Nat → Nat} {bs : Nat} {X : State → Heap → Prop} (l1 : Int32) (l4 : Int32) (l5 : Int32) (l6 : Int32) (l7 : Int32) (s : t_S) (Q : (Int32 × Int32 × Int32 × Int32 × Int32 × t_S) ⊕ (t_S) → Prop) (Hb66 : ∀ (y0 : Int32) (y1 : Int32) (y2 : Int32) (y3 : Int32) (y4 : Int32) (y5 : t_S), Q (.inl (y0, y1, y2, y3, y4, y5)) → mj_G D cy ad bs X cX13_newFrame 8 yX13_newFrame.cls none yX13_newFrame.name 3 0 0 1065 (t_P (fun v s' => v = none ∧ Q (.inr (s')))) 66 [(0, .ref 950), (1, .int (y0)), (4, .int (y1)), (5, .int (y2)), (6, .int (y3)), (7, .int (y4))] [] (t_m y5) 1065 0 0) (hk : t_hk (k_X13_newFrame_66 l1 l4 l5 l6 l7 s) Q) : mj_G D cy ad bs X cX13_newFrame 8 yX13_newFrame.cls none yX13_newFrame.name 3 0 0 1065 (t_P (fun v s' => v = none ∧ Q (.inr (s')))) 66 [(0, .ref 950), (1, .int l1), (4, .int l4), (5, .int l5), (6, .int l6), (7, .int l7)] [] (t_m s) 1065 0 0 := by
  refine mj_iload dX13_newFrame_66 5 rfl ?_
  refine mj_iload dX13_newFrame_68 3 rfl ?_
  refine mj_icmp_ge 105 dX13_newFrame_70 (by decide) (fun z => t_posK hk z (fun hk => ?_)) (fun z => t_negK hk z (fun hk => ?_))
  · refine t_mapK hk (fun hk => ?_)
    exact t_somK hk (fun hf => t_vret dX13_newFrame_105 rfl ⟨rfl, hf⟩ (Nat.le_of_ble_eq_true rfl) (Nat.le_of_ble_eq_true rfl))
  · refine mj_aload_n dX13_newFrame_73 0 rfl ?_
    refine mj_sipush (v := 260) dX13_newFrame_74 (by decide) ?_
    refine mj_bipush (v := 40) dX13_newFrame_77 (by decide) ?_
    refine mj_iload dX13_newFrame_79 2 rfl ?_
    refine mj_iadd dX13_newFrame_81 ?_
    refine mj_iload dX13_newFrame_82 5 rfl ?_
    refine mj_iadd dX13_newFrame_84 ?_
    refine mj_imul dX13_newFrame_85 ?_
    refine mj_aload_n dX13_newFrame_86 0 rfl ?_
    refine mj_iload_n dX13_newFrame_87 1 rfl ?_
    refine mj_iload dX13_newFrame_88 4 rfl ?_
    refine t_callViP dX13_newFrame_90 M_X13_frameSlot (C_X13_frameSlot _ _ _) ML_X13_1340 IM_X13_frameSlot SE_X13_frameSlot qc_950 rfl (As := [.int l1, .int l6]) rfl rfl (Nat.le_of_ble_eq_true rfl) (Nat.le_of_ble_eq_true rfl) (Nat.le_of_ble_eq_true rfl) (Nat.le_of_ble_eq_true rfl) ?_
    refine mj_iload dX13_newFrame_93 5 rfl ?_
    refine mj_iadd dX13_newFrame_95 ?_
    refine t_bndK hk (fun r2 er2 hk => ?_)
    refine t_callVvE dX13_newFrame_96 M_X13_copy (C_X13_copy _ _ _ _ er2) ML_X13_861 IM_X13_copy SE_X13_copy qc_950 rfl (As := [.int ((260 : Int32) * (((40 : Int32) + l4) + l7)), .int ((f_X13_frameSlot l1 l6 s) + l7)]) rfl rfl (Nat.le_of_ble_eq_true rfl) (Nat.le_of_ble_eq_true rfl) (Nat.le_of_ble_eq_true rfl) (Nat.le_of_ble_eq_true rfl) ?_
    refine mj_iinc (k := 5) (v := (l7 + 1)) (lv2 := [(7, .int (l7 + 1)), (0, .ref 950), (1, .int l1), (4, .int l4), (5, .int l5), (6, .int l6)]) dX13_newFrame_99 rfl rfl (by decide) rfl ?_
    refine mj_goto 66 dX13_newFrame_102 (by decide) ?_
    refine mj_sublv [(0, .ref 950), (1, .int l1), (4, .int l4), (5, .int l5), (6, .int l6), (7, .int (l7 + 1))] [1, 2, 3, 4, 5, 0] rfl ?_
    exact t_somK hk (fun hf => Hb66 l1 l4 l5 l6 (l7 + 1) r2 hf)
noncomputable def b_X13_newFrame_66 (x : Int32 × Int32 × Int32 × Int32 × Int32 × t_S) : Option ((Int32 × Int32 × Int32 × Int32 × Int32 × t_S) ⊕ (t_S)) := k_X13_newFrame_66 x.1 x.2.1 x.2.2.1 x.2.2.2.1 x.2.2.2.2.1 x.2.2.2.2.2
set_option maxRecDepth 4000 in
set_option maxHeartbeats 1000000 in
theorem LH_X13_newFrame_66 {D : va_G} {cy : Nat → ClassId} {ad : Nat → Nat} {bs : Nat} {X : State → Heap → Prop} : ∀ (n : Nat) (y0 : Int32) (y1 : Int32) (y2 : Int32) (y3 : Int32) (y4 : Int32) (y5 : t_S) (Q : t_S → Prop) (hk : t_hk (t_loop (b_X13_newFrame_66) n (y0, y1, y2, y3, y4, y5)) Q), mj_G D cy ad bs X cX13_newFrame 8 yX13_newFrame.cls none yX13_newFrame.name 3 0 0 1065 (t_P (fun v s' => v = none ∧ Q (s'))) 66 [(0, .ref 950), (1, .int (y0)), (4, .int (y1)), (5, .int (y2)), (6, .int (y3)), (7, .int (y4))] [] (t_m y5) 1065 0 0 := by
  intro n
  induction n with
  | zero => intro y0 y1 y2 y3 y4 y5 Q hk; obtain ⟨r, hr, _⟩ := hk; cases hr
  | succ n ih =>
    intro y0 y1 y2 y3 y4 y5 Q hk
    exact B_X13_newFrame_66 y0 y1 y2 y3 y4 y5 (fun y => t_lq (b_X13_newFrame_66) n Q y) (fun y0' y1' y2' y3' y4' y5' hy => ih y0' y1' y2' y3' y4' y5' Q hy) (t_lp (b := b_X13_newFrame_66) (n := n) (x := (y0, y1, y2, y3, y4, y5)) hk)
noncomputable def k_X13_newFrame_20 (l1 : Int32) (l4 : Int32) (l5 : Int32) (l6 : Int32) (l7 : Int32) (s : t_S) : Option ((Int32 × Int32 × Int32 × Int32 × Int32 × t_S) ⊕ (t_S)) :=
 if (8 : Int32) ≤ l7 then ((t_loop (b_X13_newFrame_66) t_N (l1, l4, l5, l6, 0, s)).map Sum.inr)
 else (if l5 ≤ l7 then (k_X13_newFrame_56 l1 l4 l5 l6 l7 0 ((((64 : Int32) * l1) + ((8 : Int32) * l6)) + l7) s)
 else (k_X13_newFrame_56 l1 l4 l5 l6 l7 1 ((((64 : Int32) * l1) + ((8 : Int32) * l6)) + l7) s))
set_option maxRecDepth 4000 in
set_option maxHeartbeats 1000000 in
theorem B_X13_newFrame_20 {D : va_G} {cy : Nat → ClassId} {ad : Nat → Nat} {bs : Nat} {X : State → Heap → Prop} (l1 : Int32) (l4 : Int32) (l5 : Int32) (l6 : Int32) (l7 : Int32) (s : t_S) (Q : (Int32 × Int32 × Int32 × Int32 × Int32 × t_S) ⊕ (t_S) → Prop) (Hb20 : ∀ (y0 : Int32) (y1 : Int32) (y2 : Int32) (y3 : Int32) (y4 : Int32) (y5 : t_S), Q (.inl (y0, y1, y2, y3, y4, y5)) → mj_G D cy ad bs X cX13_newFrame 8 yX13_newFrame.cls none yX13_newFrame.name 3 0 0 1065 (t_P (fun v s' => v = none ∧ Q (.inr (s')))) 20 [(0, .ref 950), (1, .int (y0)), (4, .int (y1)), (5, .int (y2)), (6, .int (y3)), (7, .int (y4))] [] (t_m y5) 1065 0 0) (hk : t_hk (k_X13_newFrame_20 l1 l4 l5 l6 l7 s) Q) : mj_G D cy ad bs X cX13_newFrame 8 yX13_newFrame.cls none yX13_newFrame.name 3 0 0 1065 (t_P (fun v s' => v = none ∧ Q (.inr (s')))) 20 [(0, .ref 950), (1, .int l1), (4, .int l4), (5, .int l5), (6, .int l6), (7, .int l7)] [] (t_m s) 1065 0 0 := by
  refine mj_iload dX13_newFrame_20 5 rfl ?_
  refine mj_bipush (v := 8) dX13_newFrame_22 (by decide) ?_
  refine mj_icmp_ge 63 dX13_newFrame_24 (by decide) (fun z => t_posK hk z (fun hk => ?_)) (fun z => t_negK hk z (fun hk => ?_))
  · refine t_mapK hk (fun hk => ?_)
    refine mj_iconst (v := 0) dX13_newFrame_63 (by decide) ?_
    refine mj_istore (lv2 := [(7, .int 0), (0, .ref 950), (1, .int l1), (4, .int l4), (5, .int l5), (6, .int l6)]) dX13_newFrame_64 (by decide) rfl ?_
    refine mj_sublv [(0, .ref 950), (1, .int l1), (4, .int l4), (5, .int l5), (6, .int l6), (7, .int 0)] [1, 2, 3, 4, 5, 0] rfl ?_
    exact LH_X13_newFrame_66 _ l1 l4 l5 l6 0 s _ hk
  · refine mj_aload_n dX13_newFrame_27 0 rfl ?_
    refine t_getR 1058 dX13_newFrame_28 F_X13_342 qr_950_177 ?_
    refine mj_bipush (v := 64) dX13_newFrame_31 (by decide) ?_
    refine mj_iload_n dX13_newFrame_33 1 rfl ?_
    refine mj_imul dX13_newFrame_34 ?_
    refine mj_bipush (v := 8) dX13_newFrame_35 (by decide) ?_
    refine mj_iload dX13_newFrame_37 4 rfl ?_
    refine mj_imul dX13_newFrame_39 ?_
    refine mj_iadd dX13_newFrame_40 ?_
    refine mj_iload dX13_newFrame_41 5 rfl ?_
    refine mj_iadd dX13_newFrame_43 ?_
    refine mj_iload dX13_newFrame_44 5 rfl ?_
    refine mj_iload dX13_newFrame_46 3 rfl ?_
    refine mj_icmp_ge 55 dX13_newFrame_48 (by decide) (fun z => t_posK hk z (fun hk => ?_)) (fun z => t_negK hk z (fun hk => ?_))
    · refine mj_iconst (v := 0) dX13_newFrame_55 (by decide) ?_
      exact B_X13_newFrame_56 _ _ _ _ _ _ _ _ _ (fun y0 y1 y2 y3 y4 y5 hx => Hb20 y0 y1 y2 y3 y4 y5 hx) hk
    · refine mj_iconst (v := 1) dX13_newFrame_51 (by decide) ?_
      refine mj_goto 56 dX13_newFrame_52 (by decide) ?_
      exact B_X13_newFrame_56 _ _ _ _ _ _ _ _ _ (fun y0 y1 y2 y3 y4 y5 hx => Hb20 y0 y1 y2 y3 y4 y5 hx) hk
noncomputable def b_X13_newFrame_20 (x : Int32 × Int32 × Int32 × Int32 × Int32 × t_S) : Option ((Int32 × Int32 × Int32 × Int32 × Int32 × t_S) ⊕ (t_S)) := k_X13_newFrame_20 x.1 x.2.1 x.2.2.1 x.2.2.2.1 x.2.2.2.2.1 x.2.2.2.2.2
set_option maxRecDepth 4000 in
set_option maxHeartbeats 1000000 in
theorem LH_X13_newFrame_20 {D : va_G} {cy : Nat → ClassId} {ad : Nat → Nat} {bs : Nat} {X : State → Heap → Prop} : ∀ (n : Nat) (y0 : Int32) (y1 : Int32) (y2 : Int32) (y3 : Int32) (y4 : Int32) (y5 : t_S) (Q : t_S → Prop) (hk : t_hk (t_loop (b_X13_newFrame_20) n (y0, y1, y2, y3, y4, y5)) Q), mj_G D cy ad bs X cX13_newFrame 8 yX13_newFrame.cls none yX13_newFrame.name 3 0 0 1065 (t_P (fun v s' => v = none ∧ Q (s'))) 20 [(0, .ref 950), (1, .int (y0)), (4, .int (y1)), (5, .int (y2)), (6, .int (y3)), (7, .int (y4))] [] (t_m y5) 1065 0 0 := by
  intro n
  induction n with
  | zero => intro y0 y1 y2 y3 y4 y5 Q hk; obtain ⟨r, hr, _⟩ := hk; cases hr
  | succ n ih =>
    intro y0 y1 y2 y3 y4 y5 Q hk
    exact B_X13_newFrame_20 y0 y1 y2 y3 y4 y5 (fun y => t_lq (b_X13_newFrame_20) n Q y) (fun y0' y1' y2' y3' y4' y5' hy => ih y0' y1' y2' y3' y4' y5' Q hy) (t_lp (b := b_X13_newFrame_20) (n := n) (x := (y0, y1, y2, y3, y4, y5)) hk)
noncomputable def f_X13_newFrame (x1 : Int32) (x2 : Int32) (x3 : Int32) (x4 : Int32) (x5 : Int32) (s : t_S) : Option (t_S) :=
 (f_X13_pushFrame x1 x2 x3 s).bind (fun r1 =>
 if t_ix x1 8 = true then
  t_loop (b_X13_newFrame_20) t_N (x1, x4, x5, ((r1.1 1038 (x1.toNatClampNeg)) - (1 : Int32)), 0, r1)
else none)
set_option maxRecDepth 4000 in
set_option maxHeartbeats 1000000 in
theorem C_X13_newFrame (x1 : Int32) (x2 : Int32) (x3 : Int32) (x4 : Int32) (x5 : Int32) (s : t_S) (r : t_S) (hr : f_X13_newFrame x1 x2 x3 x4 x5 s = some r) : t_C yX13_newFrame cX13_newFrame 8 none 3 [.ref 950, .int x1, .int x2, .int x3, .int x4, .int x5] s (fun v s' => v = none ∧ s' = r) := by
  refine t_C.imp (P := fun v s' => v = none ∧ (fun q => q = r) (s')) (t_C.of (by decide +kernel) (Nat.le_of_ble_eq_true rfl) ?_) (fun v s' hp => hp)
  intro D cy ad bs X
  have hk : t_hk (f_X13_newFrame x1 x2 x3 x4 x5 s) (fun q => q = r) := ⟨r, hr, rfl⟩
  show mj_G D cy ad bs X cX13_newFrame 8 yX13_newFrame.cls none yX13_newFrame.name 3 0 0 1065 (t_P (fun v s' => v = none ∧ (fun q => q = r) (s'))) 0 [(0, .ref 950), (1, .int x1), (2, .int x2), (3, .int x3), (4, .int x4), (5, .int x5)] [] (t_m s) 1065 0 0
  refine mj_aload_n dX13_newFrame_0 0 rfl ?_
  refine mj_iload_n dX13_newFrame_1 1 rfl ?_
  refine mj_iload_n dX13_newFrame_2 2 rfl ?_
  refine mj_iload_n dX13_newFrame_3 3 rfl ?_
  refine t_bndK hk (fun r1 er1 hk => ?_)
  refine t_callVvE dX13_newFrame_4 M_X13_pushFrame (C_X13_pushFrame _ _ _ _ _ er1) ML_X13_1436 IM_X13_pushFrame SE_X13_pushFrame qc_950 rfl (As := [.int x1, .int x2, .int x3]) rfl rfl (Nat.le_of_ble_eq_true rfl) (Nat.le_of_ble_eq_true rfl) (Nat.le_of_ble_eq_true rfl) (Nat.le_of_ble_eq_true rfl) ?_
  refine mj_aload_n dX13_newFrame_7 0 rfl ?_
  refine t_getR 1038 dX13_newFrame_8 F_X13_282 qr_950_153 ?_
  refine mj_iload_n dX13_newFrame_11 1 rfl ?_
  refine t_chkK hk (fun c1 hk => ?_)
  refine t_iald dX13_newFrame_12 qa_1038 (t_ixv c1) ?_
  refine mj_iconst (v := 1) dX13_newFrame_13 (by decide) ?_
  refine mj_isub dX13_newFrame_14 ?_
  refine mj_istore (lv2 := [(6, .int ((r1.1 1038 (x1.toNatClampNeg)) - (1 : Int32))), (0, .ref 950), (1, .int x1), (2, .int x2), (3, .int x3), (4, .int x4), (5, .int x5)]) dX13_newFrame_15 (by decide) rfl ?_
  refine mj_iconst (v := 0) dX13_newFrame_17 (by decide) ?_
  refine mj_istore (lv2 := [(7, .int 0), (6, .int ((r1.1 1038 (x1.toNatClampNeg)) - (1 : Int32))), (0, .ref 950), (1, .int x1), (2, .int x2), (3, .int x3), (4, .int x4), (5, .int x5)]) dX13_newFrame_18 (by decide) rfl ?_
  refine mj_sublv [(0, .ref 950), (1, .int x1), (4, .int x4), (5, .int x5), (6, .int ((r1.1 1038 (x1.toNatClampNeg)) - (1 : Int32))), (7, .int 0)] [2, 3, 6, 7, 1, 0] rfl ?_
  exact LH_X13_newFrame_20 _ x1 x4 x5 ((r1.1 1038 (x1.toNatClampNeg)) - (1 : Int32)) 0 r1 _ hk

theorem dX13_settle_0 : decode cX13_settle 0 = .ok (.aload_n 0, 1) := by decide +kernel
theorem dX13_settle_1 : decode cX13_settle 1 = .ok (.getfield 276, 3) := by decide +kernel
theorem dX13_settle_10 : decode cX13_settle 10 = .ok (.aload_n 0, 1) := by decide +kernel
theorem dX13_settle_100 : decode cX13_settle 100 = .ok (.iload_n 2, 1) := by decide +kernel
theorem dX13_settle_101 : decode cX13_settle 101 = .ok (.invokevirtual 1343, 3) := by decide +kernel
theorem dX13_settle_104 : decode cX13_settle 104 = .ok (.ifCond .lt 14, 3) := by decide +kernel
theorem dX13_settle_107 : decode cX13_settle 107 = .ok (.aload_n 0, 1) := by decide +kernel
theorem dX13_settle_108 : decode cX13_settle 108 = .ok (.iconst 4, 1) := by decide +kernel
theorem dX13_settle_109 : decode cX13_settle 109 = .ok (.invokevirtual 866, 3) := by decide +kernel
theorem dX13_settle_11 : decode cX13_settle 11 = .ok (.getfield 282, 3) := by decide +kernel
theorem dX13_settle_112 : decode cX13_settle 112 = .ok (.aload_n 0, 1) := by decide +kernel
theorem dX13_settle_113 : decode cX13_settle 113 = .ok (.iload_n 1, 1) := by decide +kernel
theorem dX13_settle_114 : decode cX13_settle 114 = .ok (.invokevirtual 1330, 3) := by decide +kernel
theorem dX13_settle_117 : decode cX13_settle 117 = .ok (.return_, 1) := by decide +kernel
theorem dX13_settle_118 : decode cX13_settle 118 = .ok (.aload_n 0, 1) := by decide +kernel
theorem dX13_settle_119 : decode cX13_settle 119 = .ok (.iload_n 1, 1) := by decide +kernel
theorem dX13_settle_120 : decode cX13_settle 120 = .ok (.iload_n 2, 1) := by decide +kernel
theorem dX13_settle_121 : decode cX13_settle 121 = .ok (.invokevirtual 1346, 3) := by decide +kernel
theorem dX13_settle_124 : decode cX13_settle 124 = .ok (.aload_n 0, 1) := by decide +kernel
theorem dX13_settle_125 : decode cX13_settle 125 = .ok (.aload_n 0, 1) := by decide +kernel
theorem dX13_settle_126 : decode cX13_settle 126 = .ok (.iload_n 1, 1) := by decide +kernel
theorem dX13_settle_127 : decode cX13_settle 127 = .ok (.iload_n 2, 1) := by decide +kernel
theorem dX13_settle_128 : decode cX13_settle 128 = .ok (.invokevirtual 1349, 3) := by decide +kernel
theorem dX13_settle_131 : decode cX13_settle 131 = .ok (.invokevirtual 1318, 3) := by decide +kernel
theorem dX13_settle_134 : decode cX13_settle 134 = .ok (.goto (-134), 3) := by decide +kernel
theorem dX13_settle_137 : decode cX13_settle 137 = .ok (.aload_n 0, 1) := by decide +kernel
theorem dX13_settle_138 : decode cX13_settle 138 = .ok (.getfield 276, 3) := by decide +kernel
theorem dX13_settle_14 : decode cX13_settle 14 = .ok (.iload_n 1, 1) := by decide +kernel
theorem dX13_settle_141 : decode cX13_settle 141 = .ok (.iload_n 1, 1) := by decide +kernel
theorem dX13_settle_142 : decode cX13_settle 142 = .ok (.iaload, 1) := by decide +kernel
theorem dX13_settle_143 : decode cX13_settle 143 = .ok (.iconst 1, 1) := by decide +kernel
theorem dX13_settle_144 : decode cX13_settle 144 = .ok (.if_icmp .ne 17, 3) := by decide +kernel
theorem dX13_settle_147 : decode cX13_settle 147 = .ok (.aload_n 0, 1) := by decide +kernel
theorem dX13_settle_148 : decode cX13_settle 148 = .ok (.getfield 282, 3) := by decide +kernel
theorem dX13_settle_15 : decode cX13_settle 15 = .ok (.iaload, 1) := by decide +kernel
theorem dX13_settle_151 : decode cX13_settle 151 = .ok (.iload_n 1, 1) := by decide +kernel
theorem dX13_settle_152 : decode cX13_settle 152 = .ok (.iaload, 1) := by decide +kernel
theorem dX13_settle_153 : decode cX13_settle 153 = .ok (.ifCond .ne 8, 3) := by decide +kernel
theorem dX13_settle_156 : decode cX13_settle 156 = .ok (.aload_n 0, 1) := by decide +kernel
theorem dX13_settle_157 : decode cX13_settle 157 = .ok (.iload_n 1, 1) := by decide +kernel
theorem dX13_settle_158 : decode cX13_settle 158 = .ok (.invokevirtual 1312, 3) := by decide +kernel
theorem dX13_settle_16 : decode cX13_settle 16 = .ok (.ifCond .le 121, 3) := by decide +kernel
theorem dX13_settle_161 : decode cX13_settle 161 = .ok (.return_, 1) := by decide +kernel
theorem dX13_settle_19 : decode cX13_settle 19 = .ok (.aload_n 0, 1) := by decide +kernel
theorem dX13_settle_20 : decode cX13_settle 20 = .ok (.getfield 288, 3) := by decide +kernel
theorem dX13_settle_23 : decode cX13_settle 23 = .ok (.bipush 8, 2) := by decide +kernel
theorem dX13_settle_25 : decode cX13_settle 25 = .ok (.iload_n 1, 1) := by decide +kernel
theorem dX13_settle_26 : decode cX13_settle 26 = .ok (.imul, 1) := by decide +kernel
theorem dX13_settle_27 : decode cX13_settle 27 = .ok (.aload_n 0, 1) := by decide +kernel
theorem dX13_settle_28 : decode cX13_settle 28 = .ok (.getfield 282, 3) := by decide +kernel
theorem dX13_settle_31 : decode cX13_settle 31 = .ok (.iload_n 1, 1) := by decide +kernel
theorem dX13_settle_32 : decode cX13_settle 32 = .ok (.iaload, 1) := by decide +kernel
theorem dX13_settle_33 : decode cX13_settle 33 = .ok (.iadd, 1) := by decide +kernel
theorem dX13_settle_34 : decode cX13_settle 34 = .ok (.iconst 1, 1) := by decide +kernel
theorem dX13_settle_35 : decode cX13_settle 35 = .ok (.isub, 1) := by decide +kernel
theorem dX13_settle_36 : decode cX13_settle 36 = .ok (.iaload, 1) := by decide +kernel
theorem dX13_settle_37 : decode cX13_settle 37 = .ok (.ifCond .ge 100, 3) := by decide +kernel
theorem dX13_settle_4 : decode cX13_settle 4 = .ok (.iload_n 1, 1) := by decide +kernel
theorem dX13_settle_40 : decode cX13_settle 40 = .ok (.aload_n 0, 1) := by decide +kernel
theorem dX13_settle_41 : decode cX13_settle 41 = .ok (.getfield 282, 3) := by decide +kernel
theorem dX13_settle_44 : decode cX13_settle 44 = .ok (.iload_n 1, 1) := by decide +kernel
theorem dX13_settle_45 : decode cX13_settle 45 = .ok (.dup2, 1) := by decide +kernel
theorem dX13_settle_46 : decode cX13_settle 46 = .ok (.iaload, 1) := by decide +kernel
theorem dX13_settle_47 : decode cX13_settle 47 = .ok (.iconst 1, 1) := by decide +kernel
theorem dX13_settle_48 : decode cX13_settle 48 = .ok (.isub, 1) := by decide +kernel
theorem dX13_settle_49 : decode cX13_settle 49 = .ok (.iastore, 1) := by decide +kernel
theorem dX13_settle_5 : decode cX13_settle 5 = .ok (.iaload, 1) := by decide +kernel
theorem dX13_settle_50 : decode cX13_settle 50 = .ok (.aload_n 0, 1) := by decide +kernel
theorem dX13_settle_51 : decode cX13_settle 51 = .ok (.getfield 291, 3) := by decide +kernel
theorem dX13_settle_54 : decode cX13_settle 54 = .ok (.bipush 8, 2) := by decide +kernel
theorem dX13_settle_56 : decode cX13_settle 56 = .ok (.iload_n 1, 1) := by decide +kernel
theorem dX13_settle_57 : decode cX13_settle 57 = .ok (.imul, 1) := by decide +kernel
theorem dX13_settle_58 : decode cX13_settle 58 = .ok (.aload_n 0, 1) := by decide +kernel
theorem dX13_settle_59 : decode cX13_settle 59 = .ok (.getfield 282, 3) := by decide +kernel
theorem dX13_settle_6 : decode cX13_settle 6 = .ok (.iconst 1, 1) := by decide +kernel
theorem dX13_settle_62 : decode cX13_settle 62 = .ok (.iload_n 1, 1) := by decide +kernel
theorem dX13_settle_63 : decode cX13_settle 63 = .ok (.iaload, 1) := by decide +kernel
theorem dX13_settle_64 : decode cX13_settle 64 = .ok (.iadd, 1) := by decide +kernel
theorem dX13_settle_65 : decode cX13_settle 65 = .ok (.iaload, 1) := by decide +kernel
theorem dX13_settle_66 : decode cX13_settle 66 = .ok (.istore_n 2, 1) := by decide +kernel
theorem dX13_settle_67 : decode cX13_settle 67 = .ok (.aload_n 0, 1) := by decide +kernel
theorem dX13_settle_68 : decode cX13_settle 68 = .ok (.getfield 282, 3) := by decide +kernel
theorem dX13_settle_7 : decode cX13_settle 7 = .ok (.if_icmp .ne 130, 3) := by decide +kernel
theorem dX13_settle_71 : decode cX13_settle 71 = .ok (.iload_n 1, 1) := by decide +kernel
theorem dX13_settle_72 : decode cX13_settle 72 = .ok (.iaload, 1) := by decide +kernel
theorem dX13_settle_73 : decode cX13_settle 73 = .ok (.ifCond .le 61, 3) := by decide +kernel
theorem dX13_settle_76 : decode cX13_settle 76 = .ok (.iload_n 2, 1) := by decide +kernel
theorem dX13_settle_77 : decode cX13_settle 77 = .ok (.ifCond .lt 57, 3) := by decide +kernel
theorem dX13_settle_80 : decode cX13_settle 80 = .ok (.aload_n 0, 1) := by decide +kernel
theorem dX13_settle_81 : decode cX13_settle 81 = .ok (.iload_n 1, 1) := by decide +kernel
theorem dX13_settle_82 : decode cX13_settle 82 = .ok (.aload_n 0, 1) := by decide +kernel
theorem dX13_settle_83 : decode cX13_settle 83 = .ok (.getfield 285, 3) := by decide +kernel
theorem dX13_settle_86 : decode cX13_settle 86 = .ok (.bipush 8, 2) := by decide +kernel
theorem dX13_settle_88 : decode cX13_settle 88 = .ok (.iload_n 1, 1) := by decide +kernel
theorem dX13_settle_89 : decode cX13_settle 89 = .ok (.imul, 1) := by decide +kernel
theorem dX13_settle_90 : decode cX13_settle 90 = .ok (.aload_n 0, 1) := by decide +kernel
theorem dX13_settle_91 : decode cX13_settle 91 = .ok (.getfield 282, 3) := by decide +kernel
theorem dX13_settle_94 : decode cX13_settle 94 = .ok (.iload_n 1, 1) := by decide +kernel
theorem dX13_settle_95 : decode cX13_settle 95 = .ok (.iaload, 1) := by decide +kernel
theorem dX13_settle_96 : decode cX13_settle 96 = .ok (.iadd, 1) := by decide +kernel
theorem dX13_settle_97 : decode cX13_settle 97 = .ok (.iconst 1, 1) := by decide +kernel
theorem dX13_settle_98 : decode cX13_settle 98 = .ok (.isub, 1) := by decide +kernel
theorem dX13_settle_99 : decode cX13_settle 99 = .ok (.iaload, 1) := by decide +kernel
noncomputable def k_X13_settle_137 (l1 : Int32) (s : t_S) : Option (t_S) :=
 if t_ix l1 8 = true then
  if (s.1 1036 (l1.toNatClampNeg)) = (1 : Int32) then (if (s.1 1038 (l1.toNatClampNeg)) = (0 : Int32) then ((f_X13_finish l1 s).bind (fun r2 =>
 some (r2)))
 else (some (s)))
 else (some (s))
else none
set_option maxRecDepth 4000 in
set_option maxHeartbeats 1000000 in
theorem B_X13_settle_137 {D : va_G} {cy : Nat → ClassId} {ad : Nat → Nat} {bs : Nat} {X : State → Heap → Prop} (l1 : Int32) (s : t_S) (Q : t_S → Prop) (hk : t_hk (k_X13_settle_137 l1 s) Q) : mj_G D cy ad bs X cX13_settle 3 yX13_settle.cls none yX13_settle.name 6 0 0 1065 (t_P (fun v s' => v = none ∧ Q (s'))) 137 [(0, .ref 950), (1, .int l1)] [] (t_m s) 1065 0 0 := by
  refine mj_aload_n dX13_settle_137 0 rfl ?_
  refine t_getR 1036 dX13_settle_138 F_X13_276 qr_950_151 ?_
  refine mj_iload_n dX13_settle_141 1 rfl ?_
  refine t_chkK hk (fun c0 hk => ?_)
  refine t_iald dX13_settle_142 qa_1036 (t_ixv c0) ?_
  refine mj_iconst (v := 1) dX13_settle_143 (by decide) ?_
  refine mj_icmp_ne 161 dX13_settle_144 (by decide) (fun z => t_negK hk z (fun hk => ?_)) (fun z => t_posK hk z (fun hk => ?_))
  · exact t_somK hk (fun hf => t_vret dX13_settle_161 rfl ⟨rfl, hf⟩ (Nat.le_of_ble_eq_true rfl) (Nat.le_of_ble_eq_true rfl))
  · refine mj_aload_n dX13_settle_147 0 rfl ?_
    refine t_getR 1038 dX13_settle_148 F_X13_282 qr_950_153 ?_
    refine mj_iload_n dX13_settle_151 1 rfl ?_
    refine t_iald dX13_settle_152 qa_1038 (t_ixv c0) ?_
    refine mj_if_ne 161 dX13_settle_153 (by decide) (fun z => t_negK hk z (fun hk => ?_)) (fun z => t_posK hk z (fun hk => ?_))
    · exact t_somK hk (fun hf => t_vret dX13_settle_161 rfl ⟨rfl, hf⟩ (Nat.le_of_ble_eq_true rfl) (Nat.le_of_ble_eq_true rfl))
    · refine mj_aload_n dX13_settle_156 0 rfl ?_
      refine mj_iload_n dX13_settle_157 1 rfl ?_
      refine t_bndK hk (fun r2 er2 hk => ?_)
      refine t_callVvE dX13_settle_158 M_X13_finish (C_X13_finish _ _ _ er2) ML_X13_1312 IM_X13_finish SE_X13_finish qc_950 rfl (As := [.int l1]) rfl rfl (Nat.le_of_ble_eq_true rfl) (Nat.le_of_ble_eq_true rfl) (Nat.le_of_ble_eq_true rfl) (Nat.le_of_ble_eq_true rfl) ?_
      exact t_somK hk (fun hf => t_vret dX13_settle_161 rfl ⟨rfl, hf⟩ (Nat.le_of_ble_eq_true rfl) (Nat.le_of_ble_eq_true rfl))
noncomputable def k_X13_settle_0 (l1 : Int32) (s : t_S) : Option ((Int32 × t_S) ⊕ (t_S)) :=
 if t_ix l1 8 = true then
  if (s.1 1036 (l1.toNatClampNeg)) = (1 : Int32) then (if (s.1 1038 (l1.toNatClampNeg)) ≤ (0 : Int32) then ((k_X13_settle_137 l1 s).map Sum.inr)
 else (if t_ix ((((8 : Int32) * l1) + (s.1 1038 (l1.toNatClampNeg))) - (1 : Int32)) 64 = true then
  if (0 : Int32) ≤ (s.1 1040 (((((8 : Int32) * l1) + (s.1 1038 (l1.toNatClampNeg))) - (1 : Int32)).toNatClampNeg)) then ((k_X13_settle_137 l1 s).map Sum.inr)
 else (t_let (t_setI s 1038 (l1.toNatClampNeg) ((s.1 1038 (l1.toNatClampNeg)) - (1 : Int32))) (fun s1 =>
 if t_ix (((8 : Int32) * l1) + (s1.1 1038 (l1.toNatClampNeg))) 64 = true then
  if (s1.1 1038 (l1.toNatClampNeg)) ≤ (0 : Int32) then (some (.inl (l1, s1)))
 else (if (s1.1 1041 ((((8 : Int32) * l1) + (s1.1 1038 (l1.toNatClampNeg))).toNatClampNeg)) < (0 : Int32) then (some (.inl (l1, s1)))
 else (if t_ix ((((8 : Int32) * l1) + (s1.1 1038 (l1.toNatClampNeg))) - (1 : Int32)) 64 = true then
  (f_X13_typeAt l1 (s1.1 1039 (((((8 : Int32) * l1) + (s1.1 1038 (l1.toNatClampNeg))) - (1 : Int32)).toNatClampNeg)) (s1.1 1041 ((((8 : Int32) * l1) + (s1.1 1038 (l1.toNatClampNeg))).toNatClampNeg)) s1).bind (fun r5 =>
 if r5 < (0 : Int32) then ((f_X13_tellVar l1 (s1.1 1041 ((((8 : Int32) * l1) + (s1.1 1038 (l1.toNatClampNeg))).toNatClampNeg)) s1).bind (fun r6 =>
 (f_X13_placeSlot l1 (s1.1 1041 ((((8 : Int32) * l1) + (s1.1 1038 (l1.toNatClampNeg))).toNatClampNeg)) r6).bind (fun r7 =>
 (f_X13_setOmit r7 r6).bind (fun r8 =>
 some (.inl (l1, r8))))))
 else (((f_X13_error (4 : Int32) s1).bind (fun r9 =>
 (f_X13_goWrong l1 r9).bind (fun r10 =>
 some (r10)))).map Sum.inr))
else none))
else none))
else none))
 else ((k_X13_settle_137 l1 s).map Sum.inr)
else none
set_option maxRecDepth 4000 in
set_option maxHeartbeats 1000000 in
theorem B_X13_settle_0 {D : va_G} {cy : Nat → ClassId} {ad : Nat → Nat} {bs : Nat} {X : State → Heap → Prop} (l1 : Int32) (s : t_S) (Q : (Int32 × t_S) ⊕ (t_S) → Prop) (Hb0 : ∀ (y0 : Int32) (y1 : t_S), Q (.inl (y0, y1)) → mj_G D cy ad bs X cX13_settle 3 yX13_settle.cls none yX13_settle.name 6 0 0 1065 (t_P (fun v s' => v = none ∧ Q (.inr (s')))) 0 [(0, .ref 950), (1, .int (y0))] [] (t_m y1) 1065 0 0) (hk : t_hk (k_X13_settle_0 l1 s) Q) : mj_G D cy ad bs X cX13_settle 3 yX13_settle.cls none yX13_settle.name 6 0 0 1065 (t_P (fun v s' => v = none ∧ Q (.inr (s')))) 0 [(0, .ref 950), (1, .int l1)] [] (t_m s) 1065 0 0 := by
  refine mj_aload_n dX13_settle_0 0 rfl ?_
  refine t_getR 1036 dX13_settle_1 F_X13_276 qr_950_151 ?_
  refine mj_iload_n dX13_settle_4 1 rfl ?_
  refine t_chkK hk (fun c0 hk => ?_)
  refine t_iald dX13_settle_5 qa_1036 (t_ixv c0) ?_
  refine mj_iconst (v := 1) dX13_settle_6 (by decide) ?_
  refine mj_icmp_ne 137 dX13_settle_7 (by decide) (fun z => t_negK hk z (fun hk => ?_)) (fun z => t_posK hk z (fun hk => ?_))
  · refine t_mapK hk (fun hk => ?_)
    exact B_X13_settle_137 _ _ _ hk
  · refine mj_aload_n dX13_settle_10 0 rfl ?_
    refine t_getR 1038 dX13_settle_11 F_X13_282 qr_950_153 ?_
    refine mj_iload_n dX13_settle_14 1 rfl ?_
    refine t_iald dX13_settle_15 qa_1038 (t_ixv c0) ?_
    refine mj_if_le 137 dX13_settle_16 (by decide) (fun z => t_posK hk z (fun hk => ?_)) (fun z => t_negK hk z (fun hk => ?_))
    · refine t_mapK hk (fun hk => ?_)
      exact B_X13_settle_137 _ _ _ hk
    · refine mj_aload_n dX13_settle_19 0 rfl ?_
      refine t_getR 1040 dX13_settle_20 F_X13_288 qr_950_155 ?_
      refine mj_bipush (v := 8) dX13_settle_23 (by decide) ?_
      refine mj_iload_n dX13_settle_25 1 rfl ?_
      refine mj_imul dX13_settle_26 ?_
      refine mj_aload_n dX13_settle_27 0 rfl ?_
      refine t_getR 1038 dX13_settle_28 F_X13_282 qr_950_153 ?_
      refine mj_iload_n dX13_settle_31 1 rfl ?_
      refine t_iald dX13_settle_32 qa_1038 (t_ixv c0) ?_
      refine mj_iadd dX13_settle_33 ?_
      refine mj_iconst (v := 1) dX13_settle_34 (by decide) ?_
      refine mj_isub dX13_settle_35 ?_
      refine t_chkK hk (fun c1 hk => ?_)
      refine t_iald dX13_settle_36 qa_1040 (t_ixv c1) ?_
      refine mj_if_ge 137 dX13_settle_37 (by decide) (fun z => t_posK hk z (fun hk => ?_)) (fun z => t_negK hk z (fun hk => ?_))
      · refine t_mapK hk (fun hk => ?_)
        exact B_X13_settle_137 _ _ _ hk
      · refine mj_aload_n dX13_settle_40 0 rfl ?_
        refine t_getR 1038 dX13_settle_41 F_X13_282 qr_950_153 ?_
        refine mj_iload_n dX13_settle_44 1 rfl ?_
        refine mj_dup2 dX13_settle_45 rfl rfl ?_
        refine t_iald dX13_settle_46 qa_1038 (t_ixv c0) ?_
        refine mj_iconst (v := 1) dX13_settle_47 (by decide) ?_
        refine mj_isub dX13_settle_48 ?_
        refine t_iastK dX13_settle_49 qa_1038 (t_ixv c0) (fun s1 ws1 => t_letE hk ws1 (fun hk => ?_))
        refine mj_aload_n dX13_settle_50 0 rfl ?_
        refine t_getR 1041 dX13_settle_51 F_X13_291 qr_950_156 ?_
        refine mj_bipush (v := 8) dX13_settle_54 (by decide) ?_
        refine mj_iload_n dX13_settle_56 1 rfl ?_
        refine mj_imul dX13_settle_57 ?_
        refine mj_aload_n dX13_settle_58 0 rfl ?_
        refine t_getR 1038 dX13_settle_59 F_X13_282 qr_950_153 ?_
        refine mj_iload_n dX13_settle_62 1 rfl ?_
        refine t_iald dX13_settle_63 qa_1038 (t_ixv c0) ?_
        refine mj_iadd dX13_settle_64 ?_
        refine t_chkK hk (fun c2 hk => ?_)
        refine t_iald dX13_settle_65 qa_1041 (t_ixv c2) ?_
        refine mj_istore_n 2 (lv2 := [(2, .int (s1.1 1041 ((((8 : Int32) * l1) + (s1.1 1038 (l1.toNatClampNeg))).toNatClampNeg))), (0, .ref 950), (1, .int l1)]) dX13_settle_66 rfl (by decide) rfl ?_
        refine mj_aload_n dX13_settle_67 1 rfl ?_
        refine t_getR 1038 dX13_settle_68 F_X13_282 qr_950_153 ?_
        refine mj_iload_n dX13_settle_71 2 rfl ?_
        refine t_iald dX13_settle_72 qa_1038 (t_ixv c0) ?_
        refine mj_if_le 134 dX13_settle_73 (by decide) (fun z => t_posK hk z (fun hk => ?_)) (fun z => t_negK hk z (fun hk => ?_))
        · refine mj_goto 0 dX13_settle_134 (by decide) ?_
          refine mj_sublv [(0, .ref 950), (1, .int l1)] [1, 2] rfl ?_
          exact t_somK hk (fun hf => Hb0 l1 s1 hf)
        · refine mj_iload_n dX13_settle_76 0 rfl ?_
          refine mj_if_lt 134 dX13_settle_77 (by decide) (fun z => t_posK hk z (fun hk => ?_)) (fun z => t_negK hk z (fun hk => ?_))
          · refine mj_goto 0 dX13_settle_134 (by decide) ?_
            refine mj_sublv [(0, .ref 950), (1, .int l1)] [1, 2] rfl ?_
            exact t_somK hk (fun hf => Hb0 l1 s1 hf)
          · refine mj_aload_n dX13_settle_80 1 rfl ?_
            refine mj_iload_n dX13_settle_81 2 rfl ?_
            refine mj_aload_n dX13_settle_82 1 rfl ?_
            refine t_getR 1039 dX13_settle_83 F_X13_285 qr_950_154 ?_
            refine mj_bipush (v := 8) dX13_settle_86 (by decide) ?_
            refine mj_iload_n dX13_settle_88 2 rfl ?_
            refine mj_imul dX13_settle_89 ?_
            refine mj_aload_n dX13_settle_90 1 rfl ?_
            refine t_getR 1038 dX13_settle_91 F_X13_282 qr_950_153 ?_
            refine mj_iload_n dX13_settle_94 2 rfl ?_
            refine t_iald dX13_settle_95 qa_1038 (t_ixv c0) ?_
            refine mj_iadd dX13_settle_96 ?_
            refine mj_iconst (v := 1) dX13_settle_97 (by decide) ?_
            refine mj_isub dX13_settle_98 ?_
            refine t_chkK hk (fun c3 hk => ?_)
            refine t_iald dX13_settle_99 qa_1039 (t_ixv c3) ?_
            refine mj_iload_n dX13_settle_100 0 rfl ?_
            refine t_bndK hk (fun r5 er5 hk => ?_)
            refine t_callViP dX13_settle_101 M_X13_typeAt (C_X13_typeAt _ _ _ _ _ er5) ML_X13_1343 IM_X13_typeAt SE_X13_typeAt qc_950 rfl (As := [.int l1, .int (s1.1 1039 (((((8 : Int32) * l1) + (s1.1 1038 (l1.toNatClampNeg))) - (1 : Int32)).toNatClampNeg)), .int (s1.1 1041 ((((8 : Int32) * l1) + (s1.1 1038 (l1.toNatClampNeg))).toNatClampNeg))]) rfl rfl (Nat.le_of_ble_eq_true rfl) (Nat.le_of_ble_eq_true rfl) (Nat.le_of_ble_eq_true rfl) (Nat.le_of_ble_eq_true rfl) ?_
            refine mj_if_lt 118 dX13_settle_104 (by decide) (fun z => t_posK hk z (fun hk => ?_)) (fun z => t_negK hk z (fun hk => ?_))
            · refine mj_aload_n dX13_settle_118 1 rfl ?_
              refine mj_iload_n dX13_settle_119 2 rfl ?_
              refine mj_iload_n dX13_settle_120 0 rfl ?_
              refine t_bndK hk (fun r6 er6 hk => ?_)
              refine t_callVvE dX13_settle_121 M_X13_tellVar (C_X13_tellVar _ _ _ _ er6) ML_X13_1346 IM_X13_tellVar SE_X13_tellVar qc_950 rfl (As := [.int l1, .int (s1.1 1041 ((((8 : Int32) * l1) + (s1.1 1038 (l1.toNatClampNeg))).toNatClampNeg))]) rfl rfl (Nat.le_of_ble_eq_true rfl) (Nat.le_of_ble_eq_true rfl) (Nat.le_of_ble_eq_true rfl) (Nat.le_of_ble_eq_true rfl) ?_
              refine mj_aload_n dX13_settle_124 1 rfl ?_
              refine mj_aload_n dX13_settle_125 1 rfl ?_
              refine mj_iload_n dX13_settle_126 2 rfl ?_
              refine mj_iload_n dX13_settle_127 0 rfl ?_
              refine t_bndK hk (fun r7 er7 hk => ?_)
              refine t_callViP dX13_settle_128 M_X13_placeSlot (C_X13_placeSlot _ _ _ _ er7) ML_X13_1349 IM_X13_placeSlot SE_X13_placeSlot qc_950 rfl (As := [.int l1, .int (s1.1 1041 ((((8 : Int32) * l1) + (s1.1 1038 (l1.toNatClampNeg))).toNatClampNeg))]) rfl rfl (Nat.le_of_ble_eq_true rfl) (Nat.le_of_ble_eq_true rfl) (Nat.le_of_ble_eq_true rfl) (Nat.le_of_ble_eq_true rfl) ?_
              refine t_bndK hk (fun r8 er8 hk => ?_)
              refine t_callVvE dX13_settle_131 M_X13_setOmit (C_X13_setOmit _ _ _ er8) ML_X13_1318 IM_X13_setOmit SE_X13_setOmit qc_950 rfl (As := [.int r7]) rfl rfl (Nat.le_of_ble_eq_true rfl) (Nat.le_of_ble_eq_true rfl) (Nat.le_of_ble_eq_true rfl) (Nat.le_of_ble_eq_true rfl) ?_
              refine mj_goto 0 dX13_settle_134 (by decide) ?_
              refine mj_sublv [(0, .ref 950), (1, .int l1)] [1, 2] rfl ?_
              exact t_somK hk (fun hf => Hb0 l1 r8 hf)
            · refine t_mapK hk (fun hk => ?_)
              refine mj_aload_n dX13_settle_107 1 rfl ?_
              refine mj_iconst (v := 4) dX13_settle_108 (by decide) ?_
              refine t_bndK hk (fun r9 er9 hk => ?_)
              refine t_callVvE dX13_settle_109 M_X13_error (C_X13_error _ _ _ er9) ML_X13_866 IM_X13_error SE_X13_error qc_950 rfl (As := [.int 4]) rfl rfl (Nat.le_of_ble_eq_true rfl) (Nat.le_of_ble_eq_true rfl) (Nat.le_of_ble_eq_true rfl) (Nat.le_of_ble_eq_true rfl) ?_
              refine mj_aload_n dX13_settle_112 1 rfl ?_
              refine mj_iload_n dX13_settle_113 2 rfl ?_
              refine t_bndK hk (fun r10 er10 hk => ?_)
              refine t_callVvE dX13_settle_114 M_X13_goWrong (C_X13_goWrong _ _ _ er10) ML_X13_1330 IM_X13_goWrong SE_X13_goWrong qc_950 rfl (As := [.int l1]) rfl rfl (Nat.le_of_ble_eq_true rfl) (Nat.le_of_ble_eq_true rfl) (Nat.le_of_ble_eq_true rfl) (Nat.le_of_ble_eq_true rfl) ?_
              exact t_somK hk (fun hf => t_vret dX13_settle_117 rfl ⟨rfl, hf⟩ (Nat.le_of_ble_eq_true rfl) (Nat.le_of_ble_eq_true rfl))
noncomputable def b_X13_settle_0 (x : Int32 × t_S) : Option ((Int32 × t_S) ⊕ (t_S)) := k_X13_settle_0 x.1 x.2
set_option maxRecDepth 4000 in
set_option maxHeartbeats 1000000 in
theorem LH_X13_settle_0 {D : va_G} {cy : Nat → ClassId} {ad : Nat → Nat} {bs : Nat} {X : State → Heap → Prop} : ∀ (n : Nat) (y0 : Int32) (y1 : t_S) (Q : t_S → Prop) (hk : t_hk (t_loop (b_X13_settle_0) n (y0, y1)) Q), mj_G D cy ad bs X cX13_settle 3 yX13_settle.cls none yX13_settle.name 6 0 0 1065 (t_P (fun v s' => v = none ∧ Q (s'))) 0 [(0, .ref 950), (1, .int (y0))] [] (t_m y1) 1065 0 0 := by
  intro n
  induction n with
  | zero => intro y0 y1 Q hk; obtain ⟨r, hr, _⟩ := hk; cases hr
  | succ n ih =>
    intro y0 y1 Q hk
    exact B_X13_settle_0 y0 y1 (fun y => t_lq (b_X13_settle_0) n Q y) (fun y0' y1' hy => ih y0' y1' Q hy) (t_lp (b := b_X13_settle_0) (n := n) (x := (y0, y1)) hk)
noncomputable def f_X13_settle (x1 : Int32) (s : t_S) : Option (t_S) :=
 t_loop (b_X13_settle_0) t_N (x1, s)
set_option maxRecDepth 4000 in
set_option maxHeartbeats 1000000 in
theorem C_X13_settle (x1 : Int32) (s : t_S) (r : t_S) (hr : f_X13_settle x1 s = some r) : t_C yX13_settle cX13_settle 3 none 6 [.ref 950, .int x1] s (fun v s' => v = none ∧ s' = r) := by
  refine t_C.imp (P := fun v s' => v = none ∧ (fun q => q = r) (s')) (t_C.of (by decide +kernel) (Nat.le_of_ble_eq_true rfl) ?_) (fun v s' hp => hp)
  intro D cy ad bs X
  have hk : t_hk (f_X13_settle x1 s) (fun q => q = r) := ⟨r, hr, rfl⟩
  show mj_G D cy ad bs X cX13_settle 3 yX13_settle.cls none yX13_settle.name 6 0 0 1065 (t_P (fun v s' => v = none ∧ (fun q => q = r) (s'))) 0 [(0, .ref 950), (1, .int x1)] [] (t_m s) 1065 0 0
  exact LH_X13_settle_0 _ x1 s _ hk

