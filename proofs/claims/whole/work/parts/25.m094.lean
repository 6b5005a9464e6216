/-! Methods as functions, 94: X13_findWhy, X13_fits, X13_parameters -/
theorem dX13_findWhy_0 : decode cX13_findWhy 0 = .ok (.aload_n 0, 1) := by decide +kernel
theorem dX13_findWhy_1 : decode cX13_findWhy 1 = .ok (.iload_n 1, 1) := by decide +kernel
theorem dX13_findWhy_10 : decode cX13_findWhy 10 = .ok (.istore 5, 2) := by decide +kernel
theorem dX13_findWhy_101 : decode cX13_findWhy 101 = .ok (.iload 8, 2) := by decide +kernel
theorem dX13_findWhy_103 : decode cX13_findWhy 103 = .ok (.iaload, 1) := by decide +kernel
theorem dX13_findWhy_104 : decode cX13_findWhy 104 = .ok (.istore 8, 2) := by decide +kernel
theorem dX13_findWhy_106 : decode cX13_findWhy 106 = .ok (.goto (-41), 3) := by decide +kernel
theorem dX13_findWhy_109 : decode cX13_findWhy 109 = .ok (.iload 8, 2) := by decide +kernel
theorem dX13_findWhy_111 : decode cX13_findWhy 111 = .ok (.ifCond .lt 52, 3) := by decide +kernel
theorem dX13_findWhy_114 : decode cX13_findWhy 114 = .ok (.aload_n 0, 1) := by decide +kernel
theorem dX13_findWhy_115 : decode cX13_findWhy 115 = .ok (.sipush 1000, 3) := by decide +kernel
theorem dX13_findWhy_118 : decode cX13_findWhy 118 = .ok (.aload_n 0, 1) := by decide +kernel
theorem dX13_findWhy_119 : decode cX13_findWhy 119 = .ok (.getfield 32, 3) := by decide +kernel
theorem dX13_findWhy_12 : decode cX13_findWhy 12 = .ok (.iload 5, 2) := by decide +kernel
theorem dX13_findWhy_122 : decode cX13_findWhy 122 = .ok (.iload 8, 2) := by decide +kernel
theorem dX13_findWhy_124 : decode cX13_findWhy 124 = .ok (.laload, 1) := by decide +kernel
theorem dX13_findWhy_125 : decode cX13_findWhy 125 = .ok (.l2i, 1) := by decide +kernel
theorem dX13_findWhy_126 : decode cX13_findWhy 126 = .ok (.iadd, 1) := by decide +kernel
theorem dX13_findWhy_127 : decode cX13_findWhy 127 = .ok (.invokevirtual 1291, 3) := by decide +kernel
theorem dX13_findWhy_130 : decode cX13_findWhy 130 = .ok (.aload_n 0, 1) := by decide +kernel
theorem dX13_findWhy_131 : decode cX13_findWhy 131 = .ok (.iload 4, 2) := by decide +kernel
theorem dX13_findWhy_133 : decode cX13_findWhy 133 = .ok (.aload_n 0, 1) := by decide +kernel
theorem dX13_findWhy_134 : decode cX13_findWhy 134 = .ok (.getfield 32, 3) := by decide +kernel
theorem dX13_findWhy_137 : decode cX13_findWhy 137 = .ok (.iload 8, 2) := by decide +kernel
theorem dX13_findWhy_139 : decode cX13_findWhy 139 = .ok (.laload, 1) := by decide +kernel
theorem dX13_findWhy_14 : decode cX13_findWhy 14 = .ok (.ifCond .eq 352, 3) := by decide +kernel
theorem dX13_findWhy_140 : decode cX13_findWhy 140 = .ok (.invokevirtual 966, 3) := by decide +kernel
theorem dX13_findWhy_143 : decode cX13_findWhy 143 = .ok (.istore 4, 2) := by decide +kernel
theorem dX13_findWhy_145 : decode cX13_findWhy 145 = .ok (.aload_n 0, 1) := by decide +kernel
theorem dX13_findWhy_146 : decode cX13_findWhy 146 = .ok (.aload_n 0, 1) := by decide +kernel
theorem dX13_findWhy_147 : decode cX13_findWhy 147 = .ok (.getfield 39, 3) := by decide +kernel
theorem dX13_findWhy_150 : decode cX13_findWhy 150 = .ok (.iload 8, 2) := by decide +kernel
theorem dX13_findWhy_152 : decode cX13_findWhy 152 = .ok (.iaload, 1) := by decide +kernel
theorem dX13_findWhy_153 : decode cX13_findWhy 153 = .ok (.invokevirtual 1288, 3) := by decide +kernel
theorem dX13_findWhy_156 : decode cX13_findWhy 156 = .ok (.istore_n 3, 1) := by decide +kernel
theorem dX13_findWhy_157 : decode cX13_findWhy 157 = .ok (.iconst 1, 1) := by decide +kernel
theorem dX13_findWhy_158 : decode cX13_findWhy 158 = .ok (.istore 5, 2) := by decide +kernel
theorem dX13_findWhy_160 : decode cX13_findWhy 160 = .ok (.goto 10, 3) := by decide +kernel
theorem dX13_findWhy_163 : decode cX13_findWhy 163 = .ok (.aload_n 0, 1) := by decide +kernel
theorem dX13_findWhy_164 : decode cX13_findWhy 164 = .ok (.iload_n 3, 1) := by decide +kernel
theorem dX13_findWhy_165 : decode cX13_findWhy 165 = .ok (.iload 4, 2) := by decide +kernel
theorem dX13_findWhy_167 : decode cX13_findWhy 167 = .ok (.invokevirtual 1294, 3) := by decide +kernel
theorem dX13_findWhy_17 : decode cX13_findWhy 17 = .ok (.iload 4, 2) := by decide +kernel
theorem dX13_findWhy_170 : decode cX13_findWhy 170 = .ok (.goto 193, 3) := by decide +kernel
theorem dX13_findWhy_173 : decode cX13_findWhy 173 = .ok (.iload 6, 2) := by decide +kernel
theorem dX13_findWhy_175 : decode cX13_findWhy 175 = .ok (.bipush 30, 2) := by decide +kernel
theorem dX13_findWhy_177 : decode cX13_findWhy 177 = .ok (.if_icmp .ne 67, 3) := by decide +kernel
theorem dX13_findWhy_180 : decode cX13_findWhy 180 = .ok (.iload 7, 2) := by decide +kernel
theorem dX13_findWhy_182 : decode cX13_findWhy 182 = .ok (.bipush 7, 2) := by decide +kernel
theorem dX13_findWhy_184 : decode cX13_findWhy 184 = .ok (.if_icmp .ne 60, 3) := by decide +kernel
theorem dX13_findWhy_187 : decode cX13_findWhy 187 = .ok (.aload_n 0, 1) := by decide +kernel
theorem dX13_findWhy_188 : decode cX13_findWhy 188 = .ok (.getfield 182, 3) := by decide +kernel
theorem dX13_findWhy_19 : decode cX13_findWhy 19 = .ok (.ifCond .lt 347, 3) := by decide +kernel
theorem dX13_findWhy_191 : decode cX13_findWhy 191 = .ok (.iload 4, 2) := by decide +kernel
theorem dX13_findWhy_193 : decode cX13_findWhy 193 = .ok (.iconst 1, 1) := by decide +kernel
theorem dX13_findWhy_194 : decode cX13_findWhy 194 = .ok (.iadd, 1) := by decide +kernel
theorem dX13_findWhy_195 : decode cX13_findWhy 195 = .ok (.laload, 1) := by decide +kernel
theorem dX13_findWhy_196 : decode cX13_findWhy 196 = .ok (.aload_n 0, 1) := by decide +kernel
theorem dX13_findWhy_197 : decode cX13_findWhy 197 = .ok (.getfield 32, 3) := by decide +kernel
theorem dX13_findWhy_2 : decode cX13_findWhy 2 = .ok (.invokevirtual 1288, 3) := by decide +kernel
theorem dX13_findWhy_200 : decode cX13_findWhy 200 = .ok (.iload_n 3, 1) := by decide +kernel
theorem dX13_findWhy_201 : decode cX13_findWhy 201 = .ok (.laload, 1) := by decide +kernel
theorem dX13_findWhy_202 : decode cX13_findWhy 202 = .ok (.lcmp, 1) := by decide +kernel
theorem dX13_findWhy_203 : decode cX13_findWhy 203 = .ok (.ifCond .ne 41, 3) := by decide +kernel
theorem dX13_findWhy_206 : decode cX13_findWhy 206 = .ok (.aload_n 0, 1) := by decide +kernel
theorem dX13_findWhy_207 : decode cX13_findWhy 207 = .ok (.sipush 1000, 3) := by decide +kernel
theorem dX13_findWhy_210 : decode cX13_findWhy 210 = .ok (.aload_n 0, 1) := by decide +kernel
theorem dX13_findWhy_211 : decode cX13_findWhy 211 = .ok (.getfield 32, 3) := by decide +kernel
theorem dX13_findWhy_214 : decode cX13_findWhy 214 = .ok (.iload_n 3, 1) := by decide +kernel
theorem dX13_findWhy_215 : decode cX13_findWhy 215 = .ok (.laload, 1) := by decide +kernel
theorem dX13_findWhy_216 : decode cX13_findWhy 216 = .ok (.l2i, 1) := by decide +kernel
theorem dX13_findWhy_217 : decode cX13_findWhy 217 = .ok (.iadd, 1) := by decide +kernel
theorem dX13_findWhy_218 : decode cX13_findWhy 218 = .ok (.invokevirtual 1291, 3) := by decide +kernel
theorem dX13_findWhy_22 : decode cX13_findWhy 22 = .ok (.aload_n 0, 1) := by decide +kernel
theorem dX13_findWhy_221 : decode cX13_findWhy 221 = .ok (.iload 4, 2) := by decide +kernel
theorem dX13_findWhy_223 : decode cX13_findWhy 223 = .ok (.iconst 2, 1) := by decide +kernel
theorem dX13_findWhy_224 : decode cX13_findWhy 224 = .ok (.iadd, 1) := by decide +kernel
theorem dX13_findWhy_225 : decode cX13_findWhy 225 = .ok (.istore 4, 2) := by decide +kernel
theorem dX13_findWhy_227 : decode cX13_findWhy 227 = .ok (.aload_n 0, 1) := by decide +kernel
theorem dX13_findWhy_228 : decode cX13_findWhy 228 = .ok (.aload_n 0, 1) := by decide +kernel
theorem dX13_findWhy_229 : decode cX13_findWhy 229 = .ok (.getfield 39, 3) := by decide +kernel
theorem dX13_findWhy_23 : decode cX13_findWhy 23 = .ok (.getfield 26, 3) := by decide +kernel
theorem dX13_findWhy_232 : decode cX13_findWhy 232 = .ok (.iload_n 3, 1) := by decide +kernel
theorem dX13_findWhy_233 : decode cX13_findWhy 233 = .ok (.iaload, 1) := by decide +kernel
theorem dX13_findWhy_234 : decode cX13_findWhy 234 = .ok (.invokevirtual 1288, 3) := by decide +kernel
theorem dX13_findWhy_237 : decode cX13_findWhy 237 = .ok (.istore_n 3, 1) := by decide +kernel
theorem dX13_findWhy_238 : decode cX13_findWhy 238 = .ok (.iconst 1, 1) := by decide +kernel
theorem dX13_findWhy_239 : decode cX13_findWhy 239 = .ok (.istore 5, 2) := by decide +kernel
theorem dX13_findWhy_241 : decode cX13_findWhy 241 = .ok (.goto 122, 3) := by decide +kernel
theorem dX13_findWhy_244 : decode cX13_findWhy 244 = .ok (.iload 6, 2) := by decide +kernel
theorem dX13_findWhy_246 : decode cX13_findWhy 246 = .ok (.bipush 31, 2) := by decide +kernel
theorem dX13_findWhy_248 : decode cX13_findWhy 248 = .ok (.if_icmp .ne 115, 3) := by decide +kernel
theorem dX13_findWhy_251 : decode cX13_findWhy 251 = .ok (.iload 7, 2) := by decide +kernel
theorem dX13_findWhy_253 : decode cX13_findWhy 253 = .ok (.bipush 8, 2) := by decide +kernel
theorem dX13_findWhy_255 : decode cX13_findWhy 255 = .ok (.if_icmp .ne 108, 3) := by decide +kernel
theorem dX13_findWhy_258 : decode cX13_findWhy 258 = .ok (.aload_n 0, 1) := by decide +kernel
theorem dX13_findWhy_259 : decode cX13_findWhy 259 = .ok (.iload_n 3, 1) := by decide +kernel
theorem dX13_findWhy_26 : decode cX13_findWhy 26 = .ok (.iload_n 3, 1) := by decide +kernel
theorem dX13_findWhy_260 : decode cX13_findWhy 260 = .ok (.invokevirtual 1297, 3) := by decide +kernel
theorem dX13_findWhy_263 : decode cX13_findWhy 263 = .ok (.ifCond .eq 100, 3) := by decide +kernel
theorem dX13_findWhy_266 : decode cX13_findWhy 266 = .ok (.aload_n 0, 1) := by decide +kernel
theorem dX13_findWhy_267 : decode cX13_findWhy 267 = .ok (.iload_n 3, 1) := by decide +kernel
theorem dX13_findWhy_268 : decode cX13_findWhy 268 = .ok (.invokevirtual 830, 3) := by decide +kernel
theorem dX13_findWhy_27 : decode cX13_findWhy 27 = .ok (.iaload, 1) := by decide +kernel
theorem dX13_findWhy_271 : decode cX13_findWhy 271 = .ok (.aload_n 0, 1) := by decide +kernel
theorem dX13_findWhy_272 : decode cX13_findWhy 272 = .ok (.getfield 182, 3) := by decide +kernel
theorem dX13_findWhy_275 : decode cX13_findWhy 275 = .ok (.iload 4, 2) := by decide +kernel
theorem dX13_findWhy_277 : decode cX13_findWhy 277 = .ok (.iconst 1, 1) := by decide +kernel
theorem dX13_findWhy_278 : decode cX13_findWhy 278 = .ok (.iadd, 1) := by decide +kernel
theorem dX13_findWhy_279 : decode cX13_findWhy 279 = .ok (.laload, 1) := by decide +kernel
theorem dX13_findWhy_28 : decode cX13_findWhy 28 = .ok (.istore 6, 2) := by decide +kernel
theorem dX13_findWhy_280 : decode cX13_findWhy 280 = .ok (.l2i, 1) := by decide +kernel
theorem dX13_findWhy_281 : decode cX13_findWhy 281 = .ok (.if_icmp .ne 82, 3) := by decide +kernel
theorem dX13_findWhy_284 : decode cX13_findWhy 284 = .ok (.iconst 0, 1) := by decide +kernel
theorem dX13_findWhy_285 : decode cX13_findWhy 285 = .ok (.istore 8, 2) := by decide +kernel
theorem dX13_findWhy_287 : decode cX13_findWhy 287 = .ok (.aload_n 0, 1) := by decide +kernel
theorem dX13_findWhy_288 : decode cX13_findWhy 288 = .ok (.getfield 39, 3) := by decide +kernel
theorem dX13_findWhy_291 : decode cX13_findWhy 291 = .ok (.iload_n 3, 1) := by decide +kernel
theorem dX13_findWhy_292 : decode cX13_findWhy 292 = .ok (.iaload, 1) := by decide +kernel
theorem dX13_findWhy_293 : decode cX13_findWhy 293 = .ok (.istore 9, 2) := by decide +kernel
theorem dX13_findWhy_295 : decode cX13_findWhy 295 = .ok (.iload 9, 2) := by decide +kernel
theorem dX13_findWhy_297 : decode cX13_findWhy 297 = .ok (.ifCond .lt 35, 3) := by decide +kernel
theorem dX13_findWhy_30 : decode cX13_findWhy 30 = .ok (.aload_n 0, 1) := by decide +kernel
theorem dX13_findWhy_300 : decode cX13_findWhy 300 = .ok (.aload_n 0, 1) := by decide +kernel
theorem dX13_findWhy_301 : decode cX13_findWhy 301 = .ok (.iload 9, 2) := by decide +kernel
theorem dX13_findWhy_303 : decode cX13_findWhy 303 = .ok (.aload_n 0, 1) := by decide +kernel
theorem dX13_findWhy_304 : decode cX13_findWhy 304 = .ok (.iload 4, 2) := by decide +kernel
theorem dX13_findWhy_306 : decode cX13_findWhy 306 = .ok (.iload 8, 2) := by decide +kernel
theorem dX13_findWhy_308 : decode cX13_findWhy 308 = .ok (.invokevirtual 855, 3) := by decide +kernel
theorem dX13_findWhy_31 : decode cX13_findWhy 31 = .ok (.getfield 182, 3) := by decide +kernel
theorem dX13_findWhy_311 : decode cX13_findWhy 311 = .ok (.invokestatic 1233, 3) := by decide +kernel
theorem dX13_findWhy_314 : decode cX13_findWhy 314 = .ok (.ifCond .eq 18, 3) := by decide +kernel
theorem dX13_findWhy_317 : decode cX13_findWhy 317 = .ok (.aload_n 0, 1) := by decide +kernel
theorem dX13_findWhy_318 : decode cX13_findWhy 318 = .ok (.getfield 42, 3) := by decide +kernel
theorem dX13_findWhy_321 : decode cX13_findWhy 321 = .ok (.iload 9, 2) := by decide +kernel
theorem dX13_findWhy_323 : decode cX13_findWhy 323 = .ok (.iaload, 1) := by decide +kernel
theorem dX13_findWhy_324 : decode cX13_findWhy 324 = .ok (.istore 9, 2) := by decide +kernel
theorem dX13_findWhy_326 : decode cX13_findWhy 326 = .ok (.iinc 8 1, 3) := by decide +kernel
theorem dX13_findWhy_329 : decode cX13_findWhy 329 = .ok (.goto (-34), 3) := by decide +kernel
theorem dX13_findWhy_332 : decode cX13_findWhy 332 = .ok (.iload 9, 2) := by decide +kernel
theorem dX13_findWhy_334 : decode cX13_findWhy 334 = .ok (.ifCond .lt 29, 3) := by decide +kernel
theorem dX13_findWhy_337 : decode cX13_findWhy 337 = .ok (.aload_n 0, 1) := by decide +kernel
theorem dX13_findWhy_338 : decode cX13_findWhy 338 = .ok (.iload 8, 2) := by decide +kernel
theorem dX13_findWhy_34 : decode cX13_findWhy 34 = .ok (.iload 4, 2) := by decide +kernel
theorem dX13_findWhy_340 : decode cX13_findWhy 340 = .ok (.invokevirtual 1291, 3) := by decide +kernel
theorem dX13_findWhy_343 : decode cX13_findWhy 343 = .ok (.aload_n 0, 1) := by decide +kernel
theorem dX13_findWhy_344 : decode cX13_findWhy 344 = .ok (.iload 4, 2) := by decide +kernel
theorem dX13_findWhy_346 : decode cX13_findWhy 346 = .ok (.iload 8, 2) := by decide +kernel
theorem dX13_findWhy_348 : decode cX13_findWhy 348 = .ok (.invokevirtual 855, 3) := by decide +kernel
theorem dX13_findWhy_351 : decode cX13_findWhy 351 = .ok (.istore 4, 2) := by decide +kernel
theorem dX13_findWhy_353 : decode cX13_findWhy 353 = .ok (.aload_n 0, 1) := by decide +kernel
theorem dX13_findWhy_354 : decode cX13_findWhy 354 = .ok (.iload 9, 2) := by decide +kernel
theorem dX13_findWhy_356 : decode cX13_findWhy 356 = .ok (.invokevirtual 1288, 3) := by decide +kernel
theorem dX13_findWhy_359 : decode cX13_findWhy 359 = .ok (.istore_n 3, 1) := by decide +kernel
theorem dX13_findWhy_36 : decode cX13_findWhy 36 = .ok (.laload, 1) := by decide +kernel
theorem dX13_findWhy_360 : decode cX13_findWhy 360 = .ok (.iconst 1, 1) := by decide +kernel
theorem dX13_findWhy_361 : decode cX13_findWhy 361 = .ok (.istore 5, 2) := by decide +kernel
theorem dX13_findWhy_363 : decode cX13_findWhy 363 = .ok (.goto (-351), 3) := by decide +kernel
theorem dX13_findWhy_366 : decode cX13_findWhy 366 = .ok (.return_, 1) := by decide +kernel
theorem dX13_findWhy_37 : decode cX13_findWhy 37 = .ok (.l2i, 1) := by decide +kernel
theorem dX13_findWhy_38 : decode cX13_findWhy 38 = .ok (.istore 7, 2) := by decide +kernel
theorem dX13_findWhy_40 : decode cX13_findWhy 40 = .ok (.iconst 0, 1) := by decide +kernel
theorem dX13_findWhy_41 : decode cX13_findWhy 41 = .ok (.istore 5, 2) := by decide +kernel
theorem dX13_findWhy_43 : decode cX13_findWhy 43 = .ok (.iload 6, 2) := by decide +kernel
theorem dX13_findWhy_45 : decode cX13_findWhy 45 = .ok (.bipush 29, 2) := by decide +kernel
theorem dX13_findWhy_47 : decode cX13_findWhy 47 = .ok (.if_icmp .ne 126, 3) := by decide +kernel
theorem dX13_findWhy_5 : decode cX13_findWhy 5 = .ok (.istore_n 3, 1) := by decide +kernel
theorem dX13_findWhy_50 : decode cX13_findWhy 50 = .ok (.iload 7, 2) := by decide +kernel
theorem dX13_findWhy_52 : decode cX13_findWhy 52 = .ok (.bipush 6, 2) := by decide +kernel
theorem dX13_findWhy_54 : decode cX13_findWhy 54 = .ok (.if_icmp .ne 119, 3) := by decide +kernel
theorem dX13_findWhy_57 : decode cX13_findWhy 57 = .ok (.aload_n 0, 1) := by decide +kernel
theorem dX13_findWhy_58 : decode cX13_findWhy 58 = .ok (.getfield 39, 3) := by decide +kernel
theorem dX13_findWhy_6 : decode cX13_findWhy 6 = .ok (.iload_n 2, 1) := by decide +kernel
theorem dX13_findWhy_61 : decode cX13_findWhy 61 = .ok (.iload_n 3, 1) := by decide +kernel
theorem dX13_findWhy_62 : decode cX13_findWhy 62 = .ok (.iaload, 1) := by decide +kernel
theorem dX13_findWhy_63 : decode cX13_findWhy 63 = .ok (.istore 8, 2) := by decide +kernel
theorem dX13_findWhy_65 : decode cX13_findWhy 65 = .ok (.iload 8, 2) := by decide +kernel
theorem dX13_findWhy_67 : decode cX13_findWhy 67 = .ok (.ifCond .lt 42, 3) := by decide +kernel
theorem dX13_findWhy_7 : decode cX13_findWhy 7 = .ok (.istore 4, 2) := by decide +kernel
theorem dX13_findWhy_70 : decode cX13_findWhy 70 = .ok (.aload_n 0, 1) := by decide +kernel
theorem dX13_findWhy_71 : decode cX13_findWhy 71 = .ok (.aload_n 0, 1) := by decide +kernel
theorem dX13_findWhy_72 : decode cX13_findWhy 72 = .ok (.getfield 39, 3) := by decide +kernel
theorem dX13_findWhy_75 : decode cX13_findWhy 75 = .ok (.iload 8, 2) := by decide +kernel
theorem dX13_findWhy_77 : decode cX13_findWhy 77 = .ok (.iaload, 1) := by decide +kernel
theorem dX13_findWhy_78 : decode cX13_findWhy 78 = .ok (.aload_n 0, 1) := by decide +kernel
theorem dX13_findWhy_79 : decode cX13_findWhy 79 = .ok (.iload 4, 2) := by decide +kernel
theorem dX13_findWhy_81 : decode cX13_findWhy 81 = .ok (.aload_n 0, 1) := by decide +kernel
theorem dX13_findWhy_82 : decode cX13_findWhy 82 = .ok (.getfield 32, 3) := by decide +kernel
theorem dX13_findWhy_85 : decode cX13_findWhy 85 = .ok (.iload 8, 2) := by decide +kernel
theorem dX13_findWhy_87 : decode cX13_findWhy 87 = .ok (.laload, 1) := by decide +kernel
theorem dX13_findWhy_88 : decode cX13_findWhy 88 = .ok (.invokevirtual 966, 3) := by decide +kernel
theorem dX13_findWhy_9 : decode cX13_findWhy 9 = .ok (.iconst 1, 1) := by decide +kernel
theorem dX13_findWhy_91 : decode cX13_findWhy 91 = .ok (.invokestatic 1233, 3) := by decide +kernel
theorem dX13_findWhy_94 : decode cX13_findWhy 94 = .ok (.ifCond .eq 15, 3) := by decide +kernel
theorem dX13_findWhy_97 : decode cX13_findWhy 97 = .ok (.aload_n 0, 1) := by decide +kernel
theorem dX13_findWhy_98 : decode cX13_findWhy 98 = .ok (.getfield 42, 3) := by decide +kernel
noncomputable def k_X13_findWhy_170 (l3 : Int32) (l4 : Int32) (l5 : Int32) (s : t_S) : Option ((Int32 × Int32 × Int32 × t_S) ⊕ (t_S)) :=
 some (.inl (l3, l4, l5, s))
set_option maxRecDepth 4000 in
set_option maxHeartbeats 1000000 in
theorem B_X13_findWhy_170 {D : va_G} {cy : Nat → ClassId} {ad : Nat → Nat} {bs : Nat} {X : State → Heap → Prop} (l3 : Int32) (l4 : Int32) (l5 : Int32) (s : t_S) (Q : (Int32 × Int32 × Int32 × t_S) ⊕ (t_S) → Prop) (Hb12 : ∀ (y0 : Int32) (y1 : Int32) (y2 : Int32) (y3 : t_S), Q (.inl (y0, y1, y2, y3)) → mj_G D cy ad bs X cX13_findWhy 10 yX13_findWhy.cls none yX13_findWhy.name 783 0 0 1065 (t_P (fun v s' => v = none ∧ Q (.inr (s')))) 12 [(0, .ref 950), (3, .int (y0)), (4, .int (y1)), (5, .int (y2))] [] (t_m y3) 1065 0 0) (hk : t_hk (k_X13_findWhy_170 l3 l4 l5 s) Q) : mj_G D cy ad bs X cX13_findWhy 10 yX13_findWhy.cls none yX13_findWhy.name 783 0 0 1065 (t_P (fun v s' => v = none ∧ Q (.inr (s')))) 170 [(0, .ref 950), (3, .int l3), (4, .int l4), (5, .int l5)] [] (t_m s) 1065 0 0 := by
  refine mj_goto 363 dX13_findWhy_170 (by decide) ?_
  refine mj_goto 12 dX13_findWhy_363 (by decide) ?_
  exact t_somK hk (fun hf => Hb12 l3 l4 l5 s hf)
noncomputable def k_X13_findWhy_109 (l3 : Int32) (l4 : Int32) (l5 : Int32) (l8 : Int32) (s : t_S) : Option ((Int32 × Int32 × Int32 × t_S) ⊕ (t_S)) :=
 if l8 < (0 : Int32) then ((f_X13_extraField l3 l4 s).bind (fun r1 =>
 k_X13_findWhy_170 l3 l4 l5 r1))
 else (if t_ix l8 13000 = true then
  (f_X13_step ((1000 : Int32) + ((s.2.1 957 (l8.toNatClampNeg)).toInt32)) s).bind (fun r3 =>
 (f_X13_fieldOf l4 (r3.2.1 957 (l8.toNatClampNeg)) r3).bind (fun r4 =>
 (f_X13_toneOf (r3.1 959 (l8.toNatClampNeg)) r3).bind (fun r5 =>
 k_X13_findWhy_170 r5 r4 1 r3)))
else none)
set_option maxRecDepth 4000 in
set_option maxHeartbeats 1000000 in
theorem B_X13_findWhy_109 {D : va_G} {cy : Nat → ClassId} {ad : Nat → Nat} {bs : Nat} {X : State → Heap → Prop} (l3 : Int32) (l4 : Int32) (l5 : Int32) (l8 : Int32) (s : t_S) (Q : (Int32 × Int32 × Int32 × t_S) ⊕ (t_S) → Prop) (Hb12 : ∀ (y0 : Int32) (y1 : Int32) (y2 : Int32) (y3 : t_S), Q (.inl (y0, y1, y2, y3)) → mj_G D cy ad bs X cX13_findWhy 10 yX13_findWhy.cls none yX13_findWhy.name 783 0 0 1065 (t_P (fun v s' => v = none ∧ Q (.inr (s')))) 12 [(0, .ref 950), (3, .int (y0)), (4, .int (y1)), (5, .int (y2))] [] (t_m y3) 1065 0 0) (hk : t_hk (k_X13_findWhy_109 l3 l4 l5 l8 s) Q) : mj_G D cy ad bs X cX13_findWhy 10 yX13_findWhy.cls none yX13_findWhy.name 783 0 0 1065 (t_P (fun v s' => v = none ∧ Q (.inr (s')))) 109 [(0, .ref 950), (3, .int l3), (4, .int l4), (5, .int l5), (8, .int l8)] [] (t_m s) 1065 0 0 := by
  refine mj_iload dX13_findWhy_109 4 rfl ?_
  refine mj_if_lt 163 dX13_findWhy_111 (by decide) (fun z => t_posK hk z (fun hk => ?_)) (fun z => t_negK hk z (fun hk => ?_))
  · refine mj_aload_n dX13_findWhy_163 0 rfl ?_
    refine mj_iload_n dX13_findWhy_164 1 rfl ?_
    refine mj_iload dX13_findWhy_165 2 rfl ?_
    refine t_bndK hk (fun r1 er1 hk => ?_)
    refine t_callVvE dX13_findWhy_167 M_X13_extraField (C_X13_extraField _ _ _ _ er1) ML_X13_1294 IM_X13_extraField SE_X13_extraField qc_950 rfl (As := [.int l3, .int l4]) rfl rfl (Nat.le_of_ble_eq_true rfl) (Nat.le_of_ble_eq_true rfl) (Nat.le_of_ble_eq_true rfl) (Nat.le_of_ble_eq_true rfl) ?_
    refine mj_sublv [(0, .ref 950), (3, .int l3), (4, .int l4), (5, .int l5)] [0, 1, 2, 3] rfl ?_
    exact B_X13_findWhy_170 _ _ _ _ _ (fun y0 y1 y2 y3 hx => Hb12 y0 y1 y2 y3 hx) hk
  · refine mj_aload_n dX13_findWhy_114 0 rfl ?_
    refine mj_sipush (v := 1000) dX13_findWhy_115 (by decide) ?_
    refine mj_aload_n dX13_findWhy_118 0 rfl ?_
    refine t_getR 957 dX13_findWhy_119 F_X13_32 qr_950_19 ?_
    refine mj_iload dX13_findWhy_122 4 rfl ?_
    refine t_chkK hk (fun c1 hk => ?_)
    refine t_lald dX13_findWhy_124 qa_957 (t_ixv c1) ?_
    refine mj_l2i (v := (s.2.1 957 (l8.toNatClampNeg)).toInt32) dX13_findWhy_125 rfl ?_
    refine mj_iadd dX13_findWhy_126 ?_
    refine t_bndK hk (fun r3 er3 hk => ?_)
    refine t_callVvE dX13_findWhy_127 M_X13_step (C_X13_step _ _ _ er3) ML_X13_1291 IM_X13_step SE_X13_step qc_950 rfl (As := [.int ((1000 : Int32) + ((s.2.1 957 (l8.toNatClampNeg)).toInt32))]) rfl rfl (Nat.le_of_ble_eq_true rfl) (Nat.le_of_ble_eq_true rfl) (Nat.le_of_ble_eq_true rfl) (Nat.le_of_ble_eq_true rfl) ?_
    refine mj_aload_n dX13_findWhy_130 0 rfl ?_
    refine mj_iload dX13_findWhy_131 2 rfl ?_
    refine mj_aload_n dX13_findWhy_133 0 rfl ?_
    refine t_getR 957 dX13_findWhy_134 F_X13_32 qr_950_19 ?_
    refine mj_iload dX13_findWhy_137 4 rfl ?_
    refine t_lald dX13_findWhy_139 qa_957 (t_ixv c1) ?_
    refine t_bndK hk (fun r4 er4 hk => ?_)
    refine t_callViP dX13_findWhy_140 M_X13_fieldOf (C_X13_fieldOf _ _ _ _ er4) ML_X13_966 IM_X13_fieldOf SE_X13_fieldOf qc_950 rfl (As := [.int l4, .long (r3.2.1 957 (l8.toNatClampNeg))]) rfl rfl (Nat.le_of_ble_eq_true rfl) (Nat.le_of_ble_eq_true rfl) (Nat.le_of_ble_eq_true rfl) (Nat.le_of_ble_eq_true rfl) ?_
    refine mj_istore (lv2 := [(4, .int r4), (0, .ref 950), (3, .int l3), (5, .int l5), (8, .int l8)]) dX13_findWhy_143 (by decide) rfl ?_
    refine mj_aload_n dX13_findWhy_145 1 rfl ?_
    refine mj_aload_n dX13_findWhy_146 1 rfl ?_
    refine t_getR 959 dX13_findWhy_147 F_X13_39 qr_950_21 ?_
    refine mj_iload dX13_findWhy_150 4 rfl ?_
    refine t_iald dX13_findWhy_152 qa_959 (t_ixv c1) ?_
    refine t_bndK hk (fun r5 er5 hk => ?_)
    refine t_callViP dX13_findWhy_153 M_X13_toneOf (C_X13_toneOf _ _ _ er5) ML_X13_1288 IM_X13_toneOf SE_X13_toneOf qc_950 rfl (As := [.int (r3.1 959 (l8.toNatClampNeg))]) rfl rfl (Nat.le_of_ble_eq_true rfl) (Nat.le_of_ble_eq_true rfl) (Nat.le_of_ble_eq_true rfl) (Nat.le_of_ble_eq_true rfl) ?_
    refine mj_istore_n 3 (lv2 := [(3, .int r5), (4, .int r4), (0, .ref 950), (5, .int l5), (8, .int l8)]) dX13_findWhy_156 rfl (by decide) rfl ?_
    refine mj_iconst (v := 1) dX13_findWhy_157 (by decide) ?_
    refine mj_istore (lv2 := [(5, .int 1), (3, .int r5), (4, .int r4), (0, .ref 950), (8, .int l8)]) dX13_findWhy_158 (by decide) rfl ?_
    refine mj_goto 170 dX13_findWhy_160 (by decide) ?_
    refine mj_sublv [(0, .ref 950), (3, .int r5), (4, .int r4), (5, .int 1)] [3, 1, 2, 0] rfl ?_
    exact B_X13_findWhy_170 _ _ _ _ _ (fun y0 y1 y2 y3 hx => Hb12 y0 y1 y2 y3 hx) hk
noncomputable def k_X13_findWhy_65 (l3 : Int32) (l4 : Int32) (l5 : Int32) (l8 : Int32) (s : t_S) : Option ((Int32 × Int32 × Int32 × Int32 × t_S) ⊕ ((Int32 × Int32 × Int32 × t_S) ⊕ (t_S))) :=
 if l8 < (0 : Int32) then ((k_X13_findWhy_109 l3 l4 l5 l8 s).map Sum.inr)
 else (if t_ix l8 13000 = true then
  (f_X13_fieldOf l4 (s.2.1 957 (l8.toNatClampNeg)) s).bind (fun r2 =>
 (f_X13_match (s.1 959 (l8.toNatClampNeg)) r2 s).bind (fun r3 =>
 if r3.1 = (0 : Int32) then ((k_X13_findWhy_109 l3 l4 l5 l8 r3.2).map Sum.inr)
 else (some (.inl (l3, l4, l5, (r3.2.1 960 (l8.toNatClampNeg)), r3.2)))))
else none)
set_option maxRecDepth 4000 in
set_option maxHeartbeats 1000000 in
theorem B_X13_findWhy_65 {D : va_G} {cy : Nat → ClassId} {ad : Nat → Nat} {bs : Nat} {X : State → Heap → Prop} (l3 : Int32) (l4 : Int32) (l5 : Int32) (l8 : Int32) (s : t_S) (Q : (Int32 × Int32 × Int32 × Int32 × t_S) ⊕ ((Int32 × Int32 × Int32 × t_S) ⊕ (t_S)) → Prop) (Hb12 : ∀ (y0 : Int32) (y1 : Int32) (y2 : Int32) (y3 : t_S), Q (.inr (.inl (y0, y1, y2, y3))) → mj_G D cy ad bs X cX13_findWhy 10 yX13_findWhy.cls none yX13_findWhy.name 783 0 0 1065 (t_P (fun v s' => v = none ∧ Q (.inr (.inr (s'))))) 12 [(0, .ref 950), (3, .int (y0)), (4, .int (y1)), (5, .int (y2))] [] (t_m y3) 1065 0 0) (Hb65 : ∀ (y0 : Int32) (y1 : Int32) (y2 : Int32) (y3 : Int32) (y4 : t_S), Q (.inl (y0, y1, y2, y3, y4)) → mj_G D cy ad bs X cX13_findWhy 10 yX13_findWhy.cls none yX13_findWhy.name 783 0 0 1065 (t_P (fun v s' => v = none ∧ Q (.inr (.inr (s'))))) 65 [(0, .ref 950), (3, .int (y0)), (4, .int (y1)), (5, .int (y2)), (8, .int (y3))] [] (t_m y4) 1065 0 0) (hk : t_hk (k_X13_findWhy_65 l3 l4 l5 l8 s) Q) : mj_G D cy ad bs X cX13_findWhy 10 yX13_findWhy.cls none yX13_findWhy.name 783 0 0 1065 (t_P (fun v s' => v = none ∧ Q (.inr (.inr (s'))))) 65 [(0, .ref 950), (3, .int l3), (4, .int l4), (5, .int l5), (8, .int l8)] [] (t_m s) 1065 0 0 := by
  refine mj_iload dX13_findWhy_65 4 rfl ?_
  refine mj_if_lt 109 dX13_findWhy_67 (by decide) (fun z => t_posK hk z (fun hk => ?_)) (fun z => t_negK hk z (fun hk => ?_))
  · refine t_mapK hk (fun hk => ?_)
    exact B_X13_findWhy_109 _ _ _ _ _ _ (fun y0 y1 y2 y3 hx => Hb12 y0 y1 y2 y3 hx) hk
  · refine mj_aload_n dX13_findWhy_70 0 rfl ?_
    refine mj_aload_n dX13_findWhy_71 0 rfl ?_
    refine t_getR 959 dX13_findWhy_72 F_X13_39 qr_950_21 ?_
    refine mj_iload dX13_findWhy_75 4 rfl ?_
    refine t_chkK hk (fun c0 hk => ?_)
    refine t_iald dX13_findWhy_77 qa_959 (t_ixv c0) ?_
    refine mj_aload_n dX13_findWhy_78 0 rfl ?_
    refine mj_iload dX13_findWhy_79 2 rfl ?_
    refine mj_aload_n dX13_findWhy_81 0 rfl ?_
    refine t_getR 957 dX13_findWhy_82 F_X13_32 qr_950_19 ?_
    refine mj_iload dX13_findWhy_85 4 rfl ?_
    refine t_lald dX13_findWhy_87 qa_957 (t_ixv c0) ?_
    refine t_bndK hk (fun r2 er2 hk => ?_)
    refine t_callViP dX13_findWhy_88 M_X13_fieldOf (C_X13_fieldOf _ _ _ _ er2) ML_X13_966 IM_X13_fieldOf SE_X13_fieldOf qc_950 rfl (As := [.int l4, .long (s.2.1 957 (l8.toNatClampNeg))]) rfl rfl (Nat.le_of_ble_eq_true rfl) (Nat.le_of_ble_eq_true rfl) (Nat.le_of_ble_eq_true rfl) (Nat.le_of_ble_eq_true rfl) ?_
    refine t_bndK hk (fun r3 er3 hk => ?_)
    refine t_callSiE dX13_findWhy_91 M_X13_match (C_X13_match _ _ _ _ er3) ML_X13_1233 SM_X13_match (As := [.ref 950, .int (s.1 959 (l8.toNatClampNeg)), .int r2]) rfl rfl (Nat.le_of_ble_eq_true rfl) (Nat.le_of_ble_eq_true rfl) (Nat.le_of_ble_eq_true rfl) (Nat.le_of_ble_eq_true rfl) ?_
    refine mj_if_eq 109 dX13_findWhy_94 (by decide) (fun z => t_posK hk z (fun hk => ?_)) (fun z => t_negK hk z (fun hk => ?_))
    · refine t_mapK hk (fun hk => ?_)
      exact B_X13_findWhy_109 _ _ _ _ _ _ (fun y0 y1 y2 y3 hx => Hb12 y0 y1 y2 y3 hx) hk
    · refine mj_aload_n dX13_findWhy_97 0 rfl ?_
      refine t_getR 960 dX13_findWhy_98 F_X13_42 qr_950_22 ?_
      refine mj_iload dX13_findWhy_101 4 rfl ?_
      refine t_iald dX13_findWhy_103 qa_960 (t_ixv c0) ?_
      refine mj_istore (lv2 := [(8, .int (r3.2.1 960 (l8.toNatClampNeg))), (0, .ref 950), (3, .int l3), (4, .int l4), (5, .int l5)]) dX13_findWhy_104 (by decide) rfl ?_
      refine mj_goto 65 dX13_findWhy_106 (by decide) ?_
      refine mj_sublv [(0, .ref 950), (3, .int l3), (4, .int l4), (5, .int l5), (8, .int (r3.2.1 960 (l8.toNatClampNeg)))] [1, 2, 3, 4, 0] rfl ?_
      exact t_somK hk (fun hf => Hb65 l3 l4 l5 (r3.2.1 960 (l8.toNatClampNeg)) r3.2 hf)
noncomputable def b_X13_findWhy_65 (x : Int32 × Int32 × Int32 × Int32 × t_S) : Option ((Int32 × Int32 × Int32 × Int32 × t_S) ⊕ ((Int32 × Int32 × Int32 × t_S) ⊕ (t_S))) := k_X13_findWhy_65 x.1 x.2.1 x.2.2.1 x.2.2.2.1 x.2.2.2.2
set_option maxRecDepth 4000 in
set_option maxHeartbeats 1000000 in
theorem LH_X13_findWhy_65 {D : va_G} {cy : Nat → ClassId} {ad : Nat → Nat} {bs : Nat} {X : State → Heap → Prop} : ∀ (n : Nat) (y0 : Int32) (y1 : Int32) (y2 : Int32) (y3 : Int32) (y4 : t_S) (Q : (Int32 × Int32 × Int32 × t_S) ⊕ (t_S) → Prop) (Hb12 : ∀ (y0 : Int32) (y1 : Int32) (y2 : Int32) (y3 : t_S), Q (.inl (y0, y1, y2, y3)) → mj_G D cy ad bs X cX13_findWhy 10 yX13_findWhy.cls none yX13_findWhy.name 783 0 0 1065 (t_P (fun v s' => v = none ∧ Q (.inr (s')))) 12 [(0, .ref 950), (3, .int (y0)), (4, .int (y1)), (5, .int (y2))] [] (t_m y3) 1065 0 0) (hk : t_hk (t_loop (b_X13_findWhy_65) n (y0, y1, y2, y3, y4)) Q), mj_G D cy ad bs X cX13_findWhy 10 yX13_findWhy.cls none yX13_findWhy.name 783 0 0 1065 (t_P (fun v s' => v = none ∧ Q (.inr (s')))) 65 [(0, .ref 950), (3, .int (y0)), (4, .int (y1)), (5, .int (y2)), (8, .int (y3))] [] (t_m y4) 1065 0 0 := by
  intro n
  induction n with
  | zero => intro y0 y1 y2 y3 y4 Q Hb12 hk; obtain ⟨r, hr, _⟩ := hk; cases hr
  | succ n ih =>
    intro y0 y1 y2 y3 y4 Q Hb12 hk
    exact B_X13_findWhy_65 y0 y1 y2 y3 y4 (fun y => t_lq (b_X13_findWhy_65) n Q y) (fun y0' y1' y2' y3' hy => Hb12 y0' y1' y2' y3' hy) (fun y0' y1' y2' y3' y4' hy => ih y0' y1' y2' y3' y4' Q Hb12 hy) (t_lp (b := b_X13_findWhy_65) (n := n) (x := (y0, y1, y2, y3, y4)) hk)
noncomputable def k_X13_findWhy_332 (l3 : Int32) (l4 : Int32) (l5 : Int32) (l8 : Int32) (l9 : Int32) (s : t_S) : Option ((Int32 × Int32 × Int32 × t_S) ⊕ (t_S)) :=
 if l9 < (0 : Int32) then (some (.inl (l3, l4, l5, s)))
 else ((f_X13_step l8 s).bind (fun r1 =>
 (f_X13_partOf l4 l8 r1).bind (fun r2 =>
 (f_X13_toneOf l9 r1).bind (fun r3 =>
 some (.inl (r3, r2, 1, r1))))))
set_option maxRecDepth 4000 in
set_option maxHeartbeats 1000000 in
theorem B_X13_findWhy_332 {D : va_G} {cy : Nat → ClassId} {ad : Nat → Nat} {bs : Nat} {X : State → Heap → Prop} (l3 : Int32) (l4 : Int32) (l5 : Int32) (l8 : Int32) (l9 : Int32) (s : t_S) (Q : (Int32 × Int32 × Int32 × t_S) ⊕ (t_S) → Prop) (Hb12 : ∀ (y0 : Int32) (y1 : Int32) (y2 : Int32) (y3 : t_S), Q (.inl (y0, y1, y2, y3)) → mj_G D cy ad bs X cX13_findWhy 10 yX13_findWhy.cls none yX13_findWhy.name 783 0 0 1065 (t_P (fun v s' => v = none ∧ Q (.inr (s')))) 12 [(0, .ref 950), (3, .int (y0)), (4, .int (y1)), (5, .int (y2))] [] (t_m y3) 1065 0 0) (hk : t_hk (k_X13_findWhy_332 l3 l4 l5 l8 l9 s) Q) : mj_G D cy ad bs X cX13_findWhy 10 yX13_findWhy.cls none yX13_findWhy.name 783 0 0 1065 (t_P (fun v s' => v = none ∧ Q (.inr (s')))) 332 [(0, .ref 950), (3, .int l3), (4, .int l4), (5, .int l5), (8, .int l8), (9, .int l9)] [] (t_m s) 1065 0 0 := by
  refine mj_iload dX13_findWhy_332 5 rfl ?_
  refine mj_if_lt 363 dX13_findWhy_334 (by decide) (fun z => t_posK hk z (fun hk => ?_)) (fun z => t_negK hk z (fun hk => ?_))
  · refine mj_goto 12 dX13_findWhy_363 (by decide) ?_
    refine mj_sublv [(0, .ref 950), (3, .int l3), (4, .int l4), (5, .int l5)] [0, 1, 2, 3] rfl ?_
    exact t_somK hk (fun hf => Hb12 l3 l4 l5 s hf)
  · refine mj_aload_n dX13_findWhy_337 0 rfl ?_
    refine mj_iload dX13_findWhy_338 4 rfl ?_
    refine t_bndK hk (fun r1 er1 hk => ?_)
    refine t_callVvE dX13_findWhy_340 M_X13_step (C_X13_step _ _ _ er1) ML_X13_1291 IM_X13_step SE_X13_step qc_950 rfl (As := [.int l8]) rfl rfl (Nat.le_of_ble_eq_true rfl) (Nat.le_of_ble_eq_true rfl) (Nat.le_of_ble_eq_true rfl) (Nat.le_of_ble_eq_true rfl) ?_
    refine mj_aload_n dX13_findWhy_343 0 rfl ?_
    refine mj_iload dX13_findWhy_344 2 rfl ?_
    refine mj_iload dX13_findWhy_346 4 rfl ?_
    refine t_bndK hk (fun r2 er2 hk => ?_)
    refine t_callViP dX13_findWhy_348 M_X13_partOf (C_X13_partOf _ _ _ _ er2) ML_X13_855 IM_X13_partOf SE_X13_partOf qc_950 rfl (As := [.int l4, .int l8]) rfl rfl (Nat.le_of_ble_eq_true rfl) (Nat.le_of_ble_eq_true rfl) (Nat.le_of_ble_eq_true rfl) (Nat.le_of_ble_eq_true rfl) ?_
    refine mj_istore (lv2 := [(4, .int r2), (0, .ref 950), (3, .int l3), (5, .int l5), (8, .int l8), (9, .int l9)]) dX13_findWhy_351 (by decide) rfl ?_
    refine mj_aload_n dX13_findWhy_353 1 rfl ?_
    refine mj_iload dX13_findWhy_354 5 rfl ?_
    refine t_bndK hk (fun r3 er3 hk => ?_)
    refine t_callViP dX13_findWhy_356 M_X13_toneOf (C_X13_toneOf _ _ _ er3) ML_X13_1288 IM_X13_toneOf SE_X13_toneOf qc_950 rfl (As := [.int l9]) rfl rfl (Nat.le_of_ble_eq_true rfl) (Nat.le_of_ble_eq_true rfl) (Nat.le_of_ble_eq_true rfl) (Nat.le_of_ble_eq_true rfl) ?_
    refine mj_istore_n 3 (lv2 := [(3, .int r3), (4, .int r2), (0, .ref 950), (5, .int l5), (8, .int l8), (9, .int l9)]) dX13_findWhy_359 rfl (by decide) rfl ?_
    refine mj_iconst (v := 1) dX13_findWhy_360 (by decide) ?_
    refine mj_istore (lv2 := [(5, .int 1), (3, .int r3), (4, .int r2), (0, .ref 950), (8, .int l8), (9, .int l9)]) dX13_findWhy_361 (by decide) rfl ?_
    refine mj_goto 12 dX13_findWhy_363 (by decide) ?_
    refine mj_sublv [(0, .ref 950), (3, .int r3), (4, .int r2), (5, .int 1)] [3, 1, 2, 0] rfl ?_
    exact t_somK hk (fun hf => Hb12 r3 r2 1 r1 hf)
noncomputable def k_X13_findWhy_295 (l3 : Int32) (l4 : Int32) (l5 : Int32) (l8 : Int32) (l9 : Int32) (s : t_S) : Option ((Int32 × Int32 × Int32 × Int32 × Int32 × t_S) ⊕ ((Int32 × Int32 × Int32 × t_S) ⊕ (t_S))) :=
 if l9 < (0 : Int32) then ((k_X13_findWhy_332 l3 l4 l5 l8 l9 s).map Sum.inr)
 else ((f_X13_partOf l4 l8 s).bind (fun r1 =>
 (f_X13_match l9 r1 s).bind (fun r2 =>
 if r2.1 = (0 : Int32) then ((k_X13_findWhy_332 l3 l4 l5 l8 l9 r2.2).map Sum.inr)
 else (if t_ix l9 13000 = true then
  some (.inl (l3, l4, l5, (l8 + 1), (r2.2.1 960 (l9.toNatClampNeg)), r2.2))
else none))))
set_option maxRecDepth 4000 in
set_option maxHeartbeats 1000000 in
theorem B_X13_findWhy_295 {D : va_G} {cy : Nat → ClassId} {ad : Nat → Nat} {bs : Nat} {X : State → Heap → Prop} (l3 : Int32) (l4 : Int32) (l5 : Int32) (l8 : Int32) (l9 : Int32) (s : t_S) (Q : (Int32 × Int32 × Int32 × Int32 × Int32 × t_S) ⊕ ((Int32 × Int32 × Int32 × t_S) ⊕ (t_S)) → Prop) (Hb12 : ∀ (y0 : Int32) (y1 : Int32) (y2 : Int32) (y3 : t_S), Q (.inr (.inl (y0, y1, y2, y3))) → mj_G D cy ad bs X cX13_findWhy 10 yX13_findWhy.cls none yX13_findWhy.name 783 0 0 1065 (t_P (fun v s' => v = none ∧ Q (.inr (.inr (s'))))) 12 [(0, .ref 950), (3, .int (y0)), (4, .int (y1)), (5, .int (y2))] [] (t_m y3) 1065 0 0) (Hb295 : ∀ (y0 : Int32) (y1 : Int32) (y2 : Int32) (y3 : Int32) (y4 : Int32) (y5 : t_S), Q (.inl (y0, y1, y2, y3, y4, y5)) → mj_G D cy ad bs X cX13_findWhy 10 yX13_findWhy.cls none yX13_findWhy.name 783 0 0 1065 (t_P (fun v s' => v = none ∧ Q (.inr (.inr (s'))))) 295 [(0, .ref 950), (3, .int (y0)), (4, .int (y1)), (5, .int (y2)), (8, .int (y3)), (9, .int (y4))] [] (t_m y5) 1065 0 0) (hk : t_hk (k_X13_findWhy_295 l3 l4 l5 l8 l9 s) Q) : mj_G D cy ad bs X cX13_findWhy 10 yX13_findWhy.cls none yX13_findWhy.name 783 0 0 1065 (t_P (fun v s' => v = none ∧ Q (.inr (.inr (s'))))) 295 [(0, .ref 950), (3, .int l3), (4, .int l4), (5, .int l5), (8, .int l8), (9, .int l9)] [] (t_m s) 1065 0 0 := by
  refine mj_iload dX13_findWhy_295 5 rfl ?_
  refine mj_if_lt 332 dX13_findWhy_297 (by decide) (fun z => t_posK hk z (fun hk => ?_)) (fun z => t_negK hk z (fun hk => ?_))
  · refine t_mapK hk (fun hk => ?_)
    exact B_X13_findWhy_332 _ _ _ _ _ _ _ (fun y0 y1 y2 y3 hx => Hb12 y0 y1 y2 y3 hx) hk
  · refine mj_aload_n dX13_findWhy_300 0 rfl ?_
    refine mj_iload dX13_findWhy_301 5 rfl ?_
    refine mj_aload_n dX13_findWhy_303 0 rfl ?_
    refine mj_iload dX13_findWhy_304 2 rfl ?_
    refine mj_iload dX13_findWhy_306 4 rfl ?_
    refine t_bndK hk (fun r1 er1 hk => ?_)
    refine t_callViP dX13_findWhy_308 M_X13_partOf (C_X13_partOf _ _ _ _ er1) ML_X13_855 IM_X13_partOf SE_X13_partOf qc_950 rfl (As := [.int l4, .int l8]) rfl rfl (Nat.le_of_ble_eq_true rfl) (Nat.le_of_ble_eq_true rfl) (Nat.le_of_ble_eq_true rfl) (Nat.le_of_ble_eq_true rfl) ?_
    refine t_bndK hk (fun r2 er2 hk => ?_)
    refine t_callSiE dX13_findWhy_311 M_X13_match (C_X13_match _ _ _ _ er2) ML_X13_1233 SM_X13_match (As := [.ref 950, .int l9, .int r1]) rfl rfl (Nat.le_of_ble_eq_true rfl) (Nat.le_of_ble_eq_true rfl) (Nat.le_of_ble_eq_true rfl) (Nat.le_of_ble_eq_true rfl) ?_
    refine mj_if_eq 332 dX13_findWhy_314 (by decide) (fun z => t_posK hk z (fun hk => ?_)) (fun z => t_negK hk z (fun hk => ?_))
    · refine t_mapK hk (fun hk => ?_)
      exact B_X13_findWhy_332 _ _ _ _ _ _ _ (fun y0 y1 y2 y3 hx => Hb12 y0 y1 y2 y3 hx) hk
    · refine mj_aload_n dX13_findWhy_317 0 rfl ?_
      refine t_getR 960 dX13_findWhy_318 F_X13_42 qr_950_22 ?_
      refine mj_iload dX13_findWhy_321 5 rfl ?_
      refine t_chkK hk (fun c2 hk => ?_)
      refine t_iald dX13_findWhy_323 qa_960 (t_ixv c2) ?_
      refine mj_istore (lv2 := [(9, .int (r2.2.1 960 (l9.toNatClampNeg))), (0, .ref 950), (3, .int l3), (4, .int l4), (5, .int l5), (8, .int l8)]) dX13_findWhy_324 (by decide) rfl ?_
      refine mj_iinc (k := 5) (v := (l8 + 1)) (lv2 := [(8, .int (l8 + 1)), (9, .int (r2.2.1 960 (l9.toNatClampNeg))), (0, .ref 950), (3, .int l3), (4, .int l4), (5, .int l5)]) dX13_findWhy_326 rfl rfl (by decide) rfl ?_
      refine mj_goto 295 dX13_findWhy_329 (by decide) ?_
      refine mj_sublv [(0, .ref 950), (3, .int l3), (4, .int l4), (5, .int l5), (8, .int (l8 + 1)), (9, .int (r2.2.1 960 (l9.toNatClampNeg)))] [2, 3, 4, 5, 0, 1] rfl ?_
      exact t_somK hk (fun hf => Hb295 l3 l4 l5 (l8 + 1) (r2.2.1 960 (l9.toNatClampNeg)) r2.2 hf)
noncomputable def b_X13_findWhy_295 (x : Int32 × Int32 × Int32 × Int32 × Int32 × t_S) : Option ((Int32 × Int32 × Int32 × Int32 × Int32 × t_S) ⊕ ((Int32 × Int32 × Int32 × t_S) ⊕ (t_S))) := k_X13_findWhy_295 x.1 x.2.1 x.2.2.1 x.2.2.2.1 x.2.2.2.2.1 x.2.2.2.2.2
set_option maxRecDepth 4000 in
set_option maxHeartbeats 1000000 in
theorem LH_X13_findWhy_295 {D : va_G} {cy : Nat → ClassId} {ad : Nat → Nat} {bs : Nat} {X : State → Heap → Prop} : ∀ (n : Nat) (y0 : Int32) (y1 : Int32) (y2 : Int32) (y3 : Int32) (y4 : Int32) (y5 : t_S) (Q : (Int32 × Int32 × Int32 × t_S) ⊕ (t_S) → Prop) (Hb12 : ∀ (y0 : Int32) (y1 : Int32) (y2 : Int32) (y3 : t_S), Q (.inl (y0, y1, y2, y3)) → mj_G D cy ad bs X cX13_findWhy 10 yX13_findWhy.cls none yX13_findWhy.name 783 0 0 1065 (t_P (fun v s' => v = none ∧ Q (.inr (s')))) 12 [(0, .ref 950), (3, .int (y0)), (4, .int (y1)), (5, .int (y2))] [] (t_m y3) 1065 0 0) (hk : t_hk (t_loop (b_X13_findWhy_295) n (y0, y1, y2, y3, y4, y5)) Q), mj_G D cy ad bs X cX13_findWhy 10 yX13_findWhy.cls none yX13_findWhy.name 783 0 0 1065 (t_P (fun v s' => v = none ∧ Q (.inr (s')))) 295 [(0, .ref 950), (3, .int (y0)), (4, .int (y1)), (5, .int (y2)), (8, .int (y3)), (9, .int (y4))] [] (t_m y5) 1065 0 0 := by
  intro n
  induction n with
  | zero => intro y0 y1 y2 y3 y4 y5 Q Hb12 hk; obtain ⟨r, hr, _⟩ := hk; cases hr
  | succ n ih =>
    intro y0 y1 y2 y3 y4 y5 Q Hb12 hk
    exact B_X13_findWhy_295 y0 y1 y2 y3 y4 y5 (fun y => t_lq (b_X13_findWhy_295) n Q y) (fun y0' y1' y2' y3' hy => Hb12 y0' y1' y2' y3' hy) (fun y0' y1' y2' y3' y4' y5' hy => ih y0' y1' y2' y3' y4' y5' Q Hb12 hy) (t_lp (b := b_X13_findWhy_295) (n := n) (x := (y0, y1, y2, y3, y4, y5)) hk)
noncomputable def k_X13_findWhy_244 (l3 : Int32) (l4 : Int32) (l5 : Int32) (l6 : Int32) (l7 : Int32) (s : t_S) : Option ((Int32 × Int32 × Int32 × t_S) ⊕ (t_S)) :=
 if l6 = (31 : Int32) then (if l7 = (8 : Int32) then ((f_X13_arePlain l3 s).bind (fun r1 =>
 if r1 = (0 : Int32) then (some (.inl (l3, l4, l5, s)))
 else ((f_X13_partCount l3 s).bind (fun r2 =>
 if t_ix (l4 + (1 : Int32)) 626600 = true then
  if r2 = ((s.2.1 1006 ((l4 + (1 : Int32)).toNatClampNeg)).toInt32) then (if t_ix l3 13000 = true then
  t_loop (b_X13_findWhy_295) t_N (l3, l4, l5, 0, (s.1 959 (l3.toNatClampNeg)), s)
else none)
 else (some (.inl (l3, l4, l5, s)))
else none))))
 else (some (.inl (l3, l4, l5, s))))
 else (some (.inl (l3, l4, l5, s)))
set_option maxRecDepth 4000 in
set_option maxHeartbeats 1000000 in
theorem B_X13_findWhy_244 {D : va_G} {cy : Nat → ClassId} {ad : Nat → Nat} {bs : Nat} {X : State → Heap → Prop} (l3 : Int32) (l4 : Int32) (l5 : Int32) (l6 : Int32) (l7 : Int32) (s : t_S) (Q : (Int32 × Int32 × Int32 × t_S) ⊕ (t_S) → Prop) (Hb12 : ∀ (y0 : Int32) (y1 : Int32) (y2 : Int32) (y3 : t_S), Q (.inl (y0, y1, y2, y3)) → mj_G D cy ad bs X cX13_findWhy 10 yX13_findWhy.cls none yX13_findWhy.name 783 0 0 1065 (t_P (fun v s' => v = none ∧ Q (.inr (s')))) 12 [(0, .ref 950), (3, .int (y0)), (4, .int (y1)), (5, .int (y2))] [] (t_m y3) 1065 0 0) (hk : t_hk (k_X13_findWhy_244 l3 l4 l5 l6 l7 s) Q) : mj_G D cy ad bs X cX13_findWhy 10 yX13_findWhy.cls none yX13_findWhy.name 783 0 0 1065 (t_P (fun v s' => v = none ∧ Q (.inr (s')))) 244 [(0, .ref 950), (3, .int l3), (4, .int l4), (5, .int l5), (6, .int l6), (7, .int l7)] [] (t_m s) 1065 0 0 := by
  refine mj_iload dX13_findWhy_244 4 rfl ?_
  refine mj_bipush (v := 31) dX13_findWhy_246 (by decide) ?_
  refine mj_icmp_ne 363 dX13_findWhy_248 (by decide) (fun z => t_negK hk z (fun hk => ?_)) (fun z => t_posK hk z (fun hk => ?_))
  · refine mj_goto 12 dX13_findWhy_363 (by decide) ?_
    refine mj_sublv [(0, .ref 950), (3, .int l3), (4, .int l4), (5, .int l5)] [0, 1, 2, 3] rfl ?_
    exact t_somK hk (fun hf => Hb12 l3 l4 l5 s hf)
  · refine mj_iload dX13_findWhy_251 5 rfl ?_
    refine mj_bipush (v := 8) dX13_findWhy_253 (by decide) ?_
    refine mj_icmp_ne 363 dX13_findWhy_255 (by decide) (fun z => t_negK hk z (fun hk => ?_)) (fun z => t_posK hk z (fun hk => ?_))
    · refine mj_goto 12 dX13_findWhy_363 (by decide) ?_
      refine mj_sublv [(0, .ref 950), (3, .int l3), (4, .int l4), (5, .int l5)] [0, 1, 2, 3] rfl ?_
      exact t_somK hk (fun hf => Hb12 l3 l4 l5 s hf)
    · refine mj_aload_n dX13_findWhy_258 0 rfl ?_
      refine mj_iload_n dX13_findWhy_259 1 rfl ?_
      refine t_bndK hk (fun r1 er1 hk => ?_)
      refine t_callViP dX13_findWhy_260 M_X13_arePlain (C_X13_arePlain _ _ _ er1) ML_X13_1297 IM_X13_arePlain SE_X13_arePlain qc_950 rfl (As := [.int l3]) rfl rfl (Nat.le_of_ble_eq_true rfl) (Nat.le_of_ble_eq_true rfl) (Nat.le_of_ble_eq_true rfl) (Nat.le_of_ble_eq_true rfl) ?_
      refine mj_if_eq 363 dX13_findWhy_263 (by decide) (fun z => t_posK hk z (fun hk => ?_)) (fun z => t_negK hk z (fun hk => ?_))
      · refine mj_goto 12 dX13_findWhy_363 (by decide) ?_
        refine mj_sublv [(0, .ref 950), (3, .int l3), (4, .int l4), (5, .int l5)] [0, 1, 2, 3] rfl ?_
        exact t_somK hk (fun hf => Hb12 l3 l4 l5 s hf)
      · refine mj_aload_n dX13_findWhy_266 0 rfl ?_
        refine mj_iload_n dX13_findWhy_267 1 rfl ?_
        refine t_bndK hk (fun r2 er2 hk => ?_)
        refine t_callViP dX13_findWhy_268 M_X13_partCount (C_X13_partCount _ _ _ er2) ML_X13_830 IM_X13_partCount SE_X13_partCount qc_950 rfl (As := [.int l3]) rfl rfl (Nat.le_of_ble_eq_true rfl) (Nat.le_of_ble_eq_true rfl) (Nat.le_of_ble_eq_true rfl) (Nat.le_of_ble_eq_true rfl) ?_
        refine mj_aload_n dX13_findWhy_271 0 rfl ?_
        refine t_getR 1006 dX13_findWhy_272 F_X13_182 qr_950_95 ?_
        refine mj_iload dX13_findWhy_275 2 rfl ?_
        refine mj_iconst (v := 1) dX13_findWhy_277 (by decide) ?_
        refine mj_iadd dX13_findWhy_278 ?_
        refine t_chkK hk (fun c2 hk => ?_)
        refine t_lald dX13_findWhy_279 qa_1006 (t_ixv c2) ?_
        refine mj_l2i (v := (s.2.1 1006 ((l4 + (1 : Int32)).toNatClampNeg)).toInt32) dX13_findWhy_280 rfl ?_
        refine mj_icmp_ne 363 dX13_findWhy_281 (by decide) (fun z => t_negK hk z (fun hk => ?_)) (fun z => t_posK hk z (fun hk => ?_))
        · refine mj_goto 12 dX13_findWhy_363 (by decide) ?_
          refine mj_sublv [(0, .ref 950), (3, .int l3), (4, .int l4), (5, .int l5)] [0, 1, 2, 3] rfl ?_
          exact t_somK hk (fun hf => Hb12 l3 l4 l5 s hf)
        · refine mj_iconst (v := 0) dX13_findWhy_284 (by decide) ?_
          refine mj_istore (lv2 := [(8, .int 0), (0, .ref 950), (3, .int l3), (4, .int l4), (5, .int l5), (6, .int l6), (7, .int l7)]) dX13_findWhy_285 (by decide) rfl ?_
          refine mj_aload_n dX13_findWhy_287 1 rfl ?_
          refine t_getR 959 dX13_findWhy_288 F_X13_39 qr_950_21 ?_
          refine mj_iload_n dX13_findWhy_291 2 rfl ?_
          refine t_chkK hk (fun c3 hk => ?_)
          refine t_iald dX13_findWhy_292 qa_959 (t_ixv c3) ?_
          refine mj_istore (lv2 := [(9, .int (s.1 959 (l3.toNatClampNeg))), (8, .int 0), (0, .ref 950), (3, .int l3), (4, .int l4), (5, .int l5), (6, .int l6), (7, .int l7)]) dX13_findWhy_293 (by decide) rfl ?_
          refine mj_sublv [(0, .ref 950), (3, .int l3), (4, .int l4), (5, .int l5), (8, .int 0), (9, .int (s.1 959 (l3.toNatClampNeg)))] [2, 3, 4, 5, 1, 0] rfl ?_
          exact LH_X13_findWhy_295 _ l3 l4 l5 0 (s.1 959 (l3.toNatClampNeg)) s _ (fun y0 y1 y2 y3 hx => Hb12 y0 y1 y2 y3 hx) hk
noncomputable def k_X13_findWhy_173 (l3 : Int32) (l4 : Int32) (l5 : Int32) (l6 : Int32) (l7 : Int32) (s : t_S) : Option ((Int32 × Int32 × Int32 × t_S) ⊕ (t_S)) :=
 if l6 = (30 : Int32) then (if l7 = (7 : Int32) then (if t_ix (l4 + (1 : Int32)) 626600 = true then
  if t_ix l3 13000 = true then
  if (lg_cmp (s.2.1 1006 ((l4 + (1 : Int32)).toNatClampNeg)) (s.2.1 957 (l3.toNatClampNeg))) = (0 : Int32) then ((f_X13_step ((1000 : Int32) + ((s.2.1 957 (l3.toNatClampNeg)).toInt32)) s).bind (fun r3 =>
 (f_X13_toneOf (r3.1 959 (l3.toNatClampNeg)) r3).bind (fun r4 =>
 some (.inl (r4, (l4 + (2 : Int32)), 1, r3)))))
 else (k_X13_findWhy_244 l3 l4 l5 l6 l7 s)
else none
else none)
 else (k_X13_findWhy_244 l3 l4 l5 l6 l7 s))
 else (k_X13_findWhy_244 l3 l4 l5 l6 l7 s)
set_option maxRecDepth 4000 in
set_option maxHeartbeats 1000000 in
theorem B_X13_findWhy_173 {D : va_G} {cy : Nat → ClassId} {ad : Nat → Nat} {bs : Nat} {X : State → Heap → Prop} (l3 : Int32) (l4 : Int32) (l5 : Int32) (l6 : Int32) (l7 : Int32) (s : t_S) (Q : (Int32 × Int32 × Int32 × t_S) ⊕ (t_S) → Prop) (Hb12 : ∀ (y0 : Int32) (y1 : Int32) (y2 : Int32) (y3 : t_S), Q (.inl (y0, y1, y2, y3)) → mj_G D cy ad bs X cX13_findWhy 10 yX13_findWhy.cls none yX13_findWhy.name 783 0 0 1065 (t_P (fun v s' => v = none ∧ Q (.inr (s')))) 12 [(0, .ref 950), (3, .int (y0)), (4, .int (y1)), (5, .int (y2))] [] (t_m y3) 1065 0 0) (hk : t_hk (k_X13_findWhy_173 l3 l4 l5 l6 l7 s) Q) : mj_G D cy ad bs X cX13_findWhy 10 yX13_findWhy.cls none yX13_findWhy.name 783 0 0 1065 (t_P (fun v s' => v = none ∧ Q (.inr (s')))) 173 [(0, .ref 950), (3, .int l3), (4, .int l4), (5, .int l5), (6, .int l6), (7, .int l7)] [] (t_m s) 1065 0 0 := by
  refine mj_iload dX13_findWhy_173 4 rfl ?_
  refine mj_bipush (v := 30) dX13_findWhy_175 (by decide) ?_
  refine mj_icmp_ne 244 dX13_findWhy_177 (by decide) (fun z => t_negK hk z (fun hk => ?_)) (fun z => t_posK hk z (fun hk => ?_))
  · exact B_X13_findWhy_244 _ _ _ _ _ _ _ (fun y0 y1 y2 y3 hx => Hb12 y0 y1 y2 y3 hx) hk
  · refine mj_iload dX13_findWhy_180 5 rfl ?_
    refine mj_bipush (v := 7) dX13_findWhy_182 (by decide) ?_
    refine mj_icmp_ne 244 dX13_findWhy_184 (by decide) (fun z => t_negK hk z (fun hk => ?_)) (fun z => t_posK hk z (fun hk => ?_))
    · exact B_X13_findWhy_244 _ _ _ _ _ _ _ (fun y0 y1 y2 y3 hx => Hb12 y0 y1 y2 y3 hx) hk
    · refine mj_aload_n dX13_findWhy_187 0 rfl ?_
      refine t_getR 1006 dX13_findWhy_188 F_X13_182 qr_950_95 ?_
      refine mj_iload dX13_findWhy_191 2 rfl ?_
      refine mj_iconst (v := 1) dX13_findWhy_193 (by decide) ?_
      refine mj_iadd dX13_findWhy_194 ?_
      refine t_chkK hk (fun c0 hk => ?_)
      refine t_lald dX13_findWhy_195 qa_1006 (t_ixv c0) ?_
      refine mj_aload_n dX13_findWhy_196 0 rfl ?_
      refine t_getR 957 dX13_findWhy_197 F_X13_32 qr_950_19 ?_
      refine mj_iload_n dX13_findWhy_200 1 rfl ?_
      refine t_chkK hk (fun c1 hk => ?_)
      refine t_lald dX13_findWhy_201 qa_957 (t_ixv c1) ?_
      refine mj_lcmp dX13_findWhy_202 ?_
      refine mj_if_ne 244 dX13_findWhy_203 (by decide) (fun z => t_negK hk z (fun hk => ?_)) (fun z => t_posK hk z (fun hk => ?_))
      · exact B_X13_findWhy_244 _ _ _ _ _ _ _ (fun y0 y1 y2 y3 hx => Hb12 y0 y1 y2 y3 hx) hk
      · refine mj_aload_n dX13_findWhy_206 0 rfl ?_
        refine mj_sipush (v := 1000) dX13_findWhy_207 (by decide) ?_
        refine mj_aload_n dX13_findWhy_210 0 rfl ?_
        refine t_getR 957 dX13_findWhy_211 F_X13_32 qr_950_19 ?_
        refine mj_iload_n dX13_findWhy_214 1 rfl ?_
        refine t_lald dX13_findWhy_215 qa_957 (t_ixv c1) ?_
        refine mj_l2i (v := (s.2.1 957 (l3.toNatClampNeg)).toInt32) dX13_findWhy_216 rfl ?_
        refine mj_iadd dX13_findWhy_217 ?_
        refine t_bndK hk (fun r3 er3 hk => ?_)
        refine t_callVvE dX13_findWhy_218 M_X13_step (C_X13_step _ _ _ er3) ML_X13_1291 IM_X13_step SE_X13_step qc_950 rfl (As := [.int ((1000 : Int32) + ((s.2.1 957 (l3.toNatClampNeg)).toInt32))]) rfl rfl (Nat.le_of_ble_eq_true rfl) (Nat.le_of_ble_eq_true rfl) (Nat.le_of_ble_eq_true rfl) (Nat.le_of_ble_eq_true rfl) ?_
        refine mj_iload dX13_findWhy_221 2 rfl ?_
        refine mj_iconst (v := 2) dX13_findWhy_223 (by decide) ?_
        refine mj_iadd dX13_findWhy_224 ?_
        refine mj_istore (lv2 := [(4, .int (l4 + (2 : Int32))), (0, .ref 950), (3, .int l3), (5, .int l5), (6, .int l6), (7, .int l7)]) dX13_findWhy_225 (by decide) rfl ?_
        refine mj_aload_n dX13_findWhy_227 1 rfl ?_
        refine mj_aload_n dX13_findWhy_228 1 rfl ?_
        refine t_getR 959 dX13_findWhy_229 F_X13_39 qr_950_21 ?_
        refine mj_iload_n dX13_findWhy_232 2 rfl ?_
        refine t_iald dX13_findWhy_233 qa_959 (t_ixv c1) ?_
        refine t_bndK hk (fun r4 er4 hk => ?_)
        refine t_callViP dX13_findWhy_234 M_X13_toneOf (C_X13_toneOf _ _ _ er4) ML_X13_1288 IM_X13_toneOf SE_X13_toneOf qc_950 rfl (As := [.int (r3.1 959 (l3.toNatClampNeg))]) rfl rfl (Nat.le_of_ble_eq_true rfl) (Nat.le_of_ble_eq_true rfl) (Nat.le_of_ble_eq_true rfl) (Nat.le_of_ble_eq_true rfl) ?_
        refine mj_istore_n 3 (lv2 := [(3, .int r4), (4, .int (l4 + (2 : Int32))), (0, .ref 950), (5, .int l5), (6, .int l6), (7, .int l7)]) dX13_findWhy_237 rfl (by decide) rfl ?_
        refine mj_iconst (v := 1) dX13_findWhy_238 (by decide) ?_
        refine mj_istore (lv2 := [(5, .int 1), (3, .int r4), (4, .int (l4 + (2 : Int32))), (0, .ref 950), (6, .int l6), (7, .int l7)]) dX13_findWhy_239 (by decide) rfl ?_
        refine mj_goto 363 dX13_findWhy_241 (by decide) ?_
        refine mj_goto 12 dX13_findWhy_363 (by decide) ?_
        refine mj_sublv [(0, .ref 950), (3, .int r4), (4, .int (l4 + (2 : Int32))), (5, .int 1)] [3, 1, 2, 0] rfl ?_
        exact t_somK hk (fun hf => Hb12 r4 (l4 + (2 : Int32)) 1 r3 hf)
noncomputable def k_X13_findWhy_12 (l3 : Int32) (l4 : Int32) (l5 : Int32) (s : t_S) : Option ((Int32 × Int32 × Int32 × t_S) ⊕ (t_S)) :=
 if l5 = (0 : Int32) then ((some (s)).map Sum.inr)
 else (if l4 < (0 : Int32) then ((some (s)).map Sum.inr)
 else (if t_ix l3 13000 = true then
  if t_ix l4 626600 = true then
  if (s.1 955 (l3.toNatClampNeg)) = (29 : Int32) then (if ((s.2.1 1006 (l4.toNatClampNeg)).toInt32) = (6 : Int32) then (t_loop (b_X13_findWhy_65) t_N (l3, l4, 0, (s.1 959 (l3.toNatClampNeg)), s))
 else (k_X13_findWhy_173 l3 l4 0 (s.1 955 (l3.toNatClampNeg)) ((s.2.1 1006 (l4.toNatClampNeg)).toInt32) s))
 else (k_X13_findWhy_173 l3 l4 0 (s.1 955 (l3.toNatClampNeg)) ((s.2.1 1006 (l4.toNatClampNeg)).toInt32) s)
else none
else none))
set_option maxRecDepth 4000 in
set_option maxHeartbeats 1000000 in
theorem B_X13_findWhy_12 {D : va_G} {cy : Nat → ClassId} {ad : Nat → Nat} {bs : Nat} {X : State → Heap → Prop} (l3 : Int32) (l4 : Int32) (l5 : Int32) (s : t_S) (Q : (Int32 × Int32 × Int32 × t_S) ⊕ (t_S) → Prop) (Hb12 : ∀ (y0 : Int32) (y1 : Int32) (y2 : Int32) (y3 : t_S), Q (.inl (y0, y1, y2, y3)) → mj_G D cy ad bs X cX13_findWhy 10 yX13_findWhy.cls none yX13_findWhy.name 783 0 0 1065 (t_P (fun v s' => v = none ∧ Q (.inr (s')))) 12 [(0, .ref 950), (3, .int (y0)), (4, .int (y1)), (5, .int (y2))] [] (t_m y3) 1065 0 0) (hk : t_hk (k_X13_findWhy_12 l3 l4 l5 s) Q) : mj_G D cy ad bs X cX13_findWhy 10 yX13_findWhy.cls none yX13_findWhy.name 783 0 0 1065 (t_P (fun v s' => v = none ∧ Q (.inr (s')))) 12 [(0, .ref 950), (3, .int l3), (4, .int l4), (5, .int l5)] [] (t_m s) 1065 0 0 := by
  refine mj_iload dX13_findWhy_12 3 rfl ?_
  refine mj_if_eq 366 dX13_findWhy_14 (by decide) (fun z => t_posK hk z (fun hk => ?_)) (fun z => t_negK hk z (fun hk => ?_))
  · refine t_mapK hk (fun hk => ?_)
    exact t_somK hk (fun hf => t_vret dX13_findWhy_366 rfl ⟨rfl, hf⟩ (Nat.le_of_ble_eq_true rfl) (Nat.le_of_ble_eq_true rfl))
  · refine mj_iload dX13_findWhy_17 2 rfl ?_
    refine mj_if_lt 366 dX13_findWhy_19 (by decide) (fun z => t_posK hk z (fun hk => ?_)) (fun z => t_negK hk z (fun hk => ?_))
    · refine t_mapK hk (fun hk => ?_)
      exact t_somK hk (fun hf => t_vret dX13_findWhy_366 rfl ⟨rfl, hf⟩ (Nat.le_of_ble_eq_true rfl) (Nat.le_of_ble_eq_true rfl))
    · refine mj_aload_n dX13_findWhy_22 0 rfl ?_
      refine t_getR 955 dX13_findWhy_23 F_X13_26 qr_950_17 ?_
      refine mj_iload_n dX13_findWhy_26 1 rfl ?_
      refine t_chkK hk (fun c0 hk => ?_)
      refine t_iald dX13_findWhy_27 qa_955 (t_ixv c0) ?_
      refine mj_istore (lv2 := [(6, .int (s.1 955 (l3.toNatClampNeg))), (0, .ref 950), (3, .int l3), (4, .int l4), (5, .int l5)]) dX13_findWhy_28 (by decide) rfl ?_
      refine mj_aload_n dX13_findWhy_30 1 rfl ?_
      refine t_getR 1006 dX13_findWhy_31 F_X13_182 qr_950_95 ?_
      refine mj_iload dX13_findWhy_34 3 rfl ?_
      refine t_chkK hk (fun c1 hk => ?_)
      refine t_lald dX13_findWhy_36 qa_1006 (t_ixv c1) ?_
      refine mj_l2i (v := (s.2.1 1006 (l4.toNatClampNeg)).toInt32) dX13_findWhy_37 rfl ?_
      refine mj_istore (lv2 := [(7, .int ((s.2.1 1006 (l4.toNatClampNeg)).toInt32)), (6, .int (s.1 955 (l3.toNatClampNeg))), (0, .ref 950), (3, .int l3), (4, .int l4), (5, .int l5)]) dX13_findWhy_38 (by decide) rfl ?_
      refine mj_iconst (v := 0) dX13_findWhy_40 (by decide) ?_
      refine mj_istore (lv2 := [(5, .int 0), (7, .int ((s.2.1 1006 (l4.toNatClampNeg)).toInt32)), (6, .int (s.1 955 (l3.toNatClampNeg))), (0, .ref 950), (3, .int l3), (4, .int l4)]) dX13_findWhy_41 (by decide) rfl ?_
      refine mj_iload dX13_findWhy_43 2 rfl ?_
      refine mj_bipush (v := 29) dX13_findWhy_45 (by decide) ?_
      refine mj_icmp_ne 173 dX13_findWhy_47 (by decide) (fun z => t_negK hk z (fun hk => ?_)) (fun z => t_posK hk z (fun hk => ?_))
      · refine mj_sublv [(0, .ref 950), (3, .int l3), (4, .int l4), (5, .int 0), (6, .int (s.1 955 (l3.toNatClampNeg))), (7, .int ((s.2.1 1006 (l4.toNatClampNeg)).toInt32))] [3, 4, 5, 0, 2, 1] rfl ?_
        exact B_X13_findWhy_173 _ _ _ _ _ _ _ (fun y0 y1 y2 y3 hx => Hb12 y0 y1 y2 y3 hx) hk
      · refine mj_iload dX13_findWhy_50 1 rfl ?_
        refine mj_bipush (v := 6) dX13_findWhy_52 (by decide) ?_
        refine mj_icmp_ne 173 dX13_findWhy_54 (by decide) (fun z => t_negK hk z (fun hk => ?_)) (fun z => t_posK hk z (fun hk => ?_))
        · refine mj_sublv [(0, .ref 950), (3, .int l3), (4, .int l4), (5, .int 0), (6, .int (s.1 955 (l3.toNatClampNeg))), (7, .int ((s.2.1 1006 (l4.toNatClampNeg)).toInt32))] [3, 4, 5, 0, 2, 1] rfl ?_
          exact B_X13_findWhy_173 _ _ _ _ _ _ _ (fun y0 y1 y2 y3 hx => Hb12 y0 y1 y2 y3 hx) hk
        · refine mj_aload_n dX13_findWhy_57 3 rfl ?_
          refine t_getR 959 dX13_findWhy_58 F_X13_39 qr_950_21 ?_
          refine mj_iload_n dX13_findWhy_61 4 rfl ?_
          refine t_iald dX13_findWhy_62 qa_959 (t_ixv c0) ?_
          refine mj_istore (lv2 := [(8, .int (s.1 959 (l3.toNatClampNeg))), (5, .int 0), (7, .int ((s.2.1 1006 (l4.toNatClampNeg)).toInt32)), (6, .int (s.1 955 (l3.toNatClampNeg))), (0, .ref 950), (3, .int l3), (4, .int l4)]) dX13_findWhy_63 (by decide) rfl ?_
          refine mj_sublv [(0, .ref 950), (3, .int l3), (4, .int l4), (5, .int 0), (8, .int (s.1 959 (l3.toNatClampNeg)))] [4, 5, 6, 1, 0] rfl ?_
          exact LH_X13_findWhy_65 _ l3 l4 0 (s.1 959 (l3.toNatClampNeg)) s _ (fun y0 y1 y2 y3 hx => Hb12 y0 y1 y2 y3 hx) hk
noncomputable def b_X13_findWhy_12 (x : Int32 × Int32 × Int32 × t_S) : Option ((Int32 × Int32 × Int32 × t_S) ⊕ (t_S)) := k_X13_findWhy_12 x.1 x.2.1 x.2.2.1 x.2.2.2
set_option maxRecDepth 4000 in
set_option maxHeartbeats 1000000 in
theorem LH_X13_findWhy_12 {D : va_G} {cy : Nat → ClassId} {ad : Nat → Nat} {bs : Nat} {X : State → Heap → Prop} : ∀ (n : Nat) (y0 : Int32) (y1 : Int32) (y2 : Int32) (y3 : t_S) (Q : t_S → Prop) (hk : t_hk (t_loop (b_X13_findWhy_12) n (y0, y1, y2, y3)) Q), mj_G D cy ad bs X cX13_findWhy 10 yX13_findWhy.cls none yX13_findWhy.name 783 0 0 1065 (t_P (fun v s' => v = none ∧ Q (s'))) 12 [(0, .ref 950), (3, .int (y0)), (4, .int (y1)), (5, .int (y2))] [] (t_m y3) 1065 0 0 := by
  intro n
  induction n with
  | zero => intro y0 y1 y2 y3 Q hk; obtain ⟨r, hr, _⟩ := hk; cases hr
  | succ n ih =>
    intro y0 y1 y2 y3 Q hk
    exact B_X13_findWhy_12 y0 y1 y2 y3 (fun y => t_lq (b_X13_findWhy_12) n Q y) (fun y0' y1' y2' y3' hy => ih y0' y1' y2' y3' Q hy) (t_lp (b := b_X13_findWhy_12) (n := n) (x := (y0, y1, y2, y3)) hk)
noncomputable def f_X13_findWhy (x1 : Int32) (x2 : Int32) (s : t_S) : Option (t_S) :=
 (f_X13_toneOf x1 s).bind (fun r1 =>
 t_loop (b_X13_findWhy_12) t_N (r1, x2, 1, s))
set_option maxRecDepth 4000 in
set_option maxHeartbeats 1000000 in
theorem C_X13_findWhy (x1 : Int32) (x2 : Int32) (s : t_S) (r : t_S) (hr : f_X13_findWhy x1 x2 s = some r) : t_C yX13_findWhy cX13_findWhy 10 none 783 [.ref 950, .int x1, .int x2] s (fun v s' => v = none ∧ s' = r) := by
  refine t_C.imp (P := fun v s' => v = none ∧ (fun q => q = r) (s')) (t_C.of (by decide +kernel) (Nat.le_of_ble_eq_true rfl) ?_) (fun v s' hp => hp)
  intro D cy ad bs X
  have hk : t_hk (f_X13_findWhy x1 x2 s) (fun q => q = r) := ⟨r, hr, rfl⟩
  show mj_G D cy ad bs X cX13_findWhy 10 yX13_findWhy.cls none yX13_findWhy.name 783 0 0 1065 (t_P (fun v s' => v = none ∧ (fun q => q = r) (s'))) 0 [(0, .ref 950), (1, .int x1), (2, .int x2)] [] (t_m s) 1065 0 0
  refine mj_aload_n dX13_findWhy_0 0 rfl ?_
  refine mj_iload_n dX13_findWhy_1 1 rfl ?_
  refine t_bndK hk (fun r1 er1 hk => ?_)
  refine t_callViP dX13_findWhy_2 M_X13_toneOf (C_X13_toneOf _ _ _ er1) ML_X13_1288 IM_X13_toneOf SE_X13_toneOf qc_950 rfl (As := [.int x1]) rfl rfl (Nat.le_of_ble_eq_true rfl) (Nat.le_of_ble_eq_true rfl) (Nat.le_of_ble_eq_true rfl) (Nat.le_of_ble_eq_true rfl) ?_
  refine mj_istore_n 3 (lv2 := [(3, .int r1), (0, .ref 950), (1, .int x1), (2, .int x2)]) dX13_findWhy_5 rfl (by decide) rfl ?_
  refine mj_iload_n dX13_findWhy_6 3 rfl ?_
  refine mj_istore (lv2 := [(4, .int x2), (3, .int r1), (0, .ref 950), (1, .int x1), (2, .int x2)]) dX13_findWhy_7 (by decide) rfl ?_
  refine mj_iconst (v := 1) dX13_findWhy_9 (by decide) ?_
  refine mj_istore (lv2 := [(5, .int 1), (4, .int x2), (3, .int r1), (0, .ref 950), (1, .int x1), (2, .int x2)]) dX13_findWhy_10 (by decide) rfl ?_
  refine mj_sublv [(0, .ref 950), (3, .int r1), (4, .int x2), (5, .int 1)] [3, 2, 1, 0] rfl ?_
  exact LH_X13_findWhy_12 _ r1 x2 1 s _ hk

theorem dX13_fits_0 : decode cX13_fits 0 = .ok (.aload_n 0, 1) := by decide +kernel
theorem dX13_fits_1 : decode cX13_fits 1 = .ok (.iload_n 2, 1) := by decide +kernel
theorem dX13_fits_10 : decode cX13_fits 10 = .ok (.invokevirtual 1002, 3) := by decide +kernel
theorem dX13_fits_13 : decode cX13_fits 13 = .ok (.ifCond .eq 7, 3) := by decide +kernel
theorem dX13_fits_16 : decode cX13_fits 16 = .ok (.iconst (-1), 1) := by decide +kernel
theorem dX13_fits_17 : decode cX13_fits 17 = .ok (.goto 28, 3) := by decide +kernel
theorem dX13_fits_2 : decode cX13_fits 2 = .ok (.invokevirtual 1051, 3) := by decide +kernel
theorem dX13_fits_20 : decode cX13_fits 20 = .ok (.aload_n 0, 1) := by decide +kernel
theorem dX13_fits_21 : decode cX13_fits 21 = .ok (.sipush 260, 3) := by decide +kernel
theorem dX13_fits_24 : decode cX13_fits 24 = .ok (.iconst 0, 1) := by decide +kernel
theorem dX13_fits_25 : decode cX13_fits 25 = .ok (.iload_n 1, 1) := by decide +kernel
theorem dX13_fits_26 : decode cX13_fits 26 = .ok (.iadd, 1) := by decide +kernel
theorem dX13_fits_27 : decode cX13_fits 27 = .ok (.imul, 1) := by decide +kernel
theorem dX13_fits_28 : decode cX13_fits 28 = .ok (.aload_n 0, 1) := by decide +kernel
theorem dX13_fits_29 : decode cX13_fits 29 = .ok (.getfield 57, 3) := by decide +kernel
theorem dX13_fits_32 : decode cX13_fits 32 = .ok (.iload_n 2, 1) := by decide +kernel
theorem dX13_fits_33 : decode cX13_fits 33 = .ok (.iaload, 1) := by decide +kernel
theorem dX13_fits_34 : decode cX13_fits 34 = .ok (.invokestatic 1045, 3) := by decide +kernel
theorem dX13_fits_37 : decode cX13_fits 37 = .ok (.ifCond .eq 7, 3) := by decide +kernel
theorem dX13_fits_40 : decode cX13_fits 40 = .ok (.iconst 1, 1) := by decide +kernel
theorem dX13_fits_41 : decode cX13_fits 41 = .ok (.goto 4, 3) := by decide +kernel
theorem dX13_fits_44 : decode cX13_fits 44 = .ok (.iconst 0, 1) := by decide +kernel
theorem dX13_fits_45 : decode cX13_fits 45 = .ok (.ireturn, 1) := by decide +kernel
theorem dX13_fits_5 : decode cX13_fits 5 = .ok (.ifCond .ne 11, 3) := by decide +kernel
theorem dX13_fits_8 : decode cX13_fits 8 = .ok (.aload_n 0, 1) := by decide +kernel
theorem dX13_fits_9 : decode cX13_fits 9 = .ok (.iload_n 1, 1) := by decide +kernel
noncomputable def k_X13_fits_16 (s : t_S) : Option (Int32) :=
 some (-1 : Int32)
set_option maxRecDepth 4000 in
set_option maxHeartbeats 1000000 in
theorem B_X13_fits_16 {D : va_G} {cy : Nat → ClassId} {ad : Nat → Nat} {bs : Nat} {X : State → Heap → Prop} (s : t_S) (Q : Int32 → Prop) (hk : t_hk (k_X13_fits_16 s) Q) : mj_G D cy ad bs X cX13_fits 3 yX13_fits.cls (some .int) yX13_fits.name 305 0 0 1065 (t_P (fun v s' => s' = s ∧ ∃ x, v = some (.int x) ∧ Q (x))) 16 [] [] (t_m s) 1065 0 0 := by
  refine mj_iconst (v := (-1)) dX13_fits_16 (by decide) ?_
  refine mj_goto 45 dX13_fits_17 (by decide) ?_
  exact t_somK hk (fun hf => t_iret dX13_fits_45 rfl rfl ⟨rfl, _, rfl, hf⟩ (Nat.le_of_ble_eq_true rfl) (Nat.le_of_ble_eq_true rfl))
noncomputable def f_X13_fits (x1 : Int32) (x2 : Int32) (s : t_S) : Option (Int32) :=
 if (f_X13_noType x2 s) = (0 : Int32) then (if (f_X13_noValue x1 s) = (0 : Int32) then (if t_ix x2 60 = true then
  (f_X13_fitsAt ((260 : Int32) * ((0 : Int32) + x1)) (s.1 965 (x2.toNatClampNeg)) s).bind (fun r4 =>
 if r4 = (0 : Int32) then (some (0 : Int32))
 else (some (1 : Int32)))
else none)
 else (k_X13_fits_16 s))
 else (k_X13_fits_16 s)
set_option maxRecDepth 4000 in
set_option maxHeartbeats 1000000 in
theorem C_X13_fits (x1 : Int32) (x2 : Int32) (s : t_S) (r : Int32) (hr : f_X13_fits x1 x2 s = some r) : t_C yX13_fits cX13_fits 3 (some .int) 305 [.ref 950, .int x1, .int x2] s (fun v s' => v = some (.int r) ∧ s' = s) := by
  refine t_C.imp (P := fun v s' => s' = s ∧ ∃ x, v = some (.int x) ∧ (fun q => q = r) (x)) (t_C.of (by decide +kernel) (Nat.le_of_ble_eq_true rfl) ?_) (fun v s' hp => by obtain ⟨rfl, x, rfl, rfl⟩ := hp; exact ⟨rfl, rfl⟩)
  intro D cy ad bs X
  have hk : t_hk (f_X13_fits x1 x2 s) (fun q => q = r) := ⟨r, hr, rfl⟩
  show mj_G D cy ad bs X cX13_fits 3 yX13_fits.cls (some .int) yX13_fits.name 305 0 0 1065 (t_P (fun v s' => s' = s ∧ ∃ x, v = some (.int x) ∧ (fun q => q = r) (x))) 0 [(0, .ref 950), (1, .int x1), (2, .int x2)] [] (t_m s) 1065 0 0
  refine mj_aload_n dX13_fits_0 0 rfl ?_
  refine mj_iload_n dX13_fits_1 2 rfl ?_
  refine t_callViP dX13_fits_2 M_X13_noType (C_X13_noType _ _) ML_X13_1051 IM_X13_noType SE_X13_noType qc_950 rfl (As := [.int x2]) rfl rfl (Nat.le_of_ble_eq_true rfl) (Nat.le_of_ble_eq_true rfl) (Nat.le_of_ble_eq_true rfl) (Nat.le_of_ble_eq_true rfl) ?_
  refine mj_if_ne 16 dX13_fits_5 (by decide) (fun z => t_negK hk z (fun hk => ?_)) (fun z => t_posK hk z (fun hk => ?_))
  · refine mj_sublv [] [] rfl ?_
    exact B_X13_fits_16 _ _ hk
  · refine mj_aload_n dX13_fits_8 0 rfl ?_
    refine mj_iload_n dX13_fits_9 1 rfl ?_
    refine t_callViP dX13_fits_10 M_X13_noValue (C_X13_noValue _ _) ML_X13_1002 IM_X13_noValue SE_X13_noValue qc_950 rfl (As := [.int x1]) rfl rfl (Nat.le_of_ble_eq_true rfl) (Nat.le_of_ble_eq_true rfl) (Nat.le_of_ble_eq_true rfl) (Nat.le_of_ble_eq_true rfl) ?_
    refine mj_if_eq 20 dX13_fits_13 (by decide) (fun z => t_posK hk z (fun hk => ?_)) (fun z => t_negK hk z (fun hk => ?_))
    · refine mj_aload_n dX13_fits_20 0 rfl ?_
      refine mj_sipush (v := 260) dX13_fits_21 (by decide) ?_
      refine mj_iconst (v := 0) dX13_fits_24 (by decide) ?_
      refine mj_iload_n dX13_fits_25 1 rfl ?_
      refine mj_iadd dX13_fits_26 ?_
      refine mj_imul dX13_fits_27 ?_
      refine mj_aload_n dX13_fits_28 0 rfl ?_
      refine t_getR 965 dX13_fits_29 F_X13_57 qr_950_38 ?_
      refine mj_iload_n dX13_fits_32 2 rfl ?_
      refine t_chkK hk (fun c2 hk => ?_)
      refine t_iald dX13_fits_33 qa_965 (t_ixv c2) ?_
      refine t_bndK hk (fun r4 er4 hk => ?_)
      refine t_callSiP dX13_fits_34 M_X13_fitsAt (C_X13_fitsAt _ _ _ _ er4) ML_X13_1045 SM_X13_fitsAt (As := [.ref 950, .int ((260 : Int32) * ((0 : Int32) + x1)), .int (s.1 965 (x2.toNatClampNeg))]) rfl rfl (Nat.le_of_ble_eq_true rfl) (Nat.le_of_ble_eq_true rfl) (Nat.le_of_ble_eq_true rfl) (Nat.le_of_ble_eq_true rfl) ?_
      refine mj_if_eq 44 dX13_fits_37 (by decide) (fun z => t_posK hk z (fun hk => ?_)) (fun z => t_negK hk z (fun hk => ?_))
      · refine mj_iconst (v := 0) dX13_fits_44 (by decide) ?_
        exact t_somK hk (fun hf => t_iret dX13_fits_45 rfl rfl ⟨rfl, _, rfl, hf⟩ (Nat.le_of_ble_eq_true rfl) (Nat.le_of_ble_eq_true rfl))
      · refine mj_iconst (v := 1) dX13_fits_40 (by decide) ?_
        refine mj_goto 45 dX13_fits_41 (by decide) ?_
        exact t_somK hk (fun hf => t_iret dX13_fits_45 rfl rfl ⟨rfl, _, rfl, hf⟩ (Nat.le_of_ble_eq_true rfl) (Nat.le_of_ble_eq_true rfl))
    · refine mj_sublv [] [] rfl ?_
      exact B_X13_fits_16 _ _ hk

theorem dX13_parameters_0 : decode cX13_parameters 0 = .ok (.iconst 1, 1) := by decide +kernel
theorem dX13_parameters_1 : decode cX13_parameters 1 = .ok (.istore_n 2, 1) := by decide +kernel
theorem dX13_parameters_10 : decode cX13_parameters 10 = .ok (.ifCond .ne 45, 3) := by decide +kernel
theorem dX13_parameters_13 : decode cX13_parameters 13 = .ok (.aload_n 0, 1) := by decide +kernel
theorem dX13_parameters_14 : decode cX13_parameters 14 = .ok (.getfield 105, 3) := by decide +kernel
theorem dX13_parameters_17 : decode cX13_parameters 17 = .ok (.iload_n 1, 1) := by decide +kernel
theorem dX13_parameters_18 : decode cX13_parameters 18 = .ok (.iaload, 1) := by decide +kernel
theorem dX13_parameters_19 : decode cX13_parameters 19 = .ok (.iconst 5, 1) := by decide +kernel
theorem dX13_parameters_2 : decode cX13_parameters 2 = .ok (.iload_n 2, 1) := by decide +kernel
theorem dX13_parameters_20 : decode cX13_parameters 20 = .ok (.if_icmp .ne 12, 3) := by decide +kernel
theorem dX13_parameters_23 : decode cX13_parameters 23 = .ok (.aload_n 0, 1) := by decide +kernel
theorem dX13_parameters_24 : decode cX13_parameters 24 = .ok (.iconst 2, 1) := by decide +kernel
theorem dX13_parameters_25 : decode cX13_parameters 25 = .ok (.aload_n 0, 1) := by decide +kernel
theorem dX13_parameters_26 : decode cX13_parameters 26 = .ok (.getfield 391, 3) := by decide +kernel
theorem dX13_parameters_29 : decode cX13_parameters 29 = .ok (.invokevirtual 411, 3) := by decide +kernel
theorem dX13_parameters_3 : decode cX13_parameters 3 = .ok (.ifCond .eq 52, 3) := by decide +kernel
theorem dX13_parameters_32 : decode cX13_parameters 32 = .ok (.aload_n 0, 1) := by decide +kernel
theorem dX13_parameters_33 : decode cX13_parameters 33 = .ok (.iload_n 1, 1) := by decide +kernel
theorem dX13_parameters_34 : decode cX13_parameters 34 = .ok (.invokevirtual 730, 3) := by decide +kernel
theorem dX13_parameters_37 : decode cX13_parameters 37 = .ok (.aload_n 0, 1) := by decide +kernel
theorem dX13_parameters_38 : decode cX13_parameters 38 = .ok (.bipush 44, 2) := by decide +kernel
theorem dX13_parameters_40 : decode cX13_parameters 40 = .ok (.invokevirtual 449, 3) := by decide +kernel
theorem dX13_parameters_43 : decode cX13_parameters 43 = .ok (.istore_n 2, 1) := by decide +kernel
theorem dX13_parameters_44 : decode cX13_parameters 44 = .ok (.iload_n 2, 1) := by decide +kernel
theorem dX13_parameters_45 : decode cX13_parameters 45 = .ok (.ifCond .eq (-43), 3) := by decide +kernel
theorem dX13_parameters_48 : decode cX13_parameters 48 = .ok (.aload_n 0, 1) := by decide +kernel
theorem dX13_parameters_49 : decode cX13_parameters 49 = .ok (.invokevirtual 452, 3) := by decide +kernel
theorem dX13_parameters_52 : decode cX13_parameters 52 = .ok (.goto (-50), 3) := by decide +kernel
theorem dX13_parameters_55 : decode cX13_parameters 55 = .ok (.aload_n 0, 1) := by decide +kernel
theorem dX13_parameters_56 : decode cX13_parameters 56 = .ok (.getfield 117, 3) := by decide +kernel
theorem dX13_parameters_59 : decode cX13_parameters 59 = .ok (.iload_n 1, 1) := by decide +kernel
theorem dX13_parameters_6 : decode cX13_parameters 6 = .ok (.aload_n 0, 1) := by decide +kernel
theorem dX13_parameters_60 : decode cX13_parameters 60 = .ok (.aload_n 0, 1) := by decide +kernel
theorem dX13_parameters_61 : decode cX13_parameters 61 = .ok (.getfield 120, 3) := by decide +kernel
theorem dX13_parameters_64 : decode cX13_parameters 64 = .ok (.iload_n 1, 1) := by decide +kernel
theorem dX13_parameters_65 : decode cX13_parameters 65 = .ok (.iaload, 1) := by decide +kernel
theorem dX13_parameters_66 : decode cX13_parameters 66 = .ok (.iastore, 1) := by decide +kernel
theorem dX13_parameters_67 : decode cX13_parameters 67 = .ok (.return_, 1) := by decide +kernel
theorem dX13_parameters_7 : decode cX13_parameters 7 = .ok (.getfield 375, 3) := by decide +kernel
noncomputable def k_X13_parameters_32 (l1 : Int32) (s : t_S) : Option ((Int32 × Int32 × t_S) ⊕ (t_S)) :=
 (f_X13_addLocal l1 s).bind (fun r1 =>
 if (f_X13_is (44 : Int32) r1) = (0 : Int32) then (some (.inl (l1, (f_X13_is (44 : Int32) r1), r1)))
 else ((f_X13_next r1).bind (fun r3 =>
 some (.inl (l1, (f_X13_is (44 : Int32) r1), r3)))))
set_option maxRecDepth 4000 in
set_option maxHeartbeats 1000000 in
theorem B_X13_parameters_32 {D : va_G} {cy : Nat → ClassId} {ad : Nat → Nat} {bs : Nat} {X : State → Heap → Prop} (l1 : Int32) (s : t_S) (Q : (Int32 × Int32 × t_S) ⊕ (t_S) → Prop) (Hb2 : ∀ (y0 : Int32) (y1 : Int32) (y2 : t_S), Q (.inl (y0, y1, y2)) → mj_G D cy ad bs X cX13_parameters 3 yX13_parameters.cls none yX13_parameters.name 7 0 0 1065 (t_P (fun v s' => v = none ∧ Q (.inr (s')))) 2 [(0, .ref 950), (1, .int (y0)), (2, .int (y1))] [] (t_m y2) 1065 0 0) (hk : t_hk (k_X13_parameters_32 l1 s) Q) : mj_G D cy ad bs X cX13_parameters 3 yX13_parameters.cls none yX13_parameters.name 7 0 0 1065 (t_P (fun v s' => v = none ∧ Q (.inr (s')))) 32 [(0, .ref 950), (1, .int l1)] [] (t_m s) 1065 0 0 := by
  refine mj_aload_n dX13_parameters_32 0 rfl ?_
  refine mj_iload_n dX13_parameters_33 1 rfl ?_
  refine t_bndK hk (fun r1 er1 hk => ?_)
  refine t_callVvE dX13_parameters_34 M_X13_addLocal (C_X13_addLocal _ _ _ er1) ML_X13_730 IM_X13_addLocal SE_X13_addLocal qc_950 rfl (As := [.int l1]) rfl rfl (Nat.le_of_ble_eq_true rfl) (Nat.le_of_ble_eq_true rfl) (Nat.le_of_ble_eq_true rfl) (Nat.le_of_ble_eq_true rfl) ?_
  refine mj_aload_n dX13_parameters_37 0 rfl ?_
  refine mj_bipush (v := 44) dX13_parameters_38 (by decide) ?_
  refine t_callViP dX13_parameters_40 M_X13_is (C_X13_is _ _) ML_X13_449 IM_X13_is SE_X13_is qc_950 rfl (As := [.int 44]) rfl rfl (Nat.le_of_ble_eq_true rfl) (Nat.le_of_ble_eq_true rfl) (Nat.le_of_ble_eq_true rfl) (Nat.le_of_ble_eq_true rfl) ?_
  refine mj_istore_n 2 (lv2 := [(2, .int (f_X13_is (44 : Int32) r1)), (0, .ref 950), (1, .int l1)]) dX13_parameters_43 rfl (by decide) rfl ?_
  refine mj_iload_n dX13_parameters_44 0 rfl ?_
  refine mj_if_eq 2 dX13_parameters_45 (by decide) (fun z => t_posK hk z (fun hk => ?_)) (fun z => t_negK hk z (fun hk => ?_))
  · refine mj_sublv [(0, .ref 950), (1, .int l1), (2, .int (f_X13_is (44 : Int32) r1))] [1, 2, 0] rfl ?_
    exact t_somK hk (fun hf => Hb2 l1 (f_X13_is (44 : Int32) r1) r1 hf)
  · refine mj_aload_n dX13_parameters_48 1 rfl ?_
    refine t_bndK hk (fun r3 er3 hk => ?_)
    refine t_callVvE dX13_parameters_49 M_X13_next (C_X13_next _ _ er3) ML_X13_452 IM_X13_next SE_X13_next qc_950 rfl (As := []) rfl rfl (Nat.le_of_ble_eq_true rfl) (Nat.le_of_ble_eq_true rfl) (Nat.le_of_ble_eq_true rfl) (Nat.le_of_ble_eq_true rfl) ?_
    refine mj_goto 2 dX13_parameters_52 (by decide) ?_
    refine mj_sublv [(0, .ref 950), (1, .int l1), (2, .int (f_X13_is (44 : Int32) r1))] [1, 2, 0] rfl ?_
    exact t_somK hk (fun hf => Hb2 l1 (f_X13_is (44 : Int32) r1) r3 hf)
noncomputable def k_X13_parameters_55 (l1 : Int32) (s : t_S) : Option (t_S) :=
 if t_ix l1 40 = true then
  t_let (t_setI s 985 (l1.toNatClampNeg) (s.1 986 (l1.toNatClampNeg))) (fun s1 =>
 some (s1))
else none
set_option maxRecDepth 4000 in
set_option maxHeartbeats 1000000 in
theorem B_X13_parameters_55 {D : va_G} {cy : Nat → ClassId} {ad : Nat → Nat} {bs : Nat} {X : State → Heap → Prop} (l1 : Int32) (s : t_S) (Q : t_S → Prop) (hk : t_hk (k_X13_parameters_55 l1 s) Q) : mj_G D cy ad bs X cX13_parameters 3 yX13_parameters.cls none yX13_parameters.name 7 0 0 1065 (t_P (fun v s' => v = none ∧ Q (s'))) 55 [(0, .ref 950), (1, .int l1)] [] (t_m s) 1065 0 0 := by
  refine mj_aload_n dX13_parameters_55 0 rfl ?_
  refine t_getR 985 dX13_parameters_56 F_X13_117 qr_950_61 ?_
  refine mj_iload_n dX13_parameters_59 1 rfl ?_
  refine mj_aload_n dX13_parameters_60 0 rfl ?_
  refine t_getR 986 dX13_parameters_61 F_X13_120 qr_950_62 ?_
  refine mj_iload_n dX13_parameters_64 1 rfl ?_
  refine t_chkK hk (fun c0 hk => ?_)
  refine t_iald dX13_parameters_65 qa_986 (t_ixv c0) ?_
  refine t_iastK dX13_parameters_66 qa_985 (t_ixv c0) (fun s1 ws1 => t_letE hk ws1 (fun hk => ?_))
  exact t_somK hk (fun hf => t_vret dX13_parameters_67 rfl ⟨rfl, hf⟩ (Nat.le_of_ble_eq_true rfl) (Nat.le_of_ble_eq_true rfl))
noncomputable def k_X13_parameters_2 (l1 : Int32) (l2 : Int32) (s : t_S) : Option ((Int32 × Int32 × t_S) ⊕ (t_S)) :=
 if l2 = (0 : Int32) then ((k_X13_parameters_55 l1 s).map Sum.inr)
 else (if (s.1 950 2) = (0 : Int32) then (if t_ix l1 40 = true then
  if (s.1 981 (l1.toNatClampNeg)) = (5 : Int32) then ((f_X13_fail (2 : Int32) (s.1 950 6) s).bind (fun r2 =>
 k_X13_parameters_32 l1 r2))
 else (k_X13_parameters_32 l1 s)
else none)
 else ((k_X13_parameters_55 l1 s).map Sum.inr))
set_option maxRecDepth 4000 in
set_option maxHeartbeats 1000000 in
theorem B_X13_parameters_2 {D : va_G} {cy : Nat → ClassId} {ad : Nat → Nat} {bs : Nat} {X : State → Heap → Prop} (l1 : Int32) (l2 : Int32) (s : t_S) (Q : (Int32 × Int32 × t_S) ⊕ (t_S) → Prop) (Hb2 : ∀ (y0 : Int32) (y1 : Int32) (y2 : t_S), Q (.inl (y0, y1, y2)) → mj_G D cy ad bs X cX13_parameters 3 yX13_parameters.cls none yX13_parameters.name 7 0 0 1065 (t_P (fun v s' => v = none ∧ Q (.inr (s')))) 2 [(0, .ref 950), (1, .int (y0)), (2, .int (y1))] [] (t_m y2) 1065 0 0) (hk : t_hk (k_X13_parameters_2 l1 l2 s) Q) : mj_G D cy ad bs X cX13_parameters 3 yX13_parameters.cls none yX13_parameters.name 7 0 0 1065 (t_P (fun v s' => v = none ∧ Q (.inr (s')))) 2 [(0, .ref 950), (1, .int l1), (2, .int l2)] [] (t_m s) 1065 0 0 := by
  refine mj_iload_n dX13_parameters_2 2 rfl ?_
  refine mj_if_eq 55 dX13_parameters_3 (by decide) (fun z => t_posK hk z (fun hk => ?_)) (fun z => t_negK hk z (fun hk => ?_))
  · refine mj_sublv [(0, .ref 950), (1, .int l1)] [0, 1] rfl ?_
    refine t_mapK hk (fun hk => ?_)
    exact B_X13_parameters_55 _ _ _ hk
  · refine mj_aload_n dX13_parameters_6 0 rfl ?_
    refine t_getI dX13_parameters_7 F_X13_375 qf_950_2 ?_
    refine mj_if_ne 55 dX13_parameters_10 (by decide) (fun z => t_negK hk z (fun hk => ?_)) (fun z => t_posK hk z (fun hk => ?_))
    · refine mj_sublv [(0, .ref 950), (1, .int l1)] [0, 1] rfl ?_
      refine t_mapK hk (fun hk => ?_)
      exact B_X13_parameters_55 _ _ _ hk
    · refine mj_aload_n dX13_parameters_13 0 rfl ?_
      refine t_getR 981 dX13_parameters_14 F_X13_105 qr_950_57 ?_
      refine mj_iload_n dX13_parameters_17 1 rfl ?_
      refine t_chkK hk (fun c0 hk => ?_)
      refine t_iald dX13_parameters_18 qa_981 (t_ixv c0) ?_
      refine mj_iconst (v := 5) dX13_parameters_19 (by decide) ?_
      refine mj_icmp_ne 32 dX13_parameters_20 (by decide) (fun z => t_negK hk z (fun hk => ?_)) (fun z => t_posK hk z (fun hk => ?_))
      · refine mj_sublv [(0, .ref 950), (1, .int l1)] [0, 1] rfl ?_
        exact B_X13_parameters_32 _ _ _ (fun y0 y1 y2 hx => Hb2 y0 y1 y2 hx) hk
      · refine mj_aload_n dX13_parameters_23 0 rfl ?_
        refine mj_iconst (v := 2) dX13_parameters_24 (by decide) ?_
        refine mj_aload_n dX13_parameters_25 0 rfl ?_
        refine t_getI dX13_parameters_26 F_X13_391 qf_950_6 ?_
        refine t_bndK hk (fun r2 er2 hk => ?_)
        refine t_callVvE dX13_parameters_29 M_X13_fail (C_X13_fail _ _ _ _ er2) ML_X13_411 IM_X13_fail SE_X13_fail qc_950 rfl (As := [.int 2, .int (s.1 950 6)]) rfl rfl (Nat.le_of_ble_eq_true rfl) (Nat.le_of_ble_eq_true rfl) (Nat.le_of_ble_eq_true rfl) (Nat.le_of_ble_eq_true rfl) ?_
        refine mj_sublv [(0, .ref 950), (1, .int l1)] [0, 1] rfl ?_
        exact B_X13_parameters_32 _ _ _ (fun y0 y1 y2 hx => Hb2 y0 y1 y2 hx) hk
noncomputable def b_X13_parameters_2 (x : Int32 × Int32 × t_S) : Option ((Int32 × Int32 × t_S) ⊕ (t_S)) := k_X13_parameters_2 x.1 x.2.1 x.2.2
set_option maxRecDepth 4000 in
set_option maxHeartbeats 1000000 in
theorem LH_X13_parameters_2 {D : va_G} {cy : Nat → ClassId} {ad : Nat → Nat} {bs : Nat} {X : State → Heap → Prop} : ∀ (n : Nat) (y0 : Int32) (y1 : Int32) (y2 : t_S) (Q : t_S → Prop) (hk : t_hk (t_loop (b_X13_parameters_2) n (y0, y1, y2)) Q), mj_G D cy ad bs X cX13_parameters 3 yX13_parameters.cls none yX13_parameters.name 7 0 0 1065 (t_P (fun v s' => v = none ∧ Q (s'))) 2 [(0, .ref 950), (1, .int (y0)), (2, .int (y1))] [] (t_m y2) 1065 0 0 := by
  intro n
  induction n with
  | zero => intro y0 y1 y2 Q hk; obtain ⟨r, hr, _⟩ := hk; cases hr
  | succ n ih =>
    intro y0 y1 y2 Q hk
    exact B_X13_parameters_2 y0 y1 y2 (fun y => t_lq (b_X13_parameters_2) n Q y) (fun y0' y1' y2' hy => ih y0' y1' y2' Q hy) (t_lp (b := b_X13_parameters_2) (n := n) (x := (y0, y1, y2)) hk)
noncomputable def f_X13_parameters (x1 : Int32) (s : t_S) : Option (t_S) :=
 t_loop (b_X13_parameters_2) t_N (x1, 1, s)
set_option maxRecDepth 4000 in
set_option maxHeartbeats 1000000 in
theorem C_X13_parameters (x1 : Int32) (s : t_S) (r : t_S) (hr : f_X13_parameters x1 s = some r) : t_C yX13_parameters cX13_parameters 3 none 7 [.ref 950, .int x1] s (fun v s' => v = none ∧ s' = r) := by
  refine t_C.imp (P := fun v s' => v = none ∧ (fun q => q = r) (s')) (t_C.of (by decide +kernel) (Nat.le_of_ble_eq_true rfl) ?_) (fun v s' hp => hp)
  intro D cy ad bs X
  have hk : t_hk (f_X13_parameters x1 s) (fun q => q = r) := ⟨r, hr, rfl⟩
  show mj_G D cy ad bs X cX13_parameters 3 yX13_parameters.cls none yX13_parameters.name 7 0 0 1065 (t_P (fun v s' => v = none ∧ (fun q => q = r) (s'))) 0 [(0, .ref 950), (1, .int x1)] [] (t_m s) 1065 0 0
  refine mj_iconst (v := 1) dX13_parameters_0 (by decide) ?_
  refine mj_istore_n 2 (lv2 := [(2, .int 1), (0, .ref 950), (1, .int x1)]) dX13_parameters_1 rfl (by decide) rfl ?_
  refine mj_sublv [(0, .ref 950), (1, .int x1), (2, .int 1)] [1, 2, 0] rfl ?_
  exact LH_X13_parameters_2 _ x1 1 s _ hk

