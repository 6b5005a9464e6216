/-! Methods as functions, 78: X13_checkLine, X13_isEnumWord, X13_isWay -/
theorem qa_1004 : t_oka 1004 3 13000 = true := by decide +kernel
theorem qf_950_90 : t_okf 950 13 90 0 = true := by decide +kernel
theorem qr_950_91 : t_okr 950 13 91 1004 = true := by decide +kernel
theorem dX13_checkLine_0 : decode cX13_checkLine 0 = .ok (.aload_n 0, 1) := by decide +kernel
theorem dX13_checkLine_1 : decode cX13_checkLine 1 = .ok (.getfield 165, 3) := by decide +kernel
theorem dX13_checkLine_102 : decode cX13_checkLine 102 = .ok (.iconst 0, 1) := by decide +kernel
theorem dX13_checkLine_103 : decode cX13_checkLine 103 = .ok (.aload_n 0, 1) := by decide +kernel
theorem dX13_checkLine_104 : decode cX13_checkLine 104 = .ok (.getfield 624, 3) := by decide +kernel
theorem dX13_checkLine_107 : decode cX13_checkLine 107 = .ok (.aload_n 0, 1) := by decide +kernel
theorem dX13_checkLine_108 : decode cX13_checkLine 108 = .ok (.getfield 135, 3) := by decide +kernel
theorem dX13_checkLine_11 : decode cX13_checkLine 11 = .ok (.iload_n 2, 1) := by decide +kernel
theorem dX13_checkLine_111 : decode cX13_checkLine 111 = .ok (.iload_n 1, 1) := by decide +kernel
theorem dX13_checkLine_112 : decode cX13_checkLine 112 = .ok (.iaload, 1) := by decide +kernel
theorem dX13_checkLine_113 : decode cX13_checkLine 113 = .ok (.invokevirtual 788, 3) := by decide +kernel
theorem dX13_checkLine_116 : decode cX13_checkLine 116 = .ok (.ifCond .ge 326, 3) := by decide +kernel
theorem dX13_checkLine_119 : decode cX13_checkLine 119 = .ok (.aload_n 0, 1) := by decide +kernel
theorem dX13_checkLine_12 : decode cX13_checkLine 12 = .ok (.iadd, 1) := by decide +kernel
theorem dX13_checkLine_120 : decode cX13_checkLine 120 = .ok (.iconst 4, 1) := by decide +kernel
theorem dX13_checkLine_121 : decode cX13_checkLine 121 = .ok (.aload_n 0, 1) := by decide +kernel
theorem dX13_checkLine_122 : decode cX13_checkLine 122 = .ok (.getfield 138, 3) := by decide +kernel
theorem dX13_checkLine_125 : decode cX13_checkLine 125 = .ok (.iload_n 1, 1) := by decide +kernel
theorem dX13_checkLine_126 : decode cX13_checkLine 126 = .ok (.iaload, 1) := by decide +kernel
theorem dX13_checkLine_127 : decode cX13_checkLine 127 = .ok (.invokevirtual 795, 3) := by decide +kernel
theorem dX13_checkLine_13 : decode cX13_checkLine 13 = .ok (.invokevirtual 792, 3) := by decide +kernel
theorem dX13_checkLine_130 : decode cX13_checkLine 130 = .ok (.goto 312, 3) := by decide +kernel
theorem dX13_checkLine_133 : decode cX13_checkLine 133 = .ok (.aload_n 0, 1) := by decide +kernel
theorem dX13_checkLine_134 : decode cX13_checkLine 134 = .ok (.getfield 126, 3) := by decide +kernel
theorem dX13_checkLine_137 : decode cX13_checkLine 137 = .ok (.iload_n 1, 1) := by decide +kernel
theorem dX13_checkLine_138 : decode cX13_checkLine 138 = .ok (.iaload, 1) := by decide +kernel
theorem dX13_checkLine_139 : decode cX13_checkLine 139 = .ok (.iconst 2, 1) := by decide +kernel
theorem dX13_checkLine_140 : decode cX13_checkLine 140 = .ok (.if_icmp .ne 41, 3) := by decide +kernel
theorem dX13_checkLine_143 : decode cX13_checkLine 143 = .ok (.aload_n 0, 1) := by decide +kernel
theorem dX13_checkLine_144 : decode cX13_checkLine 144 = .ok (.aload_n 0, 1) := by decide +kernel
theorem dX13_checkLine_145 : decode cX13_checkLine 145 = .ok (.getfield 135, 3) := by decide +kernel
theorem dX13_checkLine_148 : decode cX13_checkLine 148 = .ok (.iload_n 1, 1) := by decide +kernel
theorem dX13_checkLine_149 : decode cX13_checkLine 149 = .ok (.iaload, 1) := by decide +kernel
theorem dX13_checkLine_150 : decode cX13_checkLine 150 = .ok (.sipush 2000, 3) := by decide +kernel
theorem dX13_checkLine_153 : decode cX13_checkLine 153 = .ok (.iload_n 2, 1) := by decide +kernel
theorem dX13_checkLine_154 : decode cX13_checkLine 154 = .ok (.iadd, 1) := by decide +kernel
theorem dX13_checkLine_155 : decode cX13_checkLine 155 = .ok (.aload_n 0, 1) := by decide +kernel
theorem dX13_checkLine_156 : decode cX13_checkLine 156 = .ok (.getfield 168, 3) := by decide +kernel
theorem dX13_checkLine_159 : decode cX13_checkLine 159 = .ok (.iload_n 1, 1) := by decide +kernel
theorem dX13_checkLine_16 : decode cX13_checkLine 16 = .ok (.istore_n 3, 1) := by decide +kernel
theorem dX13_checkLine_160 : decode cX13_checkLine 160 = .ok (.iaload, 1) := by decide +kernel
theorem dX13_checkLine_161 : decode cX13_checkLine 161 = .ok (.invokevirtual 804, 3) := by decide +kernel
theorem dX13_checkLine_164 : decode cX13_checkLine 164 = .ok (.ifCond .ge 278, 3) := by decide +kernel
theorem dX13_checkLine_167 : decode cX13_checkLine 167 = .ok (.aload_n 0, 1) := by decide +kernel
theorem dX13_checkLine_168 : decode cX13_checkLine 168 = .ok (.iconst 4, 1) := by decide +kernel
theorem dX13_checkLine_169 : decode cX13_checkLine 169 = .ok (.aload_n 0, 1) := by decide +kernel
theorem dX13_checkLine_17 : decode cX13_checkLine 17 = .ok (.aload_n 0, 1) := by decide +kernel
theorem dX13_checkLine_170 : decode cX13_checkLine 170 = .ok (.getfield 138, 3) := by decide +kernel
theorem dX13_checkLine_173 : decode cX13_checkLine 173 = .ok (.iload_n 1, 1) := by decide +kernel
theorem dX13_checkLine_174 : decode cX13_checkLine 174 = .ok (.iaload, 1) := by decide +kernel
theorem dX13_checkLine_175 : decode cX13_checkLine 175 = .ok (.invokevirtual 795, 3) := by decide +kernel
theorem dX13_checkLine_178 : decode cX13_checkLine 178 = .ok (.goto 264, 3) := by decide +kernel
theorem dX13_checkLine_18 : decode cX13_checkLine 18 = .ok (.getfield 126, 3) := by decide +kernel
theorem dX13_checkLine_181 : decode cX13_checkLine 181 = .ok (.iload 4, 2) := by decide +kernel
theorem dX13_checkLine_183 : decode cX13_checkLine 183 = .ok (.ifCond .eq 12, 3) := by decide +kernel
theorem dX13_checkLine_186 : decode cX13_checkLine 186 = .ok (.aload_n 0, 1) := by decide +kernel
theorem dX13_checkLine_187 : decode cX13_checkLine 187 = .ok (.iload_n 1, 1) := by decide +kernel
theorem dX13_checkLine_188 : decode cX13_checkLine 188 = .ok (.iload_n 3, 1) := by decide +kernel
theorem dX13_checkLine_189 : decode cX13_checkLine 189 = .ok (.invokevirtual 824, 3) := by decide +kernel
theorem dX13_checkLine_192 : decode cX13_checkLine 192 = .ok (.goto 250, 3) := by decide +kernel
theorem dX13_checkLine_195 : decode cX13_checkLine 195 = .ok (.aload_n 0, 1) := by decide +kernel
theorem dX13_checkLine_196 : decode cX13_checkLine 196 = .ok (.getfield 126, 3) := by decide +kernel
theorem dX13_checkLine_199 : decode cX13_checkLine 199 = .ok (.iload_n 1, 1) := by decide +kernel
theorem dX13_checkLine_200 : decode cX13_checkLine 200 = .ok (.iaload, 1) := by decide +kernel
theorem dX13_checkLine_201 : decode cX13_checkLine 201 = .ok (.bipush 14, 2) := by decide +kernel
theorem dX13_checkLine_203 : decode cX13_checkLine 203 = .ok (.if_icmp .ne 39, 3) := by decide +kernel
theorem dX13_checkLine_206 : decode cX13_checkLine 206 = .ok (.aload_n 0, 1) := by decide +kernel
theorem dX13_checkLine_207 : decode cX13_checkLine 207 = .ok (.aload_n 0, 1) := by decide +kernel
theorem dX13_checkLine_208 : decode cX13_checkLine 208 = .ok (.getfield 72, 3) := by decide +kernel
theorem dX13_checkLine_21 : decode cX13_checkLine 21 = .ok (.iload_n 1, 1) := by decide +kernel
theorem dX13_checkLine_211 : decode cX13_checkLine 211 = .ok (.iconst 0, 1) := by decide +kernel
theorem dX13_checkLine_212 : decode cX13_checkLine 212 = .ok (.aload_n 0, 1) := by decide +kernel
theorem dX13_checkLine_213 : decode cX13_checkLine 213 = .ok (.getfield 630, 3) := by decide +kernel
theorem dX13_checkLine_216 : decode cX13_checkLine 216 = .ok (.aload_n 0, 1) := by decide +kernel
theorem dX13_checkLine_217 : decode cX13_checkLine 217 = .ok (.getfield 135, 3) := by decide +kernel
theorem dX13_checkLine_22 : decode cX13_checkLine 22 = .ok (.iaload, 1) := by decide +kernel
theorem dX13_checkLine_220 : decode cX13_checkLine 220 = .ok (.iload_n 1, 1) := by decide +kernel
theorem dX13_checkLine_221 : decode cX13_checkLine 221 = .ok (.iaload, 1) := by decide +kernel
theorem dX13_checkLine_222 : decode cX13_checkLine 222 = .ok (.invokevirtual 788, 3) := by decide +kernel
theorem dX13_checkLine_225 : decode cX13_checkLine 225 = .ok (.ifCond .ge 217, 3) := by decide +kernel
theorem dX13_checkLine_228 : decode cX13_checkLine 228 = .ok (.aload_n 0, 1) := by decide +kernel
theorem dX13_checkLine_229 : decode cX13_checkLine 229 = .ok (.iconst 4, 1) := by decide +kernel
theorem dX13_checkLine_23 : decode cX13_checkLine 23 = .ok (.bipush 6, 2) := by decide +kernel
theorem dX13_checkLine_230 : decode cX13_checkLine 230 = .ok (.aload_n 0, 1) := by decide +kernel
theorem dX13_checkLine_231 : decode cX13_checkLine 231 = .ok (.getfield 138, 3) := by decide +kernel
theorem dX13_checkLine_234 : decode cX13_checkLine 234 = .ok (.iload_n 1, 1) := by decide +kernel
theorem dX13_checkLine_235 : decode cX13_checkLine 235 = .ok (.iaload, 1) := by decide +kernel
theorem dX13_checkLine_236 : decode cX13_checkLine 236 = .ok (.invokevirtual 795, 3) := by decide +kernel
theorem dX13_checkLine_239 : decode cX13_checkLine 239 = .ok (.goto 203, 3) := by decide +kernel
theorem dX13_checkLine_242 : decode cX13_checkLine 242 = .ok (.aload_n 0, 1) := by decide +kernel
theorem dX13_checkLine_243 : decode cX13_checkLine 243 = .ok (.getfield 126, 3) := by decide +kernel
theorem dX13_checkLine_246 : decode cX13_checkLine 246 = .ok (.iload_n 1, 1) := by decide +kernel
theorem dX13_checkLine_247 : decode cX13_checkLine 247 = .ok (.iaload, 1) := by decide +kernel
theorem dX13_checkLine_248 : decode cX13_checkLine 248 = .ok (.bipush 16, 2) := by decide +kernel
theorem dX13_checkLine_25 : decode cX13_checkLine 25 = .ok (.if_icmp .eq 46, 3) := by decide +kernel
theorem dX13_checkLine_250 : decode cX13_checkLine 250 = .ok (.if_icmp .ne 54, 3) := by decide +kernel
theorem dX13_checkLine_253 : decode cX13_checkLine 253 = .ok (.aload_n 0, 1) := by decide +kernel
theorem dX13_checkLine_254 : decode cX13_checkLine 254 = .ok (.aload_n 0, 1) := by decide +kernel
theorem dX13_checkLine_255 : decode cX13_checkLine 255 = .ok (.getfield 135, 3) := by decide +kernel
theorem dX13_checkLine_258 : decode cX13_checkLine 258 = .ok (.iload_n 1, 1) := by decide +kernel
theorem dX13_checkLine_259 : decode cX13_checkLine 259 = .ok (.iaload, 1) := by decide +kernel
theorem dX13_checkLine_260 : decode cX13_checkLine 260 = .ok (.invokevirtual 827, 3) := by decide +kernel
theorem dX13_checkLine_263 : decode cX13_checkLine 263 = .ok (.ifCond .ne 14, 3) := by decide +kernel
theorem dX13_checkLine_266 : decode cX13_checkLine 266 = .ok (.aload_n 0, 1) := by decide +kernel
theorem dX13_checkLine_267 : decode cX13_checkLine 267 = .ok (.iconst 4, 1) := by decide +kernel
theorem dX13_checkLine_268 : decode cX13_checkLine 268 = .ok (.aload_n 0, 1) := by decide +kernel
theorem dX13_checkLine_269 : decode cX13_checkLine 269 = .ok (.getfield 138, 3) := by decide +kernel
theorem dX13_checkLine_272 : decode cX13_checkLine 272 = .ok (.iload_n 1, 1) := by decide +kernel
theorem dX13_checkLine_273 : decode cX13_checkLine 273 = .ok (.iaload, 1) := by decide +kernel
theorem dX13_checkLine_274 : decode cX13_checkLine 274 = .ok (.invokevirtual 795, 3) := by decide +kernel
theorem dX13_checkLine_277 : decode cX13_checkLine 277 = .ok (.aload_n 0, 1) := by decide +kernel
theorem dX13_checkLine_278 : decode cX13_checkLine 278 = .ok (.aload_n 0, 1) := by decide +kernel
theorem dX13_checkLine_279 : decode cX13_checkLine 279 = .ok (.getfield 141, 3) := by decide +kernel
theorem dX13_checkLine_28 : decode cX13_checkLine 28 = .ok (.aload_n 0, 1) := by decide +kernel
theorem dX13_checkLine_282 : decode cX13_checkLine 282 = .ok (.iload_n 1, 1) := by decide +kernel
theorem dX13_checkLine_283 : decode cX13_checkLine 283 = .ok (.iaload, 1) := by decide +kernel
theorem dX13_checkLine_284 : decode cX13_checkLine 284 = .ok (.invokevirtual 827, 3) := by decide +kernel
theorem dX13_checkLine_287 : decode cX13_checkLine 287 = .ok (.ifCond .ne 155, 3) := by decide +kernel
theorem dX13_checkLine_29 : decode cX13_checkLine 29 = .ok (.getfield 126, 3) := by decide +kernel
theorem dX13_checkLine_290 : decode cX13_checkLine 290 = .ok (.aload_n 0, 1) := by decide +kernel
theorem dX13_checkLine_291 : decode cX13_checkLine 291 = .ok (.iconst 4, 1) := by decide +kernel
theorem dX13_checkLine_292 : decode cX13_checkLine 292 = .ok (.aload_n 0, 1) := by decide +kernel
theorem dX13_checkLine_293 : decode cX13_checkLine 293 = .ok (.getfield 144, 3) := by decide +kernel
theorem dX13_checkLine_296 : decode cX13_checkLine 296 = .ok (.iload_n 1, 1) := by decide +kernel
theorem dX13_checkLine_297 : decode cX13_checkLine 297 = .ok (.iaload, 1) := by decide +kernel
theorem dX13_checkLine_298 : decode cX13_checkLine 298 = .ok (.invokevirtual 795, 3) := by decide +kernel
theorem dX13_checkLine_301 : decode cX13_checkLine 301 = .ok (.goto 141, 3) := by decide +kernel
theorem dX13_checkLine_304 : decode cX13_checkLine 304 = .ok (.aload_n 0, 1) := by decide +kernel
theorem dX13_checkLine_305 : decode cX13_checkLine 305 = .ok (.getfield 126, 3) := by decide +kernel
theorem dX13_checkLine_308 : decode cX13_checkLine 308 = .ok (.iload_n 1, 1) := by decide +kernel
theorem dX13_checkLine_309 : decode cX13_checkLine 309 = .ok (.iaload, 1) := by decide +kernel
theorem dX13_checkLine_310 : decode cX13_checkLine 310 = .ok (.bipush 9, 2) := by decide +kernel
theorem dX13_checkLine_312 : decode cX13_checkLine 312 = .ok (.if_icmp .eq 12, 3) := by decide +kernel
theorem dX13_checkLine_315 : decode cX13_checkLine 315 = .ok (.aload_n 0, 1) := by decide +kernel
theorem dX13_checkLine_316 : decode cX13_checkLine 316 = .ok (.getfield 162, 3) := by decide +kernel
theorem dX13_checkLine_319 : decode cX13_checkLine 319 = .ok (.iload_n 1, 1) := by decide +kernel
theorem dX13_checkLine_32 : decode cX13_checkLine 32 = .ok (.iload_n 1, 1) := by decide +kernel
theorem dX13_checkLine_320 : decode cX13_checkLine 320 = .ok (.iaload, 1) := by decide +kernel
theorem dX13_checkLine_321 : decode cX13_checkLine 321 = .ok (.ifCond .ne 48, 3) := by decide +kernel
theorem dX13_checkLine_324 : decode cX13_checkLine 324 = .ok (.iload_n 3, 1) := by decide +kernel
theorem dX13_checkLine_325 : decode cX13_checkLine 325 = .ok (.ifCond .lt 30, 3) := by decide +kernel
theorem dX13_checkLine_328 : decode cX13_checkLine 328 = .ok (.aload_n 0, 1) := by decide +kernel
theorem dX13_checkLine_329 : decode cX13_checkLine 329 = .ok (.aload_n 0, 1) := by decide +kernel
theorem dX13_checkLine_33 : decode cX13_checkLine 33 = .ok (.iaload, 1) := by decide +kernel
theorem dX13_checkLine_330 : decode cX13_checkLine 330 = .ok (.getfield 75, 3) := by decide +kernel
theorem dX13_checkLine_333 : decode cX13_checkLine 333 = .ok (.bipush 6, 2) := by decide +kernel
theorem dX13_checkLine_335 : decode cX13_checkLine 335 = .ok (.iload_n 3, 1) := by decide +kernel
theorem dX13_checkLine_336 : decode cX13_checkLine 336 = .ok (.imul, 1) := by decide +kernel
theorem dX13_checkLine_337 : decode cX13_checkLine 337 = .ok (.aload_n 0, 1) := by decide +kernel
theorem dX13_checkLine_338 : decode cX13_checkLine 338 = .ok (.getfield 78, 3) := by decide +kernel
theorem dX13_checkLine_34 : decode cX13_checkLine 34 = .ok (.bipush 18, 2) := by decide +kernel
theorem dX13_checkLine_341 : decode cX13_checkLine 341 = .ok (.iload_n 3, 1) := by decide +kernel
theorem dX13_checkLine_342 : decode cX13_checkLine 342 = .ok (.iaload, 1) := by decide +kernel
theorem dX13_checkLine_343 : decode cX13_checkLine 343 = .ok (.aload_n 0, 1) := by decide +kernel
theorem dX13_checkLine_344 : decode cX13_checkLine 344 = .ok (.getfield 135, 3) := by decide +kernel
theorem dX13_checkLine_347 : decode cX13_checkLine 347 = .ok (.iload_n 1, 1) := by decide +kernel
theorem dX13_checkLine_348 : decode cX13_checkLine 348 = .ok (.iaload, 1) := by decide +kernel
theorem dX13_checkLine_349 : decode cX13_checkLine 349 = .ok (.invokevirtual 788, 3) := by decide +kernel
theorem dX13_checkLine_352 : decode cX13_checkLine 352 = .ok (.ifCond .ge 90, 3) := by decide +kernel
theorem dX13_checkLine_355 : decode cX13_checkLine 355 = .ok (.aload_n 0, 1) := by decide +kernel
theorem dX13_checkLine_356 : decode cX13_checkLine 356 = .ok (.iconst 4, 1) := by decide +kernel
theorem dX13_checkLine_357 : decode cX13_checkLine 357 = .ok (.aload_n 0, 1) := by decide +kernel
theorem dX13_checkLine_358 : decode cX13_checkLine 358 = .ok (.getfield 138, 3) := by decide +kernel
theorem dX13_checkLine_36 : decode cX13_checkLine 36 = .ok (.if_icmp .eq 35, 3) := by decide +kernel
theorem dX13_checkLine_361 : decode cX13_checkLine 361 = .ok (.iload_n 1, 1) := by decide +kernel
theorem dX13_checkLine_362 : decode cX13_checkLine 362 = .ok (.iaload, 1) := by decide +kernel
theorem dX13_checkLine_363 : decode cX13_checkLine 363 = .ok (.invokevirtual 795, 3) := by decide +kernel
theorem dX13_checkLine_366 : decode cX13_checkLine 366 = .ok (.goto 76, 3) := by decide +kernel
theorem dX13_checkLine_369 : decode cX13_checkLine 369 = .ok (.aload_n 0, 1) := by decide +kernel
theorem dX13_checkLine_370 : decode cX13_checkLine 370 = .ok (.getfield 126, 3) := by decide +kernel
theorem dX13_checkLine_373 : decode cX13_checkLine 373 = .ok (.iload_n 1, 1) := by decide +kernel
theorem dX13_checkLine_374 : decode cX13_checkLine 374 = .ok (.iaload, 1) := by decide +kernel
theorem dX13_checkLine_375 : decode cX13_checkLine 375 = .ok (.bipush 12, 2) := by decide +kernel
theorem dX13_checkLine_377 : decode cX13_checkLine 377 = .ok (.if_icmp .eq 24, 3) := by decide +kernel
theorem dX13_checkLine_380 : decode cX13_checkLine 380 = .ok (.aload_n 0, 1) := by decide +kernel
theorem dX13_checkLine_381 : decode cX13_checkLine 381 = .ok (.getfield 126, 3) := by decide +kernel
theorem dX13_checkLine_384 : decode cX13_checkLine 384 = .ok (.iload_n 1, 1) := by decide +kernel
theorem dX13_checkLine_385 : decode cX13_checkLine 385 = .ok (.iaload, 1) := by decide +kernel
theorem dX13_checkLine_386 : decode cX13_checkLine 386 = .ok (.bipush 13, 2) := by decide +kernel
theorem dX13_checkLine_388 : decode cX13_checkLine 388 = .ok (.if_icmp .eq 13, 3) := by decide +kernel
theorem dX13_checkLine_39 : decode cX13_checkLine 39 = .ok (.aload_n 0, 1) := by decide +kernel
theorem dX13_checkLine_391 : decode cX13_checkLine 391 = .ok (.aload_n 0, 1) := by decide +kernel
theorem dX13_checkLine_392 : decode cX13_checkLine 392 = .ok (.getfield 162, 3) := by decide +kernel
theorem dX13_checkLine_395 : decode cX13_checkLine 395 = .ok (.iload_n 1, 1) := by decide +kernel
theorem dX13_checkLine_396 : decode cX13_checkLine 396 = .ok (.iaload, 1) := by decide +kernel
theorem dX13_checkLine_397 : decode cX13_checkLine 397 = .ok (.iconst 1, 1) := by decide +kernel
theorem dX13_checkLine_398 : decode cX13_checkLine 398 = .ok (.if_icmp .ne 44, 3) := by decide +kernel
theorem dX13_checkLine_4 : decode cX13_checkLine 4 = .ok (.iload_n 1, 1) := by decide +kernel
theorem dX13_checkLine_40 : decode cX13_checkLine 40 = .ok (.getfield 126, 3) := by decide +kernel
theorem dX13_checkLine_401 : decode cX13_checkLine 401 = .ok (.iload_n 3, 1) := by decide +kernel
theorem dX13_checkLine_402 : decode cX13_checkLine 402 = .ok (.ifCond .lt 29, 3) := by decide +kernel
theorem dX13_checkLine_405 : decode cX13_checkLine 405 = .ok (.aload_n 0, 1) := by decide +kernel
theorem dX13_checkLine_406 : decode cX13_checkLine 406 = .ok (.aload_n 0, 1) := by decide +kernel
theorem dX13_checkLine_407 : decode cX13_checkLine 407 = .ok (.getfield 81, 3) := by decide +kernel
theorem dX13_checkLine_410 : decode cX13_checkLine 410 = .ok (.iconst 4, 1) := by decide +kernel
theorem dX13_checkLine_411 : decode cX13_checkLine 411 = .ok (.iload_n 3, 1) := by decide +kernel
theorem dX13_checkLine_412 : decode cX13_checkLine 412 = .ok (.imul, 1) := by decide +kernel
theorem dX13_checkLine_413 : decode cX13_checkLine 413 = .ok (.aload_n 0, 1) := by decide +kernel
theorem dX13_checkLine_414 : decode cX13_checkLine 414 = .ok (.getfield 84, 3) := by decide +kernel
theorem dX13_checkLine_417 : decode cX13_checkLine 417 = .ok (.iload_n 3, 1) := by decide +kernel
theorem dX13_checkLine_418 : decode cX13_checkLine 418 = .ok (.iaload, 1) := by decide +kernel
theorem dX13_checkLine_419 : decode cX13_checkLine 419 = .ok (.aload_n 0, 1) := by decide +kernel
theorem dX13_checkLine_420 : decode cX13_checkLine 420 = .ok (.getfield 135, 3) := by decide +kernel
theorem dX13_checkLine_423 : decode cX13_checkLine 423 = .ok (.iload_n 1, 1) := by decide +kernel
theorem dX13_checkLine_424 : decode cX13_checkLine 424 = .ok (.iaload, 1) := by decide +kernel
theorem dX13_checkLine_425 : decode cX13_checkLine 425 = .ok (.invokevirtual 788, 3) := by decide +kernel
theorem dX13_checkLine_428 : decode cX13_checkLine 428 = .ok (.ifCond .ge 14, 3) := by decide +kernel
theorem dX13_checkLine_43 : decode cX13_checkLine 43 = .ok (.iload_n 1, 1) := by decide +kernel
theorem dX13_checkLine_431 : decode cX13_checkLine 431 = .ok (.aload_n 0, 1) := by decide +kernel
theorem dX13_checkLine_432 : decode cX13_checkLine 432 = .ok (.iconst 4, 1) := by decide +kernel
theorem dX13_checkLine_433 : decode cX13_checkLine 433 = .ok (.aload_n 0, 1) := by decide +kernel
theorem dX13_checkLine_434 : decode cX13_checkLine 434 = .ok (.getfield 138, 3) := by decide +kernel
theorem dX13_checkLine_437 : decode cX13_checkLine 437 = .ok (.iload_n 1, 1) := by decide +kernel
theorem dX13_checkLine_438 : decode cX13_checkLine 438 = .ok (.iaload, 1) := by decide +kernel
theorem dX13_checkLine_439 : decode cX13_checkLine 439 = .ok (.invokevirtual 795, 3) := by decide +kernel
theorem dX13_checkLine_44 : decode cX13_checkLine 44 = .ok (.iaload, 1) := by decide +kernel
theorem dX13_checkLine_442 : decode cX13_checkLine 442 = .ok (.aload_n 0, 1) := by decide +kernel
theorem dX13_checkLine_443 : decode cX13_checkLine 443 = .ok (.getfield 141, 3) := by decide +kernel
theorem dX13_checkLine_446 : decode cX13_checkLine 446 = .ok (.iload_n 1, 1) := by decide +kernel
theorem dX13_checkLine_447 : decode cX13_checkLine 447 = .ok (.iaload, 1) := by decide +kernel
theorem dX13_checkLine_448 : decode cX13_checkLine 448 = .ok (.ifCond .lt 59, 3) := by decide +kernel
theorem dX13_checkLine_45 : decode cX13_checkLine 45 = .ok (.bipush 15, 2) := by decide +kernel
theorem dX13_checkLine_451 : decode cX13_checkLine 451 = .ok (.aload_n 0, 1) := by decide +kernel
theorem dX13_checkLine_452 : decode cX13_checkLine 452 = .ok (.getfield 126, 3) := by decide +kernel
theorem dX13_checkLine_455 : decode cX13_checkLine 455 = .ok (.iload_n 1, 1) := by decide +kernel
theorem dX13_checkLine_456 : decode cX13_checkLine 456 = .ok (.iaload, 1) := by decide +kernel
theorem dX13_checkLine_457 : decode cX13_checkLine 457 = .ok (.iconst 1, 1) := by decide +kernel
theorem dX13_checkLine_458 : decode cX13_checkLine 458 = .ok (.if_icmp .eq 49, 3) := by decide +kernel
theorem dX13_checkLine_461 : decode cX13_checkLine 461 = .ok (.aload_n 0, 1) := by decide +kernel
theorem dX13_checkLine_462 : decode cX13_checkLine 462 = .ok (.getfield 126, 3) := by decide +kernel
theorem dX13_checkLine_465 : decode cX13_checkLine 465 = .ok (.iload_n 1, 1) := by decide +kernel
theorem dX13_checkLine_466 : decode cX13_checkLine 466 = .ok (.iaload, 1) := by decide +kernel
theorem dX13_checkLine_467 : decode cX13_checkLine 467 = .ok (.bipush 16, 2) := by decide +kernel
theorem dX13_checkLine_469 : decode cX13_checkLine 469 = .ok (.if_icmp .eq 38, 3) := by decide +kernel
theorem dX13_checkLine_47 : decode cX13_checkLine 47 = .ok (.if_icmp .eq 24, 3) := by decide +kernel
theorem dX13_checkLine_472 : decode cX13_checkLine 472 = .ok (.aload_n 0, 1) := by decide +kernel
theorem dX13_checkLine_473 : decode cX13_checkLine 473 = .ok (.aload_n 0, 1) := by decide +kernel
theorem dX13_checkLine_474 : decode cX13_checkLine 474 = .ok (.getfield 141, 3) := by decide +kernel
theorem dX13_checkLine_477 : decode cX13_checkLine 477 = .ok (.iload_n 1, 1) := by decide +kernel
theorem dX13_checkLine_478 : decode cX13_checkLine 478 = .ok (.iaload, 1) := by decide +kernel
theorem dX13_checkLine_479 : decode cX13_checkLine 479 = .ok (.sipush 2000, 3) := by decide +kernel
theorem dX13_checkLine_482 : decode cX13_checkLine 482 = .ok (.iload_n 2, 1) := by decide +kernel
theorem dX13_checkLine_483 : decode cX13_checkLine 483 = .ok (.iadd, 1) := by decide +kernel
theorem dX13_checkLine_484 : decode cX13_checkLine 484 = .ok (.aload_n 0, 1) := by decide +kernel
theorem dX13_checkLine_485 : decode cX13_checkLine 485 = .ok (.getfield 168, 3) := by decide +kernel
theorem dX13_checkLine_488 : decode cX13_checkLine 488 = .ok (.iload_n 1, 1) := by decide +kernel
theorem dX13_checkLine_489 : decode cX13_checkLine 489 = .ok (.iaload, 1) := by decide +kernel
theorem dX13_checkLine_490 : decode cX13_checkLine 490 = .ok (.invokevirtual 804, 3) := by decide +kernel
theorem dX13_checkLine_493 : decode cX13_checkLine 493 = .ok (.ifCond .ge 14, 3) := by decide +kernel
theorem dX13_checkLine_496 : decode cX13_checkLine 496 = .ok (.aload_n 0, 1) := by decide +kernel
theorem dX13_checkLine_497 : decode cX13_checkLine 497 = .ok (.iconst 4, 1) := by decide +kernel
theorem dX13_checkLine_498 : decode cX13_checkLine 498 = .ok (.aload_n 0, 1) := by decide +kernel
theorem dX13_checkLine_499 : decode cX13_checkLine 499 = .ok (.getfield 144, 3) := by decide +kernel
theorem dX13_checkLine_5 : decode cX13_checkLine 5 = .ok (.iaload, 1) := by decide +kernel
theorem dX13_checkLine_50 : decode cX13_checkLine 50 = .ok (.aload_n 0, 1) := by decide +kernel
theorem dX13_checkLine_502 : decode cX13_checkLine 502 = .ok (.iload_n 1, 1) := by decide +kernel
theorem dX13_checkLine_503 : decode cX13_checkLine 503 = .ok (.iaload, 1) := by decide +kernel
theorem dX13_checkLine_504 : decode cX13_checkLine 504 = .ok (.invokevirtual 795, 3) := by decide +kernel
theorem dX13_checkLine_507 : decode cX13_checkLine 507 = .ok (.return_, 1) := by decide +kernel
theorem dX13_checkLine_51 : decode cX13_checkLine 51 = .ok (.getfield 126, 3) := by decide +kernel
theorem dX13_checkLine_54 : decode cX13_checkLine 54 = .ok (.iload_n 1, 1) := by decide +kernel
theorem dX13_checkLine_55 : decode cX13_checkLine 55 = .ok (.iaload, 1) := by decide +kernel
theorem dX13_checkLine_56 : decode cX13_checkLine 56 = .ok (.bipush 20, 2) := by decide +kernel
theorem dX13_checkLine_58 : decode cX13_checkLine 58 = .ok (.if_icmp .ne 17, 3) := by decide +kernel
theorem dX13_checkLine_6 : decode cX13_checkLine 6 = .ok (.istore_n 2, 1) := by decide +kernel
theorem dX13_checkLine_61 : decode cX13_checkLine 61 = .ok (.aload_n 0, 1) := by decide +kernel
theorem dX13_checkLine_62 : decode cX13_checkLine 62 = .ok (.getfield 162, 3) := by decide +kernel
theorem dX13_checkLine_65 : decode cX13_checkLine 65 = .ok (.iload_n 1, 1) := by decide +kernel
theorem dX13_checkLine_66 : decode cX13_checkLine 66 = .ok (.iaload, 1) := by decide +kernel
theorem dX13_checkLine_67 : decode cX13_checkLine 67 = .ok (.iconst 3, 1) := by decide +kernel
theorem dX13_checkLine_68 : decode cX13_checkLine 68 = .ok (.if_icmp .ne 7, 3) := by decide +kernel
theorem dX13_checkLine_7 : decode cX13_checkLine 7 = .ok (.aload_n 0, 1) := by decide +kernel
theorem dX13_checkLine_71 : decode cX13_checkLine 71 = .ok (.iconst 1, 1) := by decide +kernel
theorem dX13_checkLine_72 : decode cX13_checkLine 72 = .ok (.goto 4, 3) := by decide +kernel
theorem dX13_checkLine_75 : decode cX13_checkLine 75 = .ok (.iconst 0, 1) := by decide +kernel
theorem dX13_checkLine_76 : decode cX13_checkLine 76 = .ok (.istore 4, 2) := by decide +kernel
theorem dX13_checkLine_78 : decode cX13_checkLine 78 = .ok (.aload_n 0, 1) := by decide +kernel
theorem dX13_checkLine_79 : decode cX13_checkLine 79 = .ok (.getfield 126, 3) := by decide +kernel
theorem dX13_checkLine_8 : decode cX13_checkLine 8 = .ok (.sipush 2000, 3) := by decide +kernel
theorem dX13_checkLine_82 : decode cX13_checkLine 82 = .ok (.iload_n 1, 1) := by decide +kernel
theorem dX13_checkLine_83 : decode cX13_checkLine 83 = .ok (.iaload, 1) := by decide +kernel
theorem dX13_checkLine_84 : decode cX13_checkLine 84 = .ok (.iconst 1, 1) := by decide +kernel
theorem dX13_checkLine_85 : decode cX13_checkLine 85 = .ok (.if_icmp .ne 48, 3) := by decide +kernel
theorem dX13_checkLine_88 : decode cX13_checkLine 88 = .ok (.aload_n 0, 1) := by decide +kernel
theorem dX13_checkLine_89 : decode cX13_checkLine 89 = .ok (.getfield 135, 3) := by decide +kernel
theorem dX13_checkLine_92 : decode cX13_checkLine 92 = .ok (.iload_n 1, 1) := by decide +kernel
theorem dX13_checkLine_93 : decode cX13_checkLine 93 = .ok (.iaload, 1) := by decide +kernel
theorem dX13_checkLine_94 : decode cX13_checkLine 94 = .ok (.ifCond .lt 348, 3) := by decide +kernel
theorem dX13_checkLine_97 : decode cX13_checkLine 97 = .ok (.aload_n 0, 1) := by decide +kernel
theorem dX13_checkLine_98 : decode cX13_checkLine 98 = .ok (.aload_n 0, 1) := by decide +kernel
theorem dX13_checkLine_99 : decode cX13_checkLine 99 = .ok (.getfield 54, 3) := by decide +kernel
noncomputable def k_X13_checkLine_442 (l1 : Int32) (l2 : Int32) (s : t_S) : Option (t_S) :=
 if t_ix l1 401 = true then
  if (s.1 993 (l1.toNatClampNeg)) < (0 : Int32) then (some (s))
 else (if (s.1 988 (l1.toNatClampNeg)) = (1 : Int32) then (some (s))
 else (if (s.1 988 (l1.toNatClampNeg)) = (16 : Int32) then (some (s))
 else ((f_X13_varOf (s.1 993 (l1.toNatClampNeg)) ((2000 : Int32) + l2) (s.1 1002 (l1.toNatClampNeg)) s).bind (fun r2 =>
 if (0 : Int32) ≤ r2 then (some (s))
 else ((f_X13_wrong (4 : Int32) (s.1 994 (l1.toNatClampNeg)) s).bind (fun r3 =>
 some (r3)))))))
else none
set_option maxRecDepth 4000 in
set_option maxHeartbeats 1000000 in
theorem B_X13_checkLine_442 {D : va_G} {cy : Nat → ClassId} {ad : Nat → Nat} {bs : Nat} {X : State → Heap → Prop} (l1 : Int32) (l2 : Int32) (s : t_S) (Q : t_S → Prop) (hk : t_hk (k_X13_checkLine_442 l1 l2 s) Q) : mj_G D cy ad bs X cX13_checkLine 5 yX13_checkLine.cls none yX13_checkLine.name 3 0 0 1065 (t_P (fun v s' => v = none ∧ Q (s'))) 442 [(0, .ref 950), (1, .int l1), (2, .int l2)] [] (t_m s) 1065 0 0 := by
  refine mj_aload_n dX13_checkLine_442 0 rfl ?_
  refine t_getR 993 dX13_checkLine_443 F_X13_141 qr_950_71 ?_
  refine mj_iload_n dX13_checkLine_446 1 rfl ?_
  refine t_chkK hk (fun c0 hk => ?_)
  refine t_iald dX13_checkLine_447 qa_993 (t_ixv c0) ?_
  refine mj_if_lt 507 dX13_checkLine_448 (by decide) (fun z => t_posK hk z (fun hk => ?_)) (fun z => t_negK hk z (fun hk => ?_))
  · exact t_somK hk (fun hf => t_vret dX13_checkLine_507 rfl ⟨rfl, hf⟩ (Nat.le_of_ble_eq_true rfl) (Nat.le_of_ble_eq_true rfl))
  · refine mj_aload_n dX13_checkLine_451 0 rfl ?_
    refine t_getR 988 dX13_checkLine_452 F_X13_126 qr_950_66 ?_
    refine mj_iload_n dX13_checkLine_455 1 rfl ?_
    refine t_iald dX13_checkLine_456 qa_988 (t_ixv c0) ?_
    refine mj_iconst (v := 1) dX13_checkLine_457 (by decide) ?_
    refine mj_icmp_eq 507 dX13_checkLine_458 (by decide) (fun z => t_posK hk z (fun hk => ?_)) (fun z => t_negK hk z (fun hk => ?_))
    · exact t_somK hk (fun hf => t_vret dX13_checkLine_507 rfl ⟨rfl, hf⟩ (Nat.le_of_ble_eq_true rfl) (Nat.le_of_ble_eq_true rfl))
    · refine mj_aload_n dX13_checkLine_461 0 rfl ?_
      refine t_getR 988 dX13_checkLine_462 F_X13_126 qr_950_66 ?_
      refine mj_iload_n dX13_checkLine_465 1 rfl ?_
      refine t_iald dX13_checkLine_466 qa_988 (t_ixv c0) ?_
      refine mj_bipush (v := 16) dX13_checkLine_467 (by decide) ?_
      refine mj_icmp_eq 507 dX13_checkLine_469 (by decide) (fun z => t_posK hk z (fun hk => ?_)) (fun z => t_negK hk z (fun hk => ?_))
      · exact t_somK hk (fun hf => t_vret dX13_checkLine_507 rfl ⟨rfl, hf⟩ (Nat.le_of_ble_eq_true rfl) (Nat.le_of_ble_eq_true rfl))
      · refine mj_aload_n dX13_checkLine_472 0 rfl ?_
        refine mj_aload_n dX13_checkLine_473 0 rfl ?_
        refine t_getR 993 dX13_checkLine_474 F_X13_141 qr_950_71 ?_
        refine mj_iload_n dX13_checkLine_477 1 rfl ?_
        refine t_iald dX13_checkLine_478 qa_993 (t_ixv c0) ?_
        refine mj_sipush (v := 2000) dX13_checkLine_479 (by decide) ?_
        refine mj_iload_n dX13_checkLine_482 2 rfl ?_
        refine mj_iadd dX13_checkLine_483 ?_
        refine mj_aload_n dX13_checkLine_484 0 rfl ?_
        refine t_getR 1002 dX13_checkLine_485 F_X13_168 qr_950_80 ?_
        refine mj_iload_n dX13_checkLine_488 1 rfl ?_
        refine t_iald dX13_checkLine_489 qa_1002 (t_ixv c0) ?_
        refine t_bndK hk (fun r2 er2 hk => ?_)
        refine t_callViP dX13_checkLine_490 M_X13_varOf (C_X13_varOf _ _ _ _ _ er2) ML_X13_804 IM_X13_varOf SE_X13_varOf qc_950 rfl (As := [.int (s.1 993 (l1.toNatClampNeg)), .int ((2000 : Int32) + l2), .int (s.1 1002 (l1.toNatClampNeg))]) rfl rfl (Nat.le_of_ble_eq_true rfl) (Nat.le_of_ble_eq_true rfl) (Nat.le_of_ble_eq_true rfl) (Nat.le_of_ble_eq_true rfl) ?_
        refine mj_if_ge 507 dX13_checkLine_493 (by decide) (fun z => t_posK hk z (fun hk => ?_)) (fun z => t_negK hk z (fun hk => ?_))
        · exact t_somK hk (fun hf => t_vret dX13_checkLine_507 rfl ⟨rfl, hf⟩ (Nat.le_of_ble_eq_true rfl) (Nat.le_of_ble_eq_true rfl))
        · refine mj_aload_n dX13_checkLine_496 0 rfl ?_
          refine mj_iconst (v := 4) dX13_checkLine_497 (by decide) ?_
          refine mj_aload_n dX13_checkLine_498 0 rfl ?_
          refine t_getR 994 dX13_checkLine_499 F_X13_144 qr_950_72 ?_
          refine mj_iload_n dX13_checkLine_502 1 rfl ?_
          refine t_iald dX13_checkLine_503 qa_994 (t_ixv c0) ?_
          refine t_bndK hk (fun r3 er3 hk => ?_)
          refine t_callVvE dX13_checkLine_504 M_X13_wrong (C_X13_wrong _ _ _ _ er3) ML_X13_795 IM_X13_wrong SE_X13_wrong qc_950 rfl (As := [.int 4, .int (s.1 994 (l1.toNatClampNeg))]) rfl rfl (Nat.le_of_ble_eq_true rfl) (Nat.le_of_ble_eq_true rfl) (Nat.le_of_ble_eq_true rfl) (Nat.le_of_ble_eq_true rfl) ?_
          exact t_somK hk (fun hf => t_vret dX13_checkLine_507 rfl ⟨rfl, hf⟩ (Nat.le_of_ble_eq_true rfl) (Nat.le_of_ble_eq_true rfl))
noncomputable def k_X13_checkLine_431 (l1 : Int32) (l2 : Int32) (s : t_S) : Option (t_S) :=
 if t_ix l1 401 = true then
  (f_X13_wrong (4 : Int32) (s.1 992 (l1.toNatClampNeg)) s).bind (fun r2 =>
 k_X13_checkLine_442 l1 l2 r2)
else none
set_option maxRecDepth 4000 in
set_option maxHeartbeats 1000000 in
theorem B_X13_checkLine_431 {D : va_G} {cy : Nat → ClassId} {ad : Nat → Nat} {bs : Nat} {X : State → Heap → Prop} (l1 : Int32) (l2 : Int32) (s : t_S) (Q : t_S → Prop) (hk : t_hk (k_X13_checkLine_431 l1 l2 s) Q) : mj_G D cy ad bs X cX13_checkLine 5 yX13_checkLine.cls none yX13_checkLine.name 3 0 0 1065 (t_P (fun v s' => v = none ∧ Q (s'))) 431 [(0, .ref 950), (1, .int l1), (2, .int l2)] [] (t_m s) 1065 0 0 := by
  refine mj_aload_n dX13_checkLine_431 0 rfl ?_
  refine mj_iconst (v := 4) dX13_checkLine_432 (by decide) ?_
  refine mj_aload_n dX13_checkLine_433 0 rfl ?_
  refine t_getR 992 dX13_checkLine_434 F_X13_138 qr_950_70 ?_
  refine mj_iload_n dX13_checkLine_437 1 rfl ?_
  refine t_chkK hk (fun c0 hk => ?_)
  refine t_iald dX13_checkLine_438 qa_992 (t_ixv c0) ?_
  refine t_bndK hk (fun r2 er2 hk => ?_)
  refine t_callVvE dX13_checkLine_439 M_X13_wrong (C_X13_wrong _ _ _ _ er2) ML_X13_795 IM_X13_wrong SE_X13_wrong qc_950 rfl (As := [.int 4, .int (s.1 992 (l1.toNatClampNeg))]) rfl rfl (Nat.le_of_ble_eq_true rfl) (Nat.le_of_ble_eq_true rfl) (Nat.le_of_ble_eq_true rfl) (Nat.le_of_ble_eq_true rfl) ?_
  exact B_X13_checkLine_442 _ _ _ _ hk
noncomputable def k_X13_checkLine_401 (l1 : Int32) (l2 : Int32) (l3 : Int32) (s : t_S) : Option (t_S) :=
 if l3 < (0 : Int32) then (k_X13_checkLine_431 l1 l2 s)
 else (if t_ix l3 8 = true then
  if t_ix l1 401 = true then
  (f_X13_find 973 ((4 : Int32) * l3) (s.1 974 (l3.toNatClampNeg)) (s.1 991 (l1.toNatClampNeg)) s).bind (fun r3 =>
 if (0 : Int32) ≤ r3 then (k_X13_checkLine_442 l1 l2 s)
 else (k_X13_checkLine_431 l1 l2 s))
else none
else none)
set_option maxRecDepth 4000 in
set_option maxHeartbeats 1000000 in
theorem B_X13_checkLine_401 {D : va_G} {cy : Nat → ClassId} {ad : Nat → Nat} {bs : Nat} {X : State → Heap → Prop} (l1 : Int32) (l2 : Int32) (l3 : Int32) (s : t_S) (Q : t_S → Prop) (hk : t_hk (k_X13_checkLine_401 l1 l2 l3 s) Q) : mj_G D cy ad bs X cX13_checkLine 5 yX13_checkLine.cls none yX13_checkLine.name 3 0 0 1065 (t_P (fun v s' => v = none ∧ Q (s'))) 401 [(0, .ref 950), (1, .int l1), (2, .int l2), (3, .int l3)] [] (t_m s) 1065 0 0 := by
  refine mj_iload_n dX13_checkLine_401 3 rfl ?_
  refine mj_if_lt 431 dX13_checkLine_402 (by decide) (fun z => t_posK hk z (fun hk => ?_)) (fun z => t_negK hk z (fun hk => ?_))
  · refine mj_sublv [(0, .ref 950), (1, .int l1), (2, .int l2)] [0, 1, 2] rfl ?_
    exact B_X13_checkLine_431 _ _ _ _ hk
  · refine mj_aload_n dX13_checkLine_405 0 rfl ?_
    refine mj_aload_n dX13_checkLine_406 0 rfl ?_
    refine t_getR 973 dX13_checkLine_407 F_X13_81 qr_950_48 ?_
    refine mj_iconst (v := 4) dX13_checkLine_410 (by decide) ?_
    refine mj_iload_n dX13_checkLine_411 3 rfl ?_
    refine mj_imul dX13_checkLine_412 ?_
    refine mj_aload_n dX13_checkLine_413 0 rfl ?_
    refine t_getR 974 dX13_checkLine_414 F_X13_84 qr_950_49 ?_
    refine mj_iload_n dX13_checkLine_417 3 rfl ?_
    refine t_chkK hk (fun c0 hk => ?_)
    refine t_iald dX13_checkLine_418 qa_974 (t_ixv c0) ?_
    refine mj_aload_n dX13_checkLine_419 0 rfl ?_
    refine t_getR 991 dX13_checkLine_420 F_X13_135 qr_950_69 ?_
    refine mj_iload_n dX13_checkLine_423 1 rfl ?_
    refine t_chkK hk (fun c1 hk => ?_)
    refine t_iald dX13_checkLine_424 qa_991 (t_ixv c1) ?_
    refine t_bndK hk (fun r3 er3 hk => ?_)
    refine t_callViP dX13_checkLine_425 M_X13_find (C_X13_find _ _ _ _ _ _ er3) ML_X13_788 IM_X13_find SE_X13_find qc_950 rfl (As := [.ref 973, .int ((4 : Int32) * l3), .int (s.1 974 (l3.toNatClampNeg)), .int (s.1 991 (l1.toNatClampNeg))]) rfl rfl (Nat.le_of_ble_eq_true rfl) (Nat.le_of_ble_eq_true rfl) (Nat.le_of_ble_eq_true rfl) (Nat.le_of_ble_eq_true rfl) ?_
    refine mj_if_ge 442 dX13_checkLine_428 (by decide) (fun z => t_posK hk z (fun hk => ?_)) (fun z => t_negK hk z (fun hk => ?_))
    · refine mj_sublv [(0, .ref 950), (1, .int l1), (2, .int l2)] [0, 1, 2] rfl ?_
      exact B_X13_checkLine_442 _ _ _ _ hk
    · refine mj_sublv [(0, .ref 950), (1, .int l1), (2, .int l2)] [0, 1, 2] rfl ?_
      exact B_X13_checkLine_431 _ _ _ _ hk
noncomputable def k_X13_checkLine_355 (l1 : Int32) (l2 : Int32) (s : t_S) : Option (t_S) :=
 if t_ix l1 401 = true then
  (f_X13_wrong (4 : Int32) (s.1 992 (l1.toNatClampNeg)) s).bind (fun r2 =>
 k_X13_checkLine_442 l1 l2 r2)
else none
set_option maxRecDepth 4000 in
set_option maxHeartbeats 1000000 in
theorem B_X13_checkLine_355 {D : va_G} {cy : Nat → ClassId} {ad : Nat → Nat} {bs : Nat} {X : State → Heap → Prop} (l1 : Int32) (l2 : Int32) (s : t_S) (Q : t_S → Prop) (hk : t_hk (k_X13_checkLine_355 l1 l2 s) Q) : mj_G D cy ad bs X cX13_checkLine 5 yX13_checkLine.cls none yX13_checkLine.name 3 0 0 1065 (t_P (fun v s' => v = none ∧ Q (s'))) 355 [(0, .ref 950), (1, .int l1), (2, .int l2)] [] (t_m s) 1065 0 0 := by
  refine mj_aload_n dX13_checkLine_355 0 rfl ?_
  refine mj_iconst (v := 4) dX13_checkLine_356 (by decide) ?_
  refine mj_aload_n dX13_checkLine_357 0 rfl ?_
  refine t_getR 992 dX13_checkLine_358 F_X13_138 qr_950_70 ?_
  refine mj_iload_n dX13_checkLine_361 1 rfl ?_
  refine t_chkK hk (fun c0 hk => ?_)
  refine t_iald dX13_checkLine_362 qa_992 (t_ixv c0) ?_
  refine t_bndK hk (fun r2 er2 hk => ?_)
  refine t_callVvE dX13_checkLine_363 M_X13_wrong (C_X13_wrong _ _ _ _ er2) ML_X13_795 IM_X13_wrong SE_X13_wrong qc_950 rfl (As := [.int 4, .int (s.1 992 (l1.toNatClampNeg))]) rfl rfl (Nat.le_of_ble_eq_true rfl) (Nat.le_of_ble_eq_true rfl) (Nat.le_of_ble_eq_true rfl) (Nat.le_of_ble_eq_true rfl) ?_
  refine mj_goto 442 dX13_checkLine_366 (by decide) ?_
  exact B_X13_checkLine_442 _ _ _ _ hk
noncomputable def k_X13_checkLine_324 (l1 : Int32) (l2 : Int32) (l3 : Int32) (s : t_S) : Option (t_S) :=
 if l3 < (0 : Int32) then (k_X13_checkLine_355 l1 l2 s)
 else (if t_ix l3 8 = true then
  if t_ix l1 401 = true then
  (f_X13_find 971 ((6 : Int32) * l3) (s.1 972 (l3.toNatClampNeg)) (s.1 991 (l1.toNatClampNeg)) s).bind (fun r3 =>
 if (0 : Int32) ≤ r3 then (k_X13_checkLine_442 l1 l2 s)
 else (k_X13_checkLine_355 l1 l2 s))
else none
else none)
set_option maxRecDepth 4000 in
set_option maxHeartbeats 1000000 in
theorem B_X13_checkLine_324 {D : va_G} {cy : Nat → ClassId} {ad : Nat → Nat} {bs : Nat} {X : State → Heap → Prop} (l1 : Int32) (l2 : Int32) (l3 : Int32) (s : t_S) (Q : t_S → Prop) (hk : t_hk (k_X13_checkLine_324 l1 l2 l3 s) Q) : mj_G D cy ad bs X cX13_checkLine 5 yX13_checkLine.cls none yX13_checkLine.name 3 0 0 1065 (t_P (fun v s' => v = none ∧ Q (s'))) 324 [(0, .ref 950), (1, .int l1), (2, .int l2), (3, .int l3)] [] (t_m s) 1065 0 0 := by
  refine mj_iload_n dX13_checkLine_324 3 rfl ?_
  refine mj_if_lt 355 dX13_checkLine_325 (by decide) (fun z => t_posK hk z (fun hk => ?_)) (fun z => t_negK hk z (fun hk => ?_))
  · refine mj_sublv [(0, .ref 950), (1, .int l1), (2, .int l2)] [0, 1, 2] rfl ?_
    exact B_X13_checkLine_355 _ _ _ _ hk
  · refine mj_aload_n dX13_checkLine_328 0 rfl ?_
    refine mj_aload_n dX13_checkLine_329 0 rfl ?_
    refine t_getR 971 dX13_checkLine_330 F_X13_75 qr_950_46 ?_
    refine mj_bipush (v := 6) dX13_checkLine_333 (by decide) ?_
    refine mj_iload_n dX13_checkLine_335 3 rfl ?_
    refine mj_imul dX13_checkLine_336 ?_
    refine mj_aload_n dX13_checkLine_337 0 rfl ?_
    refine t_getR 972 dX13_checkLine_338 F_X13_78 qr_950_47 ?_
    refine mj_iload_n dX13_checkLine_341 3 rfl ?_
    refine t_chkK hk (fun c0 hk => ?_)
    refine t_iald dX13_checkLine_342 qa_972 (t_ixv c0) ?_
    refine mj_aload_n dX13_checkLine_343 0 rfl ?_
    refine t_getR 991 dX13_checkLine_344 F_X13_135 qr_950_69 ?_
    refine mj_iload_n dX13_checkLine_347 1 rfl ?_
    refine t_chkK hk (fun c1 hk => ?_)
    refine t_iald dX13_checkLine_348 qa_991 (t_ixv c1) ?_
    refine t_bndK hk (fun r3 er3 hk => ?_)
    refine t_callViP dX13_checkLine_349 M_X13_find (C_X13_find _ _ _ _ _ _ er3) ML_X13_788 IM_X13_find SE_X13_find qc_950 rfl (As := [.ref 971, .int ((6 : Int32) * l3), .int (s.1 972 (l3.toNatClampNeg)), .int (s.1 991 (l1.toNatClampNeg))]) rfl rfl (Nat.le_of_ble_eq_true rfl) (Nat.le_of_ble_eq_true rfl) (Nat.le_of_ble_eq_true rfl) (Nat.le_of_ble_eq_true rfl) ?_
    refine mj_if_ge 442 dX13_checkLine_352 (by decide) (fun z => t_posK hk z (fun hk => ?_)) (fun z => t_negK hk z (fun hk => ?_))
    · refine mj_sublv [(0, .ref 950), (1, .int l1), (2, .int l2)] [0, 1, 2] rfl ?_
      exact B_X13_checkLine_442 _ _ _ _ hk
    · refine mj_sublv [(0, .ref 950), (1, .int l1), (2, .int l2)] [0, 1, 2] rfl ?_
      exact B_X13_checkLine_355 _ _ _ _ hk
noncomputable def k_X13_checkLine_277 (l1 : Int32) (l2 : Int32) (s : t_S) : Option (t_S) :=
 if t_ix l1 401 = true then
  (f_X13_isPort (s.1 993 (l1.toNatClampNeg)) s).bind (fun r2 =>
 if r2 = (0 : Int32) then ((f_X13_wrong (4 : Int32) (s.1 994 (l1.toNatClampNeg)) s).bind (fun r3 =>
 k_X13_checkLine_442 l1 l2 r3))
 else (k_X13_checkLine_442 l1 l2 s))
else none
set_option maxRecDepth 4000 in
set_option maxHeartbeats 1000000 in
theorem B_X13_checkLine_277 {D : va_G} {cy : Nat → ClassId} {ad : Nat → Nat} {bs : Nat} {X : State → Heap → Prop} (l1 : Int32) (l2 : Int32) (s : t_S) (Q : t_S → Prop) (hk : t_hk (k_X13_checkLine_277 l1 l2 s) Q) : mj_G D cy ad bs X cX13_checkLine 5 yX13_checkLine.cls none yX13_checkLine.name 3 0 0 1065 (t_P (fun v s' => v = none ∧ Q (s'))) 277 [(0, .ref 950), (1, .int l1), (2, .int l2)] [] (t_m s) 1065 0 0 := by
  refine mj_aload_n dX13_checkLine_277 0 rfl ?_
  refine mj_aload_n dX13_checkLine_278 0 rfl ?_
  refine t_getR 993 dX13_checkLine_279 F_X13_141 qr_950_71 ?_
  refine mj_iload_n dX13_checkLine_282 1 rfl ?_
  refine t_chkK hk (fun c0 hk => ?_)
  refine t_iald dX13_checkLine_283 qa_993 (t_ixv c0) ?_
  refine t_bndK hk (fun r2 er2 hk => ?_)
  refine t_callViP dX13_checkLine_284 M_X13_isPort (C_X13_isPort _ _ _ er2) ML_X13_827 IM_X13_isPort SE_X13_isPort qc_950 rfl (As := [.int (s.1 993 (l1.toNatClampNeg))]) rfl rfl (Nat.le_of_ble_eq_true rfl) (Nat.le_of_ble_eq_true rfl) (Nat.le_of_ble_eq_true rfl) (Nat.le_of_ble_eq_true rfl) ?_
  refine mj_if_ne 442 dX13_checkLine_287 (by decide) (fun z => t_negK hk z (fun hk => ?_)) (fun z => t_posK hk z (fun hk => ?_))
  · exact B_X13_checkLine_442 _ _ _ _ hk
  · refine mj_aload_n dX13_checkLine_290 0 rfl ?_
    refine mj_iconst (v := 4) dX13_checkLine_291 (by decide) ?_
    refine mj_aload_n dX13_checkLine_292 0 rfl ?_
    refine t_getR 994 dX13_checkLine_293 F_X13_144 qr_950_72 ?_
    refine mj_iload_n dX13_checkLine_296 1 rfl ?_
    refine t_iald dX13_checkLine_297 qa_994 (t_ixv c0) ?_
    refine t_bndK hk (fun r3 er3 hk => ?_)
    refine t_callVvE dX13_checkLine_298 M_X13_wrong (C_X13_wrong _ _ _ _ er3) ML_X13_795 IM_X13_wrong SE_X13_wrong qc_950 rfl (As := [.int 4, .int (s.1 994 (l1.toNatClampNeg))]) rfl rfl (Nat.le_of_ble_eq_true rfl) (Nat.le_of_ble_eq_true rfl) (Nat.le_of_ble_eq_true rfl) (Nat.le_of_ble_eq_true rfl) ?_
    refine mj_goto 442 dX13_checkLine_301 (by decide) ?_
    exact B_X13_checkLine_442 _ _ _ _ hk
noncomputable def k_X13_checkLine_76 (l1 : Int32) (l2 : Int32) (l3 : Int32) (k0 : Int32) (s : t_S) : Option (t_S) :=
 if t_ix l1 401 = true then
  if (s.1 988 (l1.toNatClampNeg)) = (1 : Int32) then (if (s.1 991 (l1.toNatClampNeg)) < (0 : Int32) then (k_X13_checkLine_442 l1 l2 s)
 else ((f_X13_find 964 (0 : Int32) (s.1 950 40) (s.1 991 (l1.toNatClampNeg)) s).bind (fun r9 =>
 if (0 : Int32) ≤ r9 then (k_X13_checkLine_442 l1 l2 s)
 else ((f_X13_wrong (4 : Int32) (s.1 992 (l1.toNatClampNeg)) s).bind (fun r10 =>
 k_X13_checkLine_442 l1 l2 r10)))))
 else (if (s.1 988 (l1.toNatClampNeg)) = (2 : Int32) then ((f_X13_varOf (s.1 991 (l1.toNatClampNeg)) ((2000 : Int32) + l2) (s.1 1002 (l1.toNatClampNeg)) s).bind (fun r7 =>
 if (0 : Int32) ≤ r7 then (k_X13_checkLine_442 l1 l2 s)
 else ((f_X13_wrong (4 : Int32) (s.1 992 (l1.toNatClampNeg)) s).bind (fun r8 =>
 k_X13_checkLine_442 l1 l2 r8))))
 else (if k0 = (0 : Int32) then (if (s.1 988 (l1.toNatClampNeg)) = (14 : Int32) then ((f_X13_find 970 (0 : Int32) (s.1 950 55) (s.1 991 (l1.toNatClampNeg)) s).bind (fun r4 =>
 if (0 : Int32) ≤ r4 then (k_X13_checkLine_442 l1 l2 s)
 else ((f_X13_wrong (4 : Int32) (s.1 992 (l1.toNatClampNeg)) s).bind (fun r5 =>
 k_X13_checkLine_442 l1 l2 r5))))
 else (if (s.1 988 (l1.toNatClampNeg)) = (16 : Int32) then ((f_X13_isPort (s.1 991 (l1.toNatClampNeg)) s).bind (fun r2 =>
 if r2 = (0 : Int32) then ((f_X13_wrong (4 : Int32) (s.1 992 (l1.toNatClampNeg)) s).bind (fun r3 =>
 k_X13_checkLine_277 l1 l2 r3))
 else (k_X13_checkLine_277 l1 l2 s)))
 else (if (s.1 988 (l1.toNatClampNeg)) = (9 : Int32) then (k_X13_checkLine_324 l1 l2 l3 s)
 else (if (s.1 1000 (l1.toNatClampNeg)) = (0 : Int32) then (k_X13_checkLine_324 l1 l2 l3 s)
 else (if (s.1 988 (l1.toNatClampNeg)) = (12 : Int32) then (k_X13_checkLine_401 l1 l2 l3 s)
 else (if (s.1 988 (l1.toNatClampNeg)) = (13 : Int32) then (k_X13_checkLine_401 l1 l2 l3 s)
 else (if (s.1 1000 (l1.toNatClampNeg)) = (1 : Int32) then (k_X13_checkLine_401 l1 l2 l3 s)
 else (k_X13_checkLine_442 l1 l2 s))))))))
 else ((f_X13_checkCall l1 l3 s).bind (fun r6 =>
 k_X13_checkLine_442 l1 l2 r6))))
else none
set_option maxRecDepth 4000 in
set_option maxHeartbeats 1000000 in
theorem B_X13_checkLine_76 {D : va_G} {cy : Nat → ClassId} {ad : Nat → Nat} {bs : Nat} {X : State → Heap → Prop} (l1 : Int32) (l2 : Int32) (l3 : Int32) (k0 : Int32) (s : t_S) (Q : t_S → Prop) (hk : t_hk (k_X13_checkLine_76 l1 l2 l3 k0 s) Q) : mj_G D cy ad bs X cX13_checkLine 5 yX13_checkLine.cls none yX13_checkLine.name 3 0 0 1065 (t_P (fun v s' => v = none ∧ Q (s'))) 76 [(0, .ref 950), (1, .int l1), (2, .int l2), (3, .int l3)] [.int k0] (t_m s) 1065 0 0 := by
  refine mj_istore (lv2 := [(4, .int k0), (0, .ref 950), (1, .int l1), (2, .int l2), (3, .int l3)]) dX13_checkLine_76 (by decide) rfl ?_
  refine mj_aload_n dX13_checkLine_78 1 rfl ?_
  refine t_getR 988 dX13_checkLine_79 F_X13_126 qr_950_66 ?_
  refine mj_iload_n dX13_checkLine_82 2 rfl ?_
  refine t_chkK hk (fun c0 hk => ?_)
  refine t_iald dX13_checkLine_83 qa_988 (t_ixv c0) ?_
  refine mj_iconst (v := 1) dX13_checkLine_84 (by decide) ?_
  refine mj_icmp_ne 133 dX13_checkLine_85 (by decide) (fun z => t_negK hk z (fun hk => ?_)) (fun z => t_posK hk z (fun hk => ?_))
  · refine mj_aload_n dX13_checkLine_133 1 rfl ?_
    refine t_getR 988 dX13_checkLine_134 F_X13_126 qr_950_66 ?_
    refine mj_iload_n dX13_checkLine_137 2 rfl ?_
    refine t_iald dX13_checkLine_138 qa_988 (t_ixv c0) ?_
    refine mj_iconst (v := 2) dX13_checkLine_139 (by decide) ?_
    refine mj_icmp_ne 181 dX13_checkLine_140 (by decide) (fun z => t_negK hk z (fun hk => ?_)) (fun z => t_posK hk z (fun hk => ?_))
    · refine mj_iload dX13_checkLine_181 0 rfl ?_
      refine mj_if_eq 195 dX13_checkLine_183 (by decide) (fun z => t_posK hk z (fun hk => ?_)) (fun z => t_negK hk z (fun hk => ?_))
      · refine mj_aload_n dX13_checkLine_195 1 rfl ?_
        refine t_getR 988 dX13_checkLine_196 F_X13_126 qr_950_66 ?_
        refine mj_iload_n dX13_checkLine_199 2 rfl ?_
        refine t_iald dX13_checkLine_200 qa_988 (t_ixv c0) ?_
        refine mj_bipush (v := 14) dX13_checkLine_201 (by decide) ?_
        refine mj_icmp_ne 242 dX13_checkLine_203 (by decide) (fun z => t_negK hk z (fun hk => ?_)) (fun z => t_posK hk z (fun hk => ?_))
        · refine mj_aload_n dX13_checkLine_242 1 rfl ?_
          refine t_getR 988 dX13_checkLine_243 F_X13_126 qr_950_66 ?_
          refine mj_iload_n dX13_checkLine_246 2 rfl ?_
          refine t_iald dX13_checkLine_247 qa_988 (t_ixv c0) ?_
          refine mj_bipush (v := 16) dX13_checkLine_248 (by decide) ?_
          refine mj_icmp_ne 304 dX13_checkLine_250 (by decide) (fun z => t_negK hk z (fun hk => ?_)) (fun z => t_posK hk z (fun hk => ?_))
          · refine mj_aload_n dX13_checkLine_304 1 rfl ?_
            refine t_getR 988 dX13_checkLine_305 F_X13_126 qr_950_66 ?_
            refine mj_iload_n dX13_checkLine_308 2 rfl ?_
            refine t_iald dX13_checkLine_309 qa_988 (t_ixv c0) ?_
            refine mj_bipush (v := 9) dX13_checkLine_310 (by decide) ?_
            refine mj_icmp_eq 324 dX13_checkLine_312 (by decide) (fun z => t_posK hk z (fun hk => ?_)) (fun z => t_negK hk z (fun hk => ?_))
            · refine mj_sublv [(0, .ref 950), (1, .int l1), (2, .int l2), (3, .int l3)] [1, 2, 3, 4] rfl ?_
              exact B_X13_checkLine_324 _ _ _ _ _ hk
            · refine mj_aload_n dX13_checkLine_315 1 rfl ?_
              refine t_getR 1000 dX13_checkLine_316 F_X13_162 qr_950_78 ?_
              refine mj_iload_n dX13_checkLine_319 2 rfl ?_
              refine t_iald dX13_checkLine_320 qa_1000 (t_ixv c0) ?_
              refine mj_if_ne 369 dX13_checkLine_321 (by decide) (fun z => t_negK hk z (fun hk => ?_)) (fun z => t_posK hk z (fun hk => ?_))
              · refine mj_aload_n dX13_checkLine_369 1 rfl ?_
                refine t_getR 988 dX13_checkLine_370 F_X13_126 qr_950_66 ?_
                refine mj_iload_n dX13_checkLine_373 2 rfl ?_
                refine t_iald dX13_checkLine_374 qa_988 (t_ixv c0) ?_
                refine mj_bipush (v := 12) dX13_checkLine_375 (by decide) ?_
                refine mj_icmp_eq 401 dX13_checkLine_377 (by decide) (fun z => t_posK hk z (fun hk => ?_)) (fun z => t_negK hk z (fun hk => ?_))
                · refine mj_sublv [(0, .ref 950), (1, .int l1), (2, .int l2), (3, .int l3)] [1, 2, 3, 4] rfl ?_
                  exact B_X13_checkLine_401 _ _ _ _ _ hk
                · refine mj_aload_n dX13_checkLine_380 1 rfl ?_
                  refine t_getR 988 dX13_checkLine_381 F_X13_126 qr_950_66 ?_
                  refine mj_iload_n dX13_checkLine_384 2 rfl ?_
                  refine t_iald dX13_checkLine_385 qa_988 (t_ixv c0) ?_
                  refine mj_bipush (v := 13) dX13_checkLine_386 (by decide) ?_
                  refine mj_icmp_eq 401 dX13_checkLine_388 (by decide) (fun z => t_posK hk z (fun hk => ?_)) (fun z => t_negK hk z (fun hk => ?_))
                  · refine mj_sublv [(0, .ref 950), (1, .int l1), (2, .int l2), (3, .int l3)] [1, 2, 3, 4] rfl ?_
                    exact B_X13_checkLine_401 _ _ _ _ _ hk
                  · refine mj_aload_n dX13_checkLine_391 1 rfl ?_
                    refine t_getR 1000 dX13_checkLine_392 F_X13_162 qr_950_78 ?_
                    refine mj_iload_n dX13_checkLine_395 2 rfl ?_
                    refine t_iald dX13_checkLine_396 qa_1000 (t_ixv c0) ?_
                    refine mj_iconst (v := 1) dX13_checkLine_397 (by decide) ?_
                    refine mj_icmp_ne 442 dX13_checkLine_398 (by decide) (fun z => t_negK hk z (fun hk => ?_)) (fun z => t_posK hk z (fun hk => ?_))
                    · refine mj_sublv [(0, .ref 950), (1, .int l1), (2, .int l2)] [1, 2, 3] rfl ?_
                      exact B_X13_checkLine_442 _ _ _ _ hk
                    · refine mj_sublv [(0, .ref 950), (1, .int l1), (2, .int l2), (3, .int l3)] [1, 2, 3, 4] rfl ?_
                      exact B_X13_checkLine_401 _ _ _ _ _ hk
              · refine mj_sublv [(0, .ref 950), (1, .int l1), (2, .int l2), (3, .int l3)] [1, 2, 3, 4] rfl ?_
                exact B_X13_checkLine_324 _ _ _ _ _ hk
          · refine mj_aload_n dX13_checkLine_253 1 rfl ?_
            refine mj_aload_n dX13_checkLine_254 1 rfl ?_
            refine t_getR 991 dX13_checkLine_255 F_X13_135 qr_950_69 ?_
            refine mj_iload_n dX13_checkLine_258 2 rfl ?_
            refine t_iald dX13_checkLine_259 qa_991 (t_ixv c0) ?_
            refine t_bndK hk (fun r2 er2 hk => ?_)
            refine t_callViP dX13_checkLine_260 M_X13_isPort (C_X13_isPort _ _ _ er2) ML_X13_827 IM_X13_isPort SE_X13_isPort qc_950 rfl (As := [.int (s.1 991 (l1.toNatClampNeg))]) rfl rfl (Nat.le_of_ble_eq_true rfl) (Nat.le_of_ble_eq_true rfl) (Nat.le_of_ble_eq_true rfl) (Nat.le_of_ble_eq_true rfl) ?_
            refine mj_if_ne 277 dX13_checkLine_263 (by decide) (fun z => t_negK hk z (fun hk => ?_)) (fun z => t_posK hk z (fun hk => ?_))
            · refine mj_sublv [(0, .ref 950), (1, .int l1), (2, .int l2)] [1, 2, 3] rfl ?_
              exact B_X13_checkLine_277 _ _ _ _ hk
            · refine mj_aload_n dX13_checkLine_266 1 rfl ?_
              refine mj_iconst (v := 4) dX13_checkLine_267 (by decide) ?_
              refine mj_aload_n dX13_checkLine_268 1 rfl ?_
              refine t_getR 992 dX13_checkLine_269 F_X13_138 qr_950_70 ?_
              refine mj_iload_n dX13_checkLine_272 2 rfl ?_
              refine t_iald dX13_checkLine_273 qa_992 (t_ixv c0) ?_
              refine t_bndK hk (fun r3 er3 hk => ?_)
              refine t_callVvE dX13_checkLine_274 M_X13_wrong (C_X13_wrong _ _ _ _ er3) ML_X13_795 IM_X13_wrong SE_X13_wrong qc_950 rfl (As := [.int 4, .int (s.1 992 (l1.toNatClampNeg))]) rfl rfl (Nat.le_of_ble_eq_true rfl) (Nat.le_of_ble_eq_true rfl) (Nat.le_of_ble_eq_true rfl) (Nat.le_of_ble_eq_true rfl) ?_
              refine mj_sublv [(0, .ref 950), (1, .int l1), (2, .int l2)] [1, 2, 3] rfl ?_
              exact B_X13_checkLine_277 _ _ _ _ hk
        · refine mj_aload_n dX13_checkLine_206 1 rfl ?_
          refine mj_aload_n dX13_checkLine_207 1 rfl ?_
          refine t_getR 970 dX13_checkLine_208 F_X13_72 qr_950_45 ?_
          refine mj_iconst (v := 0) dX13_checkLine_211 (by decide) ?_
          refine mj_aload_n dX13_checkLine_212 1 rfl ?_
          refine t_getI dX13_checkLine_213 F_X13_630 qf_950_55 ?_
          refine mj_aload_n dX13_checkLine_216 1 rfl ?_
          refine t_getR 991 dX13_checkLine_217 F_X13_135 qr_950_69 ?_
          refine mj_iload_n dX13_checkLine_220 2 rfl ?_
          refine t_iald dX13_checkLine_221 qa_991 (t_ixv c0) ?_
          refine t_bndK hk (fun r4 er4 hk => ?_)
          refine t_callViP dX13_checkLine_222 M_X13_find (C_X13_find _ _ _ _ _ _ er4) ML_X13_788 IM_X13_find SE_X13_find qc_950 rfl (As := [.ref 970, .int 0, .int (s.1 950 55), .int (s.1 991 (l1.toNatClampNeg))]) rfl rfl (Nat.le_of_ble_eq_true rfl) (Nat.le_of_ble_eq_true rfl) (Nat.le_of_ble_eq_true rfl) (Nat.le_of_ble_eq_true rfl) ?_
          refine mj_if_ge 442 dX13_checkLine_225 (by decide) (fun z => t_posK hk z (fun hk => ?_)) (fun z => t_negK hk z (fun hk => ?_))
          · refine mj_sublv [(0, .ref 950), (1, .int l1), (2, .int l2)] [1, 2, 3] rfl ?_
            exact B_X13_checkLine_442 _ _ _ _ hk
          · refine mj_aload_n dX13_checkLine_228 1 rfl ?_
            refine mj_iconst (v := 4) dX13_checkLine_229 (by decide) ?_
            refine mj_aload_n dX13_checkLine_230 1 rfl ?_
            refine t_getR 992 dX13_checkLine_231 F_X13_138 qr_950_70 ?_
            refine mj_iload_n dX13_checkLine_234 2 rfl ?_
            refine t_iald dX13_checkLine_235 qa_992 (t_ixv c0) ?_
            refine t_bndK hk (fun r5 er5 hk => ?_)
            refine t_callVvE dX13_checkLine_236 M_X13_wrong (C_X13_wrong _ _ _ _ er5) ML_X13_795 IM_X13_wrong SE_X13_wrong qc_950 rfl (As := [.int 4, .int (s.1 992 (l1.toNatClampNeg))]) rfl rfl (Nat.le_of_ble_eq_true rfl) (Nat.le_of_ble_eq_true rfl) (Nat.le_of_ble_eq_true rfl) (Nat.le_of_ble_eq_true rfl) ?_
            refine mj_goto 442 dX13_checkLine_239 (by decide) ?_
            refine mj_sublv [(0, .ref 950), (1, .int l1), (2, .int l2)] [1, 2, 3] rfl ?_
            exact B_X13_checkLine_442 _ _ _ _ hk
      · refine mj_aload_n dX13_checkLine_186 1 rfl ?_
        refine mj_iload_n dX13_checkLine_187 2 rfl ?_
        refine mj_iload_n dX13_checkLine_188 4 rfl ?_
        refine t_bndK hk (fun r6 er6 hk => ?_)
        refine t_callVvE dX13_checkLine_189 M_X13_checkCall (C_X13_checkCall _ _ _ _ er6) ML_X13_824 IM_X13_checkCall SE_X13_checkCall qc_950 rfl (As := [.int l1, .int l3]) rfl rfl (Nat.le_of_ble_eq_true rfl) (Nat.le_of_ble_eq_true rfl) (Nat.le_of_ble_eq_true rfl) (Nat.le_of_ble_eq_true rfl) ?_
        refine mj_goto 442 dX13_checkLine_192 (by decide) ?_
        refine mj_sublv [(0, .ref 950), (1, .int l1), (2, .int l2)] [1, 2, 3] rfl ?_
        exact B_X13_checkLine_442 _ _ _ _ hk
    · refine mj_aload_n dX13_checkLine_143 1 rfl ?_
      refine mj_aload_n dX13_checkLine_144 1 rfl ?_
      refine t_getR 991 dX13_checkLine_145 F_X13_135 qr_950_69 ?_
      refine mj_iload_n dX13_checkLine_148 2 rfl ?_
      refine t_iald dX13_checkLine_149 qa_991 (t_ixv c0) ?_
      refine mj_sipush (v := 2000) dX13_checkLine_150 (by decide) ?_
      refine mj_iload_n dX13_checkLine_153 3 rfl ?_
      refine mj_iadd dX13_checkLine_154 ?_
      refine mj_aload_n dX13_checkLine_155 1 rfl ?_
      refine t_getR 1002 dX13_checkLine_156 F_X13_168 qr_950_80 ?_
      refine mj_iload_n dX13_checkLine_159 2 rfl ?_
      refine t_iald dX13_checkLine_160 qa_1002 (t_ixv c0) ?_
      refine t_bndK hk (fun r7 er7 hk => ?_)
      refine t_callViP dX13_checkLine_161 M_X13_varOf (C_X13_varOf _ _ _ _ _ er7) ML_X13_804 IM_X13_varOf SE_X13_varOf qc_950 rfl (As := [.int (s.1 991 (l1.toNatClampNeg)), .int ((2000 : Int32) + l2), .int (s.1 1002 (l1.toNatClampNeg))]) rfl rfl (Nat.le_of_ble_eq_true rfl) (Nat.le_of_ble_eq_true rfl) (Nat.le_of_ble_eq_true rfl) (Nat.le_of_ble_eq_true rfl) ?_
      refine mj_if_ge 442 dX13_checkLine_164 (by decide) (fun z => t_posK hk z (fun hk => ?_)) (fun z => t_negK hk z (fun hk => ?_))
      · refine mj_sublv [(0, .ref 950), (1, .int l1), (2, .int l2)] [1, 2, 3] rfl ?_
        exact B_X13_checkLine_442 _ _ _ _ hk
      · refine mj_aload_n dX13_checkLine_167 1 rfl ?_
        refine mj_iconst (v := 4) dX13_checkLine_168 (by decide) ?_
        refine mj_aload_n dX13_checkLine_169 1 rfl ?_
        refine t_getR 992 dX13_checkLine_170 F_X13_138 qr_950_70 ?_
        refine mj_iload_n dX13_checkLine_173 2 rfl ?_
        refine t_iald dX13_checkLine_174 qa_992 (t_ixv c0) ?_
        refine t_bndK hk (fun r8 er8 hk => ?_)
        refine t_callVvE dX13_checkLine_175 M_X13_wrong (C_X13_wrong _ _ _ _ er8) ML_X13_795 IM_X13_wrong SE_X13_wrong qc_950 rfl (As := [.int 4, .int (s.1 992 (l1.toNatClampNeg))]) rfl rfl (Nat.le_of_ble_eq_true rfl) (Nat.le_of_ble_eq_true rfl) (Nat.le_of_ble_eq_true rfl) (Nat.le_of_ble_eq_true rfl) ?_
        refine mj_goto 442 dX13_checkLine_178 (by decide) ?_
        refine mj_sublv [(0, .ref 950), (1, .int l1), (2, .int l2)] [1, 2, 3] rfl ?_
        exact B_X13_checkLine_442 _ _ _ _ hk
  · refine mj_aload_n dX13_checkLine_88 1 rfl ?_
    refine t_getR 991 dX13_checkLine_89 F_X13_135 qr_950_69 ?_
    refine mj_iload_n dX13_checkLine_92 2 rfl ?_
    refine t_iald dX13_checkLine_93 qa_991 (t_ixv c0) ?_
    refine mj_if_lt 442 dX13_checkLine_94 (by decide) (fun z => t_posK hk z (fun hk => ?_)) (fun z => t_negK hk z (fun hk => ?_))
    · refine mj_sublv [(0, .ref 950), (1, .int l1), (2, .int l2)] [1, 2, 3] rfl ?_
      exact B_X13_checkLine_442 _ _ _ _ hk
    · refine mj_aload_n dX13_checkLine_97 1 rfl ?_
      refine mj_aload_n dX13_checkLine_98 1 rfl ?_
      refine t_getR 964 dX13_checkLine_99 F_X13_54 qr_950_37 ?_
      refine mj_iconst (v := 0) dX13_checkLine_102 (by decide) ?_
      refine mj_aload_n dX13_checkLine_103 1 rfl ?_
      refine t_getI dX13_checkLine_104 F_X13_624 qf_950_40 ?_
      refine mj_aload_n dX13_checkLine_107 1 rfl ?_
      refine t_getR 991 dX13_checkLine_108 F_X13_135 qr_950_69 ?_
      refine mj_iload_n dX13_checkLine_111 2 rfl ?_
      refine t_iald dX13_checkLine_112 qa_991 (t_ixv c0) ?_
      refine t_bndK hk (fun r9 er9 hk => ?_)
      refine t_callViP dX13_checkLine_113 M_X13_find (C_X13_find _ _ _ _ _ _ er9) ML_X13_788 IM_X13_find SE_X13_find qc_950 rfl (As := [.ref 964, .int 0, .int (s.1 950 40), .int (s.1 991 (l1.toNatClampNeg))]) rfl rfl (Nat.le_of_ble_eq_true rfl) (Nat.le_of_ble_eq_true rfl) (Nat.le_of_ble_eq_true rfl) (Nat.le_of_ble_eq_true rfl) ?_
      refine mj_if_ge 442 dX13_checkLine_116 (by decide) (fun z => t_posK hk z (fun hk => ?_)) (fun z => t_negK hk z (fun hk => ?_))
      · refine mj_sublv [(0, .ref 950), (1, .int l1), (2, .int l2)] [1, 2, 3] rfl ?_
        exact B_X13_checkLine_442 _ _ _ _ hk
      · refine mj_aload_n dX13_checkLine_119 1 rfl ?_
        refine mj_iconst (v := 4) dX13_checkLine_120 (by decide) ?_
        refine mj_aload_n dX13_checkLine_121 1 rfl ?_
        refine t_getR 992 dX13_checkLine_122 F_X13_138 qr_950_70 ?_
        refine mj_iload_n dX13_checkLine_125 2 rfl ?_
        refine t_iald dX13_checkLine_126 qa_992 (t_ixv c0) ?_
        refine t_bndK hk (fun r10 er10 hk => ?_)
        refine t_callVvE dX13_checkLine_127 M_X13_wrong (C_X13_wrong _ _ _ _ er10) ML_X13_795 IM_X13_wrong SE_X13_wrong qc_950 rfl (As := [.int 4, .int (s.1 992 (l1.toNatClampNeg))]) rfl rfl (Nat.le_of_ble_eq_true rfl) (Nat.le_of_ble_eq_true rfl) (Nat.le_of_ble_eq_true rfl) (Nat.le_of_ble_eq_true rfl) ?_
        refine mj_goto 442 dX13_checkLine_130 (by decide) ?_
        refine mj_sublv [(0, .ref 950), (1, .int l1), (2, .int l2)] [1, 2, 3] rfl ?_
        exact B_X13_checkLine_442 _ _ _ _ hk
noncomputable def k_X13_checkLine_75 (l1 : Int32) (l2 : Int32) (l3 : Int32) (s : t_S) : Option (t_S) :=
 k_X13_checkLine_76 l1 l2 l3 0 s
set_option maxRecDepth 4000 in
set_option maxHeartbeats 1000000 in
theorem B_X13_checkLine_75 {D : va_G} {cy : Nat → ClassId} {ad : Nat → Nat} {bs : Nat} {X : State → Heap → Prop} (l1 : Int32) (l2 : Int32) (l3 : Int32) (s : t_S) (Q : t_S → Prop) (hk : t_hk (k_X13_checkLine_75 l1 l2 l3 s) Q) : mj_G D cy ad bs X cX13_checkLine 5 yX13_checkLine.cls none yX13_checkLine.name 3 0 0 1065 (t_P (fun v s' => v = none ∧ Q (s'))) 75 [(0, .ref 950), (1, .int l1), (2, .int l2), (3, .int l3)] [] (t_m s) 1065 0 0 := by
  refine mj_iconst (v := 0) dX13_checkLine_75 (by decide) ?_
  exact B_X13_checkLine_76 _ _ _ _ _ _ hk
noncomputable def k_X13_checkLine_71 (l1 : Int32) (l2 : Int32) (l3 : Int32) (s : t_S) : Option (t_S) :=
 k_X13_checkLine_76 l1 l2 l3 1 s
set_option maxRecDepth 4000 in
set_option maxHeartbeats 1000000 in
theorem B_X13_checkLine_71 {D : va_G} {cy : Nat → ClassId} {ad : Nat → Nat} {bs : Nat} {X : State → Heap → Prop} (l1 : Int32) (l2 : Int32) (l3 : Int32) (s : t_S) (Q : t_S → Prop) (hk : t_hk (k_X13_checkLine_71 l1 l2 l3 s) Q) : mj_G D cy ad bs X cX13_checkLine 5 yX13_checkLine.cls none yX13_checkLine.name 3 0 0 1065 (t_P (fun v s' => v = none ∧ Q (s'))) 71 [(0, .ref 950), (1, .int l1), (2, .int l2), (3, .int l3)] [] (t_m s) 1065 0 0 := by
  refine mj_iconst (v := 1) dX13_checkLine_71 (by decide) ?_
  refine mj_goto 76 dX13_checkLine_72 (by decide) ?_
  exact B_X13_checkLine_76 _ _ _ _ _ _ hk
noncomputable def f_X13_checkLine (x1 : Int32) (s : t_S) : Option (t_S) :=
 if t_ix x1 401 = true then
  (f_X13_componentOf ((2000 : Int32) + (s.1 1001 (x1.toNatClampNeg))) s).bind (fun r2 =>
 if (s.1 988 (x1.toNatClampNeg)) = (6 : Int32) then (k_X13_checkLine_71 x1 (s.1 1001 (x1.toNatClampNeg)) r2 s)
 else (if (s.1 988 (x1.toNatClampNeg)) = (18 : Int32) then (k_X13_checkLine_71 x1 (s.1 1001 (x1.toNatClampNeg)) r2 s)
 else (if (s.1 988 (x1.toNatClampNeg)) = (15 : Int32) then (k_X13_checkLine_71 x1 (s.1 1001 (x1.toNatClampNeg)) r2 s)
 else (if (s.1 988 (x1.toNatClampNeg)) = (20 : Int32) then (if (s.1 1000 (x1.toNatClampNeg)) = (3 : Int32) then (k_X13_checkLine_71 x1 (s.1 1001 (x1.toNatClampNeg)) r2 s)
 else (k_X13_checkLine_75 x1 (s.1 1001 (x1.toNatClampNeg)) r2 s))
 else (k_X13_checkLine_75 x1 (s.1 1001 (x1.toNatClampNeg)) r2 s)))))
else none
set_option maxRecDepth 4000 in
set_option maxHeartbeats 1000000 in
theorem C_X13_checkLine (x1 : Int32) (s : t_S) (r : t_S) (hr : f_X13_checkLine x1 s = some r) : t_C yX13_checkLine cX13_checkLine 5 none 3 [.ref 950, .int x1] s (fun v s' => v = none ∧ s' = r) := by
  refine t_C.imp (P := fun v s' => v = none ∧ (fun q => q = r) (s')) (t_C.of (by decide +kernel) (Nat.le_of_ble_eq_true rfl) ?_) (fun v s' hp => hp)
  intro D cy ad bs X
  have hk : t_hk (f_X13_checkLine x1 s) (fun q => q = r) := ⟨r, hr, rfl⟩
  show mj_G D cy ad bs X cX13_checkLine 5 yX13_checkLine.cls none yX13_checkLine.name 3 0 0 1065 (t_P (fun v s' => v = none ∧ (fun q => q = r) (s'))) 0 [(0, .ref 950), (1, .int x1)] [] (t_m s) 1065 0 0
  refine mj_aload_n dX13_checkLine_0 0 rfl ?_
  refine t_getR 1001 dX13_checkLine_1 F_X13_165 qr_950_79 ?_
  refine mj_iload_n dX13_checkLine_4 1 rfl ?_
  refine t_chkK hk (fun c0 hk => ?_)
  refine t_iald dX13_checkLine_5 qa_1001 (t_ixv c0) ?_
  refine mj_istore_n 2 (lv2 := [(2, .int (s.1 1001 (x1.toNatClampNeg))), (0, .ref 950), (1, .int x1)]) dX13_checkLine_6 rfl (by decide) rfl ?_
  refine mj_aload_n dX13_checkLine_7 1 rfl ?_
  refine mj_sipush (v := 2000) dX13_checkLine_8 (by decide) ?_
  refine mj_iload_n dX13_checkLine_11 0 rfl ?_
  refine mj_iadd dX13_checkLine_12 ?_
  refine t_bndK hk (fun r2 er2 hk => ?_)
  refine t_callViP dX13_checkLine_13 M_X13_componentOf (C_X13_componentOf _ _ _ er2) ML_X13_792 IM_X13_componentOf SE_X13_componentOf qc_950 rfl (As := [.int ((2000 : Int32) + (s.1 1001 (x1.toNatClampNeg)))]) rfl rfl (Nat.le_of_ble_eq_true rfl) (Nat.le_of_ble_eq_true rfl) (Nat.le_of_ble_eq_true rfl) (Nat.le_of_ble_eq_true rfl) ?_
  refine mj_istore_n 3 (lv2 := [(3, .int r2), (2, .int (s.1 1001 (x1.toNatClampNeg))), (0, .ref 950), (1, .int x1)]) dX13_checkLine_16 rfl (by decide) rfl ?_
  refine mj_aload_n dX13_checkLine_17 2 rfl ?_
  refine t_getR 988 dX13_checkLine_18 F_X13_126 qr_950_66 ?_
  refine mj_iload_n dX13_checkLine_21 3 rfl ?_
  refine t_iald dX13_checkLine_22 qa_988 (t_ixv c0) ?_
  refine mj_bipush (v := 6) dX13_checkLine_23 (by decide) ?_
  refine mj_icmp_eq 71 dX13_checkLine_25 (by decide) (fun z => t_posK hk z (fun hk => ?_)) (fun z => t_negK hk z (fun hk => ?_))
  · refine mj_sublv [(0, .ref 950), (1, .int x1), (2, .int (s.1 1001 (x1.toNatClampNeg))), (3, .int r2)] [2, 3, 1, 0] rfl ?_
    exact B_X13_checkLine_71 _ _ _ _ _ hk
  · refine mj_aload_n dX13_checkLine_28 2 rfl ?_
    refine t_getR 988 dX13_checkLine_29 F_X13_126 qr_950_66 ?_
    refine mj_iload_n dX13_checkLine_32 3 rfl ?_
    refine t_iald dX13_checkLine_33 qa_988 (t_ixv c0) ?_
    refine mj_bipush (v := 18) dX13_checkLine_34 (by decide) ?_
    refine mj_icmp_eq 71 dX13_checkLine_36 (by decide) (fun z => t_posK hk z (fun hk => ?_)) (fun z => t_negK hk z (fun hk => ?_))
    · refine mj_sublv [(0, .ref 950), (1, .int x1), (2, .int (s.1 1001 (x1.toNatClampNeg))), (3, .int r2)] [2, 3, 1, 0] rfl ?_
      exact B_X13_checkLine_71 _ _ _ _ _ hk
    · refine mj_aload_n dX13_checkLine_39 2 rfl ?_
      refine t_getR 988 dX13_checkLine_40 F_X13_126 qr_950_66 ?_
      refine mj_iload_n dX13_checkLine_43 3 rfl ?_
      refine t_iald dX13_checkLine_44 qa_988 (t_ixv c0) ?_
      refine mj_bipush (v := 15) dX13_checkLine_45 (by decide) ?_
      refine mj_icmp_eq 71 dX13_checkLine_47 (by decide) (fun z => t_posK hk z (fun hk => ?_)) (fun z => t_negK hk z (fun hk => ?_))
      · refine mj_sublv [(0, .ref 950), (1, .int x1), (2, .int (s.1 1001 (x1.toNatClampNeg))), (3, .int r2)] [2, 3, 1, 0] rfl ?_
        exact B_X13_checkLine_71 _ _ _ _ _ hk
      · refine mj_aload_n dX13_checkLine_50 2 rfl ?_
        refine t_getR 988 dX13_checkLine_51 F_X13_126 qr_950_66 ?_
        refine mj_iload_n dX13_checkLine_54 3 rfl ?_
        refine t_iald dX13_checkLine_55 qa_988 (t_ixv c0) ?_
        refine mj_bipush (v := 20) dX13_checkLine_56 (by decide) ?_
        refine mj_icmp_ne 75 dX13_checkLine_58 (by decide) (fun z => t_negK hk z (fun hk => ?_)) (fun z => t_posK hk z (fun hk => ?_))
        · refine mj_sublv [(0, .ref 950), (1, .int x1), (2, .int (s.1 1001 (x1.toNatClampNeg))), (3, .int r2)] [2, 3, 1, 0] rfl ?_
          exact B_X13_checkLine_75 _ _ _ _ _ hk
        · refine mj_aload_n dX13_checkLine_61 2 rfl ?_
          refine t_getR 1000 dX13_checkLine_62 F_X13_162 qr_950_78 ?_
          refine mj_iload_n dX13_checkLine_65 3 rfl ?_
          refine t_iald dX13_checkLine_66 qa_1000 (t_ixv c0) ?_
          refine mj_iconst (v := 3) dX13_checkLine_67 (by decide) ?_
          refine mj_icmp_ne 75 dX13_checkLine_68 (by decide) (fun z => t_negK hk z (fun hk => ?_)) (fun z => t_posK hk z (fun hk => ?_))
          · refine mj_sublv [(0, .ref 950), (1, .int x1), (2, .int (s.1 1001 (x1.toNatClampNeg))), (3, .int r2)] [2, 3, 1, 0] rfl ?_
            exact B_X13_checkLine_75 _ _ _ _ _ hk
          · refine mj_sublv [(0, .ref 950), (1, .int x1), (2, .int (s.1 1001 (x1.toNatClampNeg))), (3, .int r2)] [2, 3, 1, 0] rfl ?_
            exact B_X13_checkLine_71 _ _ _ _ _ hk

theorem dX13_isEnumWord_0 : decode cX13_isEnumWord 0 = .ok (.iconst 0, 1) := by decide +kernel
theorem dX13_isEnumWord_1 : decode cX13_isEnumWord 1 = .ok (.istore_n 2, 1) := by decide +kernel
theorem dX13_isEnumWord_12 : decode cX13_isEnumWord 12 = .ok (.iload_n 2, 1) := by decide +kernel
theorem dX13_isEnumWord_13 : decode cX13_isEnumWord 13 = .ok (.ifCond .ne 38, 3) := by decide +kernel
theorem dX13_isEnumWord_16 : decode cX13_isEnumWord 16 = .ok (.aload_n 0, 1) := by decide +kernel
theorem dX13_isEnumWord_17 : decode cX13_isEnumWord 17 = .ok (.getfield 26, 3) := by decide +kernel
theorem dX13_isEnumWord_2 : decode cX13_isEnumWord 2 = .ok (.iconst 0, 1) := by decide +kernel
theorem dX13_isEnumWord_20 : decode cX13_isEnumWord 20 = .ok (.iload_n 3, 1) := by decide +kernel
theorem dX13_isEnumWord_21 : decode cX13_isEnumWord 21 = .ok (.iaload, 1) := by decide +kernel
theorem dX13_isEnumWord_22 : decode cX13_isEnumWord 22 = .ok (.bipush 11, 2) := by decide +kernel
theorem dX13_isEnumWord_24 : decode cX13_isEnumWord 24 = .ok (.if_icmp .ne 19, 3) := by decide +kernel
theorem dX13_isEnumWord_27 : decode cX13_isEnumWord 27 = .ok (.aload_n 0, 1) := by decide +kernel
theorem dX13_isEnumWord_28 : decode cX13_isEnumWord 28 = .ok (.getfield 32, 3) := by decide +kernel
theorem dX13_isEnumWord_3 : decode cX13_isEnumWord 3 = .ok (.istore_n 3, 1) := by decide +kernel
theorem dX13_isEnumWord_31 : decode cX13_isEnumWord 31 = .ok (.iload_n 3, 1) := by decide +kernel
theorem dX13_isEnumWord_32 : decode cX13_isEnumWord 32 = .ok (.laload, 1) := by decide +kernel
theorem dX13_isEnumWord_33 : decode cX13_isEnumWord 33 = .ok (.iload_n 1, 1) := by decide +kernel
theorem dX13_isEnumWord_34 : decode cX13_isEnumWord 34 = .ok (.i2l, 1) := by decide +kernel
theorem dX13_isEnumWord_35 : decode cX13_isEnumWord 35 = .ok (.lcmp, 1) := by decide +kernel
theorem dX13_isEnumWord_36 : decode cX13_isEnumWord 36 = .ok (.ifCond .ne 7, 3) := by decide +kernel
theorem dX13_isEnumWord_39 : decode cX13_isEnumWord 39 = .ok (.iconst 1, 1) := by decide +kernel
theorem dX13_isEnumWord_4 : decode cX13_isEnumWord 4 = .ok (.iload_n 3, 1) := by decide +kernel
theorem dX13_isEnumWord_40 : decode cX13_isEnumWord 40 = .ok (.goto 4, 3) := by decide +kernel
theorem dX13_isEnumWord_43 : decode cX13_isEnumWord 43 = .ok (.iconst 0, 1) := by decide +kernel
theorem dX13_isEnumWord_44 : decode cX13_isEnumWord 44 = .ok (.istore_n 2, 1) := by decide +kernel
theorem dX13_isEnumWord_45 : decode cX13_isEnumWord 45 = .ok (.iinc 3 1, 3) := by decide +kernel
theorem dX13_isEnumWord_48 : decode cX13_isEnumWord 48 = .ok (.goto (-44), 3) := by decide +kernel
theorem dX13_isEnumWord_5 : decode cX13_isEnumWord 5 = .ok (.aload_n 0, 1) := by decide +kernel
theorem dX13_isEnumWord_51 : decode cX13_isEnumWord 51 = .ok (.iload_n 2, 1) := by decide +kernel
theorem dX13_isEnumWord_52 : decode cX13_isEnumWord 52 = .ok (.ireturn, 1) := by decide +kernel
theorem dX13_isEnumWord_6 : decode cX13_isEnumWord 6 = .ok (.getfield 785, 3) := by decide +kernel
theorem dX13_isEnumWord_9 : decode cX13_isEnumWord 9 = .ok (.if_icmp .ge 42, 3) := by decide +kernel
noncomputable def k_X13_isEnumWord_44 (l1 : Int32) (l3 : Int32) (k0 : Int32) (s : t_S) : Option ((Int32 × Int32 × Int32) ⊕ (Int32)) :=
 some (.inl (l1, k0, (l3 + 1)))
set_option maxRecDepth 4000 in
set_option maxHeartbeats 1000000 in
theorem B_X13_isEnumWord_44 {D : va_G} {cy : Nat → ClassId} {ad : Nat → Nat} {bs : Nat} {X : State → Heap → Prop} (l1 : Int32) (l3 : Int32) (k0 : Int32) (s : t_S) (Q : (Int32 × Int32 × Int32) ⊕ (Int32) → Prop) (Hb4 : ∀ (y0 : Int32) (y1 : Int32) (y2 : Int32), Q (.inl (y0, y1, y2)) → mj_G D cy ad bs X cX13_isEnumWord 4 yX13_isEnumWord.cls (some .boolean) yX13_isEnumWord.name 0 0 0 1065 (t_P (fun v s' => s' = s ∧ ∃ x, v = some (.int x) ∧ Q (.inr (x)))) 4 [(0, .ref 950), (1, .int (y0)), (2, .int (y1)), (3, .int (y2))] [] (t_m s) 1065 0 0) (hk : t_hk (k_X13_isEnumWord_44 l1 l3 k0 s) Q) : mj_G D cy ad bs X cX13_isEnumWord 4 yX13_isEnumWord.cls (some .boolean) yX13_isEnumWord.name 0 0 0 1065 (t_P (fun v s' => s' = s ∧ ∃ x, v = some (.int x) ∧ Q (.inr (x)))) 44 [(0, .ref 950), (1, .int l1), (3, .int l3)] [.int k0] (t_m s) 1065 0 0 := by
  refine mj_istore_n 2 (lv2 := [(2, .int k0), (0, .ref 950), (1, .int l1), (3, .int l3)]) dX13_isEnumWord_44 rfl (by decide) rfl ?_
  refine mj_iinc (k := 3) (v := (l3 + 1)) (lv2 := [(3, .int (l3 + 1)), (2, .int k0), (0, .ref 950), (1, .int l1)]) dX13_isEnumWord_45 rfl rfl (by decide) rfl ?_
  refine mj_goto 4 dX13_isEnumWord_48 (by decide) ?_
  refine mj_sublv [(0, .ref 950), (1, .int l1), (2, .int k0), (3, .int (l3 + 1))] [2, 3, 1, 0] rfl ?_
  exact t_somK hk (fun hf => Hb4 l1 k0 (l3 + 1) hf)
noncomputable def k_X13_isEnumWord_43 (l1 : Int32) (l3 : Int32) (s : t_S) : Option ((Int32 × Int32 × Int32) ⊕ (Int32)) :=
 k_X13_isEnumWord_44 l1 l3 0 s
set_option maxRecDepth 4000 in
set_option maxHeartbeats 1000000 in
theorem B_X13_isEnumWord_43 {D : va_G} {cy : Nat → ClassId} {ad : Nat → Nat} {bs : Nat} {X : State → Heap → Prop} (l1 : Int32) (l3 : Int32) (s : t_S) (Q : (Int32 × Int32 × Int32) ⊕ (Int32) → Prop) (Hb4 : ∀ (y0 : Int32) (y1 : Int32) (y2 : Int32), Q (.inl (y0, y1, y2)) → mj_G D cy ad bs X cX13_isEnumWord 4 yX13_isEnumWord.cls (some .boolean) yX13_isEnumWord.name 0 0 0 1065 (t_P (fun v s' => s' = s ∧ ∃ x, v = some (.int x) ∧ Q (.inr (x)))) 4 [(0, .ref 950), (1, .int (y0)), (2, .int (y1)), (3, .int (y2))] [] (t_m s) 1065 0 0) (hk : t_hk (k_X13_isEnumWord_43 l1 l3 s) Q) : mj_G D cy ad bs X cX13_isEnumWord 4 yX13_isEnumWord.cls (some .boolean) yX13_isEnumWord.name 0 0 0 1065 (t_P (fun v s' => s' = s ∧ ∃ x, v = some (.int x) ∧ Q (.inr (x)))) 43 [(0, .ref 950), (1, .int l1), (3, .int l3)] [] (t_m s) 1065 0 0 := by
  refine mj_iconst (v := 0) dX13_isEnumWord_43 (by decide) ?_
  exact B_X13_isEnumWord_44 _ _ _ _ _ (fun y0 y1 y2 hx => Hb4 y0 y1 y2 hx) hk
noncomputable def k_X13_isEnumWord_4 (l1 : Int32) (l2 : Int32) (l3 : Int32) (s : t_S) : Option ((Int32 × Int32 × Int32) ⊕ (Int32)) :=
 if (s.1 950 90) ≤ l3 then ((if l2 = 0 ∨ l2 = 1 then
  some (l2)
else none).map Sum.inr)
 else (if l2 = (0 : Int32) then (if t_ix l3 13000 = true then
  if (s.1 955 (l3.toNatClampNeg)) = (11 : Int32) then (if (lg_cmp (s.2.1 957 (l3.toNatClampNeg)) l1.toInt64) = (0 : Int32) then (k_X13_isEnumWord_44 l1 l3 1 s)
 else (k_X13_isEnumWord_43 l1 l3 s))
 else (k_X13_isEnumWord_43 l1 l3 s)
else none)
 else ((if l2 = 0 ∨ l2 = 1 then
  some (l2)
else none).map Sum.inr))
set_option maxRecDepth 4000 in
set_option maxHeartbeats 1000000 in
theorem B_X13_isEnumWord_4 {D : va_G} {cy : Nat → ClassId} {ad : Nat → Nat} {bs : Nat} {X : State → Heap → Prop} (l1 : Int32) (l2 : Int32) (l3 : Int32) (s : t_S) (Q : (Int32 × Int32 × Int32) ⊕ (Int32) → Prop) (Hb4 : ∀ (y0 : Int32) (y1 : Int32) (y2 : Int32), Q (.inl (y0, y1, y2)) → mj_G D cy ad bs X cX13_isEnumWord 4 yX13_isEnumWord.cls (some .boolean) yX13_isEnumWord.name 0 0 0 1065 (t_P (fun v s' => s' = s ∧ ∃ x, v = some (.int x) ∧ Q (.inr (x)))) 4 [(0, .ref 950), (1, .int (y0)), (2, .int (y1)), (3, .int (y2))] [] (t_m s) 1065 0 0) (hk : t_hk (k_X13_isEnumWord_4 l1 l2 l3 s) Q) : mj_G D cy ad bs X cX13_isEnumWord 4 yX13_isEnumWord.cls (some .boolean) yX13_isEnumWord.name 0 0 0 1065 (t_P (fun v s' => s' = s ∧ ∃ x, v = some (.int x) ∧ Q (.inr (x)))) 4 [(0, .ref 950), (1, .int l1), (2, .int l2), (3, .int l3)] [] (t_m s) 1065 0 0 := by
  refine mj_iload_n dX13_isEnumWord_4 3 rfl ?_
  refine mj_aload_n dX13_isEnumWord_5 0 rfl ?_
  refine t_getI dX13_isEnumWord_6 F_X13_785 qf_950_90 ?_
  refine mj_icmp_ge 51 dX13_isEnumWord_9 (by decide) (fun z => t_posK hk z (fun hk => ?_)) (fun z => t_negK hk z (fun hk => ?_))
  · refine t_mapK hk (fun hk => ?_)
    refine mj_iload_n dX13_isEnumWord_51 2 rfl ?_
    refine t_chkK hk (fun c0 hk => ?_)
    exact t_somK hk (fun hf => t_iret dX13_isEnumWord_52 rfl (t_zfit c0) ⟨rfl, _, rfl, hf⟩ (Nat.le_of_ble_eq_true rfl) (Nat.le_of_ble_eq_true rfl))
  · refine mj_iload_n dX13_isEnumWord_12 2 rfl ?_
    refine mj_if_ne 51 dX13_isEnumWord_13 (by decide) (fun z => t_negK hk z (fun hk => ?_)) (fun z => t_posK hk z (fun hk => ?_))
    · refine t_mapK hk (fun hk => ?_)
      refine mj_iload_n dX13_isEnumWord_51 2 rfl ?_
      refine t_chkK hk (fun c1 hk => ?_)
      exact t_somK hk (fun hf => t_iret dX13_isEnumWord_52 rfl (t_zfit c1) ⟨rfl, _, rfl, hf⟩ (Nat.le_of_ble_eq_true rfl) (Nat.le_of_ble_eq_true rfl))
    · refine mj_aload_n dX13_isEnumWord_16 0 rfl ?_
      refine t_getR 955 dX13_isEnumWord_17 F_X13_26 qr_950_17 ?_
      refine mj_iload_n dX13_isEnumWord_20 3 rfl ?_
      refine t_chkK hk (fun c2 hk => ?_)
      refine t_iald dX13_isEnumWord_21 qa_955 (t_ixv c2) ?_
      refine mj_bipush (v := 11) dX13_isEnumWord_22 (by decide) ?_
      refine mj_icmp_ne 43 dX13_isEnumWord_24 (by decide) (fun z => t_negK hk z (fun hk => ?_)) (fun z => t_posK hk z (fun hk => ?_))
      · refine mj_sublv [(0, .ref 950), (1, .int l1), (3, .int l3)] [0, 1, 3] rfl ?_
        exact B_X13_isEnumWord_43 _ _ _ _ (fun y0 y1 y2 hx => Hb4 y0 y1 y2 hx) hk
      · refine mj_aload_n dX13_isEnumWord_27 0 rfl ?_
        refine t_getR 957 dX13_isEnumWord_28 F_X13_32 qr_950_19 ?_
        refine mj_iload_n dX13_isEnumWord_31 3 rfl ?_
        refine t_lald dX13_isEnumWord_32 qa_957 (t_ixv c2) ?_
        refine mj_iload_n dX13_isEnumWord_33 1 rfl ?_
        refine mj_i2l (v := l1.toInt64) dX13_isEnumWord_34 rfl ?_
        refine mj_lcmp dX13_isEnumWord_35 ?_
        refine mj_if_ne 43 dX13_isEnumWord_36 (by decide) (fun z => t_negK hk z (fun hk => ?_)) (fun z => t_posK hk z (fun hk => ?_))
        · refine mj_sublv [(0, .ref 950), (1, .int l1), (3, .int l3)] [0, 1, 3] rfl ?_
          exact B_X13_isEnumWord_43 _ _ _ _ (fun y0 y1 y2 hx => Hb4 y0 y1 y2 hx) hk
        · refine mj_iconst (v := 1) dX13_isEnumWord_39 (by decide) ?_
          refine mj_goto 44 dX13_isEnumWord_40 (by decide) ?_
          refine mj_sublv [(0, .ref 950), (1, .int l1), (3, .int l3)] [0, 1, 3] rfl ?_
          exact B_X13_isEnumWord_44 _ _ _ _ _ (fun y0 y1 y2 hx => Hb4 y0 y1 y2 hx) hk
noncomputable def b_X13_isEnumWord_4 (s : t_S) (x : Int32 × Int32 × Int32) : Option ((Int32 × Int32 × Int32) ⊕ (Int32)) := k_X13_isEnumWord_4 x.1 x.2.1 x.2.2 s
set_option maxRecDepth 4000 in
set_option maxHeartbeats 1000000 in
theorem LH_X13_isEnumWord_4 {D : va_G} {cy : Nat → ClassId} {ad : Nat → Nat} {bs : Nat} {X : State → Heap → Prop} (s : t_S) : ∀ (n : Nat) (y0 : Int32) (y1 : Int32) (y2 : Int32) (Q : Int32 → Prop) (hk : t_hk (t_loop (b_X13_isEnumWord_4 s) n (y0, y1, y2)) Q), mj_G D cy ad bs X cX13_isEnumWord 4 yX13_isEnumWord.cls (some .boolean) yX13_isEnumWord.name 0 0 0 1065 (t_P (fun v s' => s' = s ∧ ∃ x, v = some (.int x) ∧ Q (x))) 4 [(0, .ref 950), (1, .int (y0)), (2, .int (y1)), (3, .int (y2))] [] (t_m s) 1065 0 0 := by
  intro n
  induction n with
  | zero => intro y0 y1 y2 Q hk; obtain ⟨r, hr, _⟩ := hk; cases hr
  | succ n ih =>
    intro y0 y1 y2 Q hk
    exact B_X13_isEnumWord_4 y0 y1 y2 s (fun y => t_lq (b_X13_isEnumWord_4 s) n Q y) (fun y0' y1' y2' hy => ih y0' y1' y2' Q hy) (t_lp (b := b_X13_isEnumWord_4 s) (n := n) (x := (y0, y1, y2)) hk)
noncomputable def f_X13_isEnumWord (x1 : Int32) (s : t_S) : Option (Int32) :=
 t_loop (b_X13_isEnumWord_4 s) t_N (x1, 0, 0)
set_option maxRecDepth 4000 in
set_option maxHeartbeats 1000000 in
theorem C_X13_isEnumWord (x1 : Int32) (s : t_S) (r : Int32) (hr : f_X13_isEnumWord x1 s = some r) : t_C yX13_isEnumWord cX13_isEnumWord 4 (some .boolean) 0 [.ref 950, .int x1] s (fun v s' => v = some (.int r) ∧ s' = s) := by
  refine t_C.imp (P := fun v s' => s' = s ∧ ∃ x, v = some (.int x) ∧ (fun q => q = r) (x)) (t_C.of (by decide +kernel) (Nat.le_of_ble_eq_true rfl) ?_) (fun v s' hp => by obtain ⟨rfl, x, rfl, rfl⟩ := hp; exact ⟨rfl, rfl⟩)
  intro D cy ad bs X
  have hk : t_hk (f_X13_isEnumWord x1 s) (fun q => q = r) := ⟨r, hr, rfl⟩
  show mj_G D cy ad bs X cX13_isEnumWord 4 yX13_isEnumWord.cls (some .boolean) yX13_isEnumWord.name 0 0 0 1065 (t_P (fun v s' => s' = s ∧ ∃ x, v = some (.int x) ∧ (fun q => q = r) (x))) 0 [(0, .ref 950), (1, .int x1)] [] (t_m s) 1065 0 0
  refine mj_iconst (v := 0) dX13_isEnumWord_0 (by decide) ?_
  refine mj_istore_n 2 (lv2 := [(2, .int 0), (0, .ref 950), (1, .int x1)]) dX13_isEnumWord_1 rfl (by decide) rfl ?_
  refine mj_iconst (v := 0) dX13_isEnumWord_2 (by decide) ?_
  refine mj_istore_n 3 (lv2 := [(3, .int 0), (2, .int 0), (0, .ref 950), (1, .int x1)]) dX13_isEnumWord_3 rfl (by decide) rfl ?_
  refine mj_sublv [(0, .ref 950), (1, .int x1), (2, .int 0), (3, .int 0)] [2, 3, 1, 0] rfl ?_
  exact LH_X13_isEnumWord_4 _ _ x1 0 0 _ hk

theorem dX13_isWay_0 : decode cX13_isWay 0 = .ok (.aload_n 0, 1) := by decide +kernel
theorem dX13_isWay_1 : decode cX13_isWay 1 = .ok (.getfield 174, 3) := by decide +kernel
theorem dX13_isWay_4 : decode cX13_isWay 4 = .ok (.iload_n 1, 1) := by decide +kernel
theorem dX13_isWay_5 : decode cX13_isWay 5 = .ok (.baload, 1) := by decide +kernel
theorem dX13_isWay_6 : decode cX13_isWay 6 = .ok (.ireturn, 1) := by decide +kernel
noncomputable def f_X13_isWay (x1 : Int32) (s : t_S) : Option (Int32) :=
 if t_ix x1 13000 = true then
  if (s.1 1004 (x1.toNatClampNeg)) = 0 ∨ (s.1 1004 (x1.toNatClampNeg)) = 1 then
  some (s.1 1004 (x1.toNatClampNeg))
else none
else none
set_option maxRecDepth 4000 in
set_option maxHeartbeats 1000000 in
theorem C_X13_isWay (x1 : Int32) (s : t_S) (r : Int32) (hr : f_X13_isWay x1 s = some r) : t_C yX13_isWay cX13_isWay 2 (some .boolean) 0 [.ref 950, .int x1] s (fun v s' => v = some (.int r) ∧ s' = s) := by
  refine t_C.imp (P := fun v s' => s' = s ∧ ∃ x, v = some (.int x) ∧ (fun q => q = r) (x)) (t_C.of (by decide +kernel) (Nat.le_of_ble_eq_true rfl) ?_) (fun v s' hp => by obtain ⟨rfl, x, rfl, rfl⟩ := hp; exact ⟨rfl, rfl⟩)
  intro D cy ad bs X
  have hk : t_hk (f_X13_isWay x1 s) (fun q => q = r) := ⟨r, hr, rfl⟩
  show mj_G D cy ad bs X cX13_isWay 2 yX13_isWay.cls (some .boolean) yX13_isWay.name 0 0 0 1065 (t_P (fun v s' => s' = s ∧ ∃ x, v = some (.int x) ∧ (fun q => q = r) (x))) 0 [(0, .ref 950), (1, .int x1)] [] (t_m s) 1065 0 0
  refine mj_aload_n dX13_isWay_0 0 rfl ?_
  refine t_getR 1004 dX13_isWay_1 F_X13_174 qr_950_91 ?_
  refine mj_iload_n dX13_isWay_4 1 rfl ?_
  refine t_chkK hk (fun c0 hk => ?_)
  refine t_zald dX13_isWay_5 qa_1004 (t_ixv c0) ?_
  refine t_chkK hk (fun c1 hk => ?_)
  exact t_somK hk (fun hf => t_iret dX13_isWay_6 rfl (t_zfit c1) ⟨rfl, _, rfl, hf⟩ (Nat.le_of_ble_eq_true rfl) (Nat.le_of_ble_eq_true rfl))

