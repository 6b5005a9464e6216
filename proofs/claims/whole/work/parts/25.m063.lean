/-! Methods as functions, 63: X13_alternatives, X13_areFieldsGood -/
theorem qa_1012 : t_oka 1012 3 13000 = true := by decide +kernel
theorem qr_950_109 : t_okr 950 13 109 1012 = true := by decide +kernel
theorem dX13_alternatives_0 : decode cX13_alternatives 0 = .ok (.aload_n 0, 1) := by decide +kernel
theorem dX13_alternatives_1 : decode cX13_alternatives 1 = .ok (.iload_n 1, 1) := by decide +kernel
theorem dX13_alternatives_10 : decode cX13_alternatives 10 = .ok (.getfield 842, 3) := by decide +kernel
theorem dX13_alternatives_101 : decode cX13_alternatives 101 = .ok (.iload 5, 2) := by decide +kernel
theorem dX13_alternatives_103 : decode cX13_alternatives 103 = .ok (.iaload, 1) := by decide +kernel
theorem dX13_alternatives_104 : decode cX13_alternatives 104 = .ok (.invokevirtual 1448, 3) := by decide +kernel
theorem dX13_alternatives_107 : decode cX13_alternatives 107 = .ok (.iadd, 1) := by decide +kernel
theorem dX13_alternatives_108 : decode cX13_alternatives 108 = .ok (.istore 7, 2) := by decide +kernel
theorem dX13_alternatives_110 : decode cX13_alternatives 110 = .ok (.aload_n 0, 1) := by decide +kernel
theorem dX13_alternatives_111 : decode cX13_alternatives 111 = .ok (.aload_n 0, 1) := by decide +kernel
theorem dX13_alternatives_112 : decode cX13_alternatives 112 = .ok (.iload_n 1, 1) := by decide +kernel
theorem dX13_alternatives_113 : decode cX13_alternatives 113 = .ok (.aload_n 0, 1) := by decide +kernel
theorem dX13_alternatives_114 : decode cX13_alternatives 114 = .ok (.getfield 165, 3) := by decide +kernel
theorem dX13_alternatives_117 : decode cX13_alternatives 117 = .ok (.iload 5, 2) := by decide +kernel
theorem dX13_alternatives_119 : decode cX13_alternatives 119 = .ok (.iaload, 1) := by decide +kernel
theorem dX13_alternatives_120 : decode cX13_alternatives 120 = .ok (.aload_n 0, 1) := by decide +kernel
theorem dX13_alternatives_121 : decode cX13_alternatives 121 = .ok (.aload_n 0, 1) := by decide +kernel
theorem dX13_alternatives_122 : decode cX13_alternatives 122 = .ok (.getfield 141, 3) := by decide +kernel
theorem dX13_alternatives_125 : decode cX13_alternatives 125 = .ok (.iload 5, 2) := by decide +kernel
theorem dX13_alternatives_127 : decode cX13_alternatives 127 = .ok (.iaload, 1) := by decide +kernel
theorem dX13_alternatives_128 : decode cX13_alternatives 128 = .ok (.aload_n 0, 1) := by decide +kernel
theorem dX13_alternatives_129 : decode cX13_alternatives 129 = .ok (.getfield 165, 3) := by decide +kernel
theorem dX13_alternatives_13 : decode cX13_alternatives 13 = .ok (.ifCond .eq 4, 3) := by decide +kernel
theorem dX13_alternatives_132 : decode cX13_alternatives 132 = .ok (.iload 5, 2) := by decide +kernel
theorem dX13_alternatives_134 : decode cX13_alternatives 134 = .ok (.iaload, 1) := by decide +kernel
theorem dX13_alternatives_135 : decode cX13_alternatives 135 = .ok (.aload_n 0, 1) := by decide +kernel
theorem dX13_alternatives_136 : decode cX13_alternatives 136 = .ok (.getfield 168, 3) := by decide +kernel
theorem dX13_alternatives_139 : decode cX13_alternatives 139 = .ok (.iload 5, 2) := by decide +kernel
theorem dX13_alternatives_141 : decode cX13_alternatives 141 = .ok (.iaload, 1) := by decide +kernel
theorem dX13_alternatives_142 : decode cX13_alternatives 142 = .ok (.invokevirtual 1445, 3) := by decide +kernel
theorem dX13_alternatives_145 : decode cX13_alternatives 145 = .ok (.invokevirtual 1343, 3) := by decide +kernel
theorem dX13_alternatives_148 : decode cX13_alternatives 148 = .ok (.sipush 260, 3) := by decide +kernel
theorem dX13_alternatives_151 : decode cX13_alternatives 151 = .ok (.sipush 1416, 3) := by decide +kernel
theorem dX13_alternatives_154 : decode cX13_alternatives 154 = .ok (.bipush 8, 2) := by decide +kernel
theorem dX13_alternatives_156 : decode cX13_alternatives 156 = .ok (.iload 7, 2) := by decide +kernel
theorem dX13_alternatives_158 : decode cX13_alternatives 158 = .ok (.imul, 1) := by decide +kernel
theorem dX13_alternatives_159 : decode cX13_alternatives 159 = .ok (.iadd, 1) := by decide +kernel
theorem dX13_alternatives_16 : decode cX13_alternatives 16 = .ok (.return_, 1) := by decide +kernel
theorem dX13_alternatives_160 : decode cX13_alternatives 160 = .ok (.aload_n 0, 1) := by decide +kernel
theorem dX13_alternatives_161 : decode cX13_alternatives 161 = .ok (.getfield 306, 3) := by decide +kernel
theorem dX13_alternatives_164 : decode cX13_alternatives 164 = .ok (.iload 7, 2) := by decide +kernel
theorem dX13_alternatives_166 : decode cX13_alternatives 166 = .ok (.iaload, 1) := by decide +kernel
theorem dX13_alternatives_167 : decode cX13_alternatives 167 = .ok (.iadd, 1) := by decide +kernel
theorem dX13_alternatives_168 : decode cX13_alternatives 168 = .ok (.imul, 1) := by decide +kernel
theorem dX13_alternatives_169 : decode cX13_alternatives 169 = .ok (.invokevirtual 1321, 3) := by decide +kernel
theorem dX13_alternatives_17 : decode cX13_alternatives 17 = .ok (.iload 4, 2) := by decide +kernel
theorem dX13_alternatives_172 : decode cX13_alternatives 172 = .ok (.aload_n 0, 1) := by decide +kernel
theorem dX13_alternatives_173 : decode cX13_alternatives 173 = .ok (.getfield 842, 3) := by decide +kernel
theorem dX13_alternatives_176 : decode cX13_alternatives 176 = .ok (.ifCond .eq 4, 3) := by decide +kernel
theorem dX13_alternatives_179 : decode cX13_alternatives 179 = .ok (.return_, 1) := by decide +kernel
theorem dX13_alternatives_180 : decode cX13_alternatives 180 = .ok (.aload_n 0, 1) := by decide +kernel
theorem dX13_alternatives_181 : decode cX13_alternatives 181 = .ok (.iload_n 1, 1) := by decide +kernel
theorem dX13_alternatives_182 : decode cX13_alternatives 182 = .ok (.iload_n 2, 1) := by decide +kernel
theorem dX13_alternatives_183 : decode cX13_alternatives 183 = .ok (.iload_n 3, 1) := by decide +kernel
theorem dX13_alternatives_184 : decode cX13_alternatives 184 = .ok (.invokevirtual 1371, 3) := by decide +kernel
theorem dX13_alternatives_187 : decode cX13_alternatives 187 = .ok (.iload 6, 2) := by decide +kernel
theorem dX13_alternatives_189 : decode cX13_alternatives 189 = .ok (.ifCond .ne 13, 3) := by decide +kernel
theorem dX13_alternatives_19 : decode cX13_alternatives 19 = .ok (.ifCond .ne 9, 3) := by decide +kernel
theorem dX13_alternatives_192 : decode cX13_alternatives 192 = .ok (.aload_n 0, 1) := by decide +kernel
theorem dX13_alternatives_193 : decode cX13_alternatives 193 = .ok (.iload_n 1, 1) := by decide +kernel
theorem dX13_alternatives_194 : decode cX13_alternatives 194 = .ok (.iload 5, 2) := by decide +kernel
theorem dX13_alternatives_196 : decode cX13_alternatives 196 = .ok (.invokevirtual 1482, 3) := by decide +kernel
theorem dX13_alternatives_199 : decode cX13_alternatives 199 = .ok (.goto 37, 3) := by decide +kernel
theorem dX13_alternatives_2 : decode cX13_alternatives 2 = .ok (.iload_n 2, 1) := by decide +kernel
theorem dX13_alternatives_202 : decode cX13_alternatives 202 = .ok (.iload 5, 2) := by decide +kernel
theorem dX13_alternatives_204 : decode cX13_alternatives 204 = .ok (.iload_n 3, 1) := by decide +kernel
theorem dX13_alternatives_205 : decode cX13_alternatives 205 = .ok (.if_icmp .eq 31, 3) := by decide +kernel
theorem dX13_alternatives_208 : decode cX13_alternatives 208 = .ok (.aload_n 0, 1) := by decide +kernel
theorem dX13_alternatives_209 : decode cX13_alternatives 209 = .ok (.getfield 156, 3) := by decide +kernel
theorem dX13_alternatives_212 : decode cX13_alternatives 212 = .ok (.iload 5, 2) := by decide +kernel
theorem dX13_alternatives_214 : decode cX13_alternatives 214 = .ok (.iaload, 1) := by decide +kernel
theorem dX13_alternatives_215 : decode cX13_alternatives 215 = .ok (.ifCond .lt 21, 3) := by decide +kernel
theorem dX13_alternatives_218 : decode cX13_alternatives 218 = .ok (.aload_n 0, 1) := by decide +kernel
theorem dX13_alternatives_219 : decode cX13_alternatives 219 = .ok (.getfield 288, 3) := by decide +kernel
theorem dX13_alternatives_22 : decode cX13_alternatives 22 = .ok (.aload_n 0, 1) := by decide +kernel
theorem dX13_alternatives_222 : decode cX13_alternatives 222 = .ok (.bipush 8, 2) := by decide +kernel
theorem dX13_alternatives_224 : decode cX13_alternatives 224 = .ok (.iload_n 1, 1) := by decide +kernel
theorem dX13_alternatives_225 : decode cX13_alternatives 225 = .ok (.imul, 1) := by decide +kernel
theorem dX13_alternatives_226 : decode cX13_alternatives 226 = .ok (.iload_n 2, 1) := by decide +kernel
theorem dX13_alternatives_227 : decode cX13_alternatives 227 = .ok (.iadd, 1) := by decide +kernel
theorem dX13_alternatives_228 : decode cX13_alternatives 228 = .ok (.aload_n 0, 1) := by decide +kernel
theorem dX13_alternatives_229 : decode cX13_alternatives 229 = .ok (.getfield 156, 3) := by decide +kernel
theorem dX13_alternatives_23 : decode cX13_alternatives 23 = .ok (.iconst 1, 1) := by decide +kernel
theorem dX13_alternatives_232 : decode cX13_alternatives 232 = .ok (.iload 5, 2) := by decide +kernel
theorem dX13_alternatives_234 : decode cX13_alternatives 234 = .ok (.iaload, 1) := by decide +kernel
theorem dX13_alternatives_235 : decode cX13_alternatives 235 = .ok (.iastore, 1) := by decide +kernel
theorem dX13_alternatives_236 : decode cX13_alternatives 236 = .ok (.aload_n 0, 1) := by decide +kernel
theorem dX13_alternatives_237 : decode cX13_alternatives 237 = .ok (.getfield 162, 3) := by decide +kernel
theorem dX13_alternatives_24 : decode cX13_alternatives 24 = .ok (.putfield 1360, 3) := by decide +kernel
theorem dX13_alternatives_240 : decode cX13_alternatives 240 = .ok (.iload 5, 2) := by decide +kernel
theorem dX13_alternatives_242 : decode cX13_alternatives 242 = .ok (.iaload, 1) := by decide +kernel
theorem dX13_alternatives_243 : decode cX13_alternatives 243 = .ok (.ifCond .ne 154, 3) := by decide +kernel
theorem dX13_alternatives_246 : decode cX13_alternatives 246 = .ok (.bipush 6, 2) := by decide +kernel
theorem dX13_alternatives_248 : decode cX13_alternatives 248 = .ok (.iload_n 1, 1) := by decide +kernel
theorem dX13_alternatives_249 : decode cX13_alternatives 249 = .ok (.imul, 1) := by decide +kernel
theorem dX13_alternatives_250 : decode cX13_alternatives 250 = .ok (.aload_n 0, 1) := by decide +kernel
theorem dX13_alternatives_251 : decode cX13_alternatives 251 = .ok (.iload_n 1, 1) := by decide +kernel
theorem dX13_alternatives_252 : decode cX13_alternatives 252 = .ok (.aload_n 0, 1) := by decide +kernel
theorem dX13_alternatives_253 : decode cX13_alternatives 253 = .ok (.getfield 135, 3) := by decide +kernel
theorem dX13_alternatives_256 : decode cX13_alternatives 256 = .ok (.iload 5, 2) := by decide +kernel
theorem dX13_alternatives_258 : decode cX13_alternatives 258 = .ok (.iaload, 1) := by decide +kernel
theorem dX13_alternatives_259 : decode cX13_alternatives 259 = .ok (.invokevirtual 1448, 3) := by decide +kernel
theorem dX13_alternatives_262 : decode cX13_alternatives 262 = .ok (.iadd, 1) := by decide +kernel
theorem dX13_alternatives_263 : decode cX13_alternatives 263 = .ok (.istore 7, 2) := by decide +kernel
theorem dX13_alternatives_265 : decode cX13_alternatives 265 = .ok (.sipush 1416, 3) := by decide +kernel
theorem dX13_alternatives_268 : decode cX13_alternatives 268 = .ok (.bipush 8, 2) := by decide +kernel
theorem dX13_alternatives_27 : decode cX13_alternatives 27 = .ok (.return_, 1) := by decide +kernel
theorem dX13_alternatives_270 : decode cX13_alternatives 270 = .ok (.iload 7, 2) := by decide +kernel
theorem dX13_alternatives_272 : decode cX13_alternatives 272 = .ok (.imul, 1) := by decide +kernel
theorem dX13_alternatives_273 : decode cX13_alternatives 273 = .ok (.iadd, 1) := by decide +kernel
theorem dX13_alternatives_274 : decode cX13_alternatives 274 = .ok (.aload_n 0, 1) := by decide +kernel
theorem dX13_alternatives_275 : decode cX13_alternatives 275 = .ok (.getfield 306, 3) := by decide +kernel
theorem dX13_alternatives_278 : decode cX13_alternatives 278 = .ok (.iload 7, 2) := by decide +kernel
theorem dX13_alternatives_28 : decode cX13_alternatives 28 = .ok (.aload_n 0, 1) := by decide +kernel
theorem dX13_alternatives_280 : decode cX13_alternatives 280 = .ok (.iaload, 1) := by decide +kernel
theorem dX13_alternatives_281 : decode cX13_alternatives 281 = .ok (.iadd, 1) := by decide +kernel
theorem dX13_alternatives_282 : decode cX13_alternatives 282 = .ok (.istore 8, 2) := by decide +kernel
theorem dX13_alternatives_284 : decode cX13_alternatives 284 = .ok (.aload_n 0, 1) := by decide +kernel
theorem dX13_alternatives_285 : decode cX13_alternatives 285 = .ok (.iconst 2, 1) := by decide +kernel
theorem dX13_alternatives_286 : decode cX13_alternatives 286 = .ok (.iload_n 1, 1) := by decide +kernel
theorem dX13_alternatives_287 : decode cX13_alternatives 287 = .ok (.iload 7, 2) := by decide +kernel
theorem dX13_alternatives_289 : decode cX13_alternatives 289 = .ok (.bipush 6, 2) := by decide +kernel
theorem dX13_alternatives_29 : decode cX13_alternatives 29 = .ok (.getfield 1455, 3) := by decide +kernel
theorem dX13_alternatives_291 : decode cX13_alternatives 291 = .ok (.iload_n 1, 1) := by decide +kernel
theorem dX13_alternatives_292 : decode cX13_alternatives 292 = .ok (.imul, 1) := by decide +kernel
theorem dX13_alternatives_293 : decode cX13_alternatives 293 = .ok (.isub, 1) := by decide +kernel
theorem dX13_alternatives_294 : decode cX13_alternatives 294 = .ok (.sipush 260, 3) := by decide +kernel
theorem dX13_alternatives_297 : decode cX13_alternatives 297 = .ok (.iload 8, 2) := by decide +kernel
theorem dX13_alternatives_299 : decode cX13_alternatives 299 = .ok (.imul, 1) := by decide +kernel
theorem dX13_alternatives_3 : decode cX13_alternatives 3 = .ok (.iload_n 3, 1) := by decide +kernel
theorem dX13_alternatives_300 : decode cX13_alternatives 300 = .ok (.invokevirtual 1305, 3) := by decide +kernel
theorem dX13_alternatives_303 : decode cX13_alternatives 303 = .ok (.aload_n 0, 1) := by decide +kernel
theorem dX13_alternatives_304 : decode cX13_alternatives 304 = .ok (.getfield 141, 3) := by decide +kernel
theorem dX13_alternatives_307 : decode cX13_alternatives 307 = .ok (.iload 5, 2) := by decide +kernel
theorem dX13_alternatives_309 : decode cX13_alternatives 309 = .ok (.iaload, 1) := by decide +kernel
theorem dX13_alternatives_310 : decode cX13_alternatives 310 = .ok (.ifCond .lt 54, 3) := by decide +kernel
theorem dX13_alternatives_313 : decode cX13_alternatives 313 = .ok (.aload_n 0, 1) := by decide +kernel
theorem dX13_alternatives_314 : decode cX13_alternatives 314 = .ok (.aload_n 0, 1) := by decide +kernel
theorem dX13_alternatives_315 : decode cX13_alternatives 315 = .ok (.getfield 141, 3) := by decide +kernel
theorem dX13_alternatives_318 : decode cX13_alternatives 318 = .ok (.iload 5, 2) := by decide +kernel
theorem dX13_alternatives_32 : decode cX13_alternatives 32 = .ok (.istore 5, 2) := by decide +kernel
theorem dX13_alternatives_320 : decode cX13_alternatives 320 = .ok (.iaload, 1) := by decide +kernel
theorem dX13_alternatives_321 : decode cX13_alternatives 321 = .ok (.aload_n 0, 1) := by decide +kernel
theorem dX13_alternatives_322 : decode cX13_alternatives 322 = .ok (.getfield 165, 3) := by decide +kernel
theorem dX13_alternatives_325 : decode cX13_alternatives 325 = .ok (.iload 5, 2) := by decide +kernel
theorem dX13_alternatives_327 : decode cX13_alternatives 327 = .ok (.iaload, 1) := by decide +kernel
theorem dX13_alternatives_328 : decode cX13_alternatives 328 = .ok (.aload_n 0, 1) := by decide +kernel
theorem dX13_alternatives_329 : decode cX13_alternatives 329 = .ok (.getfield 168, 3) := by decide +kernel
theorem dX13_alternatives_332 : decode cX13_alternatives 332 = .ok (.iload 5, 2) := by decide +kernel
theorem dX13_alternatives_334 : decode cX13_alternatives 334 = .ok (.iaload, 1) := by decide +kernel
theorem dX13_alternatives_335 : decode cX13_alternatives 335 = .ok (.invokevirtual 1445, 3) := by decide +kernel
theorem dX13_alternatives_338 : decode cX13_alternatives 338 = .ok (.istore 9, 2) := by decide +kernel
theorem dX13_alternatives_34 : decode cX13_alternatives 34 = .ok (.aload_n 0, 1) := by decide +kernel
theorem dX13_alternatives_340 : decode cX13_alternatives 340 = .ok (.aload_n 0, 1) := by decide +kernel
theorem dX13_alternatives_341 : decode cX13_alternatives 341 = .ok (.iload_n 1, 1) := by decide +kernel
theorem dX13_alternatives_342 : decode cX13_alternatives 342 = .ok (.iload 9, 2) := by decide +kernel
theorem dX13_alternatives_344 : decode cX13_alternatives 344 = .ok (.invokevirtual 1346, 3) := by decide +kernel
theorem dX13_alternatives_347 : decode cX13_alternatives 347 = .ok (.aload_n 0, 1) := by decide +kernel
theorem dX13_alternatives_348 : decode cX13_alternatives 348 = .ok (.sipush 260, 3) := by decide +kernel
theorem dX13_alternatives_35 : decode cX13_alternatives 35 = .ok (.getfield 1475, 3) := by decide +kernel
theorem dX13_alternatives_351 : decode cX13_alternatives 351 = .ok (.iload 8, 2) := by decide +kernel
theorem dX13_alternatives_353 : decode cX13_alternatives 353 = .ok (.imul, 1) := by decide +kernel
theorem dX13_alternatives_354 : decode cX13_alternatives 354 = .ok (.aload_n 0, 1) := by decide +kernel
theorem dX13_alternatives_355 : decode cX13_alternatives 355 = .ok (.iload_n 1, 1) := by decide +kernel
theorem dX13_alternatives_356 : decode cX13_alternatives 356 = .ok (.iload 9, 2) := by decide +kernel
theorem dX13_alternatives_358 : decode cX13_alternatives 358 = .ok (.invokevirtual 1349, 3) := by decide +kernel
theorem dX13_alternatives_361 : decode cX13_alternatives 361 = .ok (.invokevirtual 861, 3) := by decide +kernel
theorem dX13_alternatives_364 : decode cX13_alternatives 364 = .ok (.aload_n 0, 1) := by decide +kernel
theorem dX13_alternatives_365 : decode cX13_alternatives 365 = .ok (.getfield 306, 3) := by decide +kernel
theorem dX13_alternatives_368 : decode cX13_alternatives 368 = .ok (.iload 7, 2) := by decide +kernel
theorem dX13_alternatives_370 : decode cX13_alternatives 370 = .ok (.aload_n 0, 1) := by decide +kernel
theorem dX13_alternatives_371 : decode cX13_alternatives 371 = .ok (.getfield 306, 3) := by decide +kernel
theorem dX13_alternatives_374 : decode cX13_alternatives 374 = .ok (.iload 7, 2) := by decide +kernel
theorem dX13_alternatives_376 : decode cX13_alternatives 376 = .ok (.iaload, 1) := by decide +kernel
theorem dX13_alternatives_377 : decode cX13_alternatives 377 = .ok (.iconst 1, 1) := by decide +kernel
theorem dX13_alternatives_378 : decode cX13_alternatives 378 = .ok (.iadd, 1) := by decide +kernel
theorem dX13_alternatives_379 : decode cX13_alternatives 379 = .ok (.bipush 8, 2) := by decide +kernel
theorem dX13_alternatives_38 : decode cX13_alternatives 38 = .ok (.ifCond .ge 7, 3) := by decide +kernel
theorem dX13_alternatives_381 : decode cX13_alternatives 381 = .ok (.irem, 1) := by decide +kernel
theorem dX13_alternatives_382 : decode cX13_alternatives 382 = .ok (.iastore, 1) := by decide +kernel
theorem dX13_alternatives_383 : decode cX13_alternatives 383 = .ok (.aload_n 0, 1) := by decide +kernel
theorem dX13_alternatives_384 : decode cX13_alternatives 384 = .ok (.getfield 309, 3) := by decide +kernel
theorem dX13_alternatives_387 : decode cX13_alternatives 387 = .ok (.iload 7, 2) := by decide +kernel
theorem dX13_alternatives_389 : decode cX13_alternatives 389 = .ok (.dup2, 1) := by decide +kernel
theorem dX13_alternatives_390 : decode cX13_alternatives 390 = .ok (.iaload, 1) := by decide +kernel
theorem dX13_alternatives_391 : decode cX13_alternatives 391 = .ok (.iconst 1, 1) := by decide +kernel
theorem dX13_alternatives_392 : decode cX13_alternatives 392 = .ok (.isub, 1) := by decide +kernel
theorem dX13_alternatives_393 : decode cX13_alternatives 393 = .ok (.iastore, 1) := by decide +kernel
theorem dX13_alternatives_394 : decode cX13_alternatives 394 = .ok (.goto 51, 3) := by decide +kernel
theorem dX13_alternatives_397 : decode cX13_alternatives 397 = .ok (.aload_n 0, 1) := by decide +kernel
theorem dX13_alternatives_398 : decode cX13_alternatives 398 = .ok (.getfield 162, 3) := by decide +kernel
theorem dX13_alternatives_4 : decode cX13_alternatives 4 = .ok (.invokevirtual 1478, 3) := by decide +kernel
theorem dX13_alternatives_401 : decode cX13_alternatives 401 = .ok (.iload 5, 2) := by decide +kernel
theorem dX13_alternatives_403 : decode cX13_alternatives 403 = .ok (.iaload, 1) := by decide +kernel
theorem dX13_alternatives_404 : decode cX13_alternatives 404 = .ok (.iconst 1, 1) := by decide +kernel
theorem dX13_alternatives_405 : decode cX13_alternatives 405 = .ok (.if_icmp .ne 40, 3) := by decide +kernel
theorem dX13_alternatives_408 : decode cX13_alternatives 408 = .ok (.aload_n 0, 1) := by decide +kernel
theorem dX13_alternatives_409 : decode cX13_alternatives 409 = .ok (.iload_n 1, 1) := by decide +kernel
theorem dX13_alternatives_41 : decode cX13_alternatives 41 = .ok (.iconst 1, 1) := by decide +kernel
theorem dX13_alternatives_410 : decode cX13_alternatives 410 = .ok (.aload_n 0, 1) := by decide +kernel
theorem dX13_alternatives_411 : decode cX13_alternatives 411 = .ok (.getfield 135, 3) := by decide +kernel
theorem dX13_alternatives_414 : decode cX13_alternatives 414 = .ok (.iload 5, 2) := by decide +kernel
theorem dX13_alternatives_416 : decode cX13_alternatives 416 = .ok (.iaload, 1) := by decide +kernel
theorem dX13_alternatives_417 : decode cX13_alternatives 417 = .ok (.invokevirtual 1397, 3) := by decide +kernel
theorem dX13_alternatives_42 : decode cX13_alternatives 42 = .ok (.goto 4, 3) := by decide +kernel
theorem dX13_alternatives_420 : decode cX13_alternatives 420 = .ok (.istore 7, 2) := by decide +kernel
theorem dX13_alternatives_422 : decode cX13_alternatives 422 = .ok (.aload_n 0, 1) := by decide +kernel
theorem dX13_alternatives_423 : decode cX13_alternatives 423 = .ok (.getfield 321, 3) := by decide +kernel
theorem dX13_alternatives_426 : decode cX13_alternatives 426 = .ok (.iload 7, 2) := by decide +kernel
theorem dX13_alternatives_428 : decode cX13_alternatives 428 = .ok (.ldc2_w 1087, 3) := by decide +kernel
theorem dX13_alternatives_431 : decode cX13_alternatives 431 = .ok (.lastore, 1) := by decide +kernel
theorem dX13_alternatives_432 : decode cX13_alternatives 432 = .ok (.aload_n 0, 1) := by decide +kernel
theorem dX13_alternatives_433 : decode cX13_alternatives 433 = .ok (.iconst 3, 1) := by decide +kernel
theorem dX13_alternatives_434 : decode cX13_alternatives 434 = .ok (.iload_n 1, 1) := by decide +kernel
theorem dX13_alternatives_435 : decode cX13_alternatives 435 = .ok (.iload 7, 2) := by decide +kernel
theorem dX13_alternatives_437 : decode cX13_alternatives 437 = .ok (.iconst 4, 1) := by decide +kernel
theorem dX13_alternatives_438 : decode cX13_alternatives 438 = .ok (.iload_n 1, 1) := by decide +kernel
theorem dX13_alternatives_439 : decode cX13_alternatives 439 = .ok (.imul, 1) := by decide +kernel
theorem dX13_alternatives_440 : decode cX13_alternatives 440 = .ok (.isub, 1) := by decide +kernel
theorem dX13_alternatives_441 : decode cX13_alternatives 441 = .ok (.iconst (-1), 1) := by decide +kernel
theorem dX13_alternatives_442 : decode cX13_alternatives 442 = .ok (.invokevirtual 1305, 3) := by decide +kernel
theorem dX13_alternatives_445 : decode cX13_alternatives 445 = .ok (.return_, 1) := by decide +kernel
theorem dX13_alternatives_45 : decode cX13_alternatives 45 = .ok (.iconst 0, 1) := by decide +kernel
theorem dX13_alternatives_46 : decode cX13_alternatives 46 = .ok (.istore 6, 2) := by decide +kernel
theorem dX13_alternatives_48 : decode cX13_alternatives 48 = .ok (.iload 6, 2) := by decide +kernel
theorem dX13_alternatives_50 : decode cX13_alternatives 50 = .ok (.ifCond .ne 21, 3) := by decide +kernel
theorem dX13_alternatives_53 : decode cX13_alternatives 53 = .ok (.aload_n 0, 1) := by decide +kernel
theorem dX13_alternatives_54 : decode cX13_alternatives 54 = .ok (.getfield 282, 3) := by decide +kernel
theorem dX13_alternatives_57 : decode cX13_alternatives 57 = .ok (.iload_n 1, 1) := by decide +kernel
theorem dX13_alternatives_58 : decode cX13_alternatives 58 = .ok (.iaload, 1) := by decide +kernel
theorem dX13_alternatives_59 : decode cX13_alternatives 59 = .ok (.bipush 8, 2) := by decide +kernel
theorem dX13_alternatives_61 : decode cX13_alternatives 61 = .ok (.if_icmp .ne 10, 3) := by decide +kernel
theorem dX13_alternatives_64 : decode cX13_alternatives 64 = .ok (.aload_n 0, 1) := by decide +kernel
theorem dX13_alternatives_65 : decode cX13_alternatives 65 = .ok (.bipush 7, 2) := by decide +kernel
theorem dX13_alternatives_67 : decode cX13_alternatives 67 = .ok (.invokevirtual 866, 3) := by decide +kernel
theorem dX13_alternatives_7 : decode cX13_alternatives 7 = .ok (.istore 4, 2) := by decide +kernel
theorem dX13_alternatives_70 : decode cX13_alternatives 70 = .ok (.return_, 1) := by decide +kernel
theorem dX13_alternatives_71 : decode cX13_alternatives 71 = .ok (.aload_n 0, 1) := by decide +kernel
theorem dX13_alternatives_72 : decode cX13_alternatives 72 = .ok (.getfield 162, 3) := by decide +kernel
theorem dX13_alternatives_75 : decode cX13_alternatives 75 = .ok (.iload 5, 2) := by decide +kernel
theorem dX13_alternatives_77 : decode cX13_alternatives 77 = .ok (.iaload, 1) := by decide +kernel
theorem dX13_alternatives_78 : decode cX13_alternatives 78 = .ok (.ifCond .ne 102, 3) := by decide +kernel
theorem dX13_alternatives_81 : decode cX13_alternatives 81 = .ok (.aload_n 0, 1) := by decide +kernel
theorem dX13_alternatives_82 : decode cX13_alternatives 82 = .ok (.getfield 141, 3) := by decide +kernel
theorem dX13_alternatives_85 : decode cX13_alternatives 85 = .ok (.iload 5, 2) := by decide +kernel
theorem dX13_alternatives_87 : decode cX13_alternatives 87 = .ok (.iaload, 1) := by decide +kernel
theorem dX13_alternatives_88 : decode cX13_alternatives 88 = .ok (.ifCond .lt 92, 3) := by decide +kernel
theorem dX13_alternatives_9 : decode cX13_alternatives 9 = .ok (.aload_n 0, 1) := by decide +kernel
theorem dX13_alternatives_91 : decode cX13_alternatives 91 = .ok (.bipush 6, 2) := by decide +kernel
theorem dX13_alternatives_93 : decode cX13_alternatives 93 = .ok (.iload_n 1, 1) := by decide +kernel
theorem dX13_alternatives_94 : decode cX13_alternatives 94 = .ok (.imul, 1) := by decide +kernel
theorem dX13_alternatives_95 : decode cX13_alternatives 95 = .ok (.aload_n 0, 1) := by decide +kernel
theorem dX13_alternatives_96 : decode cX13_alternatives 96 = .ok (.iload_n 1, 1) := by decide +kernel
theorem dX13_alternatives_97 : decode cX13_alternatives 97 = .ok (.aload_n 0, 1) := by decide +kernel
theorem dX13_alternatives_98 : decode cX13_alternatives 98 = .ok (.getfield 135, 3) := by decide +kernel
noncomputable def k_X13_alternatives_364 (l7 : Int32) (s : t_S) : Option (t_S) :=
 if t_ix l7 48 = true then
  t_let (t_setI s 1046 (l7.toNatClampNeg) (((s.1 1046 (l7.toNatClampNeg)) + (1 : Int32)) - ((s.1 1046 (l7.toNatClampNeg)) + (1 : Int32)) / (8 : Int32) * (8 : Int32))) (fun s1 =>
 t_let (t_setI s1 1047 (l7.toNatClampNeg) ((s1.1 1047 (l7.toNatClampNeg)) - (1 : Int32))) (fun s2 =>
 some (s2)))
else none
set_option maxRecDepth 4000 in
set_option maxHeartbeats 1000000 in
theorem B_X13_alternatives_364 {D : va_G} {cy : Nat → ClassId} {ad : Nat → Nat} {bs : Nat} {X : State → Heap → Prop} (l7 : Int32) (s : t_S) (Q : t_S → Prop) (hk : t_hk (k_X13_alternatives_364 l7 s) Q) : mj_G D cy ad bs X cX13_alternatives 10 yX13_alternatives.cls none yX13_alternatives.name 1887 0 0 1065 (t_P (fun v s' => v = none ∧ Q (s'))) 364 [(0, .ref 950), (7, .int l7)] [] (t_m s) 1065 0 0 := by
  refine mj_aload_n dX13_alternatives_364 0 rfl ?_
  refine t_getR 1046 dX13_alternatives_365 F_X13_306 qr_950_161 ?_
  refine mj_iload dX13_alternatives_368 1 rfl ?_
  refine mj_aload_n dX13_alternatives_370 0 rfl ?_
  refine t_getR 1046 dX13_alternatives_371 F_X13_306 qr_950_161 ?_
  refine mj_iload dX13_alternatives_374 1 rfl ?_
  refine t_chkK hk (fun c0 hk => ?_)
  refine t_iald dX13_alternatives_376 qa_1046 (t_ixv c0) ?_
  refine mj_iconst (v := 1) dX13_alternatives_377 (by decide) ?_
  refine mj_iadd dX13_alternatives_378 ?_
  refine mj_bipush (v := 8) dX13_alternatives_379 (by decide) ?_
  refine mj_irem dX13_alternatives_381 (by decide) ?_
  refine t_iastK dX13_alternatives_382 qa_1046 (t_ixv c0) (fun s1 ws1 => t_letE hk ws1 (fun hk => ?_))
  refine mj_aload_n dX13_alternatives_383 0 rfl ?_
  refine t_getR 1047 dX13_alternatives_384 F_X13_309 qr_950_162 ?_
  refine mj_iload dX13_alternatives_387 1 rfl ?_
  refine mj_dup2 dX13_alternatives_389 rfl rfl ?_
  refine t_iald dX13_alternatives_390 qa_1047 (t_ixv c0) ?_
  refine mj_iconst (v := 1) dX13_alternatives_391 (by decide) ?_
  refine mj_isub dX13_alternatives_392 ?_
  refine t_iastK dX13_alternatives_393 qa_1047 (t_ixv c0) (fun s2 ws2 => t_letE hk ws2 (fun hk => ?_))
  refine mj_goto 445 dX13_alternatives_394 (by decide) ?_
  exact t_somK hk (fun hf => t_vret dX13_alternatives_445 rfl ⟨rfl, hf⟩ (Nat.le_of_ble_eq_true rfl) (Nat.le_of_ble_eq_true rfl))
noncomputable def k_X13_alternatives_236 (l1 : Int32) (l5 : Int32) (s : t_S) : Option (t_S) :=
 if t_ix l5 401 = true then
  if (s.1 1000 (l5.toNatClampNeg)) = (0 : Int32) then ((f_X13_portAt l1 (s.1 991 (l5.toNatClampNeg)) s).bind (fun r5 =>
 if t_ix (((6 : Int32) * l1) + r5) 48 = true then
  (f_X13_note (2 : Int32) l1 ((((6 : Int32) * l1) + r5) - ((6 : Int32) * l1)) ((260 : Int32) * (((1416 : Int32) + ((8 : Int32) * (((6 : Int32) * l1) + r5))) + (s.1 1046 ((((6 : Int32) * l1) + r5).toNatClampNeg)))) s).bind (fun r7 =>
 if (r7.1 993 (l5.toNatClampNeg)) < (0 : Int32) then (k_X13_alternatives_364 (((6 : Int32) * l1) + r5) r7)
 else ((f_X13_varPlace (r7.1 993 (l5.toNatClampNeg)) (r7.1 1001 (l5.toNatClampNeg)) (r7.1 1002 (l5.toNatClampNeg)) r7).bind (fun r8 =>
 (f_X13_tellVar l1 r8 r7).bind (fun r9 =>
 (f_X13_placeSlot l1 r8 r9).bind (fun r10 =>
 (f_X13_copy ((260 : Int32) * (((1416 : Int32) + ((8 : Int32) * (((6 : Int32) * l1) + r5))) + (s.1 1046 ((((6 : Int32) * l1) + r5).toNatClampNeg)))) r10 r9).bind (fun r11 =>
 k_X13_alternatives_364 (((6 : Int32) * l1) + r5) r11))))))
else none))
 else (if (s.1 1000 (l5.toNatClampNeg)) = (1 : Int32) then ((f_X13_timerAt l1 (s.1 991 (l5.toNatClampNeg)) s).bind (fun r2 =>
 if t_ix r2 32 = true then
  t_let (t_setJ s 1051 (r2.toNatClampNeg) (-1 : Int64)) (fun s1 =>
 (f_X13_note (3 : Int32) l1 (r2 - ((4 : Int32) * l1)) (-1 : Int32) s1).bind (fun r4 =>
 some (r4)))
else none))
 else (some (s)))
else none
set_option maxRecDepth 4000 in
set_option maxHeartbeats 1000000 in
theorem B_X13_alternatives_236 {D : va_G} {cy : Nat → ClassId} {ad : Nat → Nat} {bs : Nat} {X : State → Heap → Prop} (l1 : Int32) (l5 : Int32) (s : t_S) (Q : t_S → Prop) (hk : t_hk (k_X13_alternatives_236 l1 l5 s) Q) : mj_G D cy ad bs X cX13_alternatives 10 yX13_alternatives.cls none yX13_alternatives.name 1887 0 0 1065 (t_P (fun v s' => v = none ∧ Q (s'))) 236 [(0, .ref 950), (1, .int l1), (5, .int l5)] [] (t_m s) 1065 0 0 := by
  refine mj_aload_n dX13_alternatives_236 0 rfl ?_
  refine t_getR 1000 dX13_alternatives_237 F_X13_162 qr_950_78 ?_
  refine mj_iload dX13_alternatives_240 2 rfl ?_
  refine t_chkK hk (fun c0 hk => ?_)
  refine t_iald dX13_alternatives_242 qa_1000 (t_ixv c0) ?_
  refine mj_if_ne 397 dX13_alternatives_243 (by decide) (fun z => t_negK hk z (fun hk => ?_)) (fun z => t_posK hk z (fun hk => ?_))
  · refine mj_aload_n dX13_alternatives_397 0 rfl ?_
    refine t_getR 1000 dX13_alternatives_398 F_X13_162 qr_950_78 ?_
    refine mj_iload dX13_alternatives_401 2 rfl ?_
    refine t_iald dX13_alternatives_403 qa_1000 (t_ixv c0) ?_
    refine mj_iconst (v := 1) dX13_alternatives_404 (by decide) ?_
    refine mj_icmp_ne 445 dX13_alternatives_405 (by decide) (fun z => t_negK hk z (fun hk => ?_)) (fun z => t_posK hk z (fun hk => ?_))
    · exact t_somK hk (fun hf => t_vret dX13_alternatives_445 rfl ⟨rfl, hf⟩ (Nat.le_of_ble_eq_true rfl) (Nat.le_of_ble_eq_true rfl))
    · refine mj_aload_n dX13_alternatives_408 0 rfl ?_
      refine mj_iload_n dX13_alternatives_409 1 rfl ?_
      refine mj_aload_n dX13_alternatives_410 0 rfl ?_
      refine t_getR 991 dX13_alternatives_411 F_X13_135 qr_950_69 ?_
      refine mj_iload dX13_alternatives_414 2 rfl ?_
      refine t_iald dX13_alternatives_416 qa_991 (t_ixv c0) ?_
      refine t_bndK hk (fun r2 er2 hk => ?_)
      refine t_callViP dX13_alternatives_417 M_X13_timerAt (C_X13_timerAt _ _ _ _ er2) ML_X13_1397 IM_X13_timerAt SE_X13_timerAt qc_950 rfl (As := [.int l1, .int (s.1 991 (l5.toNatClampNeg))]) rfl rfl (Nat.le_of_ble_eq_true rfl) (Nat.le_of_ble_eq_true rfl) (Nat.le_of_ble_eq_true rfl) (Nat.le_of_ble_eq_true rfl) ?_
      refine mj_istore (lv2 := [(7, .int r2), (0, .ref 950), (1, .int l1), (5, .int l5)]) dX13_alternatives_420 (by decide) rfl ?_
      refine mj_aload_n dX13_alternatives_422 1 rfl ?_
      refine t_getR 1051 dX13_alternatives_423 F_X13_321 qr_950_166 ?_
      refine mj_iload dX13_alternatives_426 0 rfl ?_
      refine mj_ldc2 dX13_alternatives_428 K_X13_1087 ?_
      refine t_chkK hk (fun c2 hk => ?_)
      refine t_lastK dX13_alternatives_431 qa_1051 (t_ixv c2) (fun s1 ws1 => t_letE hk ws1 (fun hk => ?_))
      refine mj_aload_n dX13_alternatives_432 1 rfl ?_
      refine mj_iconst (v := 3) dX13_alternatives_433 (by decide) ?_
      refine mj_iload_n dX13_alternatives_434 2 rfl ?_
      refine mj_iload dX13_alternatives_435 0 rfl ?_
      refine mj_iconst (v := 4) dX13_alternatives_437 (by decide) ?_
      refine mj_iload_n dX13_alternatives_438 2 rfl ?_
      refine mj_imul dX13_alternatives_439 ?_
      refine mj_isub dX13_alternatives_440 ?_
      refine mj_iconst (v := (-1)) dX13_alternatives_441 (by decide) ?_
      refine t_bndK hk (fun r4 er4 hk => ?_)
      refine t_callVvE dX13_alternatives_442 M_X13_note (C_X13_note _ _ _ _ _ _ er4) ML_X13_1305 IM_X13_note SE_X13_note qc_950 rfl (As := [.int 3, .int l1, .int (r2 - ((4 : Int32) * l1)), .int (-1)]) rfl rfl (Nat.le_of_ble_eq_true rfl) (Nat.le_of_ble_eq_true rfl) (Nat.le_of_ble_eq_true rfl) (Nat.le_of_ble_eq_true rfl) ?_
      exact t_somK hk (fun hf => t_vret dX13_alternatives_445 rfl ⟨rfl, hf⟩ (Nat.le_of_ble_eq_true rfl) (Nat.le_of_ble_eq_true rfl))
  · refine mj_bipush (v := 6) dX13_alternatives_246 (by decide) ?_
    refine mj_iload_n dX13_alternatives_248 1 rfl ?_
    refine mj_imul dX13_alternatives_249 ?_
    refine mj_aload_n dX13_alternatives_250 0 rfl ?_
    refine mj_iload_n dX13_alternatives_251 1 rfl ?_
    refine mj_aload_n dX13_alternatives_252 0 rfl ?_
    refine t_getR 991 dX13_alternatives_253 F_X13_135 qr_950_69 ?_
    refine mj_iload dX13_alternatives_256 2 rfl ?_
    refine t_iald dX13_alternatives_258 qa_991 (t_ixv c0) ?_
    refine t_bndK hk (fun r5 er5 hk => ?_)
    refine t_callViP dX13_alternatives_259 M_X13_portAt (C_X13_portAt _ _ _ _ er5) ML_X13_1448 IM_X13_portAt SE_X13_portAt qc_950 rfl (As := [.int l1, .int (s.1 991 (l5.toNatClampNeg))]) rfl rfl (Nat.le_of_ble_eq_true rfl) (Nat.le_of_ble_eq_true rfl) (Nat.le_of_ble_eq_true rfl) (Nat.le_of_ble_eq_true rfl) ?_
    refine mj_iadd dX13_alternatives_262 ?_
    refine mj_istore (lv2 := [(7, .int (((6 : Int32) * l1) + r5)), (0, .ref 950), (1, .int l1), (5, .int l5)]) dX13_alternatives_263 (by decide) rfl ?_
    refine mj_sipush (v := 1416) dX13_alternatives_265 (by decide) ?_
    refine mj_bipush (v := 8) dX13_alternatives_268 (by decide) ?_
    refine mj_iload dX13_alternatives_270 0 rfl ?_
    refine mj_imul dX13_alternatives_272 ?_
    refine mj_iadd dX13_alternatives_273 ?_
    refine mj_aload_n dX13_alternatives_274 1 rfl ?_
    refine t_getR 1046 dX13_alternatives_275 F_X13_306 qr_950_161 ?_
    refine mj_iload dX13_alternatives_278 0 rfl ?_
    refine t_chkK hk (fun c5 hk => ?_)
    refine t_iald dX13_alternatives_280 qa_1046 (t_ixv c5) ?_
    refine mj_iadd dX13_alternatives_281 ?_
    refine mj_istore (lv2 := [(8, .int (((1416 : Int32) + ((8 : Int32) * (((6 : Int32) * l1) + r5))) + (s.1 1046 ((((6 : Int32) * l1) + r5).toNatClampNeg)))), (7, .int (((6 : Int32) * l1) + r5)), (0, .ref 950), (1, .int l1), (5, .int l5)]) dX13_alternatives_282 (by decide) rfl ?_
    refine mj_aload_n dX13_alternatives_284 2 rfl ?_
    refine mj_iconst (v := 2) dX13_alternatives_285 (by decide) ?_
    refine mj_iload_n dX13_alternatives_286 3 rfl ?_
    refine mj_iload dX13_alternatives_287 1 rfl ?_
    refine mj_bipush (v := 6) dX13_alternatives_289 (by decide) ?_
    refine mj_iload_n dX13_alternatives_291 3 rfl ?_
    refine mj_imul dX13_alternatives_292 ?_
    refine mj_isub dX13_alternatives_293 ?_
    refine mj_sipush (v := 260) dX13_alternatives_294 (by decide) ?_
    refine mj_iload dX13_alternatives_297 0 rfl ?_
    refine mj_imul dX13_alternatives_299 ?_
    refine t_bndK hk (fun r7 er7 hk => ?_)
    refine t_callVvE dX13_alternatives_300 M_X13_note (C_X13_note _ _ _ _ _ _ er7) ML_X13_1305 IM_X13_note SE_X13_note qc_950 rfl (As := [.int 2, .int l1, .int ((((6 : Int32) * l1) + r5) - ((6 : Int32) * l1)), .int ((260 : Int32) * (((1416 : Int32) + ((8 : Int32) * (((6 : Int32) * l1) + r5))) + (s.1 1046 ((((6 : Int32) * l1) + r5).toNatClampNeg))))]) rfl rfl (Nat.le_of_ble_eq_true rfl) (Nat.le_of_ble_eq_true rfl) (Nat.le_of_ble_eq_true rfl) (Nat.le_of_ble_eq_true rfl) ?_
    refine mj_aload_n dX13_alternatives_303 2 rfl ?_
    refine t_getR 993 dX13_alternatives_304 F_X13_141 qr_950_71 ?_
    refine mj_iload dX13_alternatives_307 4 rfl ?_
    refine t_iald dX13_alternatives_309 qa_993 (t_ixv c0) ?_
    refine mj_if_lt 364 dX13_alternatives_310 (by decide) (fun z => t_posK hk z (fun hk => ?_)) (fun z => t_negK hk z (fun hk => ?_))
    · refine mj_sublv [(0, .ref 950), (7, .int (((6 : Int32) * l1) + r5))] [2, 1] rfl ?_
      exact B_X13_alternatives_364 _ _ _ hk
    · refine mj_aload_n dX13_alternatives_313 2 rfl ?_
      refine mj_aload_n dX13_alternatives_314 2 rfl ?_
      refine t_getR 993 dX13_alternatives_315 F_X13_141 qr_950_71 ?_
      refine mj_iload dX13_alternatives_318 4 rfl ?_
      refine t_iald dX13_alternatives_320 qa_993 (t_ixv c0) ?_
      refine mj_aload_n dX13_alternatives_321 2 rfl ?_
      refine t_getR 1001 dX13_alternatives_322 F_X13_165 qr_950_79 ?_
      refine mj_iload dX13_alternatives_325 4 rfl ?_
      refine t_iald dX13_alternatives_327 qa_1001 (t_ixv c0) ?_
      refine mj_aload_n dX13_alternatives_328 2 rfl ?_
      refine t_getR 1002 dX13_alternatives_329 F_X13_168 qr_950_80 ?_
      refine mj_iload dX13_alternatives_332 4 rfl ?_
      refine t_iald dX13_alternatives_334 qa_1002 (t_ixv c0) ?_
      refine t_bndK hk (fun r8 er8 hk => ?_)
      refine t_callViP dX13_alternatives_335 M_X13_varPlace (C_X13_varPlace _ _ _ _ _ er8) ML_X13_1445 IM_X13_varPlace SE_X13_varPlace qc_950 rfl (As := [.int (r7.1 993 (l5.toNatClampNeg)), .int (r7.1 1001 (l5.toNatClampNeg)), .int (r7.1 1002 (l5.toNatClampNeg))]) rfl rfl (Nat.le_of_ble_eq_true rfl) (Nat.le_of_ble_eq_true rfl) (Nat.le_of_ble_eq_true rfl) (Nat.le_of_ble_eq_true rfl) ?_
      refine mj_istore (lv2 := [(9, .int r8), (8, .int (((1416 : Int32) + ((8 : Int32) * (((6 : Int32) * l1) + r5))) + (s.1 1046 ((((6 : Int32) * l1) + r5).toNatClampNeg)))), (7, .int (((6 : Int32) * l1) + r5)), (0, .ref 950), (1, .int l1), (5, .int l5)]) dX13_alternatives_338 (by decide) rfl ?_
      refine mj_aload_n dX13_alternatives_340 3 rfl ?_
      refine mj_iload_n dX13_alternatives_341 4 rfl ?_
      refine mj_iload dX13_alternatives_342 0 rfl ?_
      refine t_bndK hk (fun r9 er9 hk => ?_)
      refine t_callVvE dX13_alternatives_344 M_X13_tellVar (C_X13_tellVar _ _ _ _ er9) ML_X13_1346 IM_X13_tellVar SE_X13_tellVar qc_950 rfl (As := [.int l1, .int r8]) rfl rfl (Nat.le_of_ble_eq_true rfl) (Nat.le_of_ble_eq_true rfl) (Nat.le_of_ble_eq_true rfl) (Nat.le_of_ble_eq_true rfl) ?_
      refine mj_aload_n dX13_alternatives_347 3 rfl ?_
      refine mj_sipush (v := 260) dX13_alternatives_348 (by decide) ?_
      refine mj_iload dX13_alternatives_351 1 rfl ?_
      refine mj_imul dX13_alternatives_353 ?_
      refine mj_aload_n dX13_alternatives_354 3 rfl ?_
      refine mj_iload_n dX13_alternatives_355 4 rfl ?_
      refine mj_iload dX13_alternatives_356 0 rfl ?_
      refine t_bndK hk (fun r10 er10 hk => ?_)
      refine t_callViP dX13_alternatives_358 M_X13_placeSlot (C_X13_placeSlot _ _ _ _ er10) ML_X13_1349 IM_X13_placeSlot SE_X13_placeSlot qc_950 rfl (As := [.int l1, .int r8]) rfl rfl (Nat.le_of_ble_eq_true rfl) (Nat.le_of_ble_eq_true rfl) (Nat.le_of_ble_eq_true rfl) (Nat.le_of_ble_eq_true rfl) ?_
      refine t_bndK hk (fun r11 er11 hk => ?_)
      refine t_callVvE dX13_alternatives_361 M_X13_copy (C_X13_copy _ _ _ _ er11) ML_X13_861 IM_X13_copy SE_X13_copy qc_950 rfl (As := [.int ((260 : Int32) * (((1416 : Int32) + ((8 : Int32) * (((6 : Int32) * l1) + r5))) + (s.1 1046 ((((6 : Int32) * l1) + r5).toNatClampNeg)))), .int r10]) rfl rfl (Nat.le_of_ble_eq_true rfl) (Nat.le_of_ble_eq_true rfl) (Nat.le_of_ble_eq_true rfl) (Nat.le_of_ble_eq_true rfl) ?_
      refine mj_sublv [(0, .ref 950), (7, .int (((6 : Int32) * l1) + r5))] [3, 2] rfl ?_
      exact B_X13_alternatives_364 _ _ _ hk
noncomputable def k_X13_alternatives_180 (l1 : Int32) (l2 : Int32) (l3 : Int32) (l5 : Int32) (l6 : Int32) (s : t_S) : Option (t_S) :=
 (f_X13_goOn l1 l2 l3 s).bind (fun r1 =>
 if l6 = (0 : Int32) then ((f_X13_stepIn l1 l5 r1).bind (fun r4 =>
 k_X13_alternatives_236 l1 l5 r4))
 else (if l5 = l3 then (k_X13_alternatives_236 l1 l5 r1)
 else (if t_ix l5 401 = true then
  if (r1.1 998 (l5.toNatClampNeg)) < (0 : Int32) then (k_X13_alternatives_236 l1 l5 r1)
 else (if t_ix (((8 : Int32) * l1) + l2) 64 = true then
  t_let (t_setI r1 1040 ((((8 : Int32) * l1) + l2).toNatClampNeg) (r1.1 998 (l5.toNatClampNeg))) (fun s1 =>
 k_X13_alternatives_236 l1 l5 s1)
else none)
else none)))
set_option maxRecDepth 4000 in
set_option maxHeartbeats 1000000 in
theorem B_X13_alternatives_180 {D : va_G} {cy : Nat → ClassId} {ad : Nat → Nat} {bs : Nat} {X : State → Heap → Prop} (l1 : Int32) (l2 : Int32) (l3 : Int32) (l5 : Int32) (l6 : Int32) (s : t_S) (Q : t_S → Prop) (hk : t_hk (k_X13_alternatives_180 l1 l2 l3 l5 l6 s) Q) : mj_G D cy ad bs X cX13_alternatives 10 yX13_alternatives.cls none yX13_alternatives.name 1887 0 0 1065 (t_P (fun v s' => v = none ∧ Q (s'))) 180 [(0, .ref 950), (1, .int l1), (2, .int l2), (3, .int l3), (5, .int l5), (6, .int l6)] [] (t_m s) 1065 0 0 := by
  refine mj_aload_n dX13_alternatives_180 0 rfl ?_
  refine mj_iload_n dX13_alternatives_181 1 rfl ?_
  refine mj_iload_n dX13_alternatives_182 2 rfl ?_
  refine mj_iload_n dX13_alternatives_183 3 rfl ?_
  refine t_bndK hk (fun r1 er1 hk => ?_)
  refine t_callVvE dX13_alternatives_184 M_X13_goOn (C_X13_goOn _ _ _ _ _ er1) ML_X13_1371 IM_X13_goOn SE_X13_goOn qc_950 rfl (As := [.int l1, .int l2, .int l3]) rfl rfl (Nat.le_of_ble_eq_true rfl) (Nat.le_of_ble_eq_true rfl) (Nat.le_of_ble_eq_true rfl) (Nat.le_of_ble_eq_true rfl) ?_
  refine mj_iload dX13_alternatives_187 5 rfl ?_
  refine mj_if_ne 202 dX13_alternatives_189 (by decide) (fun z => t_negK hk z (fun hk => ?_)) (fun z => t_posK hk z (fun hk => ?_))
  · refine mj_iload dX13_alternatives_202 4 rfl ?_
    refine mj_iload_n dX13_alternatives_204 3 rfl ?_
    refine mj_icmp_eq 236 dX13_alternatives_205 (by decide) (fun z => t_posK hk z (fun hk => ?_)) (fun z => t_negK hk z (fun hk => ?_))
    · refine mj_sublv [(0, .ref 950), (1, .int l1), (5, .int l5)] [0, 1, 4] rfl ?_
      exact B_X13_alternatives_236 _ _ _ _ hk
    · refine mj_aload_n dX13_alternatives_208 0 rfl ?_
      refine t_getR 998 dX13_alternatives_209 F_X13_156 qr_950_76 ?_
      refine mj_iload dX13_alternatives_212 4 rfl ?_
      refine t_chkK hk (fun c1 hk => ?_)
      refine t_iald dX13_alternatives_214 qa_998 (t_ixv c1) ?_
      refine mj_if_lt 236 dX13_alternatives_215 (by decide) (fun z => t_posK hk z (fun hk => ?_)) (fun z => t_negK hk z (fun hk => ?_))
      · refine mj_sublv [(0, .ref 950), (1, .int l1), (5, .int l5)] [0, 1, 4] rfl ?_
        exact B_X13_alternatives_236 _ _ _ _ hk
      · refine mj_aload_n dX13_alternatives_218 0 rfl ?_
        refine t_getR 1040 dX13_alternatives_219 F_X13_288 qr_950_155 ?_
        refine mj_bipush (v := 8) dX13_alternatives_222 (by decide) ?_
        refine mj_iload_n dX13_alternatives_224 1 rfl ?_
        refine mj_imul dX13_alternatives_225 ?_
        refine mj_iload_n dX13_alternatives_226 2 rfl ?_
        refine mj_iadd dX13_alternatives_227 ?_
        refine mj_aload_n dX13_alternatives_228 0 rfl ?_
        refine t_getR 998 dX13_alternatives_229 F_X13_156 qr_950_76 ?_
        refine mj_iload dX13_alternatives_232 4 rfl ?_
        refine t_iald dX13_alternatives_234 qa_998 (t_ixv c1) ?_
        refine t_chkK hk (fun c2 hk => ?_)
        refine t_iastK dX13_alternatives_235 qa_1040 (t_ixv c2) (fun s1 ws1 => t_letE hk ws1 (fun hk => ?_))
        refine mj_sublv [(0, .ref 950), (1, .int l1), (5, .int l5)] [0, 1, 4] rfl ?_
        exact B_X13_alternatives_236 _ _ _ _ hk
  · refine mj_aload_n dX13_alternatives_192 0 rfl ?_
    refine mj_iload_n dX13_alternatives_193 1 rfl ?_
    refine mj_iload dX13_alternatives_194 4 rfl ?_
    refine t_bndK hk (fun r4 er4 hk => ?_)
    refine t_callVvE dX13_alternatives_196 M_X13_stepIn (C_X13_stepIn _ _ _ _ er4) ML_X13_1482 IM_X13_stepIn SE_X13_stepIn qc_950 rfl (As := [.int l1, .int l5]) rfl rfl (Nat.le_of_ble_eq_true rfl) (Nat.le_of_ble_eq_true rfl) (Nat.le_of_ble_eq_true rfl) (Nat.le_of_ble_eq_true rfl) ?_
    refine mj_goto 236 dX13_alternatives_199 (by decide) ?_
    refine mj_sublv [(0, .ref 950), (1, .int l1), (5, .int l5)] [0, 1, 4] rfl ?_
    exact B_X13_alternatives_236 _ _ _ _ hk
noncomputable def k_X13_alternatives_71 (l1 : Int32) (l2 : Int32) (l3 : Int32) (l5 : Int32) (l6 : Int32) (s : t_S) : Option (t_S) :=
 if t_ix l5 401 = true then
  if (s.1 1000 (l5.toNatClampNeg)) = (0 : Int32) then (if (s.1 993 (l5.toNatClampNeg)) < (0 : Int32) then (k_X13_alternatives_180 l1 l2 l3 l5 l6 s)
 else ((f_X13_portAt l1 (s.1 991 (l5.toNatClampNeg)) s).bind (fun r2 =>
 (f_X13_varPlace (s.1 993 (l5.toNatClampNeg)) (s.1 1001 (l5.toNatClampNeg)) (s.1 1002 (l5.toNatClampNeg)) s).bind (fun r3 =>
 (f_X13_typeAt l1 (s.1 1001 (l5.toNatClampNeg)) r3 s).bind (fun r4 =>
 if t_ix (((6 : Int32) * l1) + r2) 48 = true then
  (f_X13_checkType r4 ((260 : Int32) * (((1416 : Int32) + ((8 : Int32) * (((6 : Int32) * l1) + r2))) + (s.1 1046 ((((6 : Int32) * l1) + r2).toNatClampNeg)))) s).bind (fun r6 =>
 if (r6.1 950 97) = (0 : Int32) then (k_X13_alternatives_180 l1 l2 l3 l5 l6 r6)
 else (some (r6)))
else none)))))
 else (k_X13_alternatives_180 l1 l2 l3 l5 l6 s)
else none
set_option maxRecDepth 4000 in
set_option maxHeartbeats 1000000 in
theorem B_X13_alternatives_71 {D : va_G} {cy : Nat → ClassId} {ad : Nat → Nat} {bs : Nat} {X : State → Heap → Prop} (l1 : Int32) (l2 : Int32) (l3 : Int32) (l5 : Int32) (l6 : Int32) (s : t_S) (Q : t_S → Prop) (hk : t_hk (k_X13_alternatives_71 l1 l2 l3 l5 l6 s) Q) : mj_G D cy ad bs X cX13_alternatives 10 yX13_alternatives.cls none yX13_alternatives.name 1887 0 0 1065 (t_P (fun v s' => v = none ∧ Q (s'))) 71 [(0, .ref 950), (1, .int l1), (2, .int l2), (3, .int l3), (5, .int l5), (6, .int l6)] [] (t_m s) 1065 0 0 := by
  refine mj_aload_n dX13_alternatives_71 0 rfl ?_
  refine t_getR 1000 dX13_alternatives_72 F_X13_162 qr_950_78 ?_
  refine mj_iload dX13_alternatives_75 4 rfl ?_
  refine t_chkK hk (fun c0 hk => ?_)
  refine t_iald dX13_alternatives_77 qa_1000 (t_ixv c0) ?_
  refine mj_if_ne 180 dX13_alternatives_78 (by decide) (fun z => t_negK hk z (fun hk => ?_)) (fun z => t_posK hk z (fun hk => ?_))
  · exact B_X13_alternatives_180 _ _ _ _ _ _ _ hk
  · refine mj_aload_n dX13_alternatives_81 0 rfl ?_
    refine t_getR 993 dX13_alternatives_82 F_X13_141 qr_950_71 ?_
    refine mj_iload dX13_alternatives_85 4 rfl ?_
    refine t_iald dX13_alternatives_87 qa_993 (t_ixv c0) ?_
    refine mj_if_lt 180 dX13_alternatives_88 (by decide) (fun z => t_posK hk z (fun hk => ?_)) (fun z => t_negK hk z (fun hk => ?_))
    · exact B_X13_alternatives_180 _ _ _ _ _ _ _ hk
    · refine mj_bipush (v := 6) dX13_alternatives_91 (by decide) ?_
      refine mj_iload_n dX13_alternatives_93 1 rfl ?_
      refine mj_imul dX13_alternatives_94 ?_
      refine mj_aload_n dX13_alternatives_95 0 rfl ?_
      refine mj_iload_n dX13_alternatives_96 1 rfl ?_
      refine mj_aload_n dX13_alternatives_97 0 rfl ?_
      refine t_getR 991 dX13_alternatives_98 F_X13_135 qr_950_69 ?_
      refine mj_iload dX13_alternatives_101 4 rfl ?_
      refine t_iald dX13_alternatives_103 qa_991 (t_ixv c0) ?_
      refine t_bndK hk (fun r2 er2 hk => ?_)
      refine t_callViP dX13_alternatives_104 M_X13_portAt (C_X13_portAt _ _ _ _ er2) ML_X13_1448 IM_X13_portAt SE_X13_portAt qc_950 rfl (As := [.int l1, .int (s.1 991 (l5.toNatClampNeg))]) rfl rfl (Nat.le_of_ble_eq_true rfl) (Nat.le_of_ble_eq_true rfl) (Nat.le_of_ble_eq_true rfl) (Nat.le_of_ble_eq_true rfl) ?_
      refine mj_iadd dX13_alternatives_107 ?_
      refine mj_istore (lv2 := [(7, .int (((6 : Int32) * l1) + r2)), (0, .ref 950), (1, .int l1), (2, .int l2), (3, .int l3), (5, .int l5), (6, .int l6)]) dX13_alternatives_108 (by decide) rfl ?_
      refine mj_aload_n dX13_alternatives_110 1 rfl ?_
      refine mj_aload_n dX13_alternatives_111 1 rfl ?_
      refine mj_iload_n dX13_alternatives_112 2 rfl ?_
      refine mj_aload_n dX13_alternatives_113 1 rfl ?_
      refine t_getR 1001 dX13_alternatives_114 F_X13_165 qr_950_79 ?_
      refine mj_iload dX13_alternatives_117 5 rfl ?_
      refine t_iald dX13_alternatives_119 qa_1001 (t_ixv c0) ?_
      refine mj_aload_n dX13_alternatives_120 1 rfl ?_
      refine mj_aload_n dX13_alternatives_121 1 rfl ?_
      refine t_getR 993 dX13_alternatives_122 F_X13_141 qr_950_71 ?_
      refine mj_iload dX13_alternatives_125 5 rfl ?_
      refine t_iald dX13_alternatives_127 qa_993 (t_ixv c0) ?_
      refine mj_aload_n dX13_alternatives_128 1 rfl ?_
      refine t_getR 1001 dX13_alternatives_129 F_X13_165 qr_950_79 ?_
      refine mj_iload dX13_alternatives_132 5 rfl ?_
      refine t_iald dX13_alternatives_134 qa_1001 (t_ixv c0) ?_
      refine mj_aload_n dX13_alternatives_135 1 rfl ?_
      refine t_getR 1002 dX13_alternatives_136 F_X13_168 qr_950_80 ?_
      refine mj_iload dX13_alternatives_139 5 rfl ?_
      refine t_iald dX13_alternatives_141 qa_1002 (t_ixv c0) ?_
      refine t_bndK hk (fun r3 er3 hk => ?_)
      refine t_callViP dX13_alternatives_142 M_X13_varPlace (C_X13_varPlace _ _ _ _ _ er3) ML_X13_1445 IM_X13_varPlace SE_X13_varPlace qc_950 rfl (As := [.int (s.1 993 (l5.toNatClampNeg)), .int (s.1 1001 (l5.toNatClampNeg)), .int (s.1 1002 (l5.toNatClampNeg))]) rfl rfl (Nat.le_of_ble_eq_true rfl) (Nat.le_of_ble_eq_true rfl) (Nat.le_of_ble_eq_true rfl) (Nat.le_of_ble_eq_true rfl) ?_
      refine t_bndK hk (fun r4 er4 hk => ?_)
      refine t_callViP dX13_alternatives_145 M_X13_typeAt (C_X13_typeAt _ _ _ _ _ er4) ML_X13_1343 IM_X13_typeAt SE_X13_typeAt qc_950 rfl (As := [.int l1, .int (s.1 1001 (l5.toNatClampNeg)), .int r3]) rfl rfl (Nat.le_of_ble_eq_true rfl) (Nat.le_of_ble_eq_true rfl) (Nat.le_of_ble_eq_true rfl) (Nat.le_of_ble_eq_true rfl) ?_
      refine mj_sipush (v := 260) dX13_alternatives_148 (by decide) ?_
      refine mj_sipush (v := 1416) dX13_alternatives_151 (by decide) ?_
      refine mj_bipush (v := 8) dX13_alternatives_154 (by decide) ?_
      refine mj_iload dX13_alternatives_156 0 rfl ?_
      refine mj_imul dX13_alternatives_158 ?_
      refine mj_iadd dX13_alternatives_159 ?_
      refine mj_aload_n dX13_alternatives_160 1 rfl ?_
      refine t_getR 1046 dX13_alternatives_161 F_X13_306 qr_950_161 ?_
      refine mj_iload dX13_alternatives_164 0 rfl ?_
      refine t_chkK hk (fun c4 hk => ?_)
      refine t_iald dX13_alternatives_166 qa_1046 (t_ixv c4) ?_
      refine mj_iadd dX13_alternatives_167 ?_
      refine mj_imul dX13_alternatives_168 ?_
      refine t_bndK hk (fun r6 er6 hk => ?_)
      refine t_callVvE dX13_alternatives_169 M_X13_checkType (C_X13_checkType _ _ _ _ er6) ML_X13_1321 IM_X13_checkType SE_X13_checkType qc_950 rfl (As := [.int r4, .int ((260 : Int32) * (((1416 : Int32) + ((8 : Int32) * (((6 : Int32) * l1) + r2))) + (s.1 1046 ((((6 : Int32) * l1) + r2).toNatClampNeg))))]) rfl rfl (Nat.le_of_ble_eq_true rfl) (Nat.le_of_ble_eq_true rfl) (Nat.le_of_ble_eq_true rfl) (Nat.le_of_ble_eq_true rfl) ?_
      refine mj_aload_n dX13_alternatives_172 1 rfl ?_
      refine t_getI dX13_alternatives_173 F_X13_842 qf_950_97 ?_
      refine mj_if_eq 180 dX13_alternatives_176 (by decide) (fun z => t_posK hk z (fun hk => ?_)) (fun z => t_negK hk z (fun hk => ?_))
      · refine mj_sublv [(0, .ref 950), (1, .int l1), (2, .int l2), (3, .int l3), (5, .int l5), (6, .int l6)] [1, 2, 3, 4, 5, 6] rfl ?_
        exact B_X13_alternatives_180 _ _ _ _ _ _ _ hk
      · exact t_somK hk (fun hf => t_vret dX13_alternatives_179 rfl ⟨rfl, hf⟩ (Nat.le_of_ble_eq_true rfl) (Nat.le_of_ble_eq_true rfl))
noncomputable def k_X13_alternatives_46 (l1 : Int32) (l2 : Int32) (l3 : Int32) (l5 : Int32) (k0 : Int32) (s : t_S) : Option (t_S) :=
 if k0 = (0 : Int32) then (if t_ix l1 8 = true then
  if (s.1 1038 (l1.toNatClampNeg)) = (8 : Int32) then ((f_X13_error (7 : Int32) s).bind (fun r2 =>
 some (r2)))
 else (k_X13_alternatives_71 l1 l2 l3 l5 k0 s)
else none)
 else (k_X13_alternatives_71 l1 l2 l3 l5 k0 s)
set_option maxRecDepth 4000 in
set_option maxHeartbeats 1000000 in
theorem B_X13_alternatives_46 {D : va_G} {cy : Nat → ClassId} {ad : Nat → Nat} {bs : Nat} {X : State → Heap → Prop} (l1 : Int32) (l2 : Int32) (l3 : Int32) (l5 : Int32) (k0 : Int32) (s : t_S) (Q : t_S → Prop) (hk : t_hk (k_X13_alternatives_46 l1 l2 l3 l5 k0 s) Q) : mj_G D cy ad bs X cX13_alternatives 10 yX13_alternatives.cls none yX13_alternatives.name 1887 0 0 1065 (t_P (fun v s' => v = none ∧ Q (s'))) 46 [(0, .ref 950), (1, .int l1), (2, .int l2), (3, .int l3), (5, .int l5)] [.int k0] (t_m s) 1065 0 0 := by
  refine mj_istore (lv2 := [(6, .int k0), (0, .ref 950), (1, .int l1), (2, .int l2), (3, .int l3), (5, .int l5)]) dX13_alternatives_46 (by decide) rfl ?_
  refine mj_iload dX13_alternatives_48 0 rfl ?_
  refine mj_if_ne 71 dX13_alternatives_50 (by decide) (fun z => t_negK hk z (fun hk => ?_)) (fun z => t_posK hk z (fun hk => ?_))
  · refine mj_sublv [(0, .ref 950), (1, .int l1), (2, .int l2), (3, .int l3), (5, .int l5), (6, .int k0)] [1, 2, 3, 4, 5, 0] rfl ?_
    exact B_X13_alternatives_71 _ _ _ _ _ _ _ hk
  · refine mj_aload_n dX13_alternatives_53 1 rfl ?_
    refine t_getR 1038 dX13_alternatives_54 F_X13_282 qr_950_153 ?_
    refine mj_iload_n dX13_alternatives_57 2 rfl ?_
    refine t_chkK hk (fun c0 hk => ?_)
    refine t_iald dX13_alternatives_58 qa_1038 (t_ixv c0) ?_
    refine mj_bipush (v := 8) dX13_alternatives_59 (by decide) ?_
    refine mj_icmp_ne 71 dX13_alternatives_61 (by decide) (fun z => t_negK hk z (fun hk => ?_)) (fun z => t_posK hk z (fun hk => ?_))
    · refine mj_sublv [(0, .ref 950), (1, .int l1), (2, .int l2), (3, .int l3), (5, .int l5), (6, .int k0)] [1, 2, 3, 4, 5, 0] rfl ?_
      exact B_X13_alternatives_71 _ _ _ _ _ _ _ hk
    · refine mj_aload_n dX13_alternatives_64 1 rfl ?_
      refine mj_bipush (v := 7) dX13_alternatives_65 (by decide) ?_
      refine t_bndK hk (fun r2 er2 hk => ?_)
      refine t_callVvE dX13_alternatives_67 M_X13_error (C_X13_error _ _ _ er2) ML_X13_866 IM_X13_error SE_X13_error qc_950 rfl (As := [.int 7]) rfl rfl (Nat.le_of_ble_eq_true rfl) (Nat.le_of_ble_eq_true rfl) (Nat.le_of_ble_eq_true rfl) (Nat.le_of_ble_eq_true rfl) ?_
      exact t_somK hk (fun hf => t_vret dX13_alternatives_70 rfl ⟨rfl, hf⟩ (Nat.le_of_ble_eq_true rfl) (Nat.le_of_ble_eq_true rfl))
noncomputable def f_X13_alternatives (x1 : Int32) (x2 : Int32) (x3 : Int32) (s : t_S) : Option (t_S) :=
 (f_X13_look x1 x2 x3 s).bind (fun r1 =>
 if (r1.2.1 950 97) = (0 : Int32) then (if r1.1 = (0 : Int32) then (t_let (t_setI r1.2 950 174 (1 : Int32)) (fun s1 =>
 some (s1)))
 else (if (0 : Int32) ≤ (r1.2.1 950 180) then (k_X13_alternatives_46 x1 x2 x3 (r1.2.1 950 178) 0 r1.2)
 else (k_X13_alternatives_46 x1 x2 x3 (r1.2.1 950 178) 1 r1.2)))
 else (some (r1.2)))
set_option maxRecDepth 4000 in
set_option maxHeartbeats 1000000 in
theorem C_X13_alternatives (x1 : Int32) (x2 : Int32) (x3 : Int32) (s : t_S) (r : t_S) (hr : f_X13_alternatives x1 x2 x3 s = some r) : t_C yX13_alternatives cX13_alternatives 10 none 1887 [.ref 950, .int x1, .int x2, .int x3] s (fun v s' => v = none ∧ s' = r) := by
  refine t_C.imp (P := fun v s' => v = none ∧ (fun q => q = r) (s')) (t_C.of (by decide +kernel) (Nat.le_of_ble_eq_true rfl) ?_) (fun v s' hp => hp)
  intro D cy ad bs X
  have hk : t_hk (f_X13_alternatives x1 x2 x3 s) (fun q => q = r) := ⟨r, hr, rfl⟩
  show mj_G D cy ad bs X cX13_alternatives 10 yX13_alternatives.cls none yX13_alternatives.name 1887 0 0 1065 (t_P (fun v s' => v = none ∧ (fun q => q = r) (s'))) 0 [(0, .ref 950), (1, .int x1), (2, .int x2), (3, .int x3)] [] (t_m s) 1065 0 0
  refine mj_aload_n dX13_alternatives_0 0 rfl ?_
  refine mj_iload_n dX13_alternatives_1 1 rfl ?_
  refine mj_iload_n dX13_alternatives_2 2 rfl ?_
  refine mj_iload_n dX13_alternatives_3 3 rfl ?_
  refine t_bndK hk (fun r1 er1 hk => ?_)
  refine t_callViE dX13_alternatives_4 M_X13_look (C_X13_look _ _ _ _ _ er1) ML_X13_1478 IM_X13_look SE_X13_look qc_950 rfl (As := [.int x1, .int x2, .int x3]) rfl rfl (Nat.le_of_ble_eq_true rfl) (Nat.le_of_ble_eq_true rfl) (Nat.le_of_ble_eq_true rfl) (Nat.le_of_ble_eq_true rfl) ?_
  refine mj_istore (lv2 := [(4, .int r1.1), (0, .ref 950), (1, .int x1), (2, .int x2), (3, .int x3)]) dX13_alternatives_7 (by decide) rfl ?_
  refine mj_aload_n dX13_alternatives_9 1 rfl ?_
  refine t_getI dX13_alternatives_10 F_X13_842 qf_950_97 ?_
  refine mj_if_eq 17 dX13_alternatives_13 (by decide) (fun z => t_posK hk z (fun hk => ?_)) (fun z => t_negK hk z (fun hk => ?_))
  · refine mj_iload dX13_alternatives_17 0 rfl ?_
    refine mj_if_ne 28 dX13_alternatives_19 (by decide) (fun z => t_negK hk z (fun hk => ?_)) (fun z => t_posK hk z (fun hk => ?_))
    · refine mj_aload_n dX13_alternatives_28 1 rfl ?_
      refine t_getI dX13_alternatives_29 F_X13_1455 qf_950_178 ?_
      refine mj_istore (lv2 := [(5, .int (r1.2.1 950 178)), (4, .int r1.1), (0, .ref 950), (1, .int x1), (2, .int x2), (3, .int x3)]) dX13_alternatives_32 (by decide) rfl ?_
      refine mj_aload_n dX13_alternatives_34 2 rfl ?_
      refine t_getI dX13_alternatives_35 F_X13_1475 qf_950_180 ?_
      refine mj_if_ge 45 dX13_alternatives_38 (by decide) (fun z => t_posK hk z (fun hk => ?_)) (fun z => t_negK hk z (fun hk => ?_))
      · refine mj_iconst (v := 0) dX13_alternatives_45 (by decide) ?_
        refine mj_sublv [(0, .ref 950), (1, .int x1), (2, .int x2), (3, .int x3), (5, .int (r1.2.1 950 178))] [2, 3, 4, 5, 0] rfl ?_
        exact B_X13_alternatives_46 _ _ _ _ _ _ _ hk
      · refine mj_iconst (v := 1) dX13_alternatives_41 (by decide) ?_
        refine mj_goto 46 dX13_alternatives_42 (by decide) ?_
        refine mj_sublv [(0, .ref 950), (1, .int x1), (2, .int x2), (3, .int x3), (5, .int (r1.2.1 950 178))] [2, 3, 4, 5, 0] rfl ?_
        exact B_X13_alternatives_46 _ _ _ _ _ _ _ hk
    · refine mj_aload_n dX13_alternatives_22 1 rfl ?_
      refine mj_iconst (v := 1) dX13_alternatives_23 (by decide) ?_
      refine t_putIK dX13_alternatives_24 F_X13_1360 qf_950_174 (by decide) (fun s1 ws1 => t_letE hk ws1 (fun hk => ?_))
      exact t_somK hk (fun hf => t_vret dX13_alternatives_27 rfl ⟨rfl, hf⟩ (Nat.le_of_ble_eq_true rfl) (Nat.le_of_ble_eq_true rfl))
  · exact t_somK hk (fun hf => t_vret dX13_alternatives_16 rfl ⟨rfl, hf⟩ (Nat.le_of_ble_eq_true rfl) (Nat.le_of_ble_eq_true rfl))

theorem dX13_areFieldsGood_0 : decode cX13_areFieldsGood 0 = .ok (.aload_n 0, 1) := by decide +kernel
theorem dX13_areFieldsGood_1 : decode cX13_areFieldsGood 1 = .ok (.getfield 39, 3) := by decide +kernel
theorem dX13_areFieldsGood_100 : decode cX13_areFieldsGood 100 = .ok (.laload, 1) := by decide +kernel
theorem dX13_areFieldsGood_101 : decode cX13_areFieldsGood 101 = .ok (.invokevirtual 1042, 3) := by decide +kernel
theorem dX13_areFieldsGood_104 : decode cX13_areFieldsGood 104 = .ok (.istore 4, 2) := by decide +kernel
theorem dX13_areFieldsGood_106 : decode cX13_areFieldsGood 106 = .ok (.aload_n 0, 1) := by decide +kernel
theorem dX13_areFieldsGood_107 : decode cX13_areFieldsGood 107 = .ok (.getfield 36, 3) := by decide +kernel
theorem dX13_areFieldsGood_11 : decode cX13_areFieldsGood 11 = .ok (.aload_n 0, 1) := by decide +kernel
theorem dX13_areFieldsGood_110 : decode cX13_areFieldsGood 110 = .ok (.iload_n 3, 1) := by decide +kernel
theorem dX13_areFieldsGood_111 : decode cX13_areFieldsGood 111 = .ok (.laload, 1) := by decide +kernel
theorem dX13_areFieldsGood_112 : decode cX13_areFieldsGood 112 = .ok (.lconst 0, 1) := by decide +kernel
theorem dX13_areFieldsGood_113 : decode cX13_areFieldsGood 113 = .ok (.lcmp, 1) := by decide +kernel
theorem dX13_areFieldsGood_114 : decode cX13_areFieldsGood 114 = .ok (.ifCond .ne 22, 3) := by decide +kernel
theorem dX13_areFieldsGood_117 : decode cX13_areFieldsGood 117 = .ok (.iload 4, 2) := by decide +kernel
theorem dX13_areFieldsGood_119 : decode cX13_areFieldsGood 119 = .ok (.ifCond .lt 15, 3) := by decide +kernel
theorem dX13_areFieldsGood_12 : decode cX13_areFieldsGood 12 = .ok (.getfield 200, 3) := by decide +kernel
theorem dX13_areFieldsGood_122 : decode cX13_areFieldsGood 122 = .ok (.aload_n 0, 1) := by decide +kernel
theorem dX13_areFieldsGood_123 : decode cX13_areFieldsGood 123 = .ok (.getfield 36, 3) := by decide +kernel
theorem dX13_areFieldsGood_126 : decode cX13_areFieldsGood 126 = .ok (.iload 4, 2) := by decide +kernel
theorem dX13_areFieldsGood_128 : decode cX13_areFieldsGood 128 = .ok (.laload, 1) := by decide +kernel
theorem dX13_areFieldsGood_129 : decode cX13_areFieldsGood 129 = .ok (.lconst 0, 1) := by decide +kernel
theorem dX13_areFieldsGood_130 : decode cX13_areFieldsGood 130 = .ok (.lcmp, 1) := by decide +kernel
theorem dX13_areFieldsGood_131 : decode cX13_areFieldsGood 131 = .ok (.ifCond .eq 5, 3) := by decide +kernel
theorem dX13_areFieldsGood_134 : decode cX13_areFieldsGood 134 = .ok (.iconst 0, 1) := by decide +kernel
theorem dX13_areFieldsGood_135 : decode cX13_areFieldsGood 135 = .ok (.ireturn, 1) := by decide +kernel
theorem dX13_areFieldsGood_136 : decode cX13_areFieldsGood 136 = .ok (.aload_n 0, 1) := by decide +kernel
theorem dX13_areFieldsGood_137 : decode cX13_areFieldsGood 137 = .ok (.getfield 42, 3) := by decide +kernel
theorem dX13_areFieldsGood_140 : decode cX13_areFieldsGood 140 = .ok (.iload_n 3, 1) := by decide +kernel
theorem dX13_areFieldsGood_141 : decode cX13_areFieldsGood 141 = .ok (.iaload, 1) := by decide +kernel
theorem dX13_areFieldsGood_142 : decode cX13_areFieldsGood 142 = .ok (.istore_n 3, 1) := by decide +kernel
theorem dX13_areFieldsGood_143 : decode cX13_areFieldsGood 143 = .ok (.goto (-64), 3) := by decide +kernel
theorem dX13_areFieldsGood_146 : decode cX13_areFieldsGood 146 = .ok (.iconst 1, 1) := by decide +kernel
theorem dX13_areFieldsGood_147 : decode cX13_areFieldsGood 147 = .ok (.ireturn, 1) := by decide +kernel
theorem dX13_areFieldsGood_15 : decode cX13_areFieldsGood 15 = .ok (.aload_n 0, 1) := by decide +kernel
theorem dX13_areFieldsGood_16 : decode cX13_areFieldsGood 16 = .ok (.getfield 39, 3) := by decide +kernel
theorem dX13_areFieldsGood_19 : decode cX13_areFieldsGood 19 = .ok (.iload_n 3, 1) := by decide +kernel
theorem dX13_areFieldsGood_20 : decode cX13_areFieldsGood 20 = .ok (.iaload, 1) := by decide +kernel
theorem dX13_areFieldsGood_21 : decode cX13_areFieldsGood 21 = .ok (.baload, 1) := by decide +kernel
theorem dX13_areFieldsGood_22 : decode cX13_areFieldsGood 22 = .ok (.ifCond .eq 40, 3) := by decide +kernel
theorem dX13_areFieldsGood_25 : decode cX13_areFieldsGood 25 = .ok (.aload_n 0, 1) := by decide +kernel
theorem dX13_areFieldsGood_26 : decode cX13_areFieldsGood 26 = .ok (.iload_n 2, 1) := by decide +kernel
theorem dX13_areFieldsGood_27 : decode cX13_areFieldsGood 27 = .ok (.aload_n 0, 1) := by decide +kernel
theorem dX13_areFieldsGood_28 : decode cX13_areFieldsGood 28 = .ok (.getfield 32, 3) := by decide +kernel
theorem dX13_areFieldsGood_31 : decode cX13_areFieldsGood 31 = .ok (.iload_n 3, 1) := by decide +kernel
theorem dX13_areFieldsGood_32 : decode cX13_areFieldsGood 32 = .ok (.laload, 1) := by decide +kernel
theorem dX13_areFieldsGood_33 : decode cX13_areFieldsGood 33 = .ok (.invokevirtual 1042, 3) := by decide +kernel
theorem dX13_areFieldsGood_36 : decode cX13_areFieldsGood 36 = .ok (.istore 4, 2) := by decide +kernel
theorem dX13_areFieldsGood_38 : decode cX13_areFieldsGood 38 = .ok (.iload 4, 2) := by decide +kernel
theorem dX13_areFieldsGood_4 : decode cX13_areFieldsGood 4 = .ok (.iload_n 1, 1) := by decide +kernel
theorem dX13_areFieldsGood_40 : decode cX13_areFieldsGood 40 = .ok (.ifCond .ge 5, 3) := by decide +kernel
theorem dX13_areFieldsGood_43 : decode cX13_areFieldsGood 43 = .ok (.iconst 0, 1) := by decide +kernel
theorem dX13_areFieldsGood_44 : decode cX13_areFieldsGood 44 = .ok (.ireturn, 1) := by decide +kernel
theorem dX13_areFieldsGood_45 : decode cX13_areFieldsGood 45 = .ok (.aload_n 0, 1) := by decide +kernel
theorem dX13_areFieldsGood_46 : decode cX13_areFieldsGood 46 = .ok (.aload_n 0, 1) := by decide +kernel
theorem dX13_areFieldsGood_47 : decode cX13_areFieldsGood 47 = .ok (.getfield 39, 3) := by decide +kernel
theorem dX13_areFieldsGood_5 : decode cX13_areFieldsGood 5 = .ok (.iaload, 1) := by decide +kernel
theorem dX13_areFieldsGood_50 : decode cX13_areFieldsGood 50 = .ok (.iload_n 3, 1) := by decide +kernel
theorem dX13_areFieldsGood_51 : decode cX13_areFieldsGood 51 = .ok (.iaload, 1) := by decide +kernel
theorem dX13_areFieldsGood_52 : decode cX13_areFieldsGood 52 = .ok (.aload_n 0, 1) := by decide +kernel
theorem dX13_areFieldsGood_53 : decode cX13_areFieldsGood 53 = .ok (.getfield 39, 3) := by decide +kernel
theorem dX13_areFieldsGood_56 : decode cX13_areFieldsGood 56 = .ok (.iload 4, 2) := by decide +kernel
theorem dX13_areFieldsGood_58 : decode cX13_areFieldsGood 58 = .ok (.iaload, 1) := by decide +kernel
theorem dX13_areFieldsGood_59 : decode cX13_areFieldsGood 59 = .ok (.invokevirtual 1081, 3) := by decide +kernel
theorem dX13_areFieldsGood_6 : decode cX13_areFieldsGood 6 = .ok (.istore_n 3, 1) := by decide +kernel
theorem dX13_areFieldsGood_62 : decode cX13_areFieldsGood 62 = .ok (.aload_n 0, 1) := by decide +kernel
theorem dX13_areFieldsGood_63 : decode cX13_areFieldsGood 63 = .ok (.getfield 42, 3) := by decide +kernel
theorem dX13_areFieldsGood_66 : decode cX13_areFieldsGood 66 = .ok (.iload_n 3, 1) := by decide +kernel
theorem dX13_areFieldsGood_67 : decode cX13_areFieldsGood 67 = .ok (.iaload, 1) := by decide +kernel
theorem dX13_areFieldsGood_68 : decode cX13_areFieldsGood 68 = .ok (.istore_n 3, 1) := by decide +kernel
theorem dX13_areFieldsGood_69 : decode cX13_areFieldsGood 69 = .ok (.goto (-62), 3) := by decide +kernel
theorem dX13_areFieldsGood_7 : decode cX13_areFieldsGood 7 = .ok (.iload_n 3, 1) := by decide +kernel
theorem dX13_areFieldsGood_72 : decode cX13_areFieldsGood 72 = .ok (.aload_n 0, 1) := by decide +kernel
theorem dX13_areFieldsGood_73 : decode cX13_areFieldsGood 73 = .ok (.getfield 39, 3) := by decide +kernel
theorem dX13_areFieldsGood_76 : decode cX13_areFieldsGood 76 = .ok (.iload_n 2, 1) := by decide +kernel
theorem dX13_areFieldsGood_77 : decode cX13_areFieldsGood 77 = .ok (.iaload, 1) := by decide +kernel
theorem dX13_areFieldsGood_78 : decode cX13_areFieldsGood 78 = .ok (.istore_n 3, 1) := by decide +kernel
theorem dX13_areFieldsGood_79 : decode cX13_areFieldsGood 79 = .ok (.iload_n 3, 1) := by decide +kernel
theorem dX13_areFieldsGood_8 : decode cX13_areFieldsGood 8 = .ok (.ifCond .lt 64, 3) := by decide +kernel
theorem dX13_areFieldsGood_80 : decode cX13_areFieldsGood 80 = .ok (.ifCond .lt 66, 3) := by decide +kernel
theorem dX13_areFieldsGood_83 : decode cX13_areFieldsGood 83 = .ok (.aload_n 0, 1) := by decide +kernel
theorem dX13_areFieldsGood_84 : decode cX13_areFieldsGood 84 = .ok (.getfield 26, 3) := by decide +kernel
theorem dX13_areFieldsGood_87 : decode cX13_areFieldsGood 87 = .ok (.iload_n 2, 1) := by decide +kernel
theorem dX13_areFieldsGood_88 : decode cX13_areFieldsGood 88 = .ok (.iaload, 1) := by decide +kernel
theorem dX13_areFieldsGood_89 : decode cX13_areFieldsGood 89 = .ok (.iconst 5, 1) := by decide +kernel
theorem dX13_areFieldsGood_90 : decode cX13_areFieldsGood 90 = .ok (.if_icmp .ne 56, 3) := by decide +kernel
theorem dX13_areFieldsGood_93 : decode cX13_areFieldsGood 93 = .ok (.aload_n 0, 1) := by decide +kernel
theorem dX13_areFieldsGood_94 : decode cX13_areFieldsGood 94 = .ok (.iload_n 1, 1) := by decide +kernel
theorem dX13_areFieldsGood_95 : decode cX13_areFieldsGood 95 = .ok (.aload_n 0, 1) := by decide +kernel
theorem dX13_areFieldsGood_96 : decode cX13_areFieldsGood 96 = .ok (.getfield 32, 3) := by decide +kernel
theorem dX13_areFieldsGood_99 : decode cX13_areFieldsGood 99 = .ok (.iload_n 3, 1) := by decide +kernel
noncomputable def k_X13_areFieldsGood_62 (l1 : Int32) (l2 : Int32) (l3 : Int32) (s : t_S) : Option ((Int32 × Int32 × Int32 × t_S) ⊕ (Int32 × t_S)) :=
 if t_ix l3 13000 = true then
  some (.inl (l1, l2, (s.1 960 (l3.toNatClampNeg)), s))
else none
set_option maxRecDepth 4000 in
set_option maxHeartbeats 1000000 in
theorem B_X13_areFieldsGood_62 {D : va_G} {cy : Nat → ClassId} {ad : Nat → Nat} {bs : Nat} {X : State → Heap → Prop} (l1 : Int32) (l2 : Int32) (l3 : Int32) (s : t_S) (Q : (Int32 × Int32 × Int32 × t_S) ⊕ (Int32 × t_S) → Prop) (Hb7 : ∀ (y0 : Int32) (y1 : Int32) (y2 : Int32) (y3 : t_S), Q (.inl (y0, y1, y2, y3)) → mj_G D cy ad bs X cX13_areFieldsGood 5 yX13_areFieldsGood.cls (some .boolean) yX13_areFieldsGood.name 3 0 0 1065 (t_P (fun v s' => ∃ x, v = some (.int x) ∧ Q (.inr ((x, s'))))) 7 [(0, .ref 950), (1, .int (y0)), (2, .int (y1)), (3, .int (y2))] [] (t_m y3) 1065 0 0) (hk : t_hk (k_X13_areFieldsGood_62 l1 l2 l3 s) Q) : mj_G D cy ad bs X cX13_areFieldsGood 5 yX13_areFieldsGood.cls (some .boolean) yX13_areFieldsGood.name 3 0 0 1065 (t_P (fun v s' => ∃ x, v = some (.int x) ∧ Q (.inr ((x, s'))))) 62 [(0, .ref 950), (1, .int l1), (2, .int l2), (3, .int l3)] [] (t_m s) 1065 0 0 := by
  refine mj_aload_n dX13_areFieldsGood_62 0 rfl ?_
  refine t_getR 960 dX13_areFieldsGood_63 F_X13_42 qr_950_22 ?_
  refine mj_iload_n dX13_areFieldsGood_66 3 rfl ?_
  refine t_chkK hk (fun c0 hk => ?_)
  refine t_iald dX13_areFieldsGood_67 qa_960 (t_ixv c0) ?_
  refine mj_istore_n 3 (lv2 := [(3, .int (s.1 960 (l3.toNatClampNeg))), (0, .ref 950), (1, .int l1), (2, .int l2)]) dX13_areFieldsGood_68 rfl (by decide) rfl ?_
  refine mj_goto 7 dX13_areFieldsGood_69 (by decide) ?_
  refine mj_sublv [(0, .ref 950), (1, .int l1), (2, .int l2), (3, .int (s.1 960 (l3.toNatClampNeg)))] [1, 2, 3, 0] rfl ?_
  exact t_somK hk (fun hf => Hb7 l1 l2 (s.1 960 (l3.toNatClampNeg)) s hf)
noncomputable def k_X13_areFieldsGood_136 (l1 : Int32) (l2 : Int32) (l3 : Int32) (s : t_S) : Option ((Int32 × Int32 × Int32 × t_S) ⊕ (Int32 × t_S)) :=
 if t_ix l3 13000 = true then
  some (.inl (l1, l2, (s.1 960 (l3.toNatClampNeg)), s))
else none
set_option maxRecDepth 4000 in
set_option maxHeartbeats 1000000 in
theorem B_X13_areFieldsGood_136 {D : va_G} {cy : Nat → ClassId} {ad : Nat → Nat} {bs : Nat} {X : State → Heap → Prop} (l1 : Int32) (l2 : Int32) (l3 : Int32) (s : t_S) (Q : (Int32 × Int32 × Int32 × t_S) ⊕ (Int32 × t_S) → Prop) (Hb79 : ∀ (y0 : Int32) (y1 : Int32) (y2 : Int32) (y3 : t_S), Q (.inl (y0, y1, y2, y3)) → mj_G D cy ad bs X cX13_areFieldsGood 5 yX13_areFieldsGood.cls (some .boolean) yX13_areFieldsGood.name 3 0 0 1065 (t_P (fun v s' => ∃ x, v = some (.int x) ∧ Q (.inr ((x, s'))))) 79 [(0, .ref 950), (1, .int (y0)), (2, .int (y1)), (3, .int (y2))] [] (t_m y3) 1065 0 0) (hk : t_hk (k_X13_areFieldsGood_136 l1 l2 l3 s) Q) : mj_G D cy ad bs X cX13_areFieldsGood 5 yX13_areFieldsGood.cls (some .boolean) yX13_areFieldsGood.name 3 0 0 1065 (t_P (fun v s' => ∃ x, v = some (.int x) ∧ Q (.inr ((x, s'))))) 136 [(0, .ref 950), (1, .int l1), (2, .int l2), (3, .int l3)] [] (t_m s) 1065 0 0 := by
  refine mj_aload_n dX13_areFieldsGood_136 0 rfl ?_
  refine t_getR 960 dX13_areFieldsGood_137 F_X13_42 qr_950_22 ?_
  refine mj_iload_n dX13_areFieldsGood_140 3 rfl ?_
  refine t_chkK hk (fun c0 hk => ?_)
  refine t_iald dX13_areFieldsGood_141 qa_960 (t_ixv c0) ?_
  refine mj_istore_n 3 (lv2 := [(3, .int (s.1 960 (l3.toNatClampNeg))), (0, .ref 950), (1, .int l1), (2, .int l2)]) dX13_areFieldsGood_142 rfl (by decide) rfl ?_
  refine mj_goto 79 dX13_areFieldsGood_143 (by decide) ?_
  refine mj_sublv [(0, .ref 950), (1, .int l1), (2, .int l2), (3, .int (s.1 960 (l3.toNatClampNeg)))] [1, 2, 3, 0] rfl ?_
  exact t_somK hk (fun hf => Hb79 l1 l2 (s.1 960 (l3.toNatClampNeg)) s hf)
noncomputable def k_X13_areFieldsGood_79 (l1 : Int32) (l2 : Int32) (l3 : Int32) (s : t_S) : Option ((Int32 × Int32 × Int32 × t_S) ⊕ (Int32 × t_S)) :=
 if l3 < (0 : Int32) then ((some ((1 : Int32), s)).map Sum.inr)
 else (if t_ix l2 13000 = true then
  if (s.1 955 (l2.toNatClampNeg)) = (5 : Int32) then (if t_ix l3 13000 = true then
  (f_X13_fieldNode l1 (s.2.1 957 (l3.toNatClampNeg)) s).bind (fun r3 =>
 if (lg_cmp (s.2.1 958 (l3.toNatClampNeg)) (0 : Int64)) = (0 : Int32) then (if r3 < (0 : Int32) then ((some ((0 : Int32), s)).map Sum.inr)
 else (if t_ix r3 13000 = true then
  if (lg_cmp (s.2.1 958 (r3.toNatClampNeg)) (0 : Int64)) = (0 : Int32) then (k_X13_areFieldsGood_136 l1 l2 l3 s)
 else ((some ((0 : Int32), s)).map Sum.inr)
else none))
 else (k_X13_areFieldsGood_136 l1 l2 l3 s))
else none)
 else ((some ((1 : Int32), s)).map Sum.inr)
else none)
set_option maxRecDepth 4000 in
set_option maxHeartbeats 1000000 in
theorem B_X13_areFieldsGood_79 {D : va_G} {cy : Nat → ClassId} {ad : Nat → Nat} {bs : Nat} {X : State → Heap → Prop} (l1 : Int32) (l2 : Int32) (l3 : Int32) (s : t_S) (Q : (Int32 × Int32 × Int32 × t_S) ⊕ (Int32 × t_S) → Prop) (Hb79 : ∀ (y0 : Int32) (y1 : Int32) (y2 : Int32) (y3 : t_S), Q (.inl (y0, y1, y2, y3)) → mj_G D cy ad bs X cX13_areFieldsGood 5 yX13_areFieldsGood.cls (some .boolean) yX13_areFieldsGood.name 3 0 0 1065 (t_P (fun v s' => ∃ x, v = some (.int x) ∧ Q (.inr ((x, s'))))) 79 [(0, .ref 950), (1, .int (y0)), (2, .int (y1)), (3, .int (y2))] [] (t_m y3) 1065 0 0) (hk : t_hk (k_X13_areFieldsGood_79 l1 l2 l3 s) Q) : mj_G D cy ad bs X cX13_areFieldsGood 5 yX13_areFieldsGood.cls (some .boolean) yX13_areFieldsGood.name 3 0 0 1065 (t_P (fun v s' => ∃ x, v = some (.int x) ∧ Q (.inr ((x, s'))))) 79 [(0, .ref 950), (1, .int l1), (2, .int l2), (3, .int l3)] [] (t_m s) 1065 0 0 := by
  refine mj_iload_n dX13_areFieldsGood_79 3 rfl ?_
  refine mj_if_lt 146 dX13_areFieldsGood_80 (by decide) (fun z => t_posK hk z (fun hk => ?_)) (fun z => t_negK hk z (fun hk => ?_))
  · refine t_mapK hk (fun hk => ?_)
    refine mj_iconst (v := 1) dX13_areFieldsGood_146 (by decide) ?_
    exact t_somK hk (fun hf => t_iret dX13_areFieldsGood_147 rfl (by decide) ⟨_, rfl, hf⟩ (Nat.le_of_ble_eq_true rfl) (Nat.le_of_ble_eq_true rfl))
  · refine mj_aload_n dX13_areFieldsGood_83 0 rfl ?_
    refine t_getR 955 dX13_areFieldsGood_84 F_X13_26 qr_950_17 ?_
    refine mj_iload_n dX13_areFieldsGood_87 2 rfl ?_
    refine t_chkK hk (fun c0 hk => ?_)
    refine t_iald dX13_areFieldsGood_88 qa_955 (t_ixv c0) ?_
    refine mj_iconst (v := 5) dX13_areFieldsGood_89 (by decide) ?_
    refine mj_icmp_ne 146 dX13_areFieldsGood_90 (by decide) (fun z => t_negK hk z (fun hk => ?_)) (fun z => t_posK hk z (fun hk => ?_))
    · refine t_mapK hk (fun hk => ?_)
      refine mj_iconst (v := 1) dX13_areFieldsGood_146 (by decide) ?_
      exact t_somK hk (fun hf => t_iret dX13_areFieldsGood_147 rfl (by decide) ⟨_, rfl, hf⟩ (Nat.le_of_ble_eq_true rfl) (Nat.le_of_ble_eq_true rfl))
    · refine mj_aload_n dX13_areFieldsGood_93 0 rfl ?_
      refine mj_iload_n dX13_areFieldsGood_94 1 rfl ?_
      refine mj_aload_n dX13_areFieldsGood_95 0 rfl ?_
      refine t_getR 957 dX13_areFieldsGood_96 F_X13_32 qr_950_19 ?_
      refine mj_iload_n dX13_areFieldsGood_99 3 rfl ?_
      refine t_chkK hk (fun c1 hk => ?_)
      refine t_lald dX13_areFieldsGood_100 qa_957 (t_ixv c1) ?_
      refine t_bndK hk (fun r3 er3 hk => ?_)
      refine t_callViP dX13_areFieldsGood_101 M_X13_fieldNode (C_X13_fieldNode _ _ _ _ er3) ML_X13_1042 IM_X13_fieldNode SE_X13_fieldNode qc_950 rfl (As := [.int l1, .long (s.2.1 957 (l3.toNatClampNeg))]) rfl rfl (Nat.le_of_ble_eq_true rfl) (Nat.le_of_ble_eq_true rfl) (Nat.le_of_ble_eq_true rfl) (Nat.le_of_ble_eq_true rfl) ?_
      refine mj_istore (lv2 := [(4, .int r3), (0, .ref 950), (1, .int l1), (2, .int l2), (3, .int l3)]) dX13_areFieldsGood_104 (by decide) rfl ?_
      refine mj_aload_n dX13_areFieldsGood_106 1 rfl ?_
      refine t_getR 958 dX13_areFieldsGood_107 F_X13_36 qr_950_20 ?_
      refine mj_iload_n dX13_areFieldsGood_110 4 rfl ?_
      refine t_lald dX13_areFieldsGood_111 qa_958 (t_ixv c1) ?_
      refine mj_lconst (v := 0) dX13_areFieldsGood_112 (by decide) ?_
      refine mj_lcmp dX13_areFieldsGood_113 ?_
      refine mj_if_ne 136 dX13_areFieldsGood_114 (by decide) (fun z => t_negK hk z (fun hk => ?_)) (fun z => t_posK hk z (fun hk => ?_))
      · refine mj_sublv [(0, .ref 950), (1, .int l1), (2, .int l2), (3, .int l3)] [1, 2, 3, 4] rfl ?_
        exact B_X13_areFieldsGood_136 _ _ _ _ _ (fun y0 y1 y2 y3 hx => Hb79 y0 y1 y2 y3 hx) hk
      · refine mj_iload dX13_areFieldsGood_117 0 rfl ?_
        refine mj_if_lt 134 dX13_areFieldsGood_119 (by decide) (fun z => t_posK hk z (fun hk => ?_)) (fun z => t_negK hk z (fun hk => ?_))
        · refine t_mapK hk (fun hk => ?_)
          refine mj_iconst (v := 0) dX13_areFieldsGood_134 (by decide) ?_
          exact t_somK hk (fun hf => t_iret dX13_areFieldsGood_135 rfl (by decide) ⟨_, rfl, hf⟩ (Nat.le_of_ble_eq_true rfl) (Nat.le_of_ble_eq_true rfl))
        · refine mj_aload_n dX13_areFieldsGood_122 1 rfl ?_
          refine t_getR 958 dX13_areFieldsGood_123 F_X13_36 qr_950_20 ?_
          refine mj_iload dX13_areFieldsGood_126 0 rfl ?_
          refine t_chkK hk (fun c3 hk => ?_)
          refine t_lald dX13_areFieldsGood_128 qa_958 (t_ixv c3) ?_
          refine mj_lconst (v := 0) dX13_areFieldsGood_129 (by decide) ?_
          refine mj_lcmp dX13_areFieldsGood_130 ?_
          refine mj_if_eq 136 dX13_areFieldsGood_131 (by decide) (fun z => t_posK hk z (fun hk => ?_)) (fun z => t_negK hk z (fun hk => ?_))
          · refine mj_sublv [(0, .ref 950), (1, .int l1), (2, .int l2), (3, .int l3)] [1, 2, 3, 4] rfl ?_
            exact B_X13_areFieldsGood_136 _ _ _ _ _ (fun y0 y1 y2 y3 hx => Hb79 y0 y1 y2 y3 hx) hk
          · refine t_mapK hk (fun hk => ?_)
            refine mj_iconst (v := 0) dX13_areFieldsGood_134 (by decide) ?_
            exact t_somK hk (fun hf => t_iret dX13_areFieldsGood_135 rfl (by decide) ⟨_, rfl, hf⟩ (Nat.le_of_ble_eq_true rfl) (Nat.le_of_ble_eq_true rfl))
noncomputable def b_X13_areFieldsGood_79 (x : Int32 × Int32 × Int32 × t_S) : Option ((Int32 × Int32 × Int32 × t_S) ⊕ (Int32 × t_S)) := k_X13_areFieldsGood_79 x.1 x.2.1 x.2.2.1 x.2.2.2
set_option maxRecDepth 4000 in
set_option maxHeartbeats 1000000 in
theorem LH_X13_areFieldsGood_79 {D : va_G} {cy : Nat → ClassId} {ad : Nat → Nat} {bs : Nat} {X : State → Heap → Prop} : ∀ (n : Nat) (y0 : Int32) (y1 : Int32) (y2 : Int32) (y3 : t_S) (Q : Int32 × t_S → Prop) (hk : t_hk (t_loop (b_X13_areFieldsGood_79) n (y0, y1, y2, y3)) Q), mj_G D cy ad bs X cX13_areFieldsGood 5 yX13_areFieldsGood.cls (some .boolean) yX13_areFieldsGood.name 3 0 0 1065 (t_P (fun v s' => ∃ x, v = some (.int x) ∧ Q ((x, s')))) 79 [(0, .ref 950), (1, .int (y0)), (2, .int (y1)), (3, .int (y2))] [] (t_m y3) 1065 0 0 := by
  intro n
  induction n with
  | zero => intro y0 y1 y2 y3 Q hk; obtain ⟨r, hr, _⟩ := hk; cases hr
  | succ n ih =>
    intro y0 y1 y2 y3 Q hk
    exact B_X13_areFieldsGood_79 y0 y1 y2 y3 (fun y => t_lq (b_X13_areFieldsGood_79) n Q y) (fun y0' y1' y2' y3' hy => ih y0' y1' y2' y3' Q hy) (t_lp (b := b_X13_areFieldsGood_79) (n := n) (x := (y0, y1, y2, y3)) hk)
noncomputable def k_X13_areFieldsGood_7 (l1 : Int32) (l2 : Int32) (l3 : Int32) (s : t_S) : Option ((Int32 × Int32 × Int32 × t_S) ⊕ (Int32 × t_S)) :=
 if l3 < (0 : Int32) then ((if t_ix l2 13000 = true then
  t_loop (b_X13_areFieldsGood_79) t_N (l1, l2, (s.1 959 (l2.toNatClampNeg)), s)
else none).map Sum.inr)
 else (if t_ix l3 13000 = true then
  if t_ix (s.1 959 (l3.toNatClampNeg)) 13000 = true then
  if (s.1 1012 ((s.1 959 (l3.toNatClampNeg)).toNatClampNeg)) = (0 : Int32) then (k_X13_areFieldsGood_62 l1 l2 l3 s)
 else ((f_X13_fieldNode l2 (s.2.1 957 (l3.toNatClampNeg)) s).bind (fun r4 =>
 if (0 : Int32) ≤ r4 then (if t_ix r4 13000 = true then
  (f_X13_addPair (s.1 959 (l3.toNatClampNeg)) (s.1 959 (r4.toNatClampNeg)) s).bind (fun r6 =>
 k_X13_areFieldsGood_62 l1 l2 l3 r6)
else none)
 else ((some ((0 : Int32), s)).map Sum.inr)))
else none
else none)
set_option maxRecDepth 4000 in
set_option maxHeartbeats 1000000 in
theorem B_X13_areFieldsGood_7 {D : va_G} {cy : Nat → ClassId} {ad : Nat → Nat} {bs : Nat} {X : State → Heap → Prop} (l1 : Int32) (l2 : Int32) (l3 : Int32) (s : t_S) (Q : (Int32 × Int32 × Int32 × t_S) ⊕ (Int32 × t_S) → Prop) (Hb7 : ∀ (y0 : Int32) (y1 : Int32) (y2 : Int32) (y3 : t_S), Q (.inl (y0, y1, y2, y3)) → mj_G D cy ad bs X cX13_areFieldsGood 5 yX13_areFieldsGood.cls (some .boolean) yX13_areFieldsGood.name 3 0 0 1065 (t_P (fun v s' => ∃ x, v = some (.int x) ∧ Q (.inr ((x, s'))))) 7 [(0, .ref 950), (1, .int (y0)), (2, .int (y1)), (3, .int (y2))] [] (t_m y3) 1065 0 0) (hk : t_hk (k_X13_areFieldsGood_7 l1 l2 l3 s) Q) : mj_G D cy ad bs X cX13_areFieldsGood 5 yX13_areFieldsGood.cls (some .boolean) yX13_areFieldsGood.name 3 0 0 1065 (t_P (fun v s' => ∃ x, v = some (.int x) ∧ Q (.inr ((x, s'))))) 7 [(0, .ref 950), (1, .int l1), (2, .int l2), (3, .int l3)] [] (t_m s) 1065 0 0 := by
  refine mj_iload_n dX13_areFieldsGood_7 3 rfl ?_
  refine mj_if_lt 72 dX13_areFieldsGood_8 (by decide) (fun z => t_posK hk z (fun hk => ?_)) (fun z => t_negK hk z (fun hk => ?_))
  · refine t_mapK hk (fun hk => ?_)
    refine mj_aload_n dX13_areFieldsGood_72 0 rfl ?_
    refine t_getR 959 dX13_areFieldsGood_73 F_X13_39 qr_950_21 ?_
    refine mj_iload_n dX13_areFieldsGood_76 2 rfl ?_
    refine t_chkK hk (fun c0 hk => ?_)
    refine t_iald dX13_areFieldsGood_77 qa_959 (t_ixv c0) ?_
    refine mj_istore_n 3 (lv2 := [(3, .int (s.1 959 (l2.toNatClampNeg))), (0, .ref 950), (1, .int l1), (2, .int l2)]) dX13_areFieldsGood_78 rfl (by decide) rfl ?_
    refine mj_sublv [(0, .ref 950), (1, .int l1), (2, .int l2), (3, .int (s.1 959 (l2.toNatClampNeg)))] [1, 2, 3, 0] rfl ?_
    exact LH_X13_areFieldsGood_79 _ l1 l2 (s.1 959 (l2.toNatClampNeg)) s _ hk
  · refine mj_aload_n dX13_areFieldsGood_11 0 rfl ?_
    refine t_getR 1012 dX13_areFieldsGood_12 F_X13_200 qr_950_109 ?_
    refine mj_aload_n dX13_areFieldsGood_15 0 rfl ?_
    refine t_getR 959 dX13_areFieldsGood_16 F_X13_39 qr_950_21 ?_
    refine mj_iload_n dX13_areFieldsGood_19 3 rfl ?_
    refine t_chkK hk (fun c1 hk => ?_)
    refine t_iald dX13_areFieldsGood_20 qa_959 (t_ixv c1) ?_
    refine t_chkK hk (fun c2 hk => ?_)
    refine t_zald dX13_areFieldsGood_21 qa_1012 (t_ixv c2) ?_
    refine mj_if_eq 62 dX13_areFieldsGood_22 (by decide) (fun z => t_posK hk z (fun hk => ?_)) (fun z => t_negK hk z (fun hk => ?_))
    · exact B_X13_areFieldsGood_62 _ _ _ _ _ (fun y0 y1 y2 y3 hx => Hb7 y0 y1 y2 y3 hx) hk
    · refine mj_aload_n dX13_areFieldsGood_25 0 rfl ?_
      refine mj_iload_n dX13_areFieldsGood_26 2 rfl ?_
      refine mj_aload_n dX13_areFieldsGood_27 0 rfl ?_
      refine t_getR 957 dX13_areFieldsGood_28 F_X13_32 qr_950_19 ?_
      refine mj_iload_n dX13_areFieldsGood_31 3 rfl ?_
      refine t_lald dX13_areFieldsGood_32 qa_957 (t_ixv c1) ?_
      refine t_bndK hk (fun r4 er4 hk => ?_)
      refine t_callViP dX13_areFieldsGood_33 M_X13_fieldNode (C_X13_fieldNode _ _ _ _ er4) ML_X13_1042 IM_X13_fieldNode SE_X13_fieldNode qc_950 rfl (As := [.int l2, .long (s.2.1 957 (l3.toNatClampNeg))]) rfl rfl (Nat.le_of_ble_eq_true rfl) (Nat.le_of_ble_eq_true rfl) (Nat.le_of_ble_eq_true rfl) (Nat.le_of_ble_eq_true rfl) ?_
      refine mj_istore (lv2 := [(4, .int r4), (0, .ref 950), (1, .int l1), (2, .int l2), (3, .int l3)]) dX13_areFieldsGood_36 (by decide) rfl ?_
      refine mj_iload dX13_areFieldsGood_38 0 rfl ?_
      refine mj_if_ge 45 dX13_areFieldsGood_40 (by decide) (fun z => t_posK hk z (fun hk => ?_)) (fun z => t_negK hk z (fun hk => ?_))
      · refine mj_aload_n dX13_areFieldsGood_45 1 rfl ?_
        refine mj_aload_n dX13_areFieldsGood_46 1 rfl ?_
        refine t_getR 959 dX13_areFieldsGood_47 F_X13_39 qr_950_21 ?_
        refine mj_iload_n dX13_areFieldsGood_50 4 rfl ?_
        refine t_iald dX13_areFieldsGood_51 qa_959 (t_ixv c1) ?_
        refine mj_aload_n dX13_areFieldsGood_52 1 rfl ?_
        refine t_getR 959 dX13_areFieldsGood_53 F_X13_39 qr_950_21 ?_
        refine mj_iload dX13_areFieldsGood_56 0 rfl ?_
        refine t_chkK hk (fun c4 hk => ?_)
        refine t_iald dX13_areFieldsGood_58 qa_959 (t_ixv c4) ?_
        refine t_bndK hk (fun r6 er6 hk => ?_)
        refine t_callVvE dX13_areFieldsGood_59 M_X13_addPair (C_X13_addPair _ _ _ _ er6) ML_X13_1081 IM_X13_addPair SE_X13_addPair qc_950 rfl (As := [.int (s.1 959 (l3.toNatClampNeg)), .int (s.1 959 (r4.toNatClampNeg))]) rfl rfl (Nat.le_of_ble_eq_true rfl) (Nat.le_of_ble_eq_true rfl) (Nat.le_of_ble_eq_true rfl) (Nat.le_of_ble_eq_true rfl) ?_
        refine mj_sublv [(0, .ref 950), (1, .int l1), (2, .int l2), (3, .int l3)] [1, 2, 3, 4] rfl ?_
        exact B_X13_areFieldsGood_62 _ _ _ _ _ (fun y0 y1 y2 y3 hx => Hb7 y0 y1 y2 y3 hx) hk
      · refine t_mapK hk (fun hk => ?_)
        refine mj_iconst (v := 0) dX13_areFieldsGood_43 (by decide) ?_
        exact t_somK hk (fun hf => t_iret dX13_areFieldsGood_44 rfl (by decide) ⟨_, rfl, hf⟩ (Nat.le_of_ble_eq_true rfl) (Nat.le_of_ble_eq_true rfl))
noncomputable def b_X13_areFieldsGood_7 (x : Int32 × Int32 × Int32 × t_S) : Option ((Int32 × Int32 × Int32 × t_S) ⊕ (Int32 × t_S)) := k_X13_areFieldsGood_7 x.1 x.2.1 x.2.2.1 x.2.2.2
set_option maxRecDepth 4000 in
set_option maxHeartbeats 1000000 in
theorem LH_X13_areFieldsGood_7 {D : va_G} {cy : Nat → ClassId} {ad : Nat → Nat} {bs : Nat} {X : State → Heap → Prop} : ∀ (n : Nat) (y0 : Int32) (y1 : Int32) (y2 : Int32) (y3 : t_S) (Q : Int32 × t_S → Prop) (hk : t_hk (t_loop (b_X13_areFieldsGood_7) n (y0, y1, y2, y3)) Q), mj_G D cy ad bs X cX13_areFieldsGood 5 yX13_areFieldsGood.cls (some .boolean) yX13_areFieldsGood.name 3 0 0 1065 (t_P (fun v s' => ∃ x, v = some (.int x) ∧ Q ((x, s')))) 7 [(0, .ref 950), (1, .int (y0)), (2, .int (y1)), (3, .int (y2))] [] (t_m y3) 1065 0 0 := by
  intro n
  induction n with
  | zero => intro y0 y1 y2 y3 Q hk; obtain ⟨r, hr, _⟩ := hk; cases hr
  | succ n ih =>
    intro y0 y1 y2 y3 Q hk
    exact B_X13_areFieldsGood_7 y0 y1 y2 y3 (fun y => t_lq (b_X13_areFieldsGood_7) n Q y) (fun y0' y1' y2' y3' hy => ih y0' y1' y2' y3' Q hy) (t_lp (b := b_X13_areFieldsGood_7) (n := n) (x := (y0, y1, y2, y3)) hk)
noncomputable def f_X13_areFieldsGood (x1 : Int32) (x2 : Int32) (s : t_S) : Option (Int32 × t_S) :=
 if t_ix x1 13000 = true then
  t_loop (b_X13_areFieldsGood_7) t_N (x1, x2, (s.1 959 (x1.toNatClampNeg)), s)
else none
set_option maxRecDepth 4000 in
set_option maxHeartbeats 1000000 in
theorem C_X13_areFieldsGood (x1 : Int32) (x2 : Int32) (s : t_S) (r : Int32 × t_S) (hr : f_X13_areFieldsGood x1 x2 s = some r) : t_C yX13_areFieldsGood cX13_areFieldsGood 5 (some .boolean) 3 [.ref 950, .int x1, .int x2] s (fun v s' => v = some (.int r.1) ∧ s' = r.2) := by
  refine t_C.imp (P := fun v s' => ∃ x, v = some (.int x) ∧ (fun q => q = r) ((x, s'))) (t_C.of (by decide +kernel) (Nat.le_of_ble_eq_true rfl) ?_) (fun v s' hp => by obtain ⟨x, rfl, rfl⟩ := hp; exact ⟨rfl, rfl⟩)
  intro D cy ad bs X
  have hk : t_hk (f_X13_areFieldsGood x1 x2 s) (fun q => q = r) := ⟨r, hr, rfl⟩
  show mj_G D cy ad bs X cX13_areFieldsGood 5 yX13_areFieldsGood.cls (some .boolean) yX13_areFieldsGood.name 3 0 0 1065 (t_P (fun v s' => ∃ x, v = some (.int x) ∧ (fun q => q = r) ((x, s')))) 0 [(0, .ref 950), (1, .int x1), (2, .int x2)] [] (t_m s) 1065 0 0
  refine mj_aload_n dX13_areFieldsGood_0 0 rfl ?_
  refine t_getR 959 dX13_areFieldsGood_1 F_X13_39 qr_950_21 ?_
  refine mj_iload_n dX13_areFieldsGood_4 1 rfl ?_
  refine t_chkK hk (fun c0 hk => ?_)
  refine t_iald dX13_areFieldsGood_5 qa_959 (t_ixv c0) ?_
  refine mj_istore_n 3 (lv2 := [(3, .int (s.1 959 (x1.toNatClampNeg))), (0, .ref 950), (1, .int x1), (2, .int x2)]) dX13_areFieldsGood_6 rfl (by decide) rfl ?_
  refine mj_sublv [(0, .ref 950), (1, .int x1), (2, .int x2), (3, .int (s.1 959 (x1.toNatClampNeg)))] [1, 2, 3, 0] rfl ?_
  exact LH_X13_areFieldsGood_7 _ x1 x2 (s.1 959 (x1.toNatClampNeg)) s _ hk

