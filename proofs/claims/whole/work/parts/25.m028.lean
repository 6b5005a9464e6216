/-! Methods as functions, 28: X6_readTemplFields -/
theorem dX6_readBase_0 : decode cX6_readBase 0 = .ok (.aload_n 0, 1) := by decide +kernel
theorem dX6_readBase_1 : decode cX6_readBase 1 = .ok (.getfield 28, 3) := by decide +kernel
theorem dX6_readBase_12 : decode cX6_readBase 12 = .ok (.if_icmp .eq 38, 3) := by decide +kernel
theorem dX6_readBase_15 : decode cX6_readBase 15 = .ok (.iload_n 2, 1) := by decide +kernel
theorem dX6_readBase_16 : decode cX6_readBase 16 = .ok (.sipush 232, 3) := by decide +kernel
theorem dX6_readBase_164 : decode cX6_readBase 164 = .ok (.aload_n 0, 1) := by decide +kernel
theorem dX6_readBase_165 : decode cX6_readBase 165 = .ok (.getfield 43, 3) := by decide +kernel
theorem dX6_readBase_168 : decode cX6_readBase 168 = .ok (.iconst 1, 1) := by decide +kernel
theorem dX6_readBase_169 : decode cX6_readBase 169 = .ok (.aload_n 0, 1) := by decide +kernel
theorem dX6_readBase_170 : decode cX6_readBase 170 = .ok (.getfield 43, 3) := by decide +kernel
theorem dX6_readBase_173 : decode cX6_readBase 173 = .ok (.iconst 0, 1) := by decide +kernel
theorem dX6_readBase_174 : decode cX6_readBase 174 = .ok (.aload_n 0, 1) := by decide +kernel
theorem dX6_readBase_175 : decode cX6_readBase 175 = .ok (.getfield 28, 3) := by decide +kernel
theorem dX6_readBase_178 : decode cX6_readBase 178 = .ok (.getfield 338, 3) := by decide +kernel
theorem dX6_readBase_181 : decode cX6_readBase 181 = .ok (.invokestatic 494, 3) := by decide +kernel
theorem dX6_readBase_184 : decode cX6_readBase 184 = .ok (.invokevirtual 410, 3) := by decide +kernel
theorem dX6_readBase_187 : decode cX6_readBase 187 = .ok (.invokevirtual 202, 3) := by decide +kernel
theorem dX6_readBase_19 : decode cX6_readBase 19 = .ok (.if_icmp .eq 31, 3) := by decide +kernel
theorem dX6_readBase_190 : decode cX6_readBase 190 = .ok (.pop, 1) := by decide +kernel
theorem dX6_readBase_191 : decode cX6_readBase 191 = .ok (.goto 135, 3) := by decide +kernel
theorem dX6_readBase_194 : decode cX6_readBase 194 = .ok (.aload_n 0, 1) := by decide +kernel
theorem dX6_readBase_195 : decode cX6_readBase 195 = .ok (.getfield 43, 3) := by decide +kernel
theorem dX6_readBase_198 : decode cX6_readBase 198 = .ok (.iconst 1, 1) := by decide +kernel
theorem dX6_readBase_199 : decode cX6_readBase 199 = .ok (.aload_n 0, 1) := by decide +kernel
theorem dX6_readBase_200 : decode cX6_readBase 200 = .ok (.getfield 43, 3) := by decide +kernel
theorem dX6_readBase_203 : decode cX6_readBase 203 = .ok (.iconst 1, 1) := by decide +kernel
theorem dX6_readBase_204 : decode cX6_readBase 204 = .ok (.invokestatic 406, 3) := by decide +kernel
theorem dX6_readBase_207 : decode cX6_readBase 207 = .ok (.invokevirtual 410, 3) := by decide +kernel
theorem dX6_readBase_210 : decode cX6_readBase 210 = .ok (.invokevirtual 202, 3) := by decide +kernel
theorem dX6_readBase_213 : decode cX6_readBase 213 = .ok (.pop, 1) := by decide +kernel
theorem dX6_readBase_214 : decode cX6_readBase 214 = .ok (.goto 112, 3) := by decide +kernel
theorem dX6_readBase_217 : decode cX6_readBase 217 = .ok (.aload_n 0, 1) := by decide +kernel
theorem dX6_readBase_218 : decode cX6_readBase 218 = .ok (.getfield 43, 3) := by decide +kernel
theorem dX6_readBase_22 : decode cX6_readBase 22 = .ok (.iload_n 2, 1) := by decide +kernel
theorem dX6_readBase_221 : decode cX6_readBase 221 = .ok (.iconst 1, 1) := by decide +kernel
theorem dX6_readBase_222 : decode cX6_readBase 222 = .ok (.aload_n 0, 1) := by decide +kernel
theorem dX6_readBase_223 : decode cX6_readBase 223 = .ok (.getfield 43, 3) := by decide +kernel
theorem dX6_readBase_226 : decode cX6_readBase 226 = .ok (.iconst 0, 1) := by decide +kernel
theorem dX6_readBase_227 : decode cX6_readBase 227 = .ok (.invokestatic 406, 3) := by decide +kernel
theorem dX6_readBase_23 : decode cX6_readBase 23 = .ok (.sipush 233, 3) := by decide +kernel
theorem dX6_readBase_230 : decode cX6_readBase 230 = .ok (.invokevirtual 410, 3) := by decide +kernel
theorem dX6_readBase_233 : decode cX6_readBase 233 = .ok (.invokevirtual 202, 3) := by decide +kernel
theorem dX6_readBase_236 : decode cX6_readBase 236 = .ok (.pop, 1) := by decide +kernel
theorem dX6_readBase_237 : decode cX6_readBase 237 = .ok (.goto 89, 3) := by decide +kernel
theorem dX6_readBase_240 : decode cX6_readBase 240 = .ok (.aload_n 0, 1) := by decide +kernel
theorem dX6_readBase_241 : decode cX6_readBase 241 = .ok (.getfield 43, 3) := by decide +kernel
theorem dX6_readBase_244 : decode cX6_readBase 244 = .ok (.iconst 1, 1) := by decide +kernel
theorem dX6_readBase_245 : decode cX6_readBase 245 = .ok (.aload_n 0, 1) := by decide +kernel
theorem dX6_readBase_246 : decode cX6_readBase 246 = .ok (.invokevirtual 400, 3) := by decide +kernel
theorem dX6_readBase_249 : decode cX6_readBase 249 = .ok (.invokevirtual 202, 3) := by decide +kernel
theorem dX6_readBase_252 : decode cX6_readBase 252 = .ok (.pop, 1) := by decide +kernel
theorem dX6_readBase_253 : decode cX6_readBase 253 = .ok (.goto 73, 3) := by decide +kernel
theorem dX6_readBase_256 : decode cX6_readBase 256 = .ok (.aload_n 0, 1) := by decide +kernel
theorem dX6_readBase_257 : decode cX6_readBase 257 = .ok (.getfield 43, 3) := by decide +kernel
theorem dX6_readBase_26 : decode cX6_readBase 26 = .ok (.if_icmp .eq 24, 3) := by decide +kernel
theorem dX6_readBase_260 : decode cX6_readBase 260 = .ok (.iconst 1, 1) := by decide +kernel
theorem dX6_readBase_261 : decode cX6_readBase 261 = .ok (.aload_n 0, 1) := by decide +kernel
theorem dX6_readBase_262 : decode cX6_readBase 262 = .ok (.getfield 43, 3) := by decide +kernel
theorem dX6_readBase_265 : decode cX6_readBase 265 = .ok (.ldc2_w 498, 3) := by decide +kernel
theorem dX6_readBase_268 : decode cX6_readBase 268 = .ok (.invokevirtual 410, 3) := by decide +kernel
theorem dX6_readBase_271 : decode cX6_readBase 271 = .ok (.invokevirtual 202, 3) := by decide +kernel
theorem dX6_readBase_274 : decode cX6_readBase 274 = .ok (.pop, 1) := by decide +kernel
theorem dX6_readBase_275 : decode cX6_readBase 275 = .ok (.goto 51, 3) := by decide +kernel
theorem dX6_readBase_278 : decode cX6_readBase 278 = .ok (.aload_n 0, 1) := by decide +kernel
theorem dX6_readBase_279 : decode cX6_readBase 279 = .ok (.getfield 43, 3) := by decide +kernel
theorem dX6_readBase_282 : decode cX6_readBase 282 = .ok (.iconst 5, 1) := by decide +kernel
theorem dX6_readBase_283 : decode cX6_readBase 283 = .ok (.iconst 0, 1) := by decide +kernel
theorem dX6_readBase_284 : decode cX6_readBase 284 = .ok (.invokevirtual 202, 3) := by decide +kernel
theorem dX6_readBase_287 : decode cX6_readBase 287 = .ok (.pop, 1) := by decide +kernel
theorem dX6_readBase_288 : decode cX6_readBase 288 = .ok (.goto 38, 3) := by decide +kernel
theorem dX6_readBase_29 : decode cX6_readBase 29 = .ok (.iload_n 2, 1) := by decide +kernel
theorem dX6_readBase_291 : decode cX6_readBase 291 = .ok (.aload_n 0, 1) := by decide +kernel
theorem dX6_readBase_292 : decode cX6_readBase 292 = .ok (.getfield 43, 3) := by decide +kernel
theorem dX6_readBase_295 : decode cX6_readBase 295 = .ok (.bipush 6, 2) := by decide +kernel
theorem dX6_readBase_297 : decode cX6_readBase 297 = .ok (.iconst 0, 1) := by decide +kernel
theorem dX6_readBase_298 : decode cX6_readBase 298 = .ok (.invokevirtual 202, 3) := by decide +kernel
theorem dX6_readBase_30 : decode cX6_readBase 30 = .ok (.sipush 235, 3) := by decide +kernel
theorem dX6_readBase_301 : decode cX6_readBase 301 = .ok (.pop, 1) := by decide +kernel
theorem dX6_readBase_302 : decode cX6_readBase 302 = .ok (.goto 24, 3) := by decide +kernel
theorem dX6_readBase_305 : decode cX6_readBase 305 = .ok (.aload_n 0, 1) := by decide +kernel
theorem dX6_readBase_306 : decode cX6_readBase 306 = .ok (.getfield 43, 3) := by decide +kernel
theorem dX6_readBase_309 : decode cX6_readBase 309 = .ok (.bipush 7, 2) := by decide +kernel
theorem dX6_readBase_311 : decode cX6_readBase 311 = .ok (.iconst 0, 1) := by decide +kernel
theorem dX6_readBase_312 : decode cX6_readBase 312 = .ok (.invokevirtual 202, 3) := by decide +kernel
theorem dX6_readBase_315 : decode cX6_readBase 315 = .ok (.pop, 1) := by decide +kernel
theorem dX6_readBase_316 : decode cX6_readBase 316 = .ok (.goto 10, 3) := by decide +kernel
theorem dX6_readBase_319 : decode cX6_readBase 319 = .ok (.aload_n 0, 1) := by decide +kernel
theorem dX6_readBase_320 : decode cX6_readBase 320 = .ok (.invokevirtual 500, 3) := by decide +kernel
theorem dX6_readBase_323 : decode cX6_readBase 323 = .ok (.goto 3, 3) := by decide +kernel
theorem dX6_readBase_326 : decode cX6_readBase 326 = .ok (.aload_n 0, 1) := by decide +kernel
theorem dX6_readBase_327 : decode cX6_readBase 327 = .ok (.getfield 28, 3) := by decide +kernel
theorem dX6_readBase_33 : decode cX6_readBase 33 = .ok (.if_icmp .eq 17, 3) := by decide +kernel
theorem dX6_readBase_330 : decode cX6_readBase 330 = .ok (.invokevirtual 170, 3) := by decide +kernel
theorem dX6_readBase_333 : decode cX6_readBase 333 = .ok (.iload_n 2, 1) := by decide +kernel
theorem dX6_readBase_334 : decode cX6_readBase 334 = .ok (.lookupswitch 162 #[(40, 74), (91, 66), (123, 58), (234, 94), (235, 102), (236, 142)], 58) := by decide +kernel
theorem dX6_readBase_36 : decode cX6_readBase 36 = .ok (.iload_n 2, 1) := by decide +kernel
theorem dX6_readBase_37 : decode cX6_readBase 37 = .ok (.sipush 236, 3) := by decide +kernel
theorem dX6_readBase_392 : decode cX6_readBase 392 = .ok (.aload_n 0, 1) := by decide +kernel
theorem dX6_readBase_393 : decode cX6_readBase 393 = .ok (.iload_n 1, 1) := by decide +kernel
theorem dX6_readBase_394 : decode cX6_readBase 394 = .ok (.invokevirtual 503, 3) := by decide +kernel
theorem dX6_readBase_397 : decode cX6_readBase 397 = .ok (.goto 99, 3) := by decide +kernel
theorem dX6_readBase_4 : decode cX6_readBase 4 = .ok (.getfield 85, 3) := by decide +kernel
theorem dX6_readBase_40 : decode cX6_readBase 40 = .ok (.if_icmp .eq 10, 3) := by decide +kernel
theorem dX6_readBase_400 : decode cX6_readBase 400 = .ok (.aload_n 0, 1) := by decide +kernel
theorem dX6_readBase_401 : decode cX6_readBase 401 = .ok (.iload_n 1, 1) := by decide +kernel
theorem dX6_readBase_402 : decode cX6_readBase 402 = .ok (.invokevirtual 506, 3) := by decide +kernel
theorem dX6_readBase_405 : decode cX6_readBase 405 = .ok (.goto 91, 3) := by decide +kernel
theorem dX6_readBase_408 : decode cX6_readBase 408 = .ok (.aload_n 0, 1) := by decide +kernel
theorem dX6_readBase_409 : decode cX6_readBase 409 = .ok (.iload_n 1, 1) := by decide +kernel
theorem dX6_readBase_410 : decode cX6_readBase 410 = .ok (.iconst 1, 1) := by decide +kernel
theorem dX6_readBase_411 : decode cX6_readBase 411 = .ok (.iadd, 1) := by decide +kernel
theorem dX6_readBase_412 : decode cX6_readBase 412 = .ok (.invokevirtual 120, 3) := by decide +kernel
theorem dX6_readBase_415 : decode cX6_readBase 415 = .ok (.pop, 1) := by decide +kernel
theorem dX6_readBase_416 : decode cX6_readBase 416 = .ok (.aload_n 0, 1) := by decide +kernel
theorem dX6_readBase_417 : decode cX6_readBase 417 = .ok (.getfield 28, 3) := by decide +kernel
theorem dX6_readBase_420 : decode cX6_readBase 420 = .ok (.bipush 41, 2) := by decide +kernel
theorem dX6_readBase_422 : decode cX6_readBase 422 = .ok (.invokevirtual 184, 3) := by decide +kernel
theorem dX6_readBase_425 : decode cX6_readBase 425 = .ok (.goto 71, 3) := by decide +kernel
theorem dX6_readBase_428 : decode cX6_readBase 428 = .ok (.aload_n 0, 1) := by decide +kernel
theorem dX6_readBase_429 : decode cX6_readBase 429 = .ok (.iload_n 1, 1) := by decide +kernel
theorem dX6_readBase_43 : decode cX6_readBase 43 = .ok (.iload_n 2, 1) := by decide +kernel
theorem dX6_readBase_430 : decode cX6_readBase 430 = .ok (.invokevirtual 509, 3) := by decide +kernel
theorem dX6_readBase_433 : decode cX6_readBase 433 = .ok (.goto 63, 3) := by decide +kernel
theorem dX6_readBase_436 : decode cX6_readBase 436 = .ok (.aload_n 0, 1) := by decide +kernel
theorem dX6_readBase_437 : decode cX6_readBase 437 = .ok (.getfield 28, 3) := by decide +kernel
theorem dX6_readBase_44 : decode cX6_readBase 44 = .ok (.sipush 234, 3) := by decide +kernel
theorem dX6_readBase_440 : decode cX6_readBase 440 = .ok (.bipush 40, 2) := by decide +kernel
theorem dX6_readBase_442 : decode cX6_readBase 442 = .ok (.invokevirtual 184, 3) := by decide +kernel
theorem dX6_readBase_445 : decode cX6_readBase 445 = .ok (.aload_n 0, 1) := by decide +kernel
theorem dX6_readBase_446 : decode cX6_readBase 446 = .ok (.iload_n 1, 1) := by decide +kernel
theorem dX6_readBase_447 : decode cX6_readBase 447 = .ok (.iconst 1, 1) := by decide +kernel
theorem dX6_readBase_448 : decode cX6_readBase 448 = .ok (.iadd, 1) := by decide +kernel
theorem dX6_readBase_449 : decode cX6_readBase 449 = .ok (.invokevirtual 120, 3) := by decide +kernel
theorem dX6_readBase_452 : decode cX6_readBase 452 = .ok (.pop, 1) := by decide +kernel
theorem dX6_readBase_453 : decode cX6_readBase 453 = .ok (.aload_n 0, 1) := by decide +kernel
theorem dX6_readBase_454 : decode cX6_readBase 454 = .ok (.getfield 28, 3) := by decide +kernel
theorem dX6_readBase_457 : decode cX6_readBase 457 = .ok (.bipush 41, 2) := by decide +kernel
theorem dX6_readBase_459 : decode cX6_readBase 459 = .ok (.invokevirtual 184, 3) := by decide +kernel
theorem dX6_readBase_462 : decode cX6_readBase 462 = .ok (.aload_n 0, 1) := by decide +kernel
theorem dX6_readBase_463 : decode cX6_readBase 463 = .ok (.getfield 43, 3) := by decide +kernel
theorem dX6_readBase_466 : decode cX6_readBase 466 = .ok (.bipush 9, 2) := by decide +kernel
theorem dX6_readBase_468 : decode cX6_readBase 468 = .ok (.iconst 0, 1) := by decide +kernel
theorem dX6_readBase_469 : decode cX6_readBase 469 = .ok (.invokevirtual 202, 3) := by decide +kernel
theorem dX6_readBase_47 : decode cX6_readBase 47 = .ok (.if_icmp .ne 7, 3) := by decide +kernel
theorem dX6_readBase_472 : decode cX6_readBase 472 = .ok (.pop, 1) := by decide +kernel
theorem dX6_readBase_473 : decode cX6_readBase 473 = .ok (.goto 23, 3) := by decide +kernel
theorem dX6_readBase_476 : decode cX6_readBase 476 = .ok (.aload_n 0, 1) := by decide +kernel
theorem dX6_readBase_477 : decode cX6_readBase 477 = .ok (.bipush 7, 2) := by decide +kernel
theorem dX6_readBase_479 : decode cX6_readBase 479 = .ok (.aload_n 0, 1) := by decide +kernel
theorem dX6_readBase_480 : decode cX6_readBase 480 = .ok (.getfield 43, 3) := by decide +kernel
theorem dX6_readBase_483 : decode cX6_readBase 483 = .ok (.bipush 8, 2) := by decide +kernel
theorem dX6_readBase_485 : decode cX6_readBase 485 = .ok (.iconst 0, 1) := by decide +kernel
theorem dX6_readBase_486 : decode cX6_readBase 486 = .ok (.invokevirtual 202, 3) := by decide +kernel
theorem dX6_readBase_489 : decode cX6_readBase 489 = .ok (.iconst 0, 1) := by decide +kernel
theorem dX6_readBase_490 : decode cX6_readBase 490 = .ok (.invokevirtual 250, 3) := by decide +kernel
theorem dX6_readBase_493 : decode cX6_readBase 493 = .ok (.goto 3, 3) := by decide +kernel
theorem dX6_readBase_496 : decode cX6_readBase 496 = .ok (.return_, 1) := by decide +kernel
theorem dX6_readBase_50 : decode cX6_readBase 50 = .ok (.iconst 1, 1) := by decide +kernel
theorem dX6_readBase_51 : decode cX6_readBase 51 = .ok (.goto 4, 3) := by decide +kernel
theorem dX6_readBase_54 : decode cX6_readBase 54 = .ok (.iconst 0, 1) := by decide +kernel
theorem dX6_readBase_55 : decode cX6_readBase 55 = .ok (.istore_n 3, 1) := by decide +kernel
theorem dX6_readBase_56 : decode cX6_readBase 56 = .ok (.aload_n 0, 1) := by decide +kernel
theorem dX6_readBase_57 : decode cX6_readBase 57 = .ok (.getfield 116, 3) := by decide +kernel
theorem dX6_readBase_60 : decode cX6_readBase 60 = .ok (.ifCond .eq 22, 3) := by decide +kernel
theorem dX6_readBase_63 : decode cX6_readBase 63 = .ok (.iload_n 3, 1) := by decide +kernel
theorem dX6_readBase_64 : decode cX6_readBase 64 = .ok (.ifCond .eq 18, 3) := by decide +kernel
theorem dX6_readBase_67 : decode cX6_readBase 67 = .ok (.aload_n 0, 1) := by decide +kernel
theorem dX6_readBase_68 : decode cX6_readBase 68 = .ok (.getfield 18, 3) := by decide +kernel
theorem dX6_readBase_7 : decode cX6_readBase 7 = .ok (.istore_n 2, 1) := by decide +kernel
theorem dX6_readBase_71 : decode cX6_readBase 71 = .ok (.iconst 4, 1) := by decide +kernel
theorem dX6_readBase_72 : decode cX6_readBase 72 = .ok (.aload_n 0, 1) := by decide +kernel
theorem dX6_readBase_73 : decode cX6_readBase 73 = .ok (.getfield 28, 3) := by decide +kernel
theorem dX6_readBase_76 : decode cX6_readBase 76 = .ok (.getfield 183, 3) := by decide +kernel
theorem dX6_readBase_79 : decode cX6_readBase 79 = .ok (.invokevirtual 491, 3) := by decide +kernel
theorem dX6_readBase_8 : decode cX6_readBase 8 = .ok (.iload_n 2, 1) := by decide +kernel
theorem dX6_readBase_82 : decode cX6_readBase 82 = .ok (.iload_n 2, 1) := by decide +kernel
theorem dX6_readBase_83 : decode cX6_readBase 83 = .ok (.lookupswitch 243 #[(1, 236), (2, 81), (3, 157), (221, 111), (222, 134), (223, 173), (231, 195), (232, 208), (233, 222)], 81) := by decide +kernel
theorem dX6_readBase_9 : decode cX6_readBase 9 = .ok (.sipush 231, 3) := by decide +kernel
theorem dX6_readElements_0 : decode cX6_readElements 0 = .ok (.aload_n 0, 1) := by decide +kernel
theorem dX6_readElements_1 : decode cX6_readElements 1 = .ok (.getfield 28, 3) := by decide +kernel
theorem dX6_readElements_12 : decode cX6_readElements 12 = .ok (.iconst 0, 1) := by decide +kernel
theorem dX6_readElements_13 : decode cX6_readElements 13 = .ok (.goto 10, 3) := by decide +kernel
theorem dX6_readElements_16 : decode cX6_readElements 16 = .ok (.aload_n 0, 1) := by decide +kernel
theorem dX6_readElements_17 : decode cX6_readElements 17 = .ok (.iload_n 1, 1) := by decide +kernel
theorem dX6_readElements_18 : decode cX6_readElements 18 = .ok (.iconst 1, 1) := by decide +kernel
theorem dX6_readElements_19 : decode cX6_readElements 19 = .ok (.iadd, 1) := by decide +kernel
theorem dX6_readElements_20 : decode cX6_readElements 20 = .ok (.invokevirtual 518, 3) := by decide +kernel
theorem dX6_readElements_23 : decode cX6_readElements 23 = .ok (.istore_n 2, 1) := by decide +kernel
theorem dX6_readElements_24 : decode cX6_readElements 24 = .ok (.aload_n 0, 1) := by decide +kernel
theorem dX6_readElements_25 : decode cX6_readElements 25 = .ok (.getfield 28, 3) := by decide +kernel
theorem dX6_readElements_28 : decode cX6_readElements 28 = .ok (.bipush 93, 2) := by decide +kernel
theorem dX6_readElements_30 : decode cX6_readElements 30 = .ok (.invokevirtual 184, 3) := by decide +kernel
theorem dX6_readElements_33 : decode cX6_readElements 33 = .ok (.aload_n 0, 1) := by decide +kernel
theorem dX6_readElements_34 : decode cX6_readElements 34 = .ok (.getfield 43, 3) := by decide +kernel
theorem dX6_readElements_37 : decode cX6_readElements 37 = .ok (.bipush 31, 2) := by decide +kernel
theorem dX6_readElements_39 : decode cX6_readElements 39 = .ok (.iload_n 2, 1) := by decide +kernel
theorem dX6_readElements_4 : decode cX6_readElements 4 = .ok (.getfield 85, 3) := by decide +kernel
theorem dX6_readElements_40 : decode cX6_readElements 40 = .ok (.invokevirtual 202, 3) := by decide +kernel
theorem dX6_readElements_43 : decode cX6_readElements 43 = .ok (.pop, 1) := by decide +kernel
theorem dX6_readElements_44 : decode cX6_readElements 44 = .ok (.return_, 1) := by decide +kernel
theorem dX6_readElements_7 : decode cX6_readElements 7 = .ok (.bipush 93, 2) := by decide +kernel
theorem dX6_readElements_9 : decode cX6_readElements 9 = .ok (.if_icmp .ne 7, 3) := by decide +kernel
theorem dX6_readExpFields_0 : decode cX6_readExpFields 0 = .ok (.aload_n 0, 1) := by decide +kernel
theorem dX6_readExpFields_1 : decode cX6_readExpFields 1 = .ok (.getfield 131, 3) := by decide +kernel
theorem dX6_readExpFields_101 : decode cX6_readExpFields 101 = .ok (.return_, 1) := by decide +kernel
theorem dX6_readExpFields_102 : decode cX6_readExpFields 102 = .ok (.aload_n 0, 1) := by decide +kernel
theorem dX6_readExpFields_103 : decode cX6_readExpFields 103 = .ok (.getfield 15, 3) := by decide +kernel
theorem dX6_readExpFields_106 : decode cX6_readExpFields 106 = .ok (.aload_n 0, 1) := by decide +kernel
theorem dX6_readExpFields_107 : decode cX6_readExpFields 107 = .ok (.getfield 131, 3) := by decide +kernel
theorem dX6_readExpFields_110 : decode cX6_readExpFields 110 = .ok (.aload_n 0, 1) := by decide +kernel
theorem dX6_readExpFields_111 : decode cX6_readExpFields 111 = .ok (.invokevirtual 485, 3) := by decide +kernel
theorem dX6_readExpFields_114 : decode cX6_readExpFields 114 = .ok (.iastore, 1) := by decide +kernel
theorem dX6_readExpFields_115 : decode cX6_readExpFields 115 = .ok (.aload_n 0, 1) := by decide +kernel
theorem dX6_readExpFields_116 : decode cX6_readExpFields 116 = .ok (.dup, 1) := by decide +kernel
theorem dX6_readExpFields_117 : decode cX6_readExpFields 117 = .ok (.getfield 131, 3) := by decide +kernel
theorem dX6_readExpFields_12 : decode cX6_readExpFields 12 = .ok (.bipush 125, 2) := by decide +kernel
theorem dX6_readExpFields_120 : decode cX6_readExpFields 120 = .ok (.iconst 1, 1) := by decide +kernel
theorem dX6_readExpFields_121 : decode cX6_readExpFields 121 = .ok (.iadd, 1) := by decide +kernel
theorem dX6_readExpFields_122 : decode cX6_readExpFields 122 = .ok (.putfield 131, 3) := by decide +kernel
theorem dX6_readExpFields_125 : decode cX6_readExpFields 125 = .ok (.aload_n 0, 1) := by decide +kernel
theorem dX6_readExpFields_126 : decode cX6_readExpFields 126 = .ok (.getfield 28, 3) := by decide +kernel
theorem dX6_readExpFields_129 : decode cX6_readExpFields 129 = .ok (.bipush 11, 2) := by decide +kernel
theorem dX6_readExpFields_131 : decode cX6_readExpFields 131 = .ok (.invokevirtual 184, 3) := by decide +kernel
theorem dX6_readExpFields_134 : decode cX6_readExpFields 134 = .ok (.aload_n 0, 1) := by decide +kernel
theorem dX6_readExpFields_135 : decode cX6_readExpFields 135 = .ok (.iload_n 1, 1) := by decide +kernel
theorem dX6_readExpFields_136 : decode cX6_readExpFields 136 = .ok (.iconst 1, 1) := by decide +kernel
theorem dX6_readExpFields_137 : decode cX6_readExpFields 137 = .ok (.iadd, 1) := by decide +kernel
theorem dX6_readExpFields_138 : decode cX6_readExpFields 138 = .ok (.invokevirtual 120, 3) := by decide +kernel
theorem dX6_readExpFields_14 : decode cX6_readExpFields 14 = .ok (.if_icmp .eq 149, 3) := by decide +kernel
theorem dX6_readExpFields_141 : decode cX6_readExpFields 141 = .ok (.pop, 1) := by decide +kernel
theorem dX6_readExpFields_142 : decode cX6_readExpFields 142 = .ok (.aload_n 0, 1) := by decide +kernel
theorem dX6_readExpFields_143 : decode cX6_readExpFields 143 = .ok (.getfield 28, 3) := by decide +kernel
theorem dX6_readExpFields_146 : decode cX6_readExpFields 146 = .ok (.bipush 44, 2) := by decide +kernel
theorem dX6_readExpFields_148 : decode cX6_readExpFields 148 = .ok (.invokevirtual 246, 3) := by decide +kernel
theorem dX6_readExpFields_151 : decode cX6_readExpFields 151 = .ok (.ifCond .ne 6, 3) := by decide +kernel
theorem dX6_readExpFields_154 : decode cX6_readExpFields 154 = .ok (.goto 9, 3) := by decide +kernel
theorem dX6_readExpFields_157 : decode cX6_readExpFields 157 = .ok (.iinc 3 1, 3) := by decide +kernel
theorem dX6_readExpFields_160 : decode cX6_readExpFields 160 = .ok (.goto (-141), 3) := by decide +kernel
theorem dX6_readExpFields_163 : decode cX6_readExpFields 163 = .ok (.aload_n 0, 1) := by decide +kernel
theorem dX6_readExpFields_164 : decode cX6_readExpFields 164 = .ok (.getfield 28, 3) := by decide +kernel
theorem dX6_readExpFields_167 : decode cX6_readExpFields 167 = .ok (.bipush 125, 2) := by decide +kernel
theorem dX6_readExpFields_169 : decode cX6_readExpFields 169 = .ok (.invokevirtual 184, 3) := by decide +kernel
theorem dX6_readExpFields_17 : decode cX6_readExpFields 17 = .ok (.iconst 0, 1) := by decide +kernel
theorem dX6_readExpFields_172 : decode cX6_readExpFields 172 = .ok (.aload_n 0, 1) := by decide +kernel
theorem dX6_readExpFields_173 : decode cX6_readExpFields 173 = .ok (.getfield 43, 3) := by decide +kernel
theorem dX6_readExpFields_176 : decode cX6_readExpFields 176 = .ok (.bipush 32, 2) := by decide +kernel
theorem dX6_readExpFields_178 : decode cX6_readExpFields 178 = .ok (.aload_n 0, 1) := by decide +kernel
theorem dX6_readExpFields_179 : decode cX6_readExpFields 179 = .ok (.getfield 131, 3) := by decide +kernel
theorem dX6_readExpFields_18 : decode cX6_readExpFields 18 = .ok (.istore_n 3, 1) := by decide +kernel
theorem dX6_readExpFields_182 : decode cX6_readExpFields 182 = .ok (.iload_n 2, 1) := by decide +kernel
theorem dX6_readExpFields_183 : decode cX6_readExpFields 183 = .ok (.isub, 1) := by decide +kernel
theorem dX6_readExpFields_184 : decode cX6_readExpFields 184 = .ok (.invokevirtual 202, 3) := by decide +kernel
theorem dX6_readExpFields_187 : decode cX6_readExpFields 187 = .ok (.pop, 1) := by decide +kernel
theorem dX6_readExpFields_188 : decode cX6_readExpFields 188 = .ok (.iload_n 2, 1) := by decide +kernel
theorem dX6_readExpFields_189 : decode cX6_readExpFields 189 = .ok (.istore_n 3, 1) := by decide +kernel
theorem dX6_readExpFields_19 : decode cX6_readExpFields 19 = .ok (.iload_n 3, 1) := by decide +kernel
theorem dX6_readExpFields_190 : decode cX6_readExpFields 190 = .ok (.iload_n 3, 1) := by decide +kernel
theorem dX6_readExpFields_191 : decode cX6_readExpFields 191 = .ok (.aload_n 0, 1) := by decide +kernel
theorem dX6_readExpFields_192 : decode cX6_readExpFields 192 = .ok (.getfield 131, 3) := by decide +kernel
theorem dX6_readExpFields_195 : decode cX6_readExpFields 195 = .ok (.if_icmp .ge 25, 3) := by decide +kernel
theorem dX6_readExpFields_198 : decode cX6_readExpFields 198 = .ok (.aload_n 0, 1) := by decide +kernel
theorem dX6_readExpFields_199 : decode cX6_readExpFields 199 = .ok (.getfield 43, 3) := by decide +kernel
theorem dX6_readExpFields_20 : decode cX6_readExpFields 20 = .ok (.bipush 16, 2) := by decide +kernel
theorem dX6_readExpFields_202 : decode cX6_readExpFields 202 = .ok (.bipush 33, 2) := by decide +kernel
theorem dX6_readExpFields_204 : decode cX6_readExpFields 204 = .ok (.aload_n 0, 1) := by decide +kernel
theorem dX6_readExpFields_205 : decode cX6_readExpFields 205 = .ok (.getfield 15, 3) := by decide +kernel
theorem dX6_readExpFields_208 : decode cX6_readExpFields 208 = .ok (.iload_n 3, 1) := by decide +kernel
theorem dX6_readExpFields_209 : decode cX6_readExpFields 209 = .ok (.iaload, 1) := by decide +kernel
theorem dX6_readExpFields_210 : decode cX6_readExpFields 210 = .ok (.invokevirtual 202, 3) := by decide +kernel
theorem dX6_readExpFields_213 : decode cX6_readExpFields 213 = .ok (.pop, 1) := by decide +kernel
theorem dX6_readExpFields_214 : decode cX6_readExpFields 214 = .ok (.iinc 3 1, 3) := by decide +kernel
theorem dX6_readExpFields_217 : decode cX6_readExpFields 217 = .ok (.goto (-27), 3) := by decide +kernel
theorem dX6_readExpFields_22 : decode cX6_readExpFields 22 = .ok (.if_icmp .gt 141, 3) := by decide +kernel
theorem dX6_readExpFields_220 : decode cX6_readExpFields 220 = .ok (.aload_n 0, 1) := by decide +kernel
theorem dX6_readExpFields_221 : decode cX6_readExpFields 221 = .ok (.iload_n 2, 1) := by decide +kernel
theorem dX6_readExpFields_222 : decode cX6_readExpFields 222 = .ok (.putfield 131, 3) := by decide +kernel
theorem dX6_readExpFields_225 : decode cX6_readExpFields 225 = .ok (.return_, 1) := by decide +kernel
theorem dX6_readExpFields_25 : decode cX6_readExpFields 25 = .ok (.aload_n 0, 1) := by decide +kernel
theorem dX6_readExpFields_26 : decode cX6_readExpFields 26 = .ok (.getfield 28, 3) := by decide +kernel
theorem dX6_readExpFields_29 : decode cX6_readExpFields 29 = .ok (.getfield 85, 3) := by decide +kernel
theorem dX6_readExpFields_32 : decode cX6_readExpFields 32 = .ok (.iconst 1, 1) := by decide +kernel
theorem dX6_readExpFields_33 : decode cX6_readExpFields 33 = .ok (.if_icmp .eq 14, 3) := by decide +kernel
theorem dX6_readExpFields_36 : decode cX6_readExpFields 36 = .ok (.aload_n 0, 1) := by decide +kernel
theorem dX6_readExpFields_37 : decode cX6_readExpFields 37 = .ok (.getfield 28, 3) := by decide +kernel
theorem dX6_readExpFields_4 : decode cX6_readExpFields 4 = .ok (.istore_n 2, 1) := by decide +kernel
theorem dX6_readExpFields_40 : decode cX6_readExpFields 40 = .ok (.iconst 2, 1) := by decide +kernel
theorem dX6_readExpFields_41 : decode cX6_readExpFields 41 = .ok (.invokevirtual 100, 3) := by decide +kernel
theorem dX6_readExpFields_44 : decode cX6_readExpFields 44 = .ok (.goto 43, 3) := by decide +kernel
theorem dX6_readExpFields_47 : decode cX6_readExpFields 47 = .ok (.aload_n 0, 1) := by decide +kernel
theorem dX6_readExpFields_48 : decode cX6_readExpFields 48 = .ok (.iload_n 2, 1) := by decide +kernel
theorem dX6_readExpFields_49 : decode cX6_readExpFields 49 = .ok (.aload_n 0, 1) := by decide +kernel
theorem dX6_readExpFields_5 : decode cX6_readExpFields 5 = .ok (.aload_n 0, 1) := by decide +kernel
theorem dX6_readExpFields_50 : decode cX6_readExpFields 50 = .ok (.getfield 28, 3) := by decide +kernel
theorem dX6_readExpFields_53 : decode cX6_readExpFields 53 = .ok (.invokevirtual 166, 3) := by decide +kernel
theorem dX6_readExpFields_56 : decode cX6_readExpFields 56 = .ok (.invokevirtual 515, 3) := by decide +kernel
theorem dX6_readExpFields_59 : decode cX6_readExpFields 59 = .ok (.ifCond .eq 14, 3) := by decide +kernel
theorem dX6_readExpFields_6 : decode cX6_readExpFields 6 = .ok (.getfield 28, 3) := by decide +kernel
theorem dX6_readExpFields_62 : decode cX6_readExpFields 62 = .ok (.aload_n 0, 1) := by decide +kernel
theorem dX6_readExpFields_63 : decode cX6_readExpFields 63 = .ok (.getfield 28, 3) := by decide +kernel
theorem dX6_readExpFields_66 : decode cX6_readExpFields 66 = .ok (.iconst 3, 1) := by decide +kernel
theorem dX6_readExpFields_67 : decode cX6_readExpFields 67 = .ok (.invokevirtual 100, 3) := by decide +kernel
theorem dX6_readExpFields_70 : decode cX6_readExpFields 70 = .ok (.goto 17, 3) := by decide +kernel
theorem dX6_readExpFields_73 : decode cX6_readExpFields 73 = .ok (.iload_n 3, 1) := by decide +kernel
theorem dX6_readExpFields_74 : decode cX6_readExpFields 74 = .ok (.bipush 16, 2) := by decide +kernel
theorem dX6_readExpFields_76 : decode cX6_readExpFields 76 = .ok (.if_icmp .ne 11, 3) := by decide +kernel
theorem dX6_readExpFields_79 : decode cX6_readExpFields 79 = .ok (.aload_n 0, 1) := by decide +kernel
theorem dX6_readExpFields_80 : decode cX6_readExpFields 80 = .ok (.getfield 28, 3) := by decide +kernel
theorem dX6_readExpFields_83 : decode cX6_readExpFields 83 = .ok (.iconst 5, 1) := by decide +kernel
theorem dX6_readExpFields_84 : decode cX6_readExpFields 84 = .ok (.invokevirtual 100, 3) := by decide +kernel
theorem dX6_readExpFields_87 : decode cX6_readExpFields 87 = .ok (.aload_n 0, 1) := by decide +kernel
theorem dX6_readExpFields_88 : decode cX6_readExpFields 88 = .ok (.invokevirtual 298, 3) := by decide +kernel
theorem dX6_readExpFields_9 : decode cX6_readExpFields 9 = .ok (.getfield 85, 3) := by decide +kernel
theorem dX6_readExpFields_91 : decode cX6_readExpFields 91 = .ok (.aload_n 0, 1) := by decide +kernel
theorem dX6_readExpFields_92 : decode cX6_readExpFields 92 = .ok (.getfield 28, 3) := by decide +kernel
theorem dX6_readExpFields_95 : decode cX6_readExpFields 95 = .ok (.getfield 82, 3) := by decide +kernel
theorem dX6_readExpFields_98 : decode cX6_readExpFields 98 = .ok (.ifCond .eq 4, 3) := by decide +kernel
theorem dX6_readExp_0 : decode cX6_readExp 0 = .ok (.aload_n 0, 1) := by decide +kernel
theorem dX6_readExp_1 : decode cX6_readExp 1 = .ok (.getfield 43, 3) := by decide +kernel
theorem dX6_readExp_101 : decode cX6_readExp 101 = .ok (.aload_n 0, 1) := by decide +kernel
theorem dX6_readExp_102 : decode cX6_readExp 102 = .ok (.getfield 128, 3) := by decide +kernel
theorem dX6_readExp_105 : decode cX6_readExp 105 = .ok (.iload_n 3, 1) := by decide +kernel
theorem dX6_readExp_106 : decode cX6_readExp 106 = .ok (.if_icmp .le 19, 3) := by decide +kernel
theorem dX6_readExp_109 : decode cX6_readExp 109 = .ok (.aload_n 0, 1) := by decide +kernel
theorem dX6_readExp_110 : decode cX6_readExp 110 = .ok (.invokevirtual 470, 3) := by decide +kernel
theorem dX6_readExp_113 : decode cX6_readExp 113 = .ok (.iconst 3, 1) := by decide +kernel
theorem dX6_readExp_114 : decode cX6_readExp 114 = .ok (.if_icmp .ne 11, 3) := by decide +kernel
theorem dX6_readExp_117 : decode cX6_readExp 117 = .ok (.aload_n 0, 1) := by decide +kernel
theorem dX6_readExp_118 : decode cX6_readExp 118 = .ok (.getfield 28, 3) := by decide +kernel
theorem dX6_readExp_12 : decode cX6_readExp 12 = .ok (.getfield 85, 3) := by decide +kernel
theorem dX6_readExp_121 : decode cX6_readExp 121 = .ok (.iconst 2, 1) := by decide +kernel
theorem dX6_readExp_122 : decode cX6_readExp 122 = .ok (.invokevirtual 100, 3) := by decide +kernel
theorem dX6_readExp_125 : decode cX6_readExp 125 = .ok (.aload_n 0, 1) := by decide +kernel
theorem dX6_readExp_126 : decode cX6_readExp 126 = .ok (.invokevirtual 298, 3) := by decide +kernel
theorem dX6_readExp_129 : decode cX6_readExp 129 = .ok (.aload_n 0, 1) := by decide +kernel
theorem dX6_readExp_130 : decode cX6_readExp 130 = .ok (.getfield 28, 3) := by decide +kernel
theorem dX6_readExp_133 : decode cX6_readExp 133 = .ok (.getfield 82, 3) := by decide +kernel
theorem dX6_readExp_136 : decode cX6_readExp 136 = .ok (.ifCond .eq 6, 3) := by decide +kernel
theorem dX6_readExp_139 : decode cX6_readExp 139 = .ok (.goto 36, 3) := by decide +kernel
theorem dX6_readExp_142 : decode cX6_readExp 142 = .ok (.aload_n 0, 1) := by decide +kernel
theorem dX6_readExp_143 : decode cX6_readExp 143 = .ok (.aload_n 0, 1) := by decide +kernel
theorem dX6_readExp_144 : decode cX6_readExp 144 = .ok (.getfield 28, 3) := by decide +kernel
theorem dX6_readExp_147 : decode cX6_readExp 147 = .ok (.getfield 85, 3) := by decide +kernel
theorem dX6_readExp_15 : decode cX6_readExp 15 = .ok (.invokestatic 456, 3) := by decide +kernel
theorem dX6_readExp_150 : decode cX6_readExp 150 = .ok (.invokevirtual 473, 3) := by decide +kernel
theorem dX6_readExp_153 : decode cX6_readExp 153 = .ok (.aload_n 0, 1) := by decide +kernel
theorem dX6_readExp_154 : decode cX6_readExp 154 = .ok (.getfield 28, 3) := by decide +kernel
theorem dX6_readExp_157 : decode cX6_readExp 157 = .ok (.invokevirtual 170, 3) := by decide +kernel
theorem dX6_readExp_160 : decode cX6_readExp 160 = .ok (.aload_n 0, 1) := by decide +kernel
theorem dX6_readExp_161 : decode cX6_readExp 161 = .ok (.iconst 0, 1) := by decide +kernel
theorem dX6_readExp_162 : decode cX6_readExp 162 = .ok (.iload_n 1, 1) := by decide +kernel
theorem dX6_readExp_163 : decode cX6_readExp 163 = .ok (.invokestatic 459, 3) := by decide +kernel
theorem dX6_readExp_166 : decode cX6_readExp 166 = .ok (.invokevirtual 461, 3) := by decide +kernel
theorem dX6_readExp_169 : decode cX6_readExp 169 = .ok (.iinc 4 1, 3) := by decide +kernel
theorem dX6_readExp_172 : decode cX6_readExp 172 = .ok (.goto (-112), 3) := by decide +kernel
theorem dX6_readExp_175 : decode cX6_readExp 175 = .ok (.aload_n 0, 1) := by decide +kernel
theorem dX6_readExp_176 : decode cX6_readExp 176 = .ok (.iload_n 3, 1) := by decide +kernel
theorem dX6_readExp_177 : decode cX6_readExp 177 = .ok (.iconst 0, 1) := by decide +kernel
theorem dX6_readExp_178 : decode cX6_readExp 178 = .ok (.invokevirtual 467, 3) := by decide +kernel
theorem dX6_readExp_18 : decode cX6_readExp 18 = .ok (.ifCond .ne 11, 3) := by decide +kernel
theorem dX6_readExp_181 : decode cX6_readExp 181 = .ok (.iload_n 1, 1) := by decide +kernel
theorem dX6_readExp_182 : decode cX6_readExp 182 = .ok (.iconst (-1), 1) := by decide +kernel
theorem dX6_readExp_183 : decode cX6_readExp 183 = .ok (.if_icmp .ne 13, 3) := by decide +kernel
theorem dX6_readExp_186 : decode cX6_readExp 186 = .ok (.aload_n 0, 1) := by decide +kernel
theorem dX6_readExp_187 : decode cX6_readExp 187 = .ok (.getfield 43, 3) := by decide +kernel
theorem dX6_readExp_190 : decode cX6_readExp 190 = .ok (.iconst 0, 1) := by decide +kernel
theorem dX6_readExp_191 : decode cX6_readExp 191 = .ok (.iconst 0, 1) := by decide +kernel
theorem dX6_readExp_192 : decode cX6_readExp 192 = .ok (.invokevirtual 202, 3) := by decide +kernel
theorem dX6_readExp_195 : decode cX6_readExp 195 = .ok (.pop, 1) := by decide +kernel
theorem dX6_readExp_196 : decode cX6_readExp 196 = .ok (.iload_n 2, 1) := by decide +kernel
theorem dX6_readExp_197 : decode cX6_readExp 197 = .ok (.ireturn, 1) := by decide +kernel
theorem dX6_readExp_21 : decode cX6_readExp 21 = .ok (.aload_n 0, 1) := by decide +kernel
theorem dX6_readExp_22 : decode cX6_readExp 22 = .ok (.getfield 28, 3) := by decide +kernel
theorem dX6_readExp_25 : decode cX6_readExp 25 = .ok (.iconst 2, 1) := by decide +kernel
theorem dX6_readExp_26 : decode cX6_readExp 26 = .ok (.invokevirtual 100, 3) := by decide +kernel
theorem dX6_readExp_29 : decode cX6_readExp 29 = .ok (.iload_n 1, 1) := by decide +kernel
theorem dX6_readExp_30 : decode cX6_readExp 30 = .ok (.bipush 16, 2) := by decide +kernel
theorem dX6_readExp_32 : decode cX6_readExp 32 = .ok (.if_icmp .le 11, 3) := by decide +kernel
theorem dX6_readExp_35 : decode cX6_readExp 35 = .ok (.aload_n 0, 1) := by decide +kernel
theorem dX6_readExp_36 : decode cX6_readExp 36 = .ok (.getfield 28, 3) := by decide +kernel
theorem dX6_readExp_39 : decode cX6_readExp 39 = .ok (.iconst 5, 1) := by decide +kernel
theorem dX6_readExp_4 : decode cX6_readExp 4 = .ok (.getfield 64, 3) := by decide +kernel
theorem dX6_readExp_40 : decode cX6_readExp 40 = .ok (.invokevirtual 100, 3) := by decide +kernel
theorem dX6_readExp_43 : decode cX6_readExp 43 = .ok (.aload_n 0, 1) := by decide +kernel
theorem dX6_readExp_44 : decode cX6_readExp 44 = .ok (.getfield 128, 3) := by decide +kernel
theorem dX6_readExp_47 : decode cX6_readExp 47 = .ok (.istore_n 3, 1) := by decide +kernel
theorem dX6_readExp_48 : decode cX6_readExp 48 = .ok (.aload_n 0, 1) := by decide +kernel
theorem dX6_readExp_49 : decode cX6_readExp 49 = .ok (.iconst 0, 1) := by decide +kernel
theorem dX6_readExp_50 : decode cX6_readExp 50 = .ok (.iload_n 1, 1) := by decide +kernel
theorem dX6_readExp_51 : decode cX6_readExp 51 = .ok (.invokestatic 459, 3) := by decide +kernel
theorem dX6_readExp_54 : decode cX6_readExp 54 = .ok (.invokevirtual 461, 3) := by decide +kernel
theorem dX6_readExp_57 : decode cX6_readExp 57 = .ok (.iconst 0, 1) := by decide +kernel
theorem dX6_readExp_58 : decode cX6_readExp 58 = .ok (.istore 4, 2) := by decide +kernel
theorem dX6_readExp_60 : decode cX6_readExp 60 = .ok (.iload 4, 2) := by decide +kernel
theorem dX6_readExp_62 : decode cX6_readExp 62 = .ok (.sipush 3000, 3) := by decide +kernel
theorem dX6_readExp_65 : decode cX6_readExp 65 = .ok (.if_icmp .ge 110, 3) := by decide +kernel
theorem dX6_readExp_68 : decode cX6_readExp 68 = .ok (.aload_n 0, 1) := by decide +kernel
theorem dX6_readExp_69 : decode cX6_readExp 69 = .ok (.getfield 28, 3) := by decide +kernel
theorem dX6_readExp_7 : decode cX6_readExp 7 = .ok (.istore_n 2, 1) := by decide +kernel
theorem dX6_readExp_72 : decode cX6_readExp 72 = .ok (.getfield 85, 3) := by decide +kernel
theorem dX6_readExp_75 : decode cX6_readExp 75 = .ok (.invokestatic 464, 3) := by decide +kernel
theorem dX6_readExp_78 : decode cX6_readExp 78 = .ok (.istore 5, 2) := by decide +kernel
theorem dX6_readExp_8 : decode cX6_readExp 8 = .ok (.aload_n 0, 1) := by decide +kernel
theorem dX6_readExp_80 : decode cX6_readExp 80 = .ok (.iload 5, 2) := by decide +kernel
theorem dX6_readExp_82 : decode cX6_readExp 82 = .ok (.ifCond .ne 6, 3) := by decide +kernel
theorem dX6_readExp_85 : decode cX6_readExp 85 = .ok (.goto 90, 3) := by decide +kernel
theorem dX6_readExp_88 : decode cX6_readExp 88 = .ok (.aload_n 0, 1) := by decide +kernel
theorem dX6_readExp_89 : decode cX6_readExp 89 = .ok (.iload_n 3, 1) := by decide +kernel
theorem dX6_readExp_9 : decode cX6_readExp 9 = .ok (.getfield 28, 3) := by decide +kernel
theorem dX6_readExp_90 : decode cX6_readExp 90 = .ok (.iload 5, 2) := by decide +kernel
theorem dX6_readExp_92 : decode cX6_readExp 92 = .ok (.invokevirtual 467, 3) := by decide +kernel
theorem dX6_readExp_95 : decode cX6_readExp 95 = .ok (.iload 5, 2) := by decide +kernel
theorem dX6_readExp_97 : decode cX6_readExp 97 = .ok (.iconst 3, 1) := by decide +kernel
theorem dX6_readExp_98 : decode cX6_readExp 98 = .ok (.if_icmp .ne 27, 3) := by decide +kernel
theorem dX6_readExps_0 : decode cX6_readExps 0 = .ok (.iconst 0, 1) := by decide +kernel
theorem dX6_readExps_1 : decode cX6_readExps 1 = .ok (.istore_n 2, 1) := by decide +kernel
theorem dX6_readExps_12 : decode cX6_readExps 12 = .ok (.getfield 82, 3) := by decide +kernel
theorem dX6_readExps_15 : decode cX6_readExps 15 = .ok (.ifCond .ne 58, 3) := by decide +kernel
theorem dX6_readExps_18 : decode cX6_readExps 18 = .ok (.iload_n 2, 1) := by decide +kernel
theorem dX6_readExps_19 : decode cX6_readExps 19 = .ok (.bipush 12, 2) := by decide +kernel
theorem dX6_readExps_2 : decode cX6_readExps 2 = .ok (.iload_n 2, 1) := by decide +kernel
theorem dX6_readExps_21 : decode cX6_readExps 21 = .ok (.if_icmp .ne 24, 3) := by decide +kernel
theorem dX6_readExps_24 : decode cX6_readExps 24 = .ok (.aload_n 0, 1) := by decide +kernel
theorem dX6_readExps_25 : decode cX6_readExps 25 = .ok (.getfield 28, 3) := by decide +kernel
theorem dX6_readExps_28 : decode cX6_readExps 28 = .ok (.getfield 85, 3) := by decide +kernel
theorem dX6_readExps_3 : decode cX6_readExps 3 = .ok (.bipush 12, 2) := by decide +kernel
theorem dX6_readExps_31 : decode cX6_readExps 31 = .ok (.invokestatic 456, 3) := by decide +kernel
theorem dX6_readExps_34 : decode cX6_readExps 34 = .ok (.ifCond .eq 11, 3) := by decide +kernel
theorem dX6_readExps_37 : decode cX6_readExps 37 = .ok (.aload_n 0, 1) := by decide +kernel
theorem dX6_readExps_38 : decode cX6_readExps 38 = .ok (.getfield 28, 3) := by decide +kernel
theorem dX6_readExps_41 : decode cX6_readExps 41 = .ok (.iconst 5, 1) := by decide +kernel
theorem dX6_readExps_42 : decode cX6_readExps 42 = .ok (.invokevirtual 100, 3) := by decide +kernel
theorem dX6_readExps_45 : decode cX6_readExps 45 = .ok (.aload_n 0, 1) := by decide +kernel
theorem dX6_readExps_46 : decode cX6_readExps 46 = .ok (.iload_n 1, 1) := by decide +kernel
theorem dX6_readExps_47 : decode cX6_readExps 47 = .ok (.invokevirtual 120, 3) := by decide +kernel
theorem dX6_readExps_5 : decode cX6_readExps 5 = .ok (.if_icmp .gt 68, 3) := by decide +kernel
theorem dX6_readExps_50 : decode cX6_readExps 50 = .ok (.pop, 1) := by decide +kernel
theorem dX6_readExps_51 : decode cX6_readExps 51 = .ok (.aload_n 0, 1) := by decide +kernel
theorem dX6_readExps_52 : decode cX6_readExps 52 = .ok (.getfield 28, 3) := by decide +kernel
theorem dX6_readExps_55 : decode cX6_readExps 55 = .ok (.bipush 44, 2) := by decide +kernel
theorem dX6_readExps_57 : decode cX6_readExps 57 = .ok (.invokevirtual 246, 3) := by decide +kernel
theorem dX6_readExps_60 : decode cX6_readExps 60 = .ok (.ifCond .ne 7, 3) := by decide +kernel
theorem dX6_readExps_63 : decode cX6_readExps 63 = .ok (.iload_n 2, 1) := by decide +kernel
theorem dX6_readExps_64 : decode cX6_readExps 64 = .ok (.iconst 1, 1) := by decide +kernel
theorem dX6_readExps_65 : decode cX6_readExps 65 = .ok (.iadd, 1) := by decide +kernel
theorem dX6_readExps_66 : decode cX6_readExps 66 = .ok (.ireturn, 1) := by decide +kernel
theorem dX6_readExps_67 : decode cX6_readExps 67 = .ok (.iinc 2 1, 3) := by decide +kernel
theorem dX6_readExps_70 : decode cX6_readExps 70 = .ok (.goto (-68), 3) := by decide +kernel
theorem dX6_readExps_73 : decode cX6_readExps 73 = .ok (.iload_n 2, 1) := by decide +kernel
theorem dX6_readExps_74 : decode cX6_readExps 74 = .ok (.ireturn, 1) := by decide +kernel
theorem dX6_readExps_8 : decode cX6_readExps 8 = .ok (.aload_n 0, 1) := by decide +kernel
theorem dX6_readExps_9 : decode cX6_readExps 9 = .ok (.getfield 28, 3) := by decide +kernel
theorem dX6_readInner_0 : decode cX6_readInner 0 = .ok (.aload_n 0, 1) := by decide +kernel
theorem dX6_readInner_1 : decode cX6_readInner 1 = .ok (.getfield 38, 3) := by decide +kernel
theorem dX6_readInner_10 : decode cX6_readInner 10 = .ok (.iconst (-1), 1) := by decide +kernel
theorem dX6_readInner_101 : decode cX6_readInner 101 = .ok (.iload 5, 2) := by decide +kernel
theorem dX6_readInner_103 : decode cX6_readInner 103 = .ok (.iload 7, 2) := by decide +kernel
theorem dX6_readInner_105 : decode cX6_readInner 105 = .ok (.iastore, 1) := by decide +kernel
theorem dX6_readInner_106 : decode cX6_readInner 106 = .ok (.iload 7, 2) := by decide +kernel
theorem dX6_readInner_108 : decode cX6_readInner 108 = .ok (.istore 5, 2) := by decide +kernel
theorem dX6_readInner_11 : decode cX6_readInner 11 = .ok (.istore 5, 2) := by decide +kernel
theorem dX6_readInner_110 : decode cX6_readInner 110 = .ok (.aload_n 0, 1) := by decide +kernel
theorem dX6_readInner_111 : decode cX6_readInner 111 = .ok (.getfield 28, 3) := by decide +kernel
theorem dX6_readInner_114 : decode cX6_readInner 114 = .ok (.bipush 44, 2) := by decide +kernel
theorem dX6_readInner_116 : decode cX6_readInner 116 = .ok (.invokevirtual 246, 3) := by decide +kernel
theorem dX6_readInner_119 : decode cX6_readInner 119 = .ok (.ifCond .ne 6, 3) := by decide +kernel
theorem dX6_readInner_122 : decode cX6_readInner 122 = .ok (.goto 9, 3) := by decide +kernel
theorem dX6_readInner_125 : decode cX6_readInner 125 = .ok (.iinc 6 1, 3) := by decide +kernel
theorem dX6_readInner_128 : decode cX6_readInner 128 = .ok (.goto (-112), 3) := by decide +kernel
theorem dX6_readInner_13 : decode cX6_readInner 13 = .ok (.iconst 0, 1) := by decide +kernel
theorem dX6_readInner_131 : decode cX6_readInner 131 = .ok (.aload_n 0, 1) := by decide +kernel
theorem dX6_readInner_132 : decode cX6_readInner 132 = .ok (.getfield 28, 3) := by decide +kernel
theorem dX6_readInner_135 : decode cX6_readInner 135 = .ok (.bipush 41, 2) := by decide +kernel
theorem dX6_readInner_137 : decode cX6_readInner 137 = .ok (.invokevirtual 184, 3) := by decide +kernel
theorem dX6_readInner_14 : decode cX6_readInner 14 = .ok (.istore 6, 2) := by decide +kernel
theorem dX6_readInner_140 : decode cX6_readInner 140 = .ok (.return_, 1) := by decide +kernel
theorem dX6_readInner_16 : decode cX6_readInner 16 = .ok (.iload 6, 2) := by decide +kernel
theorem dX6_readInner_18 : decode cX6_readInner 18 = .ok (.bipush 12, 2) := by decide +kernel
theorem dX6_readInner_20 : decode cX6_readInner 20 = .ok (.if_icmp .gt 111, 3) := by decide +kernel
theorem dX6_readInner_23 : decode cX6_readInner 23 = .ok (.iload 6, 2) := by decide +kernel
theorem dX6_readInner_25 : decode cX6_readInner 25 = .ok (.bipush 12, 2) := by decide +kernel
theorem dX6_readInner_27 : decode cX6_readInner 27 = .ok (.if_icmp .ne 24, 3) := by decide +kernel
theorem dX6_readInner_30 : decode cX6_readInner 30 = .ok (.aload_n 0, 1) := by decide +kernel
theorem dX6_readInner_31 : decode cX6_readInner 31 = .ok (.getfield 28, 3) := by decide +kernel
theorem dX6_readInner_34 : decode cX6_readInner 34 = .ok (.getfield 85, 3) := by decide +kernel
theorem dX6_readInner_37 : decode cX6_readInner 37 = .ok (.invokestatic 382, 3) := by decide +kernel
theorem dX6_readInner_4 : decode cX6_readInner 4 = .ok (.getfield 395, 3) := by decide +kernel
theorem dX6_readInner_40 : decode cX6_readInner 40 = .ok (.ifCond .eq 11, 3) := by decide +kernel
theorem dX6_readInner_43 : decode cX6_readInner 43 = .ok (.aload_n 0, 1) := by decide +kernel
theorem dX6_readInner_44 : decode cX6_readInner 44 = .ok (.getfield 28, 3) := by decide +kernel
theorem dX6_readInner_47 : decode cX6_readInner 47 = .ok (.iconst 5, 1) := by decide +kernel
theorem dX6_readInner_48 : decode cX6_readInner 48 = .ok (.invokevirtual 100, 3) := by decide +kernel
theorem dX6_readInner_51 : decode cX6_readInner 51 = .ok (.aload_n 0, 1) := by decide +kernel
theorem dX6_readInner_52 : decode cX6_readInner 52 = .ok (.iload_n 3, 1) := by decide +kernel
theorem dX6_readInner_53 : decode cX6_readInner 53 = .ok (.iconst 1, 1) := by decide +kernel
theorem dX6_readInner_54 : decode cX6_readInner 54 = .ok (.iadd, 1) := by decide +kernel
theorem dX6_readInner_55 : decode cX6_readInner 55 = .ok (.iload 4, 2) := by decide +kernel
theorem dX6_readInner_57 : decode cX6_readInner 57 = .ok (.iconst 1, 1) := by decide +kernel
theorem dX6_readInner_58 : decode cX6_readInner 58 = .ok (.iadd, 1) := by decide +kernel
theorem dX6_readInner_59 : decode cX6_readInner 59 = .ok (.invokevirtual 198, 3) := by decide +kernel
theorem dX6_readInner_62 : decode cX6_readInner 62 = .ok (.istore 7, 2) := by decide +kernel
theorem dX6_readInner_64 : decode cX6_readInner 64 = .ok (.aload_n 0, 1) := by decide +kernel
theorem dX6_readInner_65 : decode cX6_readInner 65 = .ok (.getfield 28, 3) := by decide +kernel
theorem dX6_readInner_68 : decode cX6_readInner 68 = .ok (.getfield 82, 3) := by decide +kernel
theorem dX6_readInner_7 : decode cX6_readInner 7 = .ok (.iload_n 1, 1) := by decide +kernel
theorem dX6_readInner_71 : decode cX6_readInner 71 = .ok (.ifCond .eq 4, 3) := by decide +kernel
theorem dX6_readInner_74 : decode cX6_readInner 74 = .ok (.return_, 1) := by decide +kernel
theorem dX6_readInner_75 : decode cX6_readInner 75 = .ok (.iload 6, 2) := by decide +kernel
theorem dX6_readInner_77 : decode cX6_readInner 77 = .ok (.ifCond .ne 17, 3) := by decide +kernel
theorem dX6_readInner_8 : decode cX6_readInner 8 = .ok (.iload_n 2, 1) := by decide +kernel
theorem dX6_readInner_80 : decode cX6_readInner 80 = .ok (.aload_n 0, 1) := by decide +kernel
theorem dX6_readInner_81 : decode cX6_readInner 81 = .ok (.getfield 38, 3) := by decide +kernel
theorem dX6_readInner_84 : decode cX6_readInner 84 = .ok (.getfield 445, 3) := by decide +kernel
theorem dX6_readInner_87 : decode cX6_readInner 87 = .ok (.iload_n 1, 1) := by decide +kernel
theorem dX6_readInner_88 : decode cX6_readInner 88 = .ok (.iload 7, 2) := by decide +kernel
theorem dX6_readInner_9 : decode cX6_readInner 9 = .ok (.iastore, 1) := by decide +kernel
theorem dX6_readInner_90 : decode cX6_readInner 90 = .ok (.iastore, 1) := by decide +kernel
theorem dX6_readInner_91 : decode cX6_readInner 91 = .ok (.goto 15, 3) := by decide +kernel
theorem dX6_readInner_94 : decode cX6_readInner 94 = .ok (.aload_n 0, 1) := by decide +kernel
theorem dX6_readInner_95 : decode cX6_readInner 95 = .ok (.getfield 38, 3) := by decide +kernel
theorem dX6_readInner_98 : decode cX6_readInner 98 = .ok (.getfield 449, 3) := by decide +kernel
theorem dX6_readMet_0 : decode cX6_readMet 0 = .ok (.aload_n 0, 1) := by decide +kernel
theorem dX6_readMet_1 : decode cX6_readMet 1 = .ok (.getfield 28, 3) := by decide +kernel
theorem dX6_readMet_10 : decode cX6_readMet 10 = .ok (.iload_n 1, 1) := by decide +kernel
theorem dX6_readMet_11 : decode cX6_readMet 11 = .ok (.iconst 1, 1) := by decide +kernel
theorem dX6_readMet_12 : decode cX6_readMet 12 = .ok (.iadd, 1) := by decide +kernel
theorem dX6_readMet_13 : decode cX6_readMet 13 = .ok (.invokevirtual 120, 3) := by decide +kernel
theorem dX6_readMet_16 : decode cX6_readMet 16 = .ok (.pop, 1) := by decide +kernel
theorem dX6_readMet_17 : decode cX6_readMet 17 = .ok (.aload_n 0, 1) := by decide +kernel
theorem dX6_readMet_18 : decode cX6_readMet 18 = .ok (.getfield 28, 3) := by decide +kernel
theorem dX6_readMet_21 : decode cX6_readMet 21 = .ok (.bipush 44, 2) := by decide +kernel
theorem dX6_readMet_23 : decode cX6_readMet 23 = .ok (.invokevirtual 184, 3) := by decide +kernel
theorem dX6_readMet_26 : decode cX6_readMet 26 = .ok (.aload_n 0, 1) := by decide +kernel
theorem dX6_readMet_27 : decode cX6_readMet 27 = .ok (.getfield 43, 3) := by decide +kernel
theorem dX6_readMet_30 : decode cX6_readMet 30 = .ok (.bipush 36, 2) := by decide +kernel
theorem dX6_readMet_32 : decode cX6_readMet 32 = .ok (.aload_n 0, 1) := by decide +kernel
theorem dX6_readMet_33 : decode cX6_readMet 33 = .ok (.iload_n 1, 1) := by decide +kernel
theorem dX6_readMet_34 : decode cX6_readMet 34 = .ok (.iconst 1, 1) := by decide +kernel
theorem dX6_readMet_35 : decode cX6_readMet 35 = .ok (.iadd, 1) := by decide +kernel
theorem dX6_readMet_36 : decode cX6_readMet 36 = .ok (.sipush (-1000), 3) := by decide +kernel
theorem dX6_readMet_39 : decode cX6_readMet 39 = .ok (.invokevirtual 198, 3) := by decide +kernel
theorem dX6_readMet_4 : decode cX6_readMet 4 = .ok (.bipush 40, 2) := by decide +kernel
theorem dX6_readMet_42 : decode cX6_readMet 42 = .ok (.invokevirtual 202, 3) := by decide +kernel
theorem dX6_readMet_45 : decode cX6_readMet 45 = .ok (.pop, 1) := by decide +kernel
theorem dX6_readMet_46 : decode cX6_readMet 46 = .ok (.aload_n 0, 1) := by decide +kernel
theorem dX6_readMet_47 : decode cX6_readMet 47 = .ok (.getfield 28, 3) := by decide +kernel
theorem dX6_readMet_50 : decode cX6_readMet 50 = .ok (.bipush 41, 2) := by decide +kernel
theorem dX6_readMet_52 : decode cX6_readMet 52 = .ok (.invokevirtual 184, 3) := by decide +kernel
theorem dX6_readMet_55 : decode cX6_readMet 55 = .ok (.return_, 1) := by decide +kernel
theorem dX6_readMet_6 : decode cX6_readMet 6 = .ok (.invokevirtual 184, 3) := by decide +kernel
theorem dX6_readMet_9 : decode cX6_readMet 9 = .ok (.aload_n 0, 1) := by decide +kernel
theorem dX6_readOne_0 : decode cX6_readOne 0 = .ok (.aload_n 0, 1) := by decide +kernel
theorem dX6_readOne_1 : decode cX6_readOne 1 = .ok (.getfield 128, 3) := by decide +kernel
theorem dX6_readOne_100 : decode cX6_readOne 100 = .ok (.aload_n 0, 1) := by decide +kernel
theorem dX6_readOne_101 : decode cX6_readOne 101 = .ok (.bipush 11, 2) := by decide +kernel
theorem dX6_readOne_103 : decode cX6_readOne 103 = .ok (.iconst 0, 1) := by decide +kernel
theorem dX6_readOne_104 : decode cX6_readOne 104 = .ok (.invokevirtual 476, 3) := by decide +kernel
theorem dX6_readOne_107 : decode cX6_readOne 107 = .ok (.goto 31, 3) := by decide +kernel
theorem dX6_readOne_11 : decode cX6_readOne 11 = .ok (.if_icmp .gt 133, 3) := by decide +kernel
theorem dX6_readOne_110 : decode cX6_readOne 110 = .ok (.iload 4, 2) := by decide +kernel
theorem dX6_readOne_112 : decode cX6_readOne 112 = .ok (.sipush 230, 3) := by decide +kernel
theorem dX6_readOne_115 : decode cX6_readOne 115 = .ok (.if_icmp .ne 13, 3) := by decide +kernel
theorem dX6_readOne_118 : decode cX6_readOne 118 = .ok (.aload_n 0, 1) := by decide +kernel
theorem dX6_readOne_119 : decode cX6_readOne 119 = .ok (.bipush 12, 2) := by decide +kernel
theorem dX6_readOne_121 : decode cX6_readOne 121 = .ok (.iconst 0, 1) := by decide +kernel
theorem dX6_readOne_122 : decode cX6_readOne 122 = .ok (.invokevirtual 476, 3) := by decide +kernel
theorem dX6_readOne_125 : decode cX6_readOne 125 = .ok (.goto 13, 3) := by decide +kernel
theorem dX6_readOne_128 : decode cX6_readOne 128 = .ok (.aload_n 0, 1) := by decide +kernel
theorem dX6_readOne_129 : decode cX6_readOne 129 = .ok (.bipush 13, 2) := by decide +kernel
theorem dX6_readOne_131 : decode cX6_readOne 131 = .ok (.aload_n 0, 1) := by decide +kernel
theorem dX6_readOne_132 : decode cX6_readOne 132 = .ok (.invokevirtual 485, 3) := by decide +kernel
theorem dX6_readOne_135 : decode cX6_readOne 135 = .ok (.invokevirtual 476, 3) := by decide +kernel
theorem dX6_readOne_138 : decode cX6_readOne 138 = .ok (.iinc 3 1, 3) := by decide +kernel
theorem dX6_readOne_14 : decode cX6_readOne 14 = .ok (.aload_n 0, 1) := by decide +kernel
theorem dX6_readOne_141 : decode cX6_readOne 141 = .ok (.goto (-134), 3) := by decide +kernel
theorem dX6_readOne_144 : decode cX6_readOne 144 = .ok (.aload_n 0, 1) := by decide +kernel
theorem dX6_readOne_145 : decode cX6_readOne 145 = .ok (.getfield 28, 3) := by decide +kernel
theorem dX6_readOne_148 : decode cX6_readOne 148 = .ok (.getfield 85, 3) := by decide +kernel
theorem dX6_readOne_15 : decode cX6_readOne 15 = .ok (.getfield 28, 3) := by decide +kernel
theorem dX6_readOne_151 : decode cX6_readOne 151 = .ok (.invokestatic 453, 3) := by decide +kernel
theorem dX6_readOne_154 : decode cX6_readOne 154 = .ok (.ifCond .ne 11, 3) := by decide +kernel
theorem dX6_readOne_157 : decode cX6_readOne 157 = .ok (.aload_n 0, 1) := by decide +kernel
theorem dX6_readOne_158 : decode cX6_readOne 158 = .ok (.getfield 28, 3) := by decide +kernel
theorem dX6_readOne_161 : decode cX6_readOne 161 = .ok (.iconst 2, 1) := by decide +kernel
theorem dX6_readOne_162 : decode cX6_readOne 162 = .ok (.invokevirtual 100, 3) := by decide +kernel
theorem dX6_readOne_165 : decode cX6_readOne 165 = .ok (.aload_n 0, 1) := by decide +kernel
theorem dX6_readOne_166 : decode cX6_readOne 166 = .ok (.invokevirtual 298, 3) := by decide +kernel
theorem dX6_readOne_169 : decode cX6_readOne 169 = .ok (.aload_n 0, 1) := by decide +kernel
theorem dX6_readOne_170 : decode cX6_readOne 170 = .ok (.getfield 28, 3) := by decide +kernel
theorem dX6_readOne_173 : decode cX6_readOne 173 = .ok (.getfield 82, 3) := by decide +kernel
theorem dX6_readOne_176 : decode cX6_readOne 176 = .ok (.ifCond .ne 8, 3) := by decide +kernel
theorem dX6_readOne_179 : decode cX6_readOne 179 = .ok (.aload_n 0, 1) := by decide +kernel
theorem dX6_readOne_18 : decode cX6_readOne 18 = .ok (.getfield 82, 3) := by decide +kernel
theorem dX6_readOne_180 : decode cX6_readOne 180 = .ok (.iload_n 1, 1) := by decide +kernel
theorem dX6_readOne_181 : decode cX6_readOne 181 = .ok (.invokevirtual 488, 3) := by decide +kernel
theorem dX6_readOne_184 : decode cX6_readOne 184 = .ok (.iconst 0, 1) := by decide +kernel
theorem dX6_readOne_185 : decode cX6_readOne 185 = .ok (.istore_n 3, 1) := by decide +kernel
theorem dX6_readOne_186 : decode cX6_readOne 186 = .ok (.iload_n 3, 1) := by decide +kernel
theorem dX6_readOne_187 : decode cX6_readOne 187 = .ok (.sipush 3000, 3) := by decide +kernel
theorem dX6_readOne_190 : decode cX6_readOne 190 = .ok (.if_icmp .gt 123, 3) := by decide +kernel
theorem dX6_readOne_193 : decode cX6_readOne 193 = .ok (.aload_n 0, 1) := by decide +kernel
theorem dX6_readOne_194 : decode cX6_readOne 194 = .ok (.getfield 28, 3) := by decide +kernel
theorem dX6_readOne_197 : decode cX6_readOne 197 = .ok (.getfield 82, 3) := by decide +kernel
theorem dX6_readOne_200 : decode cX6_readOne 200 = .ok (.ifCond .ne 113, 3) := by decide +kernel
theorem dX6_readOne_203 : decode cX6_readOne 203 = .ok (.aload_n 0, 1) := by decide +kernel
theorem dX6_readOne_204 : decode cX6_readOne 204 = .ok (.getfield 28, 3) := by decide +kernel
theorem dX6_readOne_207 : decode cX6_readOne 207 = .ok (.getfield 85, 3) := by decide +kernel
theorem dX6_readOne_21 : decode cX6_readOne 21 = .ok (.ifCond .ne 123, 3) := by decide +kernel
theorem dX6_readOne_210 : decode cX6_readOne 210 = .ok (.bipush 46, 2) := by decide +kernel
theorem dX6_readOne_212 : decode cX6_readOne 212 = .ok (.if_icmp .eq 18, 3) := by decide +kernel
theorem dX6_readOne_215 : decode cX6_readOne 215 = .ok (.aload_n 0, 1) := by decide +kernel
theorem dX6_readOne_216 : decode cX6_readOne 216 = .ok (.getfield 28, 3) := by decide +kernel
theorem dX6_readOne_219 : decode cX6_readOne 219 = .ok (.getfield 85, 3) := by decide +kernel
theorem dX6_readOne_222 : decode cX6_readOne 222 = .ok (.bipush 91, 2) := by decide +kernel
theorem dX6_readOne_224 : decode cX6_readOne 224 = .ok (.if_icmp .eq 6, 3) := by decide +kernel
theorem dX6_readOne_227 : decode cX6_readOne 227 = .ok (.goto 86, 3) := by decide +kernel
theorem dX6_readOne_230 : decode cX6_readOne 230 = .ok (.aload_n 0, 1) := by decide +kernel
theorem dX6_readOne_231 : decode cX6_readOne 231 = .ok (.invokevirtual 298, 3) := by decide +kernel
theorem dX6_readOne_234 : decode cX6_readOne 234 = .ok (.aload_n 0, 1) := by decide +kernel
theorem dX6_readOne_235 : decode cX6_readOne 235 = .ok (.getfield 28, 3) := by decide +kernel
theorem dX6_readOne_238 : decode cX6_readOne 238 = .ok (.bipush 46, 2) := by decide +kernel
theorem dX6_readOne_24 : decode cX6_readOne 24 = .ok (.aload_n 0, 1) := by decide +kernel
theorem dX6_readOne_240 : decode cX6_readOne 240 = .ok (.invokevirtual 246, 3) := by decide +kernel
theorem dX6_readOne_243 : decode cX6_readOne 243 = .ok (.ifCond .eq 24, 3) := by decide +kernel
theorem dX6_readOne_246 : decode cX6_readOne 246 = .ok (.aload_n 0, 1) := by decide +kernel
theorem dX6_readOne_247 : decode cX6_readOne 247 = .ok (.invokevirtual 485, 3) := by decide +kernel
theorem dX6_readOne_25 : decode cX6_readOne 25 = .ok (.getfield 28, 3) := by decide +kernel
theorem dX6_readOne_250 : decode cX6_readOne 250 = .ok (.istore 4, 2) := by decide +kernel
theorem dX6_readOne_252 : decode cX6_readOne 252 = .ok (.aload_n 0, 1) := by decide +kernel
theorem dX6_readOne_253 : decode cX6_readOne 253 = .ok (.getfield 43, 3) := by decide +kernel
theorem dX6_readOne_256 : decode cX6_readOne 256 = .ok (.bipush 14, 2) := by decide +kernel
theorem dX6_readOne_258 : decode cX6_readOne 258 = .ok (.iload 4, 2) := by decide +kernel
theorem dX6_readOne_260 : decode cX6_readOne 260 = .ok (.invokevirtual 202, 3) := by decide +kernel
theorem dX6_readOne_263 : decode cX6_readOne 263 = .ok (.pop, 1) := by decide +kernel
theorem dX6_readOne_264 : decode cX6_readOne 264 = .ok (.goto 43, 3) := by decide +kernel
theorem dX6_readOne_267 : decode cX6_readOne 267 = .ok (.aload_n 0, 1) := by decide +kernel
theorem dX6_readOne_268 : decode cX6_readOne 268 = .ok (.getfield 28, 3) := by decide +kernel
theorem dX6_readOne_271 : decode cX6_readOne 271 = .ok (.bipush 91, 2) := by decide +kernel
theorem dX6_readOne_273 : decode cX6_readOne 273 = .ok (.invokevirtual 246, 3) := by decide +kernel
theorem dX6_readOne_276 : decode cX6_readOne 276 = .ok (.ifCond .eq 31, 3) := by decide +kernel
theorem dX6_readOne_279 : decode cX6_readOne 279 = .ok (.aload_n 0, 1) := by decide +kernel
theorem dX6_readOne_28 : decode cX6_readOne 28 = .ok (.getfield 85, 3) := by decide +kernel
theorem dX6_readOne_280 : decode cX6_readOne 280 = .ok (.iload_n 1, 1) := by decide +kernel
theorem dX6_readOne_281 : decode cX6_readOne 281 = .ok (.iconst 1, 1) := by decide +kernel
theorem dX6_readOne_282 : decode cX6_readOne 282 = .ok (.iadd, 1) := by decide +kernel
theorem dX6_readOne_283 : decode cX6_readOne 283 = .ok (.invokevirtual 120, 3) := by decide +kernel
theorem dX6_readOne_286 : decode cX6_readOne 286 = .ok (.pop, 1) := by decide +kernel
theorem dX6_readOne_287 : decode cX6_readOne 287 = .ok (.aload_n 0, 1) := by decide +kernel
theorem dX6_readOne_288 : decode cX6_readOne 288 = .ok (.getfield 28, 3) := by decide +kernel
theorem dX6_readOne_291 : decode cX6_readOne 291 = .ok (.bipush 93, 2) := by decide +kernel
theorem dX6_readOne_293 : decode cX6_readOne 293 = .ok (.invokevirtual 184, 3) := by decide +kernel
theorem dX6_readOne_296 : decode cX6_readOne 296 = .ok (.aload_n 0, 1) := by decide +kernel
theorem dX6_readOne_297 : decode cX6_readOne 297 = .ok (.getfield 43, 3) := by decide +kernel
theorem dX6_readOne_300 : decode cX6_readOne 300 = .ok (.bipush 15, 2) := by decide +kernel
theorem dX6_readOne_302 : decode cX6_readOne 302 = .ok (.iconst 0, 1) := by decide +kernel
theorem dX6_readOne_303 : decode cX6_readOne 303 = .ok (.invokevirtual 202, 3) := by decide +kernel
theorem dX6_readOne_306 : decode cX6_readOne 306 = .ok (.pop, 1) := by decide +kernel
theorem dX6_readOne_307 : decode cX6_readOne 307 = .ok (.iinc 3 1, 3) := by decide +kernel
theorem dX6_readOne_31 : decode cX6_readOne 31 = .ok (.istore 4, 2) := by decide +kernel
theorem dX6_readOne_310 : decode cX6_readOne 310 = .ok (.goto (-124), 3) := by decide +kernel
theorem dX6_readOne_313 : decode cX6_readOne 313 = .ok (.aload_n 0, 1) := by decide +kernel
theorem dX6_readOne_314 : decode cX6_readOne 314 = .ok (.getfield 128, 3) := by decide +kernel
theorem dX6_readOne_317 : decode cX6_readOne 317 = .ok (.iload_n 2, 1) := by decide +kernel
theorem dX6_readOne_318 : decode cX6_readOne 318 = .ok (.if_icmp .le 48, 3) := by decide +kernel
theorem dX6_readOne_321 : decode cX6_readOne 321 = .ok (.aload_n 0, 1) := by decide +kernel
theorem dX6_readOne_322 : decode cX6_readOne 322 = .ok (.dup, 1) := by decide +kernel
theorem dX6_readOne_323 : decode cX6_readOne 323 = .ok (.getfield 128, 3) := by decide +kernel
theorem dX6_readOne_326 : decode cX6_readOne 326 = .ok (.iconst 1, 1) := by decide +kernel
theorem dX6_readOne_327 : decode cX6_readOne 327 = .ok (.isub, 1) := by decide +kernel
theorem dX6_readOne_328 : decode cX6_readOne 328 = .ok (.putfield 128, 3) := by decide +kernel
theorem dX6_readOne_33 : decode cX6_readOne 33 = .ok (.iload 4, 2) := by decide +kernel
theorem dX6_readOne_331 : decode cX6_readOne 331 = .ok (.aload_n 0, 1) := by decide +kernel
theorem dX6_readOne_332 : decode cX6_readOne 332 = .ok (.getfield 43, 3) := by decide +kernel
theorem dX6_readOne_335 : decode cX6_readOne 335 = .ok (.aload_n 0, 1) := by decide +kernel
theorem dX6_readOne_336 : decode cX6_readOne 336 = .ok (.getfield 11, 3) := by decide +kernel
theorem dX6_readOne_339 : decode cX6_readOne 339 = .ok (.iconst 2, 1) := by decide +kernel
theorem dX6_readOne_340 : decode cX6_readOne 340 = .ok (.aload_n 0, 1) := by decide +kernel
theorem dX6_readOne_341 : decode cX6_readOne 341 = .ok (.getfield 128, 3) := by decide +kernel
theorem dX6_readOne_344 : decode cX6_readOne 344 = .ok (.imul, 1) := by decide +kernel
theorem dX6_readOne_345 : decode cX6_readOne 345 = .ok (.iaload, 1) := by decide +kernel
theorem dX6_readOne_346 : decode cX6_readOne 346 = .ok (.aload_n 0, 1) := by decide +kernel
theorem dX6_readOne_347 : decode cX6_readOne 347 = .ok (.getfield 11, 3) := by decide +kernel
theorem dX6_readOne_35 : decode cX6_readOne 35 = .ok (.bipush 45, 2) := by decide +kernel
theorem dX6_readOne_350 : decode cX6_readOne 350 = .ok (.iconst 2, 1) := by decide +kernel
theorem dX6_readOne_351 : decode cX6_readOne 351 = .ok (.aload_n 0, 1) := by decide +kernel
theorem dX6_readOne_352 : decode cX6_readOne 352 = .ok (.getfield 128, 3) := by decide +kernel
theorem dX6_readOne_355 : decode cX6_readOne 355 = .ok (.imul, 1) := by decide +kernel
theorem dX6_readOne_356 : decode cX6_readOne 356 = .ok (.iconst 1, 1) := by decide +kernel
theorem dX6_readOne_357 : decode cX6_readOne 357 = .ok (.iadd, 1) := by decide +kernel
theorem dX6_readOne_358 : decode cX6_readOne 358 = .ok (.iaload, 1) := by decide +kernel
theorem dX6_readOne_359 : decode cX6_readOne 359 = .ok (.invokevirtual 202, 3) := by decide +kernel
theorem dX6_readOne_362 : decode cX6_readOne 362 = .ok (.pop, 1) := by decide +kernel
theorem dX6_readOne_363 : decode cX6_readOne 363 = .ok (.goto (-50), 3) := by decide +kernel
theorem dX6_readOne_366 : decode cX6_readOne 366 = .ok (.return_, 1) := by decide +kernel
theorem dX6_readOne_37 : decode cX6_readOne 37 = .ok (.if_icmp .eq 28, 3) := by decide +kernel
theorem dX6_readOne_4 : decode cX6_readOne 4 = .ok (.istore_n 2, 1) := by decide +kernel
theorem dX6_readOne_40 : decode cX6_readOne 40 = .ok (.iload 4, 2) := by decide +kernel
theorem dX6_readOne_42 : decode cX6_readOne 42 = .ok (.bipush 33, 2) := by decide +kernel
theorem dX6_readOne_44 : decode cX6_readOne 44 = .ok (.if_icmp .eq 21, 3) := by decide +kernel
theorem dX6_readOne_47 : decode cX6_readOne 47 = .ok (.iload 4, 2) := by decide +kernel
theorem dX6_readOne_49 : decode cX6_readOne 49 = .ok (.bipush 64, 2) := by decide +kernel
theorem dX6_readOne_5 : decode cX6_readOne 5 = .ok (.iconst 0, 1) := by decide +kernel
theorem dX6_readOne_51 : decode cX6_readOne 51 = .ok (.if_icmp .eq 14, 3) := by decide +kernel
theorem dX6_readOne_54 : decode cX6_readOne 54 = .ok (.iload 4, 2) := by decide +kernel
theorem dX6_readOne_56 : decode cX6_readOne 56 = .ok (.sipush 230, 3) := by decide +kernel
theorem dX6_readOne_59 : decode cX6_readOne 59 = .ok (.if_icmp .eq 6, 3) := by decide +kernel
theorem dX6_readOne_6 : decode cX6_readOne 6 = .ok (.istore_n 3, 1) := by decide +kernel
theorem dX6_readOne_62 : decode cX6_readOne 62 = .ok (.goto 82, 3) := by decide +kernel
theorem dX6_readOne_65 : decode cX6_readOne 65 = .ok (.aload_n 0, 1) := by decide +kernel
theorem dX6_readOne_66 : decode cX6_readOne 66 = .ok (.invokevirtual 298, 3) := by decide +kernel
theorem dX6_readOne_69 : decode cX6_readOne 69 = .ok (.aload_n 0, 1) := by decide +kernel
theorem dX6_readOne_7 : decode cX6_readOne 7 = .ok (.iload_n 3, 1) := by decide +kernel
theorem dX6_readOne_70 : decode cX6_readOne 70 = .ok (.getfield 28, 3) := by decide +kernel
theorem dX6_readOne_73 : decode cX6_readOne 73 = .ok (.invokevirtual 170, 3) := by decide +kernel
theorem dX6_readOne_76 : decode cX6_readOne 76 = .ok (.iload 4, 2) := by decide +kernel
theorem dX6_readOne_78 : decode cX6_readOne 78 = .ok (.bipush 45, 2) := by decide +kernel
theorem dX6_readOne_8 : decode cX6_readOne 8 = .ok (.sipush 3000, 3) := by decide +kernel
theorem dX6_readOne_80 : decode cX6_readOne 80 = .ok (.if_icmp .ne 13, 3) := by decide +kernel
theorem dX6_readOne_83 : decode cX6_readOne 83 = .ok (.aload_n 0, 1) := by decide +kernel
theorem dX6_readOne_84 : decode cX6_readOne 84 = .ok (.bipush 10, 2) := by decide +kernel
theorem dX6_readOne_86 : decode cX6_readOne 86 = .ok (.iconst 0, 1) := by decide +kernel
theorem dX6_readOne_87 : decode cX6_readOne 87 = .ok (.invokevirtual 476, 3) := by decide +kernel
theorem dX6_readOne_90 : decode cX6_readOne 90 = .ok (.goto 48, 3) := by decide +kernel
theorem dX6_readOne_93 : decode cX6_readOne 93 = .ok (.iload 4, 2) := by decide +kernel
theorem dX6_readOne_95 : decode cX6_readOne 95 = .ok (.bipush 33, 2) := by decide +kernel
theorem dX6_readOne_97 : decode cX6_readOne 97 = .ok (.if_icmp .ne 13, 3) := by decide +kernel
theorem dX6_readPerm_0 : decode cX6_readPerm 0 = .ok (.aload_n 0, 1) := by decide +kernel
theorem dX6_readPerm_1 : decode cX6_readPerm 1 = .ok (.invokevirtual 298, 3) := by decide +kernel
theorem dX6_readPerm_11 : decode cX6_readPerm 11 = .ok (.ifCond .eq 5, 3) := by decide +kernel
theorem dX6_readPerm_14 : decode cX6_readPerm 14 = .ok (.iconst 0, 1) := by decide +kernel
theorem dX6_readPerm_15 : decode cX6_readPerm 15 = .ok (.ireturn, 1) := by decide +kernel
theorem dX6_readPerm_16 : decode cX6_readPerm 16 = .ok (.aload_n 0, 1) := by decide +kernel
theorem dX6_readPerm_17 : decode cX6_readPerm 17 = .ok (.getfield 38, 3) := by decide +kernel
theorem dX6_readPerm_20 : decode cX6_readPerm 20 = .ok (.iload_n 2, 1) := by decide +kernel
theorem dX6_readPerm_21 : decode cX6_readPerm 21 = .ok (.invokevirtual 385, 3) := by decide +kernel
theorem dX6_readPerm_24 : decode cX6_readPerm 24 = .ok (.istore_n 3, 1) := by decide +kernel
theorem dX6_readPerm_25 : decode cX6_readPerm 25 = .ok (.aload_n 0, 1) := by decide +kernel
theorem dX6_readPerm_26 : decode cX6_readPerm 26 = .ok (.getfield 28, 3) := by decide +kernel
theorem dX6_readPerm_29 : decode cX6_readPerm 29 = .ok (.invokevirtual 170, 3) := by decide +kernel
theorem dX6_readPerm_32 : decode cX6_readPerm 32 = .ok (.aload_n 0, 1) := by decide +kernel
theorem dX6_readPerm_33 : decode cX6_readPerm 33 = .ok (.iload_n 3, 1) := by decide +kernel
theorem dX6_readPerm_34 : decode cX6_readPerm 34 = .ok (.bipush 18, 2) := by decide +kernel
theorem dX6_readPerm_36 : decode cX6_readPerm 36 = .ok (.iload_n 1, 1) := by decide +kernel
theorem dX6_readPerm_37 : decode cX6_readPerm 37 = .ok (.iload_n 2, 1) := by decide +kernel
theorem dX6_readPerm_38 : decode cX6_readPerm 38 = .ok (.invokevirtual 430, 3) := by decide +kernel
theorem dX6_readPerm_4 : decode cX6_readPerm 4 = .ok (.aload_n 0, 1) := by decide +kernel
theorem dX6_readPerm_41 : decode cX6_readPerm 41 = .ok (.iload_n 3, 1) := by decide +kernel
theorem dX6_readPerm_42 : decode cX6_readPerm 42 = .ok (.ireturn, 1) := by decide +kernel
theorem dX6_readPerm_5 : decode cX6_readPerm 5 = .ok (.getfield 28, 3) := by decide +kernel
theorem dX6_readPerm_8 : decode cX6_readPerm 8 = .ok (.getfield 82, 3) := by decide +kernel
theorem dX6_readPieces_0 : decode cX6_readPieces 0 = .ok (.aload_n 0, 1) := by decide +kernel
theorem dX6_readPieces_1 : decode cX6_readPieces 1 = .ok (.getfield 38, 3) := by decide +kernel
theorem dX6_readPieces_10 : decode cX6_readPieces 10 = .ok (.iastore, 1) := by decide +kernel
theorem dX6_readPieces_100 : decode cX6_readPieces 100 = .ok (.invokevirtual 450, 3) := by decide +kernel
theorem dX6_readPieces_103 : decode cX6_readPieces 103 = .ok (.goto 13, 3) := by decide +kernel
theorem dX6_readPieces_106 : decode cX6_readPieces 106 = .ok (.aload_n 0, 1) := by decide +kernel
theorem dX6_readPieces_107 : decode cX6_readPieces 107 = .ok (.iload_n 2, 1) := by decide +kernel
theorem dX6_readPieces_108 : decode cX6_readPieces 108 = .ok (.iconst 1, 1) := by decide +kernel
theorem dX6_readPieces_109 : decode cX6_readPieces 109 = .ok (.iadd, 1) := by decide +kernel
theorem dX6_readPieces_11 : decode cX6_readPieces 11 = .ok (.aload_n 0, 1) := by decide +kernel
theorem dX6_readPieces_110 : decode cX6_readPieces 110 = .ok (.iload_n 3, 1) := by decide +kernel
theorem dX6_readPieces_111 : decode cX6_readPieces 111 = .ok (.iconst 1, 1) := by decide +kernel
theorem dX6_readPieces_112 : decode cX6_readPieces 112 = .ok (.iadd, 1) := by decide +kernel
theorem dX6_readPieces_113 : decode cX6_readPieces 113 = .ok (.invokevirtual 198, 3) := by decide +kernel
theorem dX6_readPieces_116 : decode cX6_readPieces 116 = .ok (.istore 7, 2) := by decide +kernel
theorem dX6_readPieces_118 : decode cX6_readPieces 118 = .ok (.aload_n 0, 1) := by decide +kernel
theorem dX6_readPieces_119 : decode cX6_readPieces 119 = .ok (.getfield 28, 3) := by decide +kernel
theorem dX6_readPieces_12 : decode cX6_readPieces 12 = .ok (.getfield 28, 3) := by decide +kernel
theorem dX6_readPieces_122 : decode cX6_readPieces 122 = .ok (.getfield 82, 3) := by decide +kernel
theorem dX6_readPieces_125 : decode cX6_readPieces 125 = .ok (.ifCond .eq 4, 3) := by decide +kernel
theorem dX6_readPieces_128 : decode cX6_readPieces 128 = .ok (.return_, 1) := by decide +kernel
theorem dX6_readPieces_129 : decode cX6_readPieces 129 = .ok (.iload 5, 2) := by decide +kernel
theorem dX6_readPieces_131 : decode cX6_readPieces 131 = .ok (.ifCond .ne 17, 3) := by decide +kernel
theorem dX6_readPieces_134 : decode cX6_readPieces 134 = .ok (.aload_n 0, 1) := by decide +kernel
theorem dX6_readPieces_135 : decode cX6_readPieces 135 = .ok (.getfield 38, 3) := by decide +kernel
theorem dX6_readPieces_138 : decode cX6_readPieces 138 = .ok (.getfield 445, 3) := by decide +kernel
theorem dX6_readPieces_141 : decode cX6_readPieces 141 = .ok (.iload_n 1, 1) := by decide +kernel
theorem dX6_readPieces_142 : decode cX6_readPieces 142 = .ok (.iload 7, 2) := by decide +kernel
theorem dX6_readPieces_144 : decode cX6_readPieces 144 = .ok (.iastore, 1) := by decide +kernel
theorem dX6_readPieces_145 : decode cX6_readPieces 145 = .ok (.goto 15, 3) := by decide +kernel
theorem dX6_readPieces_148 : decode cX6_readPieces 148 = .ok (.aload_n 0, 1) := by decide +kernel
theorem dX6_readPieces_149 : decode cX6_readPieces 149 = .ok (.getfield 38, 3) := by decide +kernel
theorem dX6_readPieces_15 : decode cX6_readPieces 15 = .ok (.bipush 93, 2) := by decide +kernel
theorem dX6_readPieces_152 : decode cX6_readPieces 152 = .ok (.getfield 449, 3) := by decide +kernel
theorem dX6_readPieces_155 : decode cX6_readPieces 155 = .ok (.iload 4, 2) := by decide +kernel
theorem dX6_readPieces_157 : decode cX6_readPieces 157 = .ok (.iload 7, 2) := by decide +kernel
theorem dX6_readPieces_159 : decode cX6_readPieces 159 = .ok (.iastore, 1) := by decide +kernel
theorem dX6_readPieces_160 : decode cX6_readPieces 160 = .ok (.iload 7, 2) := by decide +kernel
theorem dX6_readPieces_162 : decode cX6_readPieces 162 = .ok (.istore 4, 2) := by decide +kernel
theorem dX6_readPieces_164 : decode cX6_readPieces 164 = .ok (.aload_n 0, 1) := by decide +kernel
theorem dX6_readPieces_165 : decode cX6_readPieces 165 = .ok (.getfield 28, 3) := by decide +kernel
theorem dX6_readPieces_168 : decode cX6_readPieces 168 = .ok (.bipush 44, 2) := by decide +kernel
theorem dX6_readPieces_17 : decode cX6_readPieces 17 = .ok (.invokevirtual 246, 3) := by decide +kernel
theorem dX6_readPieces_170 : decode cX6_readPieces 170 = .ok (.invokevirtual 246, 3) := by decide +kernel
theorem dX6_readPieces_173 : decode cX6_readPieces 173 = .ok (.ifCond .ne 6, 3) := by decide +kernel
theorem dX6_readPieces_176 : decode cX6_readPieces 176 = .ok (.goto 9, 3) := by decide +kernel
theorem dX6_readPieces_179 : decode cX6_readPieces 179 = .ok (.iinc 5 1, 3) := by decide +kernel
theorem dX6_readPieces_182 : decode cX6_readPieces 182 = .ok (.goto (-152), 3) := by decide +kernel
theorem dX6_readPieces_185 : decode cX6_readPieces 185 = .ok (.aload_n 0, 1) := by decide +kernel
theorem dX6_readPieces_186 : decode cX6_readPieces 186 = .ok (.getfield 28, 3) := by decide +kernel
theorem dX6_readPieces_189 : decode cX6_readPieces 189 = .ok (.bipush 93, 2) := by decide +kernel
theorem dX6_readPieces_191 : decode cX6_readPieces 191 = .ok (.invokevirtual 184, 3) := by decide +kernel
theorem dX6_readPieces_194 : decode cX6_readPieces 194 = .ok (.return_, 1) := by decide +kernel
theorem dX6_readPieces_20 : decode cX6_readPieces 20 = .ok (.ifCond .eq 4, 3) := by decide +kernel
theorem dX6_readPieces_23 : decode cX6_readPieces 23 = .ok (.return_, 1) := by decide +kernel
theorem dX6_readPieces_24 : decode cX6_readPieces 24 = .ok (.iconst (-1), 1) := by decide +kernel
theorem dX6_readPieces_25 : decode cX6_readPieces 25 = .ok (.istore 4, 2) := by decide +kernel
theorem dX6_readPieces_27 : decode cX6_readPieces 27 = .ok (.iconst 0, 1) := by decide +kernel
theorem dX6_readPieces_28 : decode cX6_readPieces 28 = .ok (.istore 5, 2) := by decide +kernel
theorem dX6_readPieces_30 : decode cX6_readPieces 30 = .ok (.iload 5, 2) := by decide +kernel
theorem dX6_readPieces_32 : decode cX6_readPieces 32 = .ok (.bipush 12, 2) := by decide +kernel
theorem dX6_readPieces_34 : decode cX6_readPieces 34 = .ok (.if_icmp .gt 151, 3) := by decide +kernel
theorem dX6_readPieces_37 : decode cX6_readPieces 37 = .ok (.aload_n 0, 1) := by decide +kernel
theorem dX6_readPieces_38 : decode cX6_readPieces 38 = .ok (.getfield 28, 3) := by decide +kernel
theorem dX6_readPieces_4 : decode cX6_readPieces 4 = .ok (.getfield 395, 3) := by decide +kernel
theorem dX6_readPieces_41 : decode cX6_readPieces 41 = .ok (.getfield 85, 3) := by decide +kernel
theorem dX6_readPieces_44 : decode cX6_readPieces 44 = .ok (.sipush 229, 3) := by decide +kernel
theorem dX6_readPieces_47 : decode cX6_readPieces 47 = .ok (.if_icmp .ne 7, 3) := by decide +kernel
theorem dX6_readPieces_50 : decode cX6_readPieces 50 = .ok (.iconst 1, 1) := by decide +kernel
theorem dX6_readPieces_51 : decode cX6_readPieces 51 = .ok (.goto 4, 3) := by decide +kernel
theorem dX6_readPieces_54 : decode cX6_readPieces 54 = .ok (.iconst 0, 1) := by decide +kernel
theorem dX6_readPieces_55 : decode cX6_readPieces 55 = .ok (.istore 6, 2) := by decide +kernel
theorem dX6_readPieces_57 : decode cX6_readPieces 57 = .ok (.iload 5, 2) := by decide +kernel
theorem dX6_readPieces_59 : decode cX6_readPieces 59 = .ok (.bipush 12, 2) := by decide +kernel
theorem dX6_readPieces_61 : decode cX6_readPieces 61 = .ok (.if_icmp .ne 29, 3) := by decide +kernel
theorem dX6_readPieces_64 : decode cX6_readPieces 64 = .ok (.iload 6, 2) := by decide +kernel
theorem dX6_readPieces_66 : decode cX6_readPieces 66 = .ok (.ifCond .ne 16, 3) := by decide +kernel
theorem dX6_readPieces_69 : decode cX6_readPieces 69 = .ok (.aload_n 0, 1) := by decide +kernel
theorem dX6_readPieces_7 : decode cX6_readPieces 7 = .ok (.iload_n 1, 1) := by decide +kernel
theorem dX6_readPieces_70 : decode cX6_readPieces 70 = .ok (.getfield 28, 3) := by decide +kernel
theorem dX6_readPieces_73 : decode cX6_readPieces 73 = .ok (.getfield 85, 3) := by decide +kernel
theorem dX6_readPieces_76 : decode cX6_readPieces 76 = .ok (.invokestatic 382, 3) := by decide +kernel
theorem dX6_readPieces_79 : decode cX6_readPieces 79 = .ok (.ifCond .eq 11, 3) := by decide +kernel
theorem dX6_readPieces_8 : decode cX6_readPieces 8 = .ok (.bipush 10, 2) := by decide +kernel
theorem dX6_readPieces_82 : decode cX6_readPieces 82 = .ok (.aload_n 0, 1) := by decide +kernel
theorem dX6_readPieces_83 : decode cX6_readPieces 83 = .ok (.getfield 28, 3) := by decide +kernel
theorem dX6_readPieces_86 : decode cX6_readPieces 86 = .ok (.iconst 5, 1) := by decide +kernel
theorem dX6_readPieces_87 : decode cX6_readPieces 87 = .ok (.invokevirtual 100, 3) := by decide +kernel
theorem dX6_readPieces_90 : decode cX6_readPieces 90 = .ok (.iload 6, 2) := by decide +kernel
theorem dX6_readPieces_92 : decode cX6_readPieces 92 = .ok (.ifCond .eq 14, 3) := by decide +kernel
theorem dX6_readPieces_95 : decode cX6_readPieces 95 = .ok (.aload_n 0, 1) := by decide +kernel
theorem dX6_readPieces_96 : decode cX6_readPieces 96 = .ok (.iload_n 2, 1) := by decide +kernel
theorem dX6_readPieces_97 : decode cX6_readPieces 97 = .ok (.iload_n 3, 1) := by decide +kernel
theorem dX6_readPieces_98 : decode cX6_readPieces 98 = .ok (.iconst 1, 1) := by decide +kernel
theorem dX6_readPieces_99 : decode cX6_readPieces 99 = .ok (.iadd, 1) := by decide +kernel
theorem dX6_readRow_0 : decode cX6_readRow 0 = .ok (.aload_n 0, 1) := by decide +kernel
theorem dX6_readRow_1 : decode cX6_readRow 1 = .ok (.getfield 28, 3) := by decide +kernel
theorem dX6_readRow_10 : decode cX6_readRow 10 = .ok (.iload_n 1, 1) := by decide +kernel
theorem dX6_readRow_11 : decode cX6_readRow 11 = .ok (.iload_n 2, 1) := by decide +kernel
theorem dX6_readRow_12 : decode cX6_readRow 12 = .ok (.iload_n 3, 1) := by decide +kernel
theorem dX6_readRow_13 : decode cX6_readRow 13 = .ok (.iload 4, 2) := by decide +kernel
theorem dX6_readRow_15 : decode cX6_readRow 15 = .ok (.invokevirtual 423, 3) := by decide +kernel
theorem dX6_readRow_18 : decode cX6_readRow 18 = .ok (.return_, 1) := by decide +kernel
theorem dX6_readRow_4 : decode cX6_readRow 4 = .ok (.bipush 40, 2) := by decide +kernel
theorem dX6_readRow_6 : decode cX6_readRow 6 = .ok (.invokevirtual 184, 3) := by decide +kernel
theorem dX6_readRow_9 : decode cX6_readRow 9 = .ok (.aload_n 0, 1) := by decide +kernel
theorem dX6_readSame_0 : decode cX6_readSame 0 = .ok (.aload_n 0, 1) := by decide +kernel
theorem dX6_readSame_1 : decode cX6_readSame 1 = .ok (.getfield 38, 3) := by decide +kernel
theorem dX6_readSame_10 : decode cX6_readSame 10 = .ok (.iastore, 1) := by decide +kernel
theorem dX6_readSame_11 : decode cX6_readSame 11 = .ok (.aload_n 0, 1) := by decide +kernel
theorem dX6_readSame_12 : decode cX6_readSame 12 = .ok (.getfield 28, 3) := by decide +kernel
theorem dX6_readSame_15 : decode cX6_readSame 15 = .ok (.bipush 40, 2) := by decide +kernel
theorem dX6_readSame_17 : decode cX6_readSame 17 = .ok (.invokevirtual 184, 3) := by decide +kernel
theorem dX6_readSame_20 : decode cX6_readSame 20 = .ok (.aload_n 0, 1) := by decide +kernel
theorem dX6_readSame_21 : decode cX6_readSame 21 = .ok (.iload_n 2, 1) := by decide +kernel
theorem dX6_readSame_22 : decode cX6_readSame 22 = .ok (.iconst 1, 1) := by decide +kernel
theorem dX6_readSame_23 : decode cX6_readSame 23 = .ok (.iadd, 1) := by decide +kernel
theorem dX6_readSame_24 : decode cX6_readSame 24 = .ok (.invokevirtual 120, 3) := by decide +kernel
theorem dX6_readSame_27 : decode cX6_readSame 27 = .ok (.pop, 1) := by decide +kernel
theorem dX6_readSame_28 : decode cX6_readSame 28 = .ok (.aload_n 0, 1) := by decide +kernel
theorem dX6_readSame_29 : decode cX6_readSame 29 = .ok (.getfield 28, 3) := by decide +kernel
theorem dX6_readSame_32 : decode cX6_readSame 32 = .ok (.bipush 41, 2) := by decide +kernel
theorem dX6_readSame_34 : decode cX6_readSame 34 = .ok (.invokevirtual 184, 3) := by decide +kernel
theorem dX6_readSame_37 : decode cX6_readSame 37 = .ok (.aload_n 0, 1) := by decide +kernel
theorem dX6_readSame_38 : decode cX6_readSame 38 = .ok (.getfield 43, 3) := by decide +kernel
theorem dX6_readSame_4 : decode cX6_readSame 4 = .ok (.getfield 395, 3) := by decide +kernel
theorem dX6_readSame_41 : decode cX6_readSame 41 = .ok (.bipush 34, 2) := by decide +kernel
theorem dX6_readSame_43 : decode cX6_readSame 43 = .ok (.iload_n 1, 1) := by decide +kernel
theorem dX6_readSame_44 : decode cX6_readSame 44 = .ok (.invokevirtual 202, 3) := by decide +kernel
theorem dX6_readSame_47 : decode cX6_readSame 47 = .ok (.pop, 1) := by decide +kernel
theorem dX6_readSame_48 : decode cX6_readSame 48 = .ok (.return_, 1) := by decide +kernel
theorem dX6_readSame_7 : decode cX6_readSame 7 = .ok (.iload_n 1, 1) := by decide +kernel
theorem dX6_readSame_8 : decode cX6_readSame 8 = .ok (.bipush 17, 2) := by decide +kernel
theorem dX6_readTag_0 : decode cX6_readTag 0 = .ok (.aload_n 0, 1) := by decide +kernel
theorem dX6_readTag_1 : decode cX6_readTag 1 = .ok (.getfield 38, 3) := by decide +kernel
theorem dX6_readTag_10 : decode cX6_readTag 10 = .ok (.iastore, 1) := by decide +kernel
theorem dX6_readTag_11 : decode cX6_readTag 11 = .ok (.aload_n 0, 1) := by decide +kernel
theorem dX6_readTag_12 : decode cX6_readTag 12 = .ok (.getfield 28, 3) := by decide +kernel
theorem dX6_readTag_15 : decode cX6_readTag 15 = .ok (.getfield 85, 3) := by decide +kernel
theorem dX6_readTag_18 : decode cX6_readTag 18 = .ok (.iconst 1, 1) := by decide +kernel
theorem dX6_readTag_19 : decode cX6_readTag 19 = .ok (.if_icmp .ne 19, 3) := by decide +kernel
theorem dX6_readTag_22 : decode cX6_readTag 22 = .ok (.aload_n 0, 1) := by decide +kernel
theorem dX6_readTag_23 : decode cX6_readTag 23 = .ok (.getfield 38, 3) := by decide +kernel
theorem dX6_readTag_26 : decode cX6_readTag 26 = .ok (.getfield 399, 3) := by decide +kernel
theorem dX6_readTag_29 : decode cX6_readTag 29 = .ok (.iload_n 1, 1) := by decide +kernel
theorem dX6_readTag_30 : decode cX6_readTag 30 = .ok (.aload_n 0, 1) := by decide +kernel
theorem dX6_readTag_31 : decode cX6_readTag 31 = .ok (.getfield 28, 3) := by decide +kernel
theorem dX6_readTag_34 : decode cX6_readTag 34 = .ok (.invokevirtual 166, 3) := by decide +kernel
theorem dX6_readTag_37 : decode cX6_readTag 37 = .ok (.iastore, 1) := by decide +kernel
theorem dX6_readTag_38 : decode cX6_readTag 38 = .ok (.aload_n 0, 1) := by decide +kernel
theorem dX6_readTag_39 : decode cX6_readTag 39 = .ok (.getfield 28, 3) := by decide +kernel
theorem dX6_readTag_4 : decode cX6_readTag 4 = .ok (.getfield 395, 3) := by decide +kernel
theorem dX6_readTag_42 : decode cX6_readTag 42 = .ok (.iconst 1, 1) := by decide +kernel
theorem dX6_readTag_43 : decode cX6_readTag 43 = .ok (.invokevirtual 184, 3) := by decide +kernel
theorem dX6_readTag_46 : decode cX6_readTag 46 = .ok (.aload_n 0, 1) := by decide +kernel
theorem dX6_readTag_47 : decode cX6_readTag 47 = .ok (.getfield 38, 3) := by decide +kernel
theorem dX6_readTag_50 : decode cX6_readTag 50 = .ok (.getfield 445, 3) := by decide +kernel
theorem dX6_readTag_53 : decode cX6_readTag 53 = .ok (.iload_n 1, 1) := by decide +kernel
theorem dX6_readTag_54 : decode cX6_readTag 54 = .ok (.aload_n 0, 1) := by decide +kernel
theorem dX6_readTag_55 : decode cX6_readTag 55 = .ok (.iload_n 2, 1) := by decide +kernel
theorem dX6_readTag_56 : decode cX6_readTag 56 = .ok (.iconst 1, 1) := by decide +kernel
theorem dX6_readTag_57 : decode cX6_readTag 57 = .ok (.iadd, 1) := by decide +kernel
theorem dX6_readTag_58 : decode cX6_readTag 58 = .ok (.iload_n 3, 1) := by decide +kernel
theorem dX6_readTag_59 : decode cX6_readTag 59 = .ok (.iconst 1, 1) := by decide +kernel
theorem dX6_readTag_60 : decode cX6_readTag 60 = .ok (.iadd, 1) := by decide +kernel
theorem dX6_readTag_61 : decode cX6_readTag 61 = .ok (.invokevirtual 198, 3) := by decide +kernel
theorem dX6_readTag_64 : decode cX6_readTag 64 = .ok (.iastore, 1) := by decide +kernel
theorem dX6_readTag_65 : decode cX6_readTag 65 = .ok (.return_, 1) := by decide +kernel
theorem dX6_readTag_7 : decode cX6_readTag 7 = .ok (.iload_n 1, 1) := by decide +kernel
theorem dX6_readTag_8 : decode cX6_readTag 8 = .ok (.bipush 9, 2) := by decide +kernel
theorem dX6_readTemplFields_0 : decode cX6_readTemplFields 0 = .ok (.aload_n 0, 1) := by decide +kernel
theorem dX6_readTemplFields_1 : decode cX6_readTemplFields 1 = .ok (.getfield 38, 3) := by decide +kernel
theorem dX6_readTemplFields_10 : decode cX6_readTemplFields 10 = .ok (.iastore, 1) := by decide +kernel
theorem dX6_readTemplFields_100 : decode cX6_readTemplFields 100 = .ok (.aload_n 0, 1) := by decide +kernel
theorem dX6_readTemplFields_101 : decode cX6_readTemplFields 101 = .ok (.invokevirtual 298, 3) := by decide +kernel
theorem dX6_readTemplFields_104 : decode cX6_readTemplFields 104 = .ok (.aload_n 0, 1) := by decide +kernel
theorem dX6_readTemplFields_105 : decode cX6_readTemplFields 105 = .ok (.getfield 28, 3) := by decide +kernel
theorem dX6_readTemplFields_108 : decode cX6_readTemplFields 108 = .ok (.getfield 82, 3) := by decide +kernel
theorem dX6_readTemplFields_11 : decode cX6_readTemplFields 11 = .ok (.aload_n 0, 1) := by decide +kernel
theorem dX6_readTemplFields_111 : decode cX6_readTemplFields 111 = .ok (.ifCond .eq 4, 3) := by decide +kernel
theorem dX6_readTemplFields_114 : decode cX6_readTemplFields 114 = .ok (.return_, 1) := by decide +kernel
theorem dX6_readTemplFields_115 : decode cX6_readTemplFields 115 = .ok (.aload_n 0, 1) := by decide +kernel
theorem dX6_readTemplFields_116 : decode cX6_readTemplFields 116 = .ok (.getfield 38, 3) := by decide +kernel
theorem dX6_readTemplFields_119 : decode cX6_readTemplFields 119 = .ok (.sipush (-1000), 3) := by decide +kernel
theorem dX6_readTemplFields_12 : decode cX6_readTemplFields 12 = .ok (.getfield 28, 3) := by decide +kernel
theorem dX6_readTemplFields_122 : decode cX6_readTemplFields 122 = .ok (.invokevirtual 385, 3) := by decide +kernel
theorem dX6_readTemplFields_125 : decode cX6_readTemplFields 125 = .ok (.istore 6, 2) := by decide +kernel
theorem dX6_readTemplFields_127 : decode cX6_readTemplFields 127 = .ok (.aload_n 0, 1) := by decide +kernel
theorem dX6_readTemplFields_128 : decode cX6_readTemplFields 128 = .ok (.getfield 38, 3) := by decide +kernel
theorem dX6_readTemplFields_131 : decode cX6_readTemplFields 131 = .ok (.getfield 395, 3) := by decide +kernel
theorem dX6_readTemplFields_134 : decode cX6_readTemplFields 134 = .ok (.iload 6, 2) := by decide +kernel
theorem dX6_readTemplFields_136 : decode cX6_readTemplFields 136 = .ok (.bipush 19, 2) := by decide +kernel
theorem dX6_readTemplFields_138 : decode cX6_readTemplFields 138 = .ok (.iastore, 1) := by decide +kernel
theorem dX6_readTemplFields_139 : decode cX6_readTemplFields 139 = .ok (.aload_n 0, 1) := by decide +kernel
theorem dX6_readTemplFields_140 : decode cX6_readTemplFields 140 = .ok (.getfield 38, 3) := by decide +kernel
theorem dX6_readTemplFields_143 : decode cX6_readTemplFields 143 = .ok (.getfield 399, 3) := by decide +kernel
theorem dX6_readTemplFields_146 : decode cX6_readTemplFields 146 = .ok (.iload 6, 2) := by decide +kernel
theorem dX6_readTemplFields_148 : decode cX6_readTemplFields 148 = .ok (.aload_n 0, 1) := by decide +kernel
theorem dX6_readTemplFields_149 : decode cX6_readTemplFields 149 = .ok (.getfield 28, 3) := by decide +kernel
theorem dX6_readTemplFields_15 : decode cX6_readTemplFields 15 = .ok (.bipush 125, 2) := by decide +kernel
theorem dX6_readTemplFields_152 : decode cX6_readTemplFields 152 = .ok (.invokevirtual 166, 3) := by decide +kernel
theorem dX6_readTemplFields_155 : decode cX6_readTemplFields 155 = .ok (.iastore, 1) := by decide +kernel
theorem dX6_readTemplFields_156 : decode cX6_readTemplFields 156 = .ok (.iload 5, 2) := by decide +kernel
theorem dX6_readTemplFields_158 : decode cX6_readTemplFields 158 = .ok (.ifCond .ne 17, 3) := by decide +kernel
theorem dX6_readTemplFields_161 : decode cX6_readTemplFields 161 = .ok (.aload_n 0, 1) := by decide +kernel
theorem dX6_readTemplFields_162 : decode cX6_readTemplFields 162 = .ok (.getfield 38, 3) := by decide +kernel
theorem dX6_readTemplFields_165 : decode cX6_readTemplFields 165 = .ok (.getfield 445, 3) := by decide +kernel
theorem dX6_readTemplFields_168 : decode cX6_readTemplFields 168 = .ok (.iload_n 1, 1) := by decide +kernel
theorem dX6_readTemplFields_169 : decode cX6_readTemplFields 169 = .ok (.iload 6, 2) := by decide +kernel
theorem dX6_readTemplFields_17 : decode cX6_readTemplFields 17 = .ok (.invokevirtual 246, 3) := by decide +kernel
theorem dX6_readTemplFields_171 : decode cX6_readTemplFields 171 = .ok (.iastore, 1) := by decide +kernel
theorem dX6_readTemplFields_172 : decode cX6_readTemplFields 172 = .ok (.goto 15, 3) := by decide +kernel
theorem dX6_readTemplFields_175 : decode cX6_readTemplFields 175 = .ok (.aload_n 0, 1) := by decide +kernel
theorem dX6_readTemplFields_176 : decode cX6_readTemplFields 176 = .ok (.getfield 38, 3) := by decide +kernel
theorem dX6_readTemplFields_179 : decode cX6_readTemplFields 179 = .ok (.getfield 449, 3) := by decide +kernel
theorem dX6_readTemplFields_182 : decode cX6_readTemplFields 182 = .ok (.iload 4, 2) := by decide +kernel
theorem dX6_readTemplFields_184 : decode cX6_readTemplFields 184 = .ok (.iload 6, 2) := by decide +kernel
theorem dX6_readTemplFields_186 : decode cX6_readTemplFields 186 = .ok (.iastore, 1) := by decide +kernel
theorem dX6_readTemplFields_187 : decode cX6_readTemplFields 187 = .ok (.iload 6, 2) := by decide +kernel
theorem dX6_readTemplFields_189 : decode cX6_readTemplFields 189 = .ok (.istore 4, 2) := by decide +kernel
theorem dX6_readTemplFields_191 : decode cX6_readTemplFields 191 = .ok (.aload_n 0, 1) := by decide +kernel
theorem dX6_readTemplFields_192 : decode cX6_readTemplFields 192 = .ok (.getfield 28, 3) := by decide +kernel
theorem dX6_readTemplFields_195 : decode cX6_readTemplFields 195 = .ok (.invokevirtual 170, 3) := by decide +kernel
theorem dX6_readTemplFields_198 : decode cX6_readTemplFields 198 = .ok (.aload_n 0, 1) := by decide +kernel
theorem dX6_readTemplFields_199 : decode cX6_readTemplFields 199 = .ok (.getfield 28, 3) := by decide +kernel
theorem dX6_readTemplFields_20 : decode cX6_readTemplFields 20 = .ok (.ifCond .eq 4, 3) := by decide +kernel
theorem dX6_readTemplFields_202 : decode cX6_readTemplFields 202 = .ok (.bipush 11, 2) := by decide +kernel
theorem dX6_readTemplFields_204 : decode cX6_readTemplFields 204 = .ok (.invokevirtual 184, 3) := by decide +kernel
theorem dX6_readTemplFields_207 : decode cX6_readTemplFields 207 = .ok (.aload_n 0, 1) := by decide +kernel
theorem dX6_readTemplFields_208 : decode cX6_readTemplFields 208 = .ok (.getfield 38, 3) := by decide +kernel
theorem dX6_readTemplFields_211 : decode cX6_readTemplFields 211 = .ok (.getfield 445, 3) := by decide +kernel
theorem dX6_readTemplFields_214 : decode cX6_readTemplFields 214 = .ok (.iload 6, 2) := by decide +kernel
theorem dX6_readTemplFields_216 : decode cX6_readTemplFields 216 = .ok (.aload_n 0, 1) := by decide +kernel
theorem dX6_readTemplFields_217 : decode cX6_readTemplFields 217 = .ok (.iload_n 2, 1) := by decide +kernel
theorem dX6_readTemplFields_218 : decode cX6_readTemplFields 218 = .ok (.iconst 1, 1) := by decide +kernel
theorem dX6_readTemplFields_219 : decode cX6_readTemplFields 219 = .ok (.iadd, 1) := by decide +kernel
theorem dX6_readTemplFields_220 : decode cX6_readTemplFields 220 = .ok (.iload_n 3, 1) := by decide +kernel
theorem dX6_readTemplFields_221 : decode cX6_readTemplFields 221 = .ok (.iconst 1, 1) := by decide +kernel
theorem dX6_readTemplFields_222 : decode cX6_readTemplFields 222 = .ok (.iadd, 1) := by decide +kernel
theorem dX6_readTemplFields_223 : decode cX6_readTemplFields 223 = .ok (.invokevirtual 198, 3) := by decide +kernel
theorem dX6_readTemplFields_226 : decode cX6_readTemplFields 226 = .ok (.iastore, 1) := by decide +kernel
theorem dX6_readTemplFields_227 : decode cX6_readTemplFields 227 = .ok (.aload_n 0, 1) := by decide +kernel
theorem dX6_readTemplFields_228 : decode cX6_readTemplFields 228 = .ok (.getfield 28, 3) := by decide +kernel
theorem dX6_readTemplFields_23 : decode cX6_readTemplFields 23 = .ok (.return_, 1) := by decide +kernel
theorem dX6_readTemplFields_231 : decode cX6_readTemplFields 231 = .ok (.bipush 44, 2) := by decide +kernel
theorem dX6_readTemplFields_233 : decode cX6_readTemplFields 233 = .ok (.invokevirtual 246, 3) := by decide +kernel
theorem dX6_readTemplFields_236 : decode cX6_readTemplFields 236 = .ok (.ifCond .ne 6, 3) := by decide +kernel
theorem dX6_readTemplFields_239 : decode cX6_readTemplFields 239 = .ok (.goto 9, 3) := by decide +kernel
theorem dX6_readTemplFields_24 : decode cX6_readTemplFields 24 = .ok (.iconst (-1), 1) := by decide +kernel
theorem dX6_readTemplFields_242 : decode cX6_readTemplFields 242 = .ok (.iinc 5 1, 3) := by decide +kernel
theorem dX6_readTemplFields_245 : decode cX6_readTemplFields 245 = .ok (.goto (-215), 3) := by decide +kernel
theorem dX6_readTemplFields_248 : decode cX6_readTemplFields 248 = .ok (.aload_n 0, 1) := by decide +kernel
theorem dX6_readTemplFields_249 : decode cX6_readTemplFields 249 = .ok (.getfield 28, 3) := by decide +kernel
theorem dX6_readTemplFields_25 : decode cX6_readTemplFields 25 = .ok (.istore 4, 2) := by decide +kernel
theorem dX6_readTemplFields_252 : decode cX6_readTemplFields 252 = .ok (.bipush 125, 2) := by decide +kernel
theorem dX6_readTemplFields_254 : decode cX6_readTemplFields 254 = .ok (.invokevirtual 184, 3) := by decide +kernel
theorem dX6_readTemplFields_257 : decode cX6_readTemplFields 257 = .ok (.return_, 1) := by decide +kernel
theorem dX6_readTemplFields_27 : decode cX6_readTemplFields 27 = .ok (.iconst 0, 1) := by decide +kernel
theorem dX6_readTemplFields_28 : decode cX6_readTemplFields 28 = .ok (.istore 5, 2) := by decide +kernel
theorem dX6_readTemplFields_30 : decode cX6_readTemplFields 30 = .ok (.iload 5, 2) := by decide +kernel
theorem dX6_readTemplFields_32 : decode cX6_readTemplFields 32 = .ok (.bipush 16, 2) := by decide +kernel
theorem dX6_readTemplFields_34 : decode cX6_readTemplFields 34 = .ok (.if_icmp .gt 214, 3) := by decide +kernel
theorem dX6_readTemplFields_37 : decode cX6_readTemplFields 37 = .ok (.aload_n 0, 1) := by decide +kernel
theorem dX6_readTemplFields_38 : decode cX6_readTemplFields 38 = .ok (.getfield 28, 3) := by decide +kernel
theorem dX6_readTemplFields_4 : decode cX6_readTemplFields 4 = .ok (.getfield 395, 3) := by decide +kernel
theorem dX6_readTemplFields_41 : decode cX6_readTemplFields 41 = .ok (.getfield 85, 3) := by decide +kernel
theorem dX6_readTemplFields_44 : decode cX6_readTemplFields 44 = .ok (.iconst 1, 1) := by decide +kernel
theorem dX6_readTemplFields_45 : decode cX6_readTemplFields 45 = .ok (.if_icmp .eq 14, 3) := by decide +kernel
theorem dX6_readTemplFields_48 : decode cX6_readTemplFields 48 = .ok (.aload_n 0, 1) := by decide +kernel
theorem dX6_readTemplFields_49 : decode cX6_readTemplFields 49 = .ok (.getfield 28, 3) := by decide +kernel
theorem dX6_readTemplFields_52 : decode cX6_readTemplFields 52 = .ok (.iconst 2, 1) := by decide +kernel
theorem dX6_readTemplFields_53 : decode cX6_readTemplFields 53 = .ok (.invokevirtual 100, 3) := by decide +kernel
theorem dX6_readTemplFields_56 : decode cX6_readTemplFields 56 = .ok (.goto 44, 3) := by decide +kernel
theorem dX6_readTemplFields_59 : decode cX6_readTemplFields 59 = .ok (.aload_n 0, 1) := by decide +kernel
theorem dX6_readTemplFields_60 : decode cX6_readTemplFields 60 = .ok (.iload_n 1, 1) := by decide +kernel
theorem dX6_readTemplFields_61 : decode cX6_readTemplFields 61 = .ok (.aload_n 0, 1) := by decide +kernel
theorem dX6_readTemplFields_62 : decode cX6_readTemplFields 62 = .ok (.getfield 28, 3) := by decide +kernel
theorem dX6_readTemplFields_65 : decode cX6_readTemplFields 65 = .ok (.invokevirtual 166, 3) := by decide +kernel
theorem dX6_readTemplFields_68 : decode cX6_readTemplFields 68 = .ok (.invokevirtual 446, 3) := by decide +kernel
theorem dX6_readTemplFields_7 : decode cX6_readTemplFields 7 = .ok (.iload_n 1, 1) := by decide +kernel
theorem dX6_readTemplFields_71 : decode cX6_readTemplFields 71 = .ok (.ifCond .eq 14, 3) := by decide +kernel
theorem dX6_readTemplFields_74 : decode cX6_readTemplFields 74 = .ok (.aload_n 0, 1) := by decide +kernel
theorem dX6_readTemplFields_75 : decode cX6_readTemplFields 75 = .ok (.getfield 28, 3) := by decide +kernel
theorem dX6_readTemplFields_78 : decode cX6_readTemplFields 78 = .ok (.iconst 3, 1) := by decide +kernel
theorem dX6_readTemplFields_79 : decode cX6_readTemplFields 79 = .ok (.invokevirtual 100, 3) := by decide +kernel
theorem dX6_readTemplFields_8 : decode cX6_readTemplFields 8 = .ok (.bipush 8, 2) := by decide +kernel
theorem dX6_readTemplFields_82 : decode cX6_readTemplFields 82 = .ok (.goto 18, 3) := by decide +kernel
theorem dX6_readTemplFields_85 : decode cX6_readTemplFields 85 = .ok (.iload 5, 2) := by decide +kernel
theorem dX6_readTemplFields_87 : decode cX6_readTemplFields 87 = .ok (.bipush 16, 2) := by decide +kernel
theorem dX6_readTemplFields_89 : decode cX6_readTemplFields 89 = .ok (.if_icmp .ne 11, 3) := by decide +kernel
theorem dX6_readTemplFields_92 : decode cX6_readTemplFields 92 = .ok (.aload_n 0, 1) := by decide +kernel
theorem dX6_readTemplFields_93 : decode cX6_readTemplFields 93 = .ok (.getfield 28, 3) := by decide +kernel
theorem dX6_readTemplFields_96 : decode cX6_readTemplFields 96 = .ok (.iconst 5, 1) := by decide +kernel
theorem dX6_readTemplFields_97 : decode cX6_readTemplFields 97 = .ok (.invokevirtual 100, 3) := by decide +kernel
theorem dX6_readTempl_0 : decode cX6_readTempl 0 = .ok (.aload_n 0, 1) := by decide +kernel
theorem dX6_readTempl_1 : decode cX6_readTempl 1 = .ok (.getfield 28, 3) := by decide +kernel
theorem dX6_readTempl_10 : decode cX6_readTempl 10 = .ok (.ifCond .ne 11, 3) := by decide +kernel
theorem dX6_readTempl_102 : decode cX6_readTempl 102 = .ok (.invokevirtual 246, 3) := by decide +kernel
theorem dX6_readTempl_105 : decode cX6_readTempl 105 = .ok (.ifCond .eq 13, 3) := by decide +kernel
theorem dX6_readTempl_108 : decode cX6_readTempl 108 = .ok (.aload_n 0, 1) := by decide +kernel
theorem dX6_readTempl_109 : decode cX6_readTempl 109 = .ok (.getfield 38, 3) := by decide +kernel
theorem dX6_readTempl_112 : decode cX6_readTempl 112 = .ok (.getfield 392, 3) := by decide +kernel
theorem dX6_readTempl_115 : decode cX6_readTempl 115 = .ok (.iload_n 3, 1) := by decide +kernel
theorem dX6_readTempl_116 : decode cX6_readTempl 116 = .ok (.iconst 1, 1) := by decide +kernel
theorem dX6_readTempl_117 : decode cX6_readTempl 117 = .ok (.bastore, 1) := by decide +kernel
theorem dX6_readTempl_118 : decode cX6_readTempl 118 = .ok (.iload_n 3, 1) := by decide +kernel
theorem dX6_readTempl_119 : decode cX6_readTempl 119 = .ok (.ireturn, 1) := by decide +kernel
theorem dX6_readTempl_13 : decode cX6_readTempl 13 = .ok (.aload_n 0, 1) := by decide +kernel
theorem dX6_readTempl_14 : decode cX6_readTempl 14 = .ok (.getfield 28, 3) := by decide +kernel
theorem dX6_readTempl_17 : decode cX6_readTempl 17 = .ok (.iconst 2, 1) := by decide +kernel
theorem dX6_readTempl_18 : decode cX6_readTempl 18 = .ok (.invokevirtual 100, 3) := by decide +kernel
theorem dX6_readTempl_21 : decode cX6_readTempl 21 = .ok (.iload_n 1, 1) := by decide +kernel
theorem dX6_readTempl_22 : decode cX6_readTempl 22 = .ok (.bipush 16, 2) := by decide +kernel
theorem dX6_readTempl_24 : decode cX6_readTempl 24 = .ok (.if_icmp .le 11, 3) := by decide +kernel
theorem dX6_readTempl_27 : decode cX6_readTempl 27 = .ok (.aload_n 0, 1) := by decide +kernel
theorem dX6_readTempl_28 : decode cX6_readTempl 28 = .ok (.getfield 28, 3) := by decide +kernel
theorem dX6_readTempl_31 : decode cX6_readTempl 31 = .ok (.iconst 5, 1) := by decide +kernel
theorem dX6_readTempl_32 : decode cX6_readTempl 32 = .ok (.invokevirtual 100, 3) := by decide +kernel
theorem dX6_readTempl_35 : decode cX6_readTempl 35 = .ok (.aload_n 0, 1) := by decide +kernel
theorem dX6_readTempl_36 : decode cX6_readTempl 36 = .ok (.invokevirtual 298, 3) := by decide +kernel
theorem dX6_readTempl_39 : decode cX6_readTempl 39 = .ok (.aload_n 0, 1) := by decide +kernel
theorem dX6_readTempl_4 : decode cX6_readTempl 4 = .ok (.getfield 85, 3) := by decide +kernel
theorem dX6_readTempl_40 : decode cX6_readTempl 40 = .ok (.getfield 28, 3) := by decide +kernel
theorem dX6_readTempl_43 : decode cX6_readTempl 43 = .ok (.getfield 82, 3) := by decide +kernel
theorem dX6_readTempl_46 : decode cX6_readTempl 46 = .ok (.ifCond .eq 5, 3) := by decide +kernel
theorem dX6_readTempl_49 : decode cX6_readTempl 49 = .ok (.iconst 0, 1) := by decide +kernel
theorem dX6_readTempl_50 : decode cX6_readTempl 50 = .ok (.ireturn, 1) := by decide +kernel
theorem dX6_readTempl_51 : decode cX6_readTempl 51 = .ok (.aload_n 0, 1) := by decide +kernel
theorem dX6_readTempl_52 : decode cX6_readTempl 52 = .ok (.getfield 38, 3) := by decide +kernel
theorem dX6_readTempl_55 : decode cX6_readTempl 55 = .ok (.iload_n 2, 1) := by decide +kernel
theorem dX6_readTempl_56 : decode cX6_readTempl 56 = .ok (.invokevirtual 385, 3) := by decide +kernel
theorem dX6_readTempl_59 : decode cX6_readTempl 59 = .ok (.istore_n 3, 1) := by decide +kernel
theorem dX6_readTempl_60 : decode cX6_readTempl 60 = .ok (.aload_n 0, 1) := by decide +kernel
theorem dX6_readTempl_61 : decode cX6_readTempl 61 = .ok (.iload_n 3, 1) := by decide +kernel
theorem dX6_readTempl_62 : decode cX6_readTempl 62 = .ok (.iload_n 1, 1) := by decide +kernel
theorem dX6_readTempl_63 : decode cX6_readTempl 63 = .ok (.iload_n 2, 1) := by decide +kernel
theorem dX6_readTempl_64 : decode cX6_readTempl 64 = .ok (.invokevirtual 386, 3) := by decide +kernel
theorem dX6_readTempl_67 : decode cX6_readTempl 67 = .ok (.aload_n 0, 1) := by decide +kernel
theorem dX6_readTempl_68 : decode cX6_readTempl 68 = .ok (.getfield 28, 3) := by decide +kernel
theorem dX6_readTempl_7 : decode cX6_readTempl 7 = .ok (.invokestatic 382, 3) := by decide +kernel
theorem dX6_readTempl_71 : decode cX6_readTempl 71 = .ok (.sipush 219, 3) := by decide +kernel
theorem dX6_readTempl_74 : decode cX6_readTempl 74 = .ok (.invokevirtual 246, 3) := by decide +kernel
theorem dX6_readTempl_77 : decode cX6_readTempl 77 = .ok (.ifCond .eq 18, 3) := by decide +kernel
theorem dX6_readTempl_80 : decode cX6_readTempl 80 = .ok (.aload_n 0, 1) := by decide +kernel
theorem dX6_readTempl_81 : decode cX6_readTempl 81 = .ok (.getfield 38, 3) := by decide +kernel
theorem dX6_readTempl_84 : decode cX6_readTempl 84 = .ok (.getfield 389, 3) := by decide +kernel
theorem dX6_readTempl_87 : decode cX6_readTempl 87 = .ok (.iload_n 3, 1) := by decide +kernel
theorem dX6_readTempl_88 : decode cX6_readTempl 88 = .ok (.aload_n 0, 1) := by decide +kernel
theorem dX6_readTempl_89 : decode cX6_readTempl 89 = .ok (.bipush 40, 2) := by decide +kernel
theorem dX6_readTempl_91 : decode cX6_readTempl 91 = .ok (.invokevirtual 312, 3) := by decide +kernel
theorem dX6_readTempl_94 : decode cX6_readTempl 94 = .ok (.iastore, 1) := by decide +kernel
theorem dX6_readTempl_95 : decode cX6_readTempl 95 = .ok (.aload_n 0, 1) := by decide +kernel
theorem dX6_readTempl_96 : decode cX6_readTempl 96 = .ok (.getfield 28, 3) := by decide +kernel
theorem dX6_readTempl_99 : decode cX6_readTempl 99 = .ok (.sipush 220, 3) := by decide +kernel
theorem dX6_readTone_0 : decode cX6_readTone 0 = .ok (.aload_n 0, 1) := by decide +kernel
theorem dX6_readTone_1 : decode cX6_readTone 1 = .ok (.getfield 28, 3) := by decide +kernel
theorem dX6_readTone_100 : decode cX6_readTone 100 = .ok (.iconst 3, 1) := by decide +kernel
theorem dX6_readTone_101 : decode cX6_readTone 101 = .ok (.iastore, 1) := by decide +kernel
theorem dX6_readTone_102 : decode cX6_readTone 102 = .ok (.aload_n 0, 1) := by decide +kernel
theorem dX6_readTone_103 : decode cX6_readTone 103 = .ok (.getfield 38, 3) := by decide +kernel
theorem dX6_readTone_106 : decode cX6_readTone 106 = .ok (.getfield 397, 3) := by decide +kernel
theorem dX6_readTone_109 : decode cX6_readTone 109 = .ok (.iload_n 1, 1) := by decide +kernel
theorem dX6_readTone_11 : decode cX6_readTone 11 = .ok (.lookupswitch 299 #[(1, 154), (2, 81), (3, 201), (42, 286), (45, 81), (63, 273), (221, 216), (222, 238), (223, 260)], 81) := by decide +kernel
theorem dX6_readTone_110 : decode cX6_readTone 110 = .ok (.aload_n 0, 1) := by decide +kernel
theorem dX6_readTone_111 : decode cX6_readTone 111 = .ok (.ldc2_w 342, 3) := by decide +kernel
theorem dX6_readTone_114 : decode cX6_readTone 114 = .ok (.invokevirtual 346, 3) := by decide +kernel
theorem dX6_readTone_117 : decode cX6_readTone 117 = .ok (.lastore, 1) := by decide +kernel
theorem dX6_readTone_118 : decode cX6_readTone 118 = .ok (.aload_n 0, 1) := by decide +kernel
theorem dX6_readTone_119 : decode cX6_readTone 119 = .ok (.getfield 38, 3) := by decide +kernel
theorem dX6_readTone_122 : decode cX6_readTone 122 = .ok (.getfield 398, 3) := by decide +kernel
theorem dX6_readTone_125 : decode cX6_readTone 125 = .ok (.iload_n 1, 1) := by decide +kernel
theorem dX6_readTone_126 : decode cX6_readTone 126 = .ok (.aload_n 0, 1) := by decide +kernel
theorem dX6_readTone_127 : decode cX6_readTone 127 = .ok (.getfield 28, 3) := by decide +kernel
theorem dX6_readTone_130 : decode cX6_readTone 130 = .ok (.bipush 10, 2) := by decide +kernel
theorem dX6_readTone_132 : decode cX6_readTone 132 = .ok (.invokevirtual 246, 3) := by decide +kernel
theorem dX6_readTone_135 : decode cX6_readTone 135 = .ok (.ifCond .eq 19, 3) := by decide +kernel
theorem dX6_readTone_138 : decode cX6_readTone 138 = .ok (.aload_n 0, 1) := by decide +kernel
theorem dX6_readTone_139 : decode cX6_readTone 139 = .ok (.aload_n 0, 1) := by decide +kernel
theorem dX6_readTone_140 : decode cX6_readTone 140 = .ok (.getfield 38, 3) := by decide +kernel
theorem dX6_readTone_143 : decode cX6_readTone 143 = .ok (.getfield 397, 3) := by decide +kernel
theorem dX6_readTone_146 : decode cX6_readTone 146 = .ok (.iload_n 1, 1) := by decide +kernel
theorem dX6_readTone_147 : decode cX6_readTone 147 = .ok (.laload, 1) := by decide +kernel
theorem dX6_readTone_148 : decode cX6_readTone 148 = .ok (.invokevirtual 346, 3) := by decide +kernel
theorem dX6_readTone_151 : decode cX6_readTone 151 = .ok (.goto 12, 3) := by decide +kernel
theorem dX6_readTone_154 : decode cX6_readTone 154 = .ok (.aload_n 0, 1) := by decide +kernel
theorem dX6_readTone_155 : decode cX6_readTone 155 = .ok (.getfield 38, 3) := by decide +kernel
theorem dX6_readTone_158 : decode cX6_readTone 158 = .ok (.getfield 397, 3) := by decide +kernel
theorem dX6_readTone_161 : decode cX6_readTone 161 = .ok (.iload_n 1, 1) := by decide +kernel
theorem dX6_readTone_162 : decode cX6_readTone 162 = .ok (.laload, 1) := by decide +kernel
theorem dX6_readTone_163 : decode cX6_readTone 163 = .ok (.lastore, 1) := by decide +kernel
theorem dX6_readTone_164 : decode cX6_readTone 164 = .ok (.return_, 1) := by decide +kernel
theorem dX6_readTone_165 : decode cX6_readTone 165 = .ok (.aload_n 0, 1) := by decide +kernel
theorem dX6_readTone_166 : decode cX6_readTone 166 = .ok (.getfield 38, 3) := by decide +kernel
theorem dX6_readTone_169 : decode cX6_readTone 169 = .ok (.getfield 395, 3) := by decide +kernel
theorem dX6_readTone_172 : decode cX6_readTone 172 = .ok (.iload_n 1, 1) := by decide +kernel
theorem dX6_readTone_173 : decode cX6_readTone 173 = .ok (.bipush 6, 2) := by decide +kernel
theorem dX6_readTone_175 : decode cX6_readTone 175 = .ok (.iastore, 1) := by decide +kernel
theorem dX6_readTone_176 : decode cX6_readTone 176 = .ok (.aload_n 0, 1) := by decide +kernel
theorem dX6_readTone_177 : decode cX6_readTone 177 = .ok (.getfield 38, 3) := by decide +kernel
theorem dX6_readTone_180 : decode cX6_readTone 180 = .ok (.getfield 399, 3) := by decide +kernel
theorem dX6_readTone_183 : decode cX6_readTone 183 = .ok (.iload_n 1, 1) := by decide +kernel
theorem dX6_readTone_184 : decode cX6_readTone 184 = .ok (.aload_n 0, 1) := by decide +kernel
theorem dX6_readTone_185 : decode cX6_readTone 185 = .ok (.getfield 28, 3) := by decide +kernel
theorem dX6_readTone_188 : decode cX6_readTone 188 = .ok (.invokevirtual 166, 3) := by decide +kernel
theorem dX6_readTone_191 : decode cX6_readTone 191 = .ok (.iastore, 1) := by decide +kernel
theorem dX6_readTone_192 : decode cX6_readTone 192 = .ok (.aload_n 0, 1) := by decide +kernel
theorem dX6_readTone_193 : decode cX6_readTone 193 = .ok (.getfield 43, 3) := by decide +kernel
theorem dX6_readTone_196 : decode cX6_readTone 196 = .ok (.bipush 35, 2) := by decide +kernel
theorem dX6_readTone_198 : decode cX6_readTone 198 = .ok (.iload_n 1, 1) := by decide +kernel
theorem dX6_readTone_199 : decode cX6_readTone 199 = .ok (.invokevirtual 202, 3) := by decide +kernel
theorem dX6_readTone_202 : decode cX6_readTone 202 = .ok (.pop, 1) := by decide +kernel
theorem dX6_readTone_203 : decode cX6_readTone 203 = .ok (.aload_n 0, 1) := by decide +kernel
theorem dX6_readTone_204 : decode cX6_readTone 204 = .ok (.bipush 13, 2) := by decide +kernel
theorem dX6_readTone_206 : decode cX6_readTone 206 = .ok (.iload_n 1, 1) := by decide +kernel
theorem dX6_readTone_207 : decode cX6_readTone 207 = .ok (.iconst 0, 1) := by decide +kernel
theorem dX6_readTone_208 : decode cX6_readTone 208 = .ok (.invokevirtual 250, 3) := by decide +kernel
theorem dX6_readTone_211 : decode cX6_readTone 211 = .ok (.return_, 1) := by decide +kernel
theorem dX6_readTone_212 : decode cX6_readTone 212 = .ok (.aload_n 0, 1) := by decide +kernel
theorem dX6_readTone_213 : decode cX6_readTone 213 = .ok (.getfield 38, 3) := by decide +kernel
theorem dX6_readTone_216 : decode cX6_readTone 216 = .ok (.iload_n 1, 1) := by decide +kernel
theorem dX6_readTone_217 : decode cX6_readTone 217 = .ok (.aload_n 0, 1) := by decide +kernel
theorem dX6_readTone_218 : decode cX6_readTone 218 = .ok (.invokevirtual 400, 3) := by decide +kernel
theorem dX6_readTone_221 : decode cX6_readTone 221 = .ok (.invokevirtual 403, 3) := by decide +kernel
theorem dX6_readTone_224 : decode cX6_readTone 224 = .ok (.goto 86, 3) := by decide +kernel
theorem dX6_readTone_227 : decode cX6_readTone 227 = .ok (.aload_n 0, 1) := by decide +kernel
theorem dX6_readTone_228 : decode cX6_readTone 228 = .ok (.getfield 38, 3) := by decide +kernel
theorem dX6_readTone_231 : decode cX6_readTone 231 = .ok (.iload_n 1, 1) := by decide +kernel
theorem dX6_readTone_232 : decode cX6_readTone 232 = .ok (.aload_n 0, 1) := by decide +kernel
theorem dX6_readTone_233 : decode cX6_readTone 233 = .ok (.getfield 43, 3) := by decide +kernel
theorem dX6_readTone_236 : decode cX6_readTone 236 = .ok (.iconst 1, 1) := by decide +kernel
theorem dX6_readTone_237 : decode cX6_readTone 237 = .ok (.invokestatic 406, 3) := by decide +kernel
theorem dX6_readTone_240 : decode cX6_readTone 240 = .ok (.invokevirtual 410, 3) := by decide +kernel
theorem dX6_readTone_243 : decode cX6_readTone 243 = .ok (.invokevirtual 403, 3) := by decide +kernel
theorem dX6_readTone_246 : decode cX6_readTone 246 = .ok (.goto 64, 3) := by decide +kernel
theorem dX6_readTone_249 : decode cX6_readTone 249 = .ok (.aload_n 0, 1) := by decide +kernel
theorem dX6_readTone_250 : decode cX6_readTone 250 = .ok (.getfield 38, 3) := by decide +kernel
theorem dX6_readTone_253 : decode cX6_readTone 253 = .ok (.iload_n 1, 1) := by decide +kernel
theorem dX6_readTone_254 : decode cX6_readTone 254 = .ok (.aload_n 0, 1) := by decide +kernel
theorem dX6_readTone_255 : decode cX6_readTone 255 = .ok (.getfield 43, 3) := by decide +kernel
theorem dX6_readTone_258 : decode cX6_readTone 258 = .ok (.iconst 0, 1) := by decide +kernel
theorem dX6_readTone_259 : decode cX6_readTone 259 = .ok (.invokestatic 406, 3) := by decide +kernel
theorem dX6_readTone_262 : decode cX6_readTone 262 = .ok (.invokevirtual 410, 3) := by decide +kernel
theorem dX6_readTone_265 : decode cX6_readTone 265 = .ok (.invokevirtual 403, 3) := by decide +kernel
theorem dX6_readTone_268 : decode cX6_readTone 268 = .ok (.goto 42, 3) := by decide +kernel
theorem dX6_readTone_271 : decode cX6_readTone 271 = .ok (.aload_n 0, 1) := by decide +kernel
theorem dX6_readTone_272 : decode cX6_readTone 272 = .ok (.getfield 38, 3) := by decide +kernel
theorem dX6_readTone_275 : decode cX6_readTone 275 = .ok (.getfield 395, 3) := by decide +kernel
theorem dX6_readTone_278 : decode cX6_readTone 278 = .ok (.iload_n 1, 1) := by decide +kernel
theorem dX6_readTone_279 : decode cX6_readTone 279 = .ok (.iconst 5, 1) := by decide +kernel
theorem dX6_readTone_280 : decode cX6_readTone 280 = .ok (.iastore, 1) := by decide +kernel
theorem dX6_readTone_281 : decode cX6_readTone 281 = .ok (.goto 29, 3) := by decide +kernel
theorem dX6_readTone_284 : decode cX6_readTone 284 = .ok (.aload_n 0, 1) := by decide +kernel
theorem dX6_readTone_285 : decode cX6_readTone 285 = .ok (.getfield 38, 3) := by decide +kernel
theorem dX6_readTone_288 : decode cX6_readTone 288 = .ok (.getfield 395, 3) := by decide +kernel
theorem dX6_readTone_291 : decode cX6_readTone 291 = .ok (.iload_n 1, 1) := by decide +kernel
theorem dX6_readTone_292 : decode cX6_readTone 292 = .ok (.iconst 1, 1) := by decide +kernel
theorem dX6_readTone_293 : decode cX6_readTone 293 = .ok (.iastore, 1) := by decide +kernel
theorem dX6_readTone_294 : decode cX6_readTone 294 = .ok (.goto 16, 3) := by decide +kernel
theorem dX6_readTone_297 : decode cX6_readTone 297 = .ok (.aload_n 0, 1) := by decide +kernel
theorem dX6_readTone_298 : decode cX6_readTone 298 = .ok (.getfield 38, 3) := by decide +kernel
theorem dX6_readTone_301 : decode cX6_readTone 301 = .ok (.getfield 395, 3) := by decide +kernel
theorem dX6_readTone_304 : decode cX6_readTone 304 = .ok (.iload_n 1, 1) := by decide +kernel
theorem dX6_readTone_305 : decode cX6_readTone 305 = .ok (.iconst 2, 1) := by decide +kernel
theorem dX6_readTone_306 : decode cX6_readTone 306 = .ok (.iastore, 1) := by decide +kernel
theorem dX6_readTone_307 : decode cX6_readTone 307 = .ok (.goto 3, 3) := by decide +kernel
theorem dX6_readTone_310 : decode cX6_readTone 310 = .ok (.aload_n 0, 1) := by decide +kernel
theorem dX6_readTone_311 : decode cX6_readTone 311 = .ok (.getfield 28, 3) := by decide +kernel
theorem dX6_readTone_314 : decode cX6_readTone 314 = .ok (.invokevirtual 170, 3) := by decide +kernel
theorem dX6_readTone_317 : decode cX6_readTone 317 = .ok (.iload 4, 2) := by decide +kernel
theorem dX6_readTone_319 : decode cX6_readTone 319 = .ok (.lookupswitch 233 #[(40, 119), (61, 131), (64, 99), (91, 109), (123, 89), (224, 140), (225, 152), (226, 188), (227, 164), (228, 176)], 89) := by decide +kernel
theorem dX6_readTone_4 : decode cX6_readTone 4 = .ok (.getfield 85, 3) := by decide +kernel
theorem dX6_readTone_408 : decode cX6_readTone 408 = .ok (.aload_n 0, 1) := by decide +kernel
theorem dX6_readTone_409 : decode cX6_readTone 409 = .ok (.iload_n 1, 1) := by decide +kernel
theorem dX6_readTone_410 : decode cX6_readTone 410 = .ok (.iload_n 2, 1) := by decide +kernel
theorem dX6_readTone_411 : decode cX6_readTone 411 = .ok (.iload_n 3, 1) := by decide +kernel
theorem dX6_readTone_412 : decode cX6_readTone 412 = .ok (.invokevirtual 414, 3) := by decide +kernel
theorem dX6_readTone_415 : decode cX6_readTone 415 = .ok (.goto 137, 3) := by decide +kernel
theorem dX6_readTone_418 : decode cX6_readTone 418 = .ok (.aload_n 0, 1) := by decide +kernel
theorem dX6_readTone_419 : decode cX6_readTone 419 = .ok (.iload_n 1, 1) := by decide +kernel
theorem dX6_readTone_420 : decode cX6_readTone 420 = .ok (.iload_n 2, 1) := by decide +kernel
theorem dX6_readTone_421 : decode cX6_readTone 421 = .ok (.iload_n 3, 1) := by decide +kernel
theorem dX6_readTone_422 : decode cX6_readTone 422 = .ok (.invokevirtual 417, 3) := by decide +kernel
theorem dX6_readTone_425 : decode cX6_readTone 425 = .ok (.goto 127, 3) := by decide +kernel
theorem dX6_readTone_428 : decode cX6_readTone 428 = .ok (.aload_n 0, 1) := by decide +kernel
theorem dX6_readTone_429 : decode cX6_readTone 429 = .ok (.iload_n 1, 1) := by decide +kernel
theorem dX6_readTone_430 : decode cX6_readTone 430 = .ok (.iload_n 2, 1) := by decide +kernel
theorem dX6_readTone_431 : decode cX6_readTone 431 = .ok (.iload_n 3, 1) := by decide +kernel
theorem dX6_readTone_432 : decode cX6_readTone 432 = .ok (.invokevirtual 420, 3) := by decide +kernel
theorem dX6_readTone_435 : decode cX6_readTone 435 = .ok (.goto 117, 3) := by decide +kernel
theorem dX6_readTone_438 : decode cX6_readTone 438 = .ok (.aload_n 0, 1) := by decide +kernel
theorem dX6_readTone_439 : decode cX6_readTone 439 = .ok (.iload_n 1, 1) := by decide +kernel
theorem dX6_readTone_440 : decode cX6_readTone 440 = .ok (.bipush 13, 2) := by decide +kernel
theorem dX6_readTone_442 : decode cX6_readTone 442 = .ok (.iload_n 2, 1) := by decide +kernel
theorem dX6_readTone_443 : decode cX6_readTone 443 = .ok (.iload_n 3, 1) := by decide +kernel
theorem dX6_readTone_444 : decode cX6_readTone 444 = .ok (.invokevirtual 423, 3) := by decide +kernel
theorem dX6_readTone_447 : decode cX6_readTone 447 = .ok (.goto 105, 3) := by decide +kernel
theorem dX6_readTone_450 : decode cX6_readTone 450 = .ok (.aload_n 0, 1) := by decide +kernel
theorem dX6_readTone_451 : decode cX6_readTone 451 = .ok (.iload_n 1, 1) := by decide +kernel
theorem dX6_readTone_452 : decode cX6_readTone 452 = .ok (.iload_n 2, 1) := by decide +kernel
theorem dX6_readTone_453 : decode cX6_readTone 453 = .ok (.invokevirtual 427, 3) := by decide +kernel
theorem dX6_readTone_456 : decode cX6_readTone 456 = .ok (.goto 96, 3) := by decide +kernel
theorem dX6_readTone_459 : decode cX6_readTone 459 = .ok (.aload_n 0, 1) := by decide +kernel
theorem dX6_readTone_460 : decode cX6_readTone 460 = .ok (.iload_n 1, 1) := by decide +kernel
theorem dX6_readTone_461 : decode cX6_readTone 461 = .ok (.bipush 11, 2) := by decide +kernel
theorem dX6_readTone_463 : decode cX6_readTone 463 = .ok (.iload_n 2, 1) := by decide +kernel
theorem dX6_readTone_464 : decode cX6_readTone 464 = .ok (.iload_n 3, 1) := by decide +kernel
theorem dX6_readTone_465 : decode cX6_readTone 465 = .ok (.invokevirtual 430, 3) := by decide +kernel
theorem dX6_readTone_468 : decode cX6_readTone 468 = .ok (.goto 84, 3) := by decide +kernel
theorem dX6_readTone_471 : decode cX6_readTone 471 = .ok (.aload_n 0, 1) := by decide +kernel
theorem dX6_readTone_472 : decode cX6_readTone 472 = .ok (.iload_n 1, 1) := by decide +kernel
theorem dX6_readTone_473 : decode cX6_readTone 473 = .ok (.bipush 12, 2) := by decide +kernel
theorem dX6_readTone_475 : decode cX6_readTone 475 = .ok (.iload_n 2, 1) := by decide +kernel
theorem dX6_readTone_476 : decode cX6_readTone 476 = .ok (.iload_n 3, 1) := by decide +kernel
theorem dX6_readTone_477 : decode cX6_readTone 477 = .ok (.invokevirtual 430, 3) := by decide +kernel
theorem dX6_readTone_480 : decode cX6_readTone 480 = .ok (.goto 72, 3) := by decide +kernel
theorem dX6_readTone_483 : decode cX6_readTone 483 = .ok (.aload_n 0, 1) := by decide +kernel
theorem dX6_readTone_484 : decode cX6_readTone 484 = .ok (.iload_n 1, 1) := by decide +kernel
theorem dX6_readTone_485 : decode cX6_readTone 485 = .ok (.bipush 15, 2) := by decide +kernel
theorem dX6_readTone_487 : decode cX6_readTone 487 = .ok (.iload_n 2, 1) := by decide +kernel
theorem dX6_readTone_488 : decode cX6_readTone 488 = .ok (.iload_n 3, 1) := by decide +kernel
theorem dX6_readTone_489 : decode cX6_readTone 489 = .ok (.invokevirtual 430, 3) := by decide +kernel
theorem dX6_readTone_492 : decode cX6_readTone 492 = .ok (.goto 60, 3) := by decide +kernel
theorem dX6_readTone_495 : decode cX6_readTone 495 = .ok (.aload_n 0, 1) := by decide +kernel
theorem dX6_readTone_496 : decode cX6_readTone 496 = .ok (.iload_n 1, 1) := by decide +kernel
theorem dX6_readTone_497 : decode cX6_readTone 497 = .ok (.bipush 16, 2) := by decide +kernel
theorem dX6_readTone_499 : decode cX6_readTone 499 = .ok (.iload_n 2, 1) := by decide +kernel
theorem dX6_readTone_500 : decode cX6_readTone 500 = .ok (.iload_n 3, 1) := by decide +kernel
theorem dX6_readTone_501 : decode cX6_readTone 501 = .ok (.invokevirtual 430, 3) := by decide +kernel
theorem dX6_readTone_504 : decode cX6_readTone 504 = .ok (.goto 48, 3) := by decide +kernel
theorem dX6_readTone_507 : decode cX6_readTone 507 = .ok (.aload_n 0, 1) := by decide +kernel
theorem dX6_readTone_508 : decode cX6_readTone 508 = .ok (.getfield 28, 3) := by decide +kernel
theorem dX6_readTone_511 : decode cX6_readTone 511 = .ok (.getfield 85, 3) := by decide +kernel
theorem dX6_readTone_514 : decode cX6_readTone 514 = .ok (.iconst 3, 1) := by decide +kernel
theorem dX6_readTone_515 : decode cX6_readTone 515 = .ok (.if_icmp .ne 15, 3) := by decide +kernel
theorem dX6_readTone_518 : decode cX6_readTone 518 = .ok (.aload_n 0, 1) := by decide +kernel
theorem dX6_readTone_519 : decode cX6_readTone 519 = .ok (.getfield 38, 3) := by decide +kernel
theorem dX6_readTone_522 : decode cX6_readTone 522 = .ok (.iload_n 1, 1) := by decide +kernel
theorem dX6_readTone_523 : decode cX6_readTone 523 = .ok (.aload_n 0, 1) := by decide +kernel
theorem dX6_readTone_524 : decode cX6_readTone 524 = .ok (.invokevirtual 400, 3) := by decide +kernel
theorem dX6_readTone_527 : decode cX6_readTone 527 = .ok (.invokevirtual 403, 3) := by decide +kernel
theorem dX6_readTone_530 : decode cX6_readTone 530 = .ok (.aload_n 0, 1) := by decide +kernel
theorem dX6_readTone_531 : decode cX6_readTone 531 = .ok (.getfield 38, 3) := by decide +kernel
theorem dX6_readTone_534 : decode cX6_readTone 534 = .ok (.getfield 395, 3) := by decide +kernel
theorem dX6_readTone_537 : decode cX6_readTone 537 = .ok (.iload_n 1, 1) := by decide +kernel
theorem dX6_readTone_538 : decode cX6_readTone 538 = .ok (.bipush 14, 2) := by decide +kernel
theorem dX6_readTone_540 : decode cX6_readTone 540 = .ok (.iastore, 1) := by decide +kernel
theorem dX6_readTone_541 : decode cX6_readTone 541 = .ok (.aload_n 0, 1) := by decide +kernel
theorem dX6_readTone_542 : decode cX6_readTone 542 = .ok (.getfield 28, 3) := by decide +kernel
theorem dX6_readTone_545 : decode cX6_readTone 545 = .ok (.iconst 3, 1) := by decide +kernel
theorem dX6_readTone_546 : decode cX6_readTone 546 = .ok (.invokevirtual 184, 3) := by decide +kernel
theorem dX6_readTone_549 : decode cX6_readTone 549 = .ok (.goto 3, 3) := by decide +kernel
theorem dX6_readTone_552 : decode cX6_readTone 552 = .ok (.return_, 1) := by decide +kernel
theorem dX6_readTone_7 : decode cX6_readTone 7 = .ok (.istore 4, 2) := by decide +kernel
theorem dX6_readTone_9 : decode cX6_readTone 9 = .ok (.iload 4, 2) := by decide +kernel
theorem dX6_readTone_92 : decode cX6_readTone 92 = .ok (.aload_n 0, 1) := by decide +kernel
theorem dX6_readTone_93 : decode cX6_readTone 93 = .ok (.getfield 38, 3) := by decide +kernel
theorem dX6_readTone_96 : decode cX6_readTone 96 = .ok (.getfield 395, 3) := by decide +kernel
theorem dX6_readTone_99 : decode cX6_readTone 99 = .ok (.iload_n 1, 1) := by decide +kernel
abbrev RT_X6_readBase : Type := (Int32 → t_S → Option (t_S)) × (Int32 → t_S → Option (t_S)) × (Int32 → t_S → Option (Int32 × t_S)) × (Int32 → t_S → Option (t_S)) × (Int32 → t_S → Option (Int32 × t_S)) × (Int32 → Int32 → Int32 → Int32 → t_S → Option (t_S)) × (Int32 → t_S → Option (t_S)) × (Int32 → t_S → Option (t_S)) × (Int32 → Int32 → t_S → Option (Int32 × t_S)) × (Int32 → Int32 → Int32 → t_S → Option (t_S)) × (Int32 → Int32 → Int32 → Int32 → t_S → Option (t_S)) × (Int32 → Int32 → t_S → Option (t_S)) × (Int32 → Int32 → Int32 → t_S → Option (t_S)) × (Int32 → Int32 → t_S → Option (Int32 × t_S)) × (Int32 → Int32 → Int32 → t_S → Option (t_S)) × (Int32 → Int32 → Int32 → t_S → Option (t_S))
def RH_X6_readBase (rc : RT_X6_readBase) (k : Nat) : Prop := (∀ (x1 : Int32) (s : t_S) (r : t_S), rc.1 x1 s = some r → t_C yX6_readBase cX6_readBase 4 none (3 + k) [.ref 845, .int x1] s (fun v s' => v = none ∧ s' = r)) ∧ (∀ (x1 : Int32) (s : t_S) (r : t_S), rc.2.1 x1 s = some r → t_C yX6_readElements cX6_readElements 3 none (3 + k) [.ref 845, .int x1] s (fun v s' => v = none ∧ s' = r)) ∧ (∀ (x1 : Int32) (s : t_S) (r : Int32 × t_S), rc.2.2.1 x1 s = some r → t_C yX6_readExp cX6_readExp 6 (some .int) (3 + k) [.ref 845, .int x1] s (fun v s' => v = some (.int r.1) ∧ s' = r.2)) ∧ (∀ (x1 : Int32) (s : t_S) (r : t_S), rc.2.2.2.1 x1 s = some r → t_C yX6_readExpFields cX6_readExpFields 4 none (3 + k) [.ref 845, .int x1] s (fun v s' => v = none ∧ s' = r)) ∧ (∀ (x1 : Int32) (s : t_S) (r : Int32 × t_S), rc.2.2.2.2.1 x1 s = some r → t_C yX6_readExps cX6_readExps 3 (some .int) (3 + k) [.ref 845, .int x1] s (fun v s' => v = some (.int r.1) ∧ s' = r.2)) ∧ (∀ (x1 : Int32) (x2 : Int32) (x3 : Int32) (x4 : Int32) (s : t_S) (r : t_S), rc.2.2.2.2.2.1 x1 x2 x3 x4 s = some r → t_C yX6_readInner cX6_readInner 8 none (3 + k) [.ref 845, .int x1, .int x2, .int x3, .int x4] s (fun v s' => v = none ∧ s' = r)) ∧ (∀ (x1 : Int32) (s : t_S) (r : t_S), rc.2.2.2.2.2.2.1 x1 s = some r → t_C yX6_readMet cX6_readMet 2 none (3 + k) [.ref 845, .int x1] s (fun v s' => v = none ∧ s' = r)) ∧ (∀ (x1 : Int32) (s : t_S) (r : t_S), rc.2.2.2.2.2.2.2.1 x1 s = some r → t_C yX6_readOne cX6_readOne 5 none (3 + k) [.ref 845, .int x1] s (fun v s' => v = none ∧ s' = r)) ∧ (∀ (x1 : Int32) (x2 : Int32) (s : t_S) (r : Int32 × t_S), rc.2.2.2.2.2.2.2.2.1 x1 x2 s = some r → t_C yX6_readPerm cX6_readPerm 4 (some .int) (3 + k) [.ref 845, .int x1, .int x2] s (fun v s' => v = some (.int r.1) ∧ s' = r.2)) ∧ (∀ (x1 : Int32) (x2 : Int32) (x3 : Int32) (s : t_S) (r : t_S), rc.2.2.2.2.2.2.2.2.2.1 x1 x2 x3 s = some r → t_C yX6_readPieces cX6_readPieces 8 none (3 + k) [.ref 845, .int x1, .int x2, .int x3] s (fun v s' => v = none ∧ s' = r)) ∧ (∀ (x1 : Int32) (x2 : Int32) (x3 : Int32) (x4 : Int32) (s : t_S) (r : t_S), rc.2.2.2.2.2.2.2.2.2.2.1 x1 x2 x3 x4 s = some r → t_C yX6_readRow cX6_readRow 5 none (3 + k) [.ref 845, .int x1, .int x2, .int x3, .int x4] s (fun v s' => v = none ∧ s' = r)) ∧ (∀ (x1 : Int32) (x2 : Int32) (s : t_S) (r : t_S), rc.2.2.2.2.2.2.2.2.2.2.2.1 x1 x2 s = some r → t_C yX6_readSame cX6_readSame 3 none (3 + k) [.ref 845, .int x1, .int x2] s (fun v s' => v = none ∧ s' = r)) ∧ (∀ (x1 : Int32) (x2 : Int32) (x3 : Int32) (s : t_S) (r : t_S), rc.2.2.2.2.2.2.2.2.2.2.2.2.1 x1 x2 x3 s = some r → t_C yX6_readTag cX6_readTag 4 none (3 + k) [.ref 845, .int x1, .int x2, .int x3] s (fun v s' => v = none ∧ s' = r)) ∧ (∀ (x1 : Int32) (x2 : Int32) (s : t_S) (r : Int32 × t_S), rc.2.2.2.2.2.2.2.2.2.2.2.2.2.1 x1 x2 s = some r → t_C yX6_readTempl cX6_readTempl 4 (some .int) (3 + k) [.ref 845, .int x1, .int x2] s (fun v s' => v = some (.int r.1) ∧ s' = r.2)) ∧ (∀ (x1 : Int32) (x2 : Int32) (x3 : Int32) (s : t_S) (r : t_S), rc.2.2.2.2.2.2.2.2.2.2.2.2.2.2.1 x1 x2 x3 s = some r → t_C yX6_readTemplFields cX6_readTemplFields 7 none (3 + k) [.ref 845, .int x1, .int x2, .int x3] s (fun v s' => v = none ∧ s' = r)) ∧ (∀ (x1 : Int32) (x2 : Int32) (x3 : Int32) (s : t_S) (r : t_S), rc.2.2.2.2.2.2.2.2.2.2.2.2.2.2.2 x1 x2 x3 s = some r → t_C yX6_readTone cX6_readTone 5 none (3 + k) [.ref 845, .int x1, .int x2, .int x3] s (fun v s' => v = none ∧ s' = r))
noncomputable def k_X6_readBase_326 (rc : RT_X6_readBase) (l1 : Int32) (l2 : Int32) (s : t_S) : Option (t_S) :=
 (f_X2_advance s).bind (fun r1 =>
 if l2.toInt = 40 then ((rc.2.2.1 (l1 + (1 : Int32)) r1).bind (fun r2 =>
 (f_X2_need (41 : Int32) r2.2).bind (fun r3 =>
 some (r3))))
 else if l2.toInt = 91 then ((rc.2.1 l1 r1).bind (fun r4 =>
 some (r4)))
 else if l2.toInt = 123 then ((rc.2.2.2.1 l1 r1).bind (fun r5 =>
 some (r5)))
 else if l2.toInt = 234 then ((rc.2.2.2.2.2.2.1 l1 r1).bind (fun r6 =>
 some (r6)))
 else if l2.toInt = 235 then ((f_X2_need (40 : Int32) r1).bind (fun r7 =>
 (rc.2.2.1 (l1 + (1 : Int32)) r7).bind (fun r8 =>
 (f_X2_need (41 : Int32) r8.2).bind (fun r9 =>
 (f_X0_emit (9 : Int32) (0 : Int32) r9).bind (fun r10 =>
 some (r10.2))))))
 else if l2.toInt = 236 then ((f_X0_emit (8 : Int32) (0 : Int32) r1).bind (fun r11 =>
 (f_X6_link (7 : Int32) r11.1 (0 : Int32) r11.2).bind (fun r12 =>
 some (r12))))
 else (some (r1)))
set_option maxRecDepth 4000 in
set_option maxHeartbeats 1000000 in
theorem B_X6_readBase_326 {D : va_G} {cy : Nat → ClassId} {ad : Nat → Nat} {bs : Nat} {X : State → Heap → Prop} (rc : RT_X6_readBase) {k : Nat} (H : RH_X6_readBase rc k) (l1 : Int32) (l2 : Int32) (s : t_S) (Q : t_S → Prop) (hk : t_hk (k_X6_readBase_326 rc l1 l2 s) Q) : mj_G D cy ad bs X cX6_readBase 4 yX6_readBase.cls none yX6_readBase.name (3 + (k + 1)) 0 0 1065 (t_P (fun v s' => v = none ∧ Q (s'))) 326 [(0, .ref 845), (1, .int l1), (2, .int l2)] [] (t_m s) 1065 0 0 := by
  refine mj_aload_n dX6_readBase_326 0 rfl ?_
  refine t_getR 1 dX6_readBase_327 F_X6_28 qr_845_0 ?_
  refine t_bndK hk (fun r1 er1 hk => ?_)
  refine t_callVvE dX6_readBase_330 M_X2_advance (C_X2_advance _ _ er1) ML_X6_170 IM_X2_advance SE_X2_advance qc_1 rfl (As := []) rfl rfl (by omega) (Nat.le_of_ble_eq_true rfl) (Nat.le_of_ble_eq_true rfl) (Nat.le_of_ble_eq_true rfl) ?_
  refine mj_iload_n dX6_readBase_333 2 rfl ?_
  by_cases h0 : l2.toInt = 40
  · replace hk := t_pos hk h0
    refine mj_lookup 408 dX6_readBase_334 (by decide) (by rw [h0] <;> rfl) (by decide) ?_
    refine mj_aload_n dX6_readBase_408 0 rfl ?_
    refine mj_iload_n dX6_readBase_409 1 rfl ?_
    refine mj_iconst (v := 1) dX6_readBase_410 (by decide) ?_
    refine mj_iadd dX6_readBase_411 ?_
    refine t_bndK hk (fun r2 er2 hk => ?_)
    refine t_callViE dX6_readBase_412 M_X6_readExp (H.2.2.1 _ _ _ er2) ML_X6_120 IM_X6_readExp SE_X6_readExp qc_845 rfl (As := [.int (l1 + (1 : Int32))]) rfl rfl (by omega) (Nat.le_of_ble_eq_true rfl) (Nat.le_of_ble_eq_true rfl) (Nat.le_of_ble_eq_true rfl) ?_
    refine mj_pop dX6_readBase_415 rfl ?_
    refine mj_aload_n dX6_readBase_416 0 rfl ?_
    refine t_getR 1 dX6_readBase_417 F_X6_28 qr_845_0 ?_
    refine mj_bipush (v := 41) dX6_readBase_420 (by decide) ?_
    refine t_bndK hk (fun r3 er3 hk => ?_)
    refine t_callVvE dX6_readBase_422 M_X2_need (C_X2_need _ _ _ er3) ML_X6_184 IM_X2_need SE_X2_need qc_1 rfl (As := [.int 41]) rfl rfl (by omega) (Nat.le_of_ble_eq_true rfl) (Nat.le_of_ble_eq_true rfl) (Nat.le_of_ble_eq_true rfl) ?_
    refine mj_goto 496 dX6_readBase_425 (by decide) ?_
    exact t_somK hk (fun hf => t_vret dX6_readBase_496 rfl ⟨rfl, hf⟩ (Nat.le_of_ble_eq_true rfl) (Nat.le_of_ble_eq_true rfl))
  replace hk := t_neg hk h0
  by_cases h1 : l2.toInt = 91
  · replace hk := t_pos hk h1
    refine mj_lookup 400 dX6_readBase_334 (by decide) (by rw [h1] <;> rfl) (by decide) ?_
    refine mj_aload_n dX6_readBase_400 0 rfl ?_
    refine mj_iload_n dX6_readBase_401 1 rfl ?_
    refine t_bndK hk (fun r4 er4 hk => ?_)
    refine t_callVvE dX6_readBase_402 M_X6_readElements (H.2.1 _ _ _ er4) ML_X6_506 IM_X6_readElements SE_X6_readElements qc_845 rfl (As := [.int l1]) rfl rfl (by omega) (Nat.le_of_ble_eq_true rfl) (Nat.le_of_ble_eq_true rfl) (Nat.le_of_ble_eq_true rfl) ?_
    refine mj_goto 496 dX6_readBase_405 (by decide) ?_
    exact t_somK hk (fun hf => t_vret dX6_readBase_496 rfl ⟨rfl, hf⟩ (Nat.le_of_ble_eq_true rfl) (Nat.le_of_ble_eq_true rfl))
  replace hk := t_neg hk h1
  by_cases h2 : l2.toInt = 123
  · replace hk := t_pos hk h2
    refine mj_lookup 392 dX6_readBase_334 (by decide) (by rw [h2] <;> rfl) (by decide) ?_
    refine mj_aload_n dX6_readBase_392 0 rfl ?_
    refine mj_iload_n dX6_readBase_393 1 rfl ?_
    refine t_bndK hk (fun r5 er5 hk => ?_)
    refine t_callVvE dX6_readBase_394 M_X6_readExpFields (H.2.2.2.1 _ _ _ er5) ML_X6_503 IM_X6_readExpFields SE_X6_readExpFields qc_845 rfl (As := [.int l1]) rfl rfl (by omega) (Nat.le_of_ble_eq_true rfl) (Nat.le_of_ble_eq_true rfl) (Nat.le_of_ble_eq_true rfl) ?_
    refine mj_goto 496 dX6_readBase_397 (by decide) ?_
    exact t_somK hk (fun hf => t_vret dX6_readBase_496 rfl ⟨rfl, hf⟩ (Nat.le_of_ble_eq_true rfl) (Nat.le_of_ble_eq_true rfl))
  replace hk := t_neg hk h2
  by_cases h3 : l2.toInt = 234
  · replace hk := t_pos hk h3
    refine mj_lookup 428 dX6_readBase_334 (by decide) (by rw [h3] <;> rfl) (by decide) ?_
    refine mj_aload_n dX6_readBase_428 0 rfl ?_
    refine mj_iload_n dX6_readBase_429 1 rfl ?_
    refine t_bndK hk (fun r6 er6 hk => ?_)
    refine t_callVvE dX6_readBase_430 M_X6_readMet (H.2.2.2.2.2.2.1 _ _ _ er6) ML_X6_509 IM_X6_readMet SE_X6_readMet qc_845 rfl (As := [.int l1]) rfl rfl (by omega) (Nat.le_of_ble_eq_true rfl) (Nat.le_of_ble_eq_true rfl) (Nat.le_of_ble_eq_true rfl) ?_
    refine mj_goto 496 dX6_readBase_433 (by decide) ?_
    exact t_somK hk (fun hf => t_vret dX6_readBase_496 rfl ⟨rfl, hf⟩ (Nat.le_of_ble_eq_true rfl) (Nat.le_of_ble_eq_true rfl))
  replace hk := t_neg hk h3
  by_cases h4 : l2.toInt = 235
  · replace hk := t_pos hk h4
    refine mj_lookup 436 dX6_readBase_334 (by decide) (by rw [h4] <;> rfl) (by decide) ?_
    refine mj_aload_n dX6_readBase_436 0 rfl ?_
    refine t_getR 1 dX6_readBase_437 F_X6_28 qr_845_0 ?_
    refine mj_bipush (v := 40) dX6_readBase_440 (by decide) ?_
    refine t_bndK hk (fun r7 er7 hk => ?_)
    refine t_callVvE dX6_readBase_442 M_X2_need (C_X2_need _ _ _ er7) ML_X6_184 IM_X2_need SE_X2_need qc_1 rfl (As := [.int 40]) rfl rfl (by omega) (Nat.le_of_ble_eq_true rfl) (Nat.le_of_ble_eq_true rfl) (Nat.le_of_ble_eq_true rfl) ?_
    refine mj_aload_n dX6_readBase_445 0 rfl ?_
    refine mj_iload_n dX6_readBase_446 1 rfl ?_
    refine mj_iconst (v := 1) dX6_readBase_447 (by decide) ?_
    refine mj_iadd dX6_readBase_448 ?_
    refine t_bndK hk (fun r8 er8 hk => ?_)
    refine t_callViE dX6_readBase_449 M_X6_readExp (H.2.2.1 _ _ _ er8) ML_X6_120 IM_X6_readExp SE_X6_readExp qc_845 rfl (As := [.int (l1 + (1 : Int32))]) rfl rfl (by omega) (Nat.le_of_ble_eq_true rfl) (Nat.le_of_ble_eq_true rfl) (Nat.le_of_ble_eq_true rfl) ?_
    refine mj_pop dX6_readBase_452 rfl ?_
    refine mj_aload_n dX6_readBase_453 0 rfl ?_
    refine t_getR 1 dX6_readBase_454 F_X6_28 qr_845_0 ?_
    refine mj_bipush (v := 41) dX6_readBase_457 (by decide) ?_
    refine t_bndK hk (fun r9 er9 hk => ?_)
    refine t_callVvE dX6_readBase_459 M_X2_need (C_X2_need _ _ _ er9) ML_X6_184 IM_X2_need SE_X2_need qc_1 rfl (As := [.int 41]) rfl rfl (by omega) (Nat.le_of_ble_eq_true rfl) (Nat.le_of_ble_eq_true rfl) (Nat.le_of_ble_eq_true rfl) ?_
    refine mj_aload_n dX6_readBase_462 0 rfl ?_
    refine t_getR 334 dX6_readBase_463 F_X6_43 qr_845_3 ?_
    refine mj_bipush (v := 9) dX6_readBase_466 (by decide) ?_
    refine mj_iconst (v := 0) dX6_readBase_468 (by decide) ?_
    refine t_bndK hk (fun r10 er10 hk => ?_)
    refine t_callViE dX6_readBase_469 M_X0_emit (C_X0_emit _ _ _ _ er10) ML_X6_202 IM_X0_emit SE_X0_emit qc_334 rfl (As := [.int 9, .int 0]) rfl rfl (by omega) (Nat.le_of_ble_eq_true rfl) (Nat.le_of_ble_eq_true rfl) (Nat.le_of_ble_eq_true rfl) ?_
    refine mj_pop dX6_readBase_472 rfl ?_
    refine mj_goto 496 dX6_readBase_473 (by decide) ?_
    exact t_somK hk (fun hf => t_vret dX6_readBase_496 rfl ⟨rfl, hf⟩ (Nat.le_of_ble_eq_true rfl) (Nat.le_of_ble_eq_true rfl))
  replace hk := t_neg hk h4
  by_cases h5 : l2.toInt = 236
  · replace hk := t_pos hk h5
    refine mj_lookup 476 dX6_readBase_334 (by decide) (by rw [h5] <;> rfl) (by decide) ?_
    refine mj_aload_n dX6_readBase_476 0 rfl ?_
    refine mj_bipush (v := 7) dX6_readBase_477 (by decide) ?_
    refine mj_aload_n dX6_readBase_479 0 rfl ?_
    refine t_getR 334 dX6_readBase_480 F_X6_43 qr_845_3 ?_
    refine mj_bipush (v := 8) dX6_readBase_483 (by decide) ?_
    refine mj_iconst (v := 0) dX6_readBase_485 (by decide) ?_
    refine t_bndK hk (fun r11 er11 hk => ?_)
    refine t_callViE dX6_readBase_486 M_X0_emit (C_X0_emit _ _ _ _ er11) ML_X6_202 IM_X0_emit SE_X0_emit qc_334 rfl (As := [.int 8, .int 0]) rfl rfl (by omega) (Nat.le_of_ble_eq_true rfl) (Nat.le_of_ble_eq_true rfl) (Nat.le_of_ble_eq_true rfl) ?_
    refine mj_iconst (v := 0) dX6_readBase_489 (by decide) ?_
    refine t_bndK hk (fun r12 er12 hk => ?_)
    refine t_callVvE dX6_readBase_490 M_X6_link (C_X6_link _ _ _ _ _ er12) ML_X6_250 IM_X6_link SE_X6_link qc_845 rfl (As := [.int 7, .int r11.1, .int 0]) rfl rfl (by omega) (Nat.le_of_ble_eq_true rfl) (Nat.le_of_ble_eq_true rfl) (Nat.le_of_ble_eq_true rfl) ?_
    refine mj_goto 496 dX6_readBase_493 (by decide) ?_
    exact t_somK hk (fun hf => t_vret dX6_readBase_496 rfl ⟨rfl, hf⟩ (Nat.le_of_ble_eq_true rfl) (Nat.le_of_ble_eq_true rfl))
  replace hk := t_neg hk h5
  refine mj_lookup 496 dX6_readBase_334 (by decide) (t_lk0 _ (And.intro h0 (And.intro h1 (And.intro h2 (And.intro h3 (And.intro h4 (And.intro h5 trivial))))))) (by decide) ?_
  exact t_somK hk (fun hf => t_vret dX6_readBase_496 rfl ⟨rfl, hf⟩ (Nat.le_of_ble_eq_true rfl) (Nat.le_of_ble_eq_true rfl))
noncomputable def k_X6_readBase_82 (rc : RT_X6_readBase) (l1 : Int32) (l2 : Int32) (s : t_S) : Option (t_S) :=
 if l2.toInt = 1 then ((f_X6_emitWord s).bind (fun r1 =>
 k_X6_readBase_326 rc l1 l2 r1))
 else if l2.toInt = 2 then ((f_X0_poolCell (f_X8_plainCell (0 : Int32) (s.2.1 1 10) s) s).bind (fun r3 =>
 (f_X0_emit (1 : Int32) r3.1 r3.2).bind (fun r4 =>
 k_X6_readBase_326 rc l1 l2 r4.2)))
 else if l2.toInt = 3 then ((f_X6_poolText s).bind (fun r5 =>
 (f_X0_emit (1 : Int32) r5.1 r5.2).bind (fun r6 =>
 k_X6_readBase_326 rc l1 l2 r6.2)))
 else if l2.toInt = 221 then ((f_X0_poolCell (f_X0_truth (1 : Int32) s) s).bind (fun r8 =>
 (f_X0_emit (1 : Int32) r8.1 r8.2).bind (fun r9 =>
 k_X6_readBase_326 rc l1 l2 r9.2)))
 else if l2.toInt = 222 then ((f_X0_poolCell (f_X0_truth (0 : Int32) s) s).bind (fun r11 =>
 (f_X0_emit (1 : Int32) r11.1 r11.2).bind (fun r12 =>
 k_X6_readBase_326 rc l1 l2 r12.2)))
 else if l2.toInt = 223 then ((f_X0_poolCell (20 : Int64) s).bind (fun r13 =>
 (f_X0_emit (1 : Int32) r13.1 r13.2).bind (fun r14 =>
 k_X6_readBase_326 rc l1 l2 r14.2)))
 else if l2.toInt = 231 then ((f_X0_emit (5 : Int32) (0 : Int32) s).bind (fun r15 =>
 k_X6_readBase_326 rc l1 l2 r15.2))
 else if l2.toInt = 232 then ((f_X0_emit (6 : Int32) (0 : Int32) s).bind (fun r16 =>
 k_X6_readBase_326 rc l1 l2 r16.2))
 else if l2.toInt = 233 then ((f_X0_emit (7 : Int32) (0 : Int32) s).bind (fun r17 =>
 k_X6_readBase_326 rc l1 l2 r17.2))
 else (k_X6_readBase_326 rc l1 l2 s)
set_option maxRecDepth 4000 in
set_option maxHeartbeats 1000000 in
theorem B_X6_readBase_82 {D : va_G} {cy : Nat → ClassId} {ad : Nat → Nat} {bs : Nat} {X : State → Heap → Prop} (rc : RT_X6_readBase) {k : Nat} (H : RH_X6_readBase rc k) (l1 : Int32) (l2 : Int32) (s : t_S) (Q : t_S → Prop) (hk : t_hk (k_X6_readBase_82 rc l1 l2 s) Q) : mj_G D cy ad bs X cX6_readBase 4 yX6_readBase.cls none yX6_readBase.name (3 + (k + 1)) 0 0 1065 (t_P (fun v s' => v = none ∧ Q (s'))) 82 [(0, .ref 845), (1, .int l1), (2, .int l2)] [] (t_m s) 1065 0 0 := by
  refine mj_iload_n dX6_readBase_82 2 rfl ?_
  by_cases h0 : l2.toInt = 1
  · replace hk := t_pos hk h0
    refine mj_lookup 319 dX6_readBase_83 (by decide) (by rw [h0] <;> rfl) (by decide) ?_
    refine mj_aload_n dX6_readBase_319 0 rfl ?_
    refine t_bndK hk (fun r1 er1 hk => ?_)
    refine t_callVvE dX6_readBase_320 M_X6_emitWord (C_X6_emitWord _ _ er1) ML_X6_500 IM_X6_emitWord SE_X6_emitWord qc_845 rfl (As := []) rfl rfl (by omega) (Nat.le_of_ble_eq_true rfl) (Nat.le_of_ble_eq_true rfl) (Nat.le_of_ble_eq_true rfl) ?_
    refine mj_goto 326 dX6_readBase_323 (by decide) ?_
    exact B_X6_readBase_326 rc H _ _ _ _ hk
  replace hk := t_neg hk h0
  by_cases h1 : l2.toInt = 2
  · replace hk := t_pos hk h1
    refine mj_lookup 164 dX6_readBase_83 (by decide) (by rw [h1] <;> rfl) (by decide) ?_
    refine mj_aload_n dX6_readBase_164 0 rfl ?_
    refine t_getR 334 dX6_readBase_165 F_X6_43 qr_845_3 ?_
    refine mj_iconst (v := 1) dX6_readBase_168 (by decide) ?_
    refine mj_aload_n dX6_readBase_169 0 rfl ?_
    refine t_getR 334 dX6_readBase_170 F_X6_43 qr_845_3 ?_
    refine mj_iconst (v := 0) dX6_readBase_173 (by decide) ?_
    refine mj_aload_n dX6_readBase_174 0 rfl ?_
    refine t_getR 1 dX6_readBase_175 F_X6_28 qr_845_0 ?_
    refine t_getJ dX6_readBase_178 F_X6_338 qf_1_10 ?_
    refine t_callSlP dX6_readBase_181 M_X8_plainCell (C_X8_plainCell _ _ _) ML_X6_494 SM_X8_plainCell (As := [.int 0, .long (s.2.1 1 10)]) rfl rfl (by omega) (Nat.le_of_ble_eq_true rfl) (Nat.le_of_ble_eq_true rfl) (Nat.le_of_ble_eq_true rfl) ?_
    refine t_bndK hk (fun r3 er3 hk => ?_)
    refine t_callViE dX6_readBase_184 M_X0_poolCell (C_X0_poolCell _ _ _ er3) ML_X6_410 IM_X0_poolCell SE_X0_poolCell qc_334 rfl (As := [.long (f_X8_plainCell (0 : Int32) (s.2.1 1 10) s)]) rfl rfl (by omega) (Nat.le_of_ble_eq_true rfl) (Nat.le_of_ble_eq_true rfl) (Nat.le_of_ble_eq_true rfl) ?_
    refine t_bndK hk (fun r4 er4 hk => ?_)
    refine t_callViE dX6_readBase_187 M_X0_emit (C_X0_emit _ _ _ _ er4) ML_X6_202 IM_X0_emit SE_X0_emit qc_334 rfl (As := [.int 1, .int r3.1]) rfl rfl (by omega) (Nat.le_of_ble_eq_true rfl) (Nat.le_of_ble_eq_true rfl) (Nat.le_of_ble_eq_true rfl) ?_
    refine mj_pop dX6_readBase_190 rfl ?_
    refine mj_goto 326 dX6_readBase_191 (by decide) ?_
    exact B_X6_readBase_326 rc H _ _ _ _ hk
  replace hk := t_neg hk h1
  by_cases h2 : l2.toInt = 3
  · replace hk := t_pos hk h2
    refine mj_lookup 240 dX6_readBase_83 (by decide) (by rw [h2] <;> rfl) (by decide) ?_
    refine mj_aload_n dX6_readBase_240 0 rfl ?_
    refine t_getR 334 dX6_readBase_241 F_X6_43 qr_845_3 ?_
    refine mj_iconst (v := 1) dX6_readBase_244 (by decide) ?_
    refine mj_aload_n dX6_readBase_245 0 rfl ?_
    refine t_bndK hk (fun r5 er5 hk => ?_)
    refine t_callViE dX6_readBase_246 M_X6_poolText (C_X6_poolText _ _ er5) ML_X6_400 IM_X6_poolText SE_X6_poolText qc_845 rfl (As := []) rfl rfl (by omega) (Nat.le_of_ble_eq_true rfl) (Nat.le_of_ble_eq_true rfl) (Nat.le_of_ble_eq_true rfl) ?_
    refine t_bndK hk (fun r6 er6 hk => ?_)
    refine t_callViE dX6_readBase_249 M_X0_emit (C_X0_emit _ _ _ _ er6) ML_X6_202 IM_X0_emit SE_X0_emit qc_334 rfl (As := [.int 1, .int r5.1]) rfl rfl (by omega) (Nat.le_of_ble_eq_true rfl) (Nat.le_of_ble_eq_true rfl) (Nat.le_of_ble_eq_true rfl) ?_
    refine mj_pop dX6_readBase_252 rfl ?_
    refine mj_goto 326 dX6_readBase_253 (by decide) ?_
    exact B_X6_readBase_326 rc H _ _ _ _ hk
  replace hk := t_neg hk h2
  by_cases h3 : l2.toInt = 221
  · replace hk := t_pos hk h3
    refine mj_lookup 194 dX6_readBase_83 (by decide) (by rw [h3] <;> rfl) (by decide) ?_
    refine mj_aload_n dX6_readBase_194 0 rfl ?_
    refine t_getR 334 dX6_readBase_195 F_X6_43 qr_845_3 ?_
    refine mj_iconst (v := 1) dX6_readBase_198 (by decide) ?_
    refine mj_aload_n dX6_readBase_199 0 rfl ?_
    refine t_getR 334 dX6_readBase_200 F_X6_43 qr_845_3 ?_
    refine mj_iconst (v := 1) dX6_readBase_203 (by decide) ?_
    refine t_callSlP dX6_readBase_204 M_X0_truth (C_X0_truth _ _) ML_X6_406 SM_X0_truth (As := [.int 1]) rfl rfl (by omega) (Nat.le_of_ble_eq_true rfl) (Nat.le_of_ble_eq_true rfl) (Nat.le_of_ble_eq_true rfl) ?_
    refine t_bndK hk (fun r8 er8 hk => ?_)
    refine t_callViE dX6_readBase_207 M_X0_poolCell (C_X0_poolCell _ _ _ er8) ML_X6_410 IM_X0_poolCell SE_X0_poolCell qc_334 rfl (As := [.long (f_X0_truth (1 : Int32) s)]) rfl rfl (by omega) (Nat.le_of_ble_eq_true rfl) (Nat.le_of_ble_eq_true rfl) (Nat.le_of_ble_eq_true rfl) ?_
    refine t_bndK hk (fun r9 er9 hk => ?_)
    refine t_callViE dX6_readBase_210 M_X0_emit (C_X0_emit _ _ _ _ er9) ML_X6_202 IM_X0_emit SE_X0_emit qc_334 rfl (As := [.int 1, .int r8.1]) rfl rfl (by omega) (Nat.le_of_ble_eq_true rfl) (Nat.le_of_ble_eq_true rfl) (Nat.le_of_ble_eq_true rfl) ?_
    refine mj_pop dX6_readBase_213 rfl ?_
    refine mj_goto 326 dX6_readBase_214 (by decide) ?_
    exact B_X6_readBase_326 rc H _ _ _ _ hk
  replace hk := t_neg hk h3
  by_cases h4 : l2.toInt = 222
  · replace hk := t_pos hk h4
    refine mj_lookup 217 dX6_readBase_83 (by decide) (by rw [h4] <;> rfl) (by decide) ?_
    refine mj_aload_n dX6_readBase_217 0 rfl ?_
    refine t_getR 334 dX6_readBase_218 F_X6_43 qr_845_3 ?_
    refine mj_iconst (v := 1) dX6_readBase_221 (by decide) ?_
    refine mj_aload_n dX6_readBase_222 0 rfl ?_
    refine t_getR 334 dX6_readBase_223 F_X6_43 qr_845_3 ?_
    refine mj_iconst (v := 0) dX6_readBase_226 (by decide) ?_
    refine t_callSlP dX6_readBase_227 M_X0_truth (C_X0_truth _ _) ML_X6_406 SM_X0_truth (As := [.int 0]) rfl rfl (by omega) (Nat.le_of_ble_eq_true rfl) (Nat.le_of_ble_eq_true rfl) (Nat.le_of_ble_eq_true rfl) ?_
    refine t_bndK hk (fun r11 er11 hk => ?_)
    refine t_callViE dX6_readBase_230 M_X0_poolCell (C_X0_poolCell _ _ _ er11) ML_X6_410 IM_X0_poolCell SE_X0_poolCell qc_334 rfl (As := [.long (f_X0_truth (0 : Int32) s)]) rfl rfl (by omega) (Nat.le_of_ble_eq_true rfl) (Nat.le_of_ble_eq_true rfl) (Nat.le_of_ble_eq_true rfl) ?_
    refine t_bndK hk (fun r12 er12 hk => ?_)
    refine t_callViE dX6_readBase_233 M_X0_emit (C_X0_emit _ _ _ _ er12) ML_X6_202 IM_X0_emit SE_X0_emit qc_334 rfl (As := [.int 1, .int r11.1]) rfl rfl (by omega) (Nat.le_of_ble_eq_true rfl) (Nat.le_of_ble_eq_true rfl) (Nat.le_of_ble_eq_true rfl) ?_
    refine mj_pop dX6_readBase_236 rfl ?_
    refine mj_goto 326 dX6_readBase_237 (by decide) ?_
    exact B_X6_readBase_326 rc H _ _ _ _ hk
  replace hk := t_neg hk h4
  by_cases h5 : l2.toInt = 223
  · replace hk := t_pos hk h5
    refine mj_lookup 256 dX6_readBase_83 (by decide) (by rw [h5] <;> rfl) (by decide) ?_
    refine mj_aload_n dX6_readBase_256 0 rfl ?_
    refine t_getR 334 dX6_readBase_257 F_X6_43 qr_845_3 ?_
    refine mj_iconst (v := 1) dX6_readBase_260 (by decide) ?_
    refine mj_aload_n dX6_readBase_261 0 rfl ?_
    refine t_getR 334 dX6_readBase_262 F_X6_43 qr_845_3 ?_
    refine mj_ldc2 dX6_readBase_265 K_X6_498 ?_
    refine t_bndK hk (fun r13 er13 hk => ?_)
    refine t_callViE dX6_readBase_268 M_X0_poolCell (C_X0_poolCell _ _ _ er13) ML_X6_410 IM_X0_poolCell SE_X0_poolCell qc_334 rfl (As := [.long 20]) rfl rfl (by omega) (Nat.le_of_ble_eq_true rfl) (Nat.le_of_ble_eq_true rfl) (Nat.le_of_ble_eq_true rfl) ?_
    refine t_bndK hk (fun r14 er14 hk => ?_)
    refine t_callViE dX6_readBase_271 M_X0_emit (C_X0_emit _ _ _ _ er14) ML_X6_202 IM_X0_emit SE_X0_emit qc_334 rfl (As := [.int 1, .int r13.1]) rfl rfl (by omega) (Nat.le_of_ble_eq_true rfl) (Nat.le_of_ble_eq_true rfl) (Nat.le_of_ble_eq_true rfl) ?_
    refine mj_pop dX6_readBase_274 rfl ?_
    refine mj_goto 326 dX6_readBase_275 (by decide) ?_
    exact B_X6_readBase_326 rc H _ _ _ _ hk
  replace hk := t_neg hk h5
  by_cases h6 : l2.toInt = 231
  · replace hk := t_pos hk h6
    refine mj_lookup 278 dX6_readBase_83 (by decide) (by rw [h6] <;> rfl) (by decide) ?_
    refine mj_aload_n dX6_readBase_278 0 rfl ?_
    refine t_getR 334 dX6_readBase_279 F_X6_43 qr_845_3 ?_
    refine mj_iconst (v := 5) dX6_readBase_282 (by decide) ?_
    refine mj_iconst (v := 0) dX6_readBase_283 (by decide) ?_
    refine t_bndK hk (fun r15 er15 hk => ?_)
    refine t_callViE dX6_readBase_284 M_X0_emit (C_X0_emit _ _ _ _ er15) ML_X6_202 IM_X0_emit SE_X0_emit qc_334 rfl (As := [.int 5, .int 0]) rfl rfl (by omega) (Nat.le_of_ble_eq_true rfl) (Nat.le_of_ble_eq_true rfl) (Nat.le_of_ble_eq_true rfl) ?_
    refine mj_pop dX6_readBase_287 rfl ?_
    refine mj_goto 326 dX6_readBase_288 (by decide) ?_
    exact B_X6_readBase_326 rc H _ _ _ _ hk
  replace hk := t_neg hk h6
  by_cases h7 : l2.toInt = 232
  · replace hk := t_pos hk h7
    refine mj_lookup 291 dX6_readBase_83 (by decide) (by rw [h7] <;> rfl) (by decide) ?_
    refine mj_aload_n dX6_readBase_291 0 rfl ?_
    refine t_getR 334 dX6_readBase_292 F_X6_43 qr_845_3 ?_
    refine mj_bipush (v := 6) dX6_readBase_295 (by decide) ?_
    refine mj_iconst (v := 0) dX6_readBase_297 (by decide) ?_
    refine t_bndK hk (fun r16 er16 hk => ?_)
    refine t_callViE dX6_readBase_298 M_X0_emit (C_X0_emit _ _ _ _ er16) ML_X6_202 IM_X0_emit SE_X0_emit qc_334 rfl (As := [.int 6, .int 0]) rfl rfl (by omega) (Nat.le_of_ble_eq_true rfl) (Nat.le_of_ble_eq_true rfl) (Nat.le_of_ble_eq_true rfl) ?_
    refine mj_pop dX6_readBase_301 rfl ?_
    refine mj_goto 326 dX6_readBase_302 (by decide) ?_
    exact B_X6_readBase_326 rc H _ _ _ _ hk
  replace hk := t_neg hk h7
  by_cases h8 : l2.toInt = 233
  · replace hk := t_pos hk h8
    refine mj_lookup 305 dX6_readBase_83 (by decide) (by rw [h8] <;> rfl) (by decide) ?_
    refine mj_aload_n dX6_readBase_305 0 rfl ?_
    refine t_getR 334 dX6_readBase_306 F_X6_43 qr_845_3 ?_
    refine mj_bipush (v := 7) dX6_readBase_309 (by decide) ?_
    refine mj_iconst (v := 0) dX6_readBase_311 (by decide) ?_
    refine t_bndK hk (fun r17 er17 hk => ?_)
    refine t_callViE dX6_readBase_312 M_X0_emit (C_X0_emit _ _ _ _ er17) ML_X6_202 IM_X0_emit SE_X0_emit qc_334 rfl (As := [.int 7, .int 0]) rfl rfl (by omega) (Nat.le_of_ble_eq_true rfl) (Nat.le_of_ble_eq_true rfl) (Nat.le_of_ble_eq_true rfl) ?_
    refine mj_pop dX6_readBase_315 rfl ?_
    refine mj_goto 326 dX6_readBase_316 (by decide) ?_
    exact B_X6_readBase_326 rc H _ _ _ _ hk
  replace hk := t_neg hk h8
  refine mj_lookup 326 dX6_readBase_83 (by decide) (t_lk0 _ (And.intro h0 (And.intro h1 (And.intro h2 (And.intro h3 (And.intro h4 (And.intro h5 (And.intro h6 (And.intro h7 (And.intro h8 trivial)))))))))) (by decide) ?_
  exact B_X6_readBase_326 rc H _ _ _ _ hk
noncomputable def k_X6_readBase_55 (rc : RT_X6_readBase) (l1 : Int32) (l2 : Int32) (k0 : Int32) (s : t_S) : Option (t_S) :=
 if (s.1 845 15) = (0 : Int32) then (k_X6_readBase_82 rc l1 l2 s)
 else (if k0 = (0 : Int32) then (k_X6_readBase_82 rc l1 l2 s)
 else ((f_X3_late (4 : Int32) (s.1 1 9) s).bind (fun r1 =>
 k_X6_readBase_82 rc l1 l2 r1)))
set_option maxRecDepth 4000 in
set_option maxHeartbeats 1000000 in
theorem B_X6_readBase_55 {D : va_G} {cy : Nat → ClassId} {ad : Nat → Nat} {bs : Nat} {X : State → Heap → Prop} (rc : RT_X6_readBase) {k : Nat} (H : RH_X6_readBase rc k) (l1 : Int32) (l2 : Int32) (k0 : Int32) (s : t_S) (Q : t_S → Prop) (hk : t_hk (k_X6_readBase_55 rc l1 l2 k0 s) Q) : mj_G D cy ad bs X cX6_readBase 4 yX6_readBase.cls none yX6_readBase.name (3 + (k + 1)) 0 0 1065 (t_P (fun v s' => v = none ∧ Q (s'))) 55 [(0, .ref 845), (1, .int l1), (2, .int l2)] [.int k0] (t_m s) 1065 0 0 := by
  refine mj_istore_n 3 (lv2 := [(3, .int k0), (0, .ref 845), (1, .int l1), (2, .int l2)]) dX6_readBase_55 rfl (by decide) rfl ?_
  refine mj_aload_n dX6_readBase_56 1 rfl ?_
  refine t_getI dX6_readBase_57 F_X6_116 qf_845_15 ?_
  refine mj_if_eq 82 dX6_readBase_60 (by decide) (fun z => t_posK hk z (fun hk => ?_)) (fun z => t_negK hk z (fun hk => ?_))
  · refine mj_sublv [(0, .ref 845), (1, .int l1), (2, .int l2)] [1, 2, 3] rfl ?_
    exact B_X6_readBase_82 rc H _ _ _ _ hk
  · refine mj_iload_n dX6_readBase_63 0 rfl ?_
    refine mj_if_eq 82 dX6_readBase_64 (by decide) (fun z => t_posK hk z (fun hk => ?_)) (fun z => t_negK hk z (fun hk => ?_))
    · refine mj_sublv [(0, .ref 845), (1, .int l1), (2, .int l2)] [1, 2, 3] rfl ?_
      exact B_X6_readBase_82 rc H _ _ _ _ hk
    · refine mj_aload_n dX6_readBase_67 1 rfl ?_
      refine t_getR 846 dX6_readBase_68 F_X6_18 qr_845_5 ?_
      refine mj_iconst (v := 4) dX6_readBase_71 (by decide) ?_
      refine mj_aload_n dX6_readBase_72 1 rfl ?_
      refine t_getR 1 dX6_readBase_73 F_X6_28 qr_845_0 ?_
      refine t_getI dX6_readBase_76 F_X6_183 qf_1_9 ?_
      refine t_bndK hk (fun r1 er1 hk => ?_)
      refine t_callVvE dX6_readBase_79 M_X3_late (C_X3_late _ _ _ _ er1) ML_X6_491 IM_X3_late SE_X3_late qc_846 rfl (As := [.int 4, .int (s.1 1 9)]) rfl rfl (by omega) (Nat.le_of_ble_eq_true rfl) (Nat.le_of_ble_eq_true rfl) (Nat.le_of_ble_eq_true rfl) ?_
      refine mj_sublv [(0, .ref 845), (1, .int l1), (2, .int l2)] [1, 2, 3] rfl ?_
      exact B_X6_readBase_82 rc H _ _ _ _ hk
noncomputable def k_X6_readBase_50 (rc : RT_X6_readBase) (l1 : Int32) (l2 : Int32) (s : t_S) : Option (t_S) :=
 k_X6_readBase_55 rc l1 l2 1 s
set_option maxRecDepth 4000 in
set_option maxHeartbeats 1000000 in
theorem B_X6_readBase_50 {D : va_G} {cy : Nat → ClassId} {ad : Nat → Nat} {bs : Nat} {X : State → Heap → Prop} (rc : RT_X6_readBase) {k : Nat} (H : RH_X6_readBase rc k) (l1 : Int32) (l2 : Int32) (s : t_S) (Q : t_S → Prop) (hk : t_hk (k_X6_readBase_50 rc l1 l2 s) Q) : mj_G D cy ad bs X cX6_readBase 4 yX6_readBase.cls none yX6_readBase.name (3 + (k + 1)) 0 0 1065 (t_P (fun v s' => v = none ∧ Q (s'))) 50 [(0, .ref 845), (1, .int l1), (2, .int l2)] [] (t_m s) 1065 0 0 := by
  refine mj_iconst (v := 1) dX6_readBase_50 (by decide) ?_
  refine mj_goto 55 dX6_readBase_51 (by decide) ?_
  exact B_X6_readBase_55 rc H _ _ _ _ _ hk
noncomputable def m_X6_readBase (rc : RT_X6_readBase) (x1 : Int32) (s : t_S) : Option (t_S) :=
 if (s.1 1 8) = (231 : Int32) then (k_X6_readBase_50 rc x1 (s.1 1 8) s)
 else (if (s.1 1 8) = (232 : Int32) then (k_X6_readBase_50 rc x1 (s.1 1 8) s)
 else (if (s.1 1 8) = (233 : Int32) then (k_X6_readBase_50 rc x1 (s.1 1 8) s)
 else (if (s.1 1 8) = (235 : Int32) then (k_X6_readBase_50 rc x1 (s.1 1 8) s)
 else (if (s.1 1 8) = (236 : Int32) then (k_X6_readBase_50 rc x1 (s.1 1 8) s)
 else (if (s.1 1 8) = (234 : Int32) then (k_X6_readBase_50 rc x1 (s.1 1 8) s)
 else (k_X6_readBase_55 rc x1 (s.1 1 8) 0 s))))))
set_option maxRecDepth 4000 in
set_option maxHeartbeats 1000000 in
theorem E_X6_readBase (rc : RT_X6_readBase) {k : Nat} (H : RH_X6_readBase rc k) (x1 : Int32) (s : t_S) (r : t_S) (hr : m_X6_readBase rc x1 s = some r) : t_C yX6_readBase cX6_readBase 4 none (3 + (k + 1)) [.ref 845, .int x1] s (fun v s' => v = none ∧ s' = r) := by
  refine t_C.imp (P := fun v s' => v = none ∧ (fun q => q = r) (s')) (t_C.of (by decide +kernel) (Nat.le_of_ble_eq_true rfl) ?_) (fun v s' hp => hp)
  intro D cy ad bs X
  have hk : t_hk (m_X6_readBase rc x1 s) (fun q => q = r) := ⟨r, hr, rfl⟩
  show mj_G D cy ad bs X cX6_readBase 4 yX6_readBase.cls none yX6_readBase.name (3 + (k + 1)) 0 0 1065 (t_P (fun v s' => v = none ∧ (fun q => q = r) (s'))) 0 [(0, .ref 845), (1, .int x1)] [] (t_m s) 1065 0 0
  refine mj_aload_n dX6_readBase_0 0 rfl ?_
  refine t_getR 1 dX6_readBase_1 F_X6_28 qr_845_0 ?_
  refine t_getI dX6_readBase_4 F_X6_85 qf_1_8 ?_
  refine mj_istore_n 2 (lv2 := [(2, .int (s.1 1 8)), (0, .ref 845), (1, .int x1)]) dX6_readBase_7 rfl (by decide) rfl ?_
  refine mj_iload_n dX6_readBase_8 0 rfl ?_
  refine mj_sipush (v := 231) dX6_readBase_9 (by decide) ?_
  refine mj_icmp_eq 50 dX6_readBase_12 (by decide) (fun z => t_posK hk z (fun hk => ?_)) (fun z => t_negK hk z (fun hk => ?_))
  · refine mj_sublv [(0, .ref 845), (1, .int x1), (2, .int (s.1 1 8))] [1, 2, 0] rfl ?_
    exact B_X6_readBase_50 rc H _ _ _ _ hk
  · refine mj_iload_n dX6_readBase_15 0 rfl ?_
    refine mj_sipush (v := 232) dX6_readBase_16 (by decide) ?_
    refine mj_icmp_eq 50 dX6_readBase_19 (by decide) (fun z => t_posK hk z (fun hk => ?_)) (fun z => t_negK hk z (fun hk => ?_))
    · refine mj_sublv [(0, .ref 845), (1, .int x1), (2, .int (s.1 1 8))] [1, 2, 0] rfl ?_
      exact B_X6_readBase_50 rc H _ _ _ _ hk
    · refine mj_iload_n dX6_readBase_22 0 rfl ?_
      refine mj_sipush (v := 233) dX6_readBase_23 (by decide) ?_
      refine mj_icmp_eq 50 dX6_readBase_26 (by decide) (fun z => t_posK hk z (fun hk => ?_)) (fun z => t_negK hk z (fun hk => ?_))
      · refine mj_sublv [(0, .ref 845), (1, .int x1), (2, .int (s.1 1 8))] [1, 2, 0] rfl ?_
        exact B_X6_readBase_50 rc H _ _ _ _ hk
      · refine mj_iload_n dX6_readBase_29 0 rfl ?_
        refine mj_sipush (v := 235) dX6_readBase_30 (by decide) ?_
        refine mj_icmp_eq 50 dX6_readBase_33 (by decide) (fun z => t_posK hk z (fun hk => ?_)) (fun z => t_negK hk z (fun hk => ?_))
        · refine mj_sublv [(0, .ref 845), (1, .int x1), (2, .int (s.1 1 8))] [1, 2, 0] rfl ?_
          exact B_X6_readBase_50 rc H _ _ _ _ hk
        · refine mj_iload_n dX6_readBase_36 0 rfl ?_
          refine mj_sipush (v := 236) dX6_readBase_37 (by decide) ?_
          refine mj_icmp_eq 50 dX6_readBase_40 (by decide) (fun z => t_posK hk z (fun hk => ?_)) (fun z => t_negK hk z (fun hk => ?_))
          · refine mj_sublv [(0, .ref 845), (1, .int x1), (2, .int (s.1 1 8))] [1, 2, 0] rfl ?_
            exact B_X6_readBase_50 rc H _ _ _ _ hk
          · refine mj_iload_n dX6_readBase_43 0 rfl ?_
            refine mj_sipush (v := 234) dX6_readBase_44 (by decide) ?_
            refine mj_icmp_ne 54 dX6_readBase_47 (by decide) (fun z => t_negK hk z (fun hk => ?_)) (fun z => t_posK hk z (fun hk => ?_))
            · refine mj_iconst (v := 0) dX6_readBase_54 (by decide) ?_
              refine mj_sublv [(0, .ref 845), (1, .int x1), (2, .int (s.1 1 8))] [1, 2, 0] rfl ?_
              exact B_X6_readBase_55 rc H _ _ _ _ _ hk
            · refine mj_sublv [(0, .ref 845), (1, .int x1), (2, .int (s.1 1 8))] [1, 2, 0] rfl ?_
              exact B_X6_readBase_50 rc H _ _ _ _ hk
noncomputable def k_X6_readElements_23 (rc : RT_X6_readBase) (k0 : Int32) (s : t_S) : Option (t_S) :=
 (f_X2_need (93 : Int32) s).bind (fun r1 =>
 (f_X0_emit (31 : Int32) k0 r1).bind (fun r2 =>
 some (r2.2)))
set_option maxRecDepth 4000 in
set_option maxHeartbeats 1000000 in
theorem B_X6_readElements_23 {D : va_G} {cy : Nat → ClassId} {ad : Nat → Nat} {bs : Nat} {X : State → Heap → Prop} (rc : RT_X6_readBase) {k : Nat} (H : RH_X6_readBase rc k) (k0 : Int32) (s : t_S) (Q : t_S → Prop) (hk : t_hk (k_X6_readElements_23 rc k0 s) Q) : mj_G D cy ad bs X cX6_readElements 3 yX6_readElements.cls none yX6_readElements.name (3 + (k + 1)) 0 0 1065 (t_P (fun v s' => v = none ∧ Q (s'))) 23 [(0, .ref 845)] [.int k0] (t_m s) 1065 0 0 := by
  refine mj_istore_n 2 (lv2 := [(2, .int k0), (0, .ref 845)]) dX6_readElements_23 rfl (by decide) rfl ?_
  refine mj_aload_n dX6_readElements_24 1 rfl ?_
  refine t_getR 1 dX6_readElements_25 F_X6_28 qr_845_0 ?_
  refine mj_bipush (v := 93) dX6_readElements_28 (by decide) ?_
  refine t_bndK hk (fun r1 er1 hk => ?_)
  refine t_callVvE dX6_readElements_30 M_X2_need (C_X2_need _ _ _ er1) ML_X6_184 IM_X2_need SE_X2_need qc_1 rfl (As := [.int 93]) rfl rfl (by omega) (Nat.le_of_ble_eq_true rfl) (Nat.le_of_ble_eq_true rfl) (Nat.le_of_ble_eq_true rfl) ?_
  refine mj_aload_n dX6_readElements_33 1 rfl ?_
  refine t_getR 334 dX6_readElements_34 F_X6_43 qr_845_3 ?_
  refine mj_bipush (v := 31) dX6_readElements_37 (by decide) ?_
  refine mj_iload_n dX6_readElements_39 0 rfl ?_
  refine t_bndK hk (fun r2 er2 hk => ?_)
  refine t_callViE dX6_readElements_40 M_X0_emit (C_X0_emit _ _ _ _ er2) ML_X6_202 IM_X0_emit SE_X0_emit qc_334 rfl (As := [.int 31, .int k0]) rfl rfl (by omega) (Nat.le_of_ble_eq_true rfl) (Nat.le_of_ble_eq_true rfl) (Nat.le_of_ble_eq_true rfl) ?_
  refine mj_pop dX6_readElements_43 rfl ?_
  exact t_somK hk (fun hf => t_vret dX6_readElements_44 rfl ⟨rfl, hf⟩ (Nat.le_of_ble_eq_true rfl) (Nat.le_of_ble_eq_true rfl))
noncomputable def m_X6_readElements (rc : RT_X6_readBase) (x1 : Int32) (s : t_S) : Option (t_S) :=
 if (s.1 1 8) = (93 : Int32) then (k_X6_readElements_23 rc 0 s)
 else ((rc.2.2.2.2.1 (x1 + (1 : Int32)) s).bind (fun r1 =>
 k_X6_readElements_23 rc r1.1 r1.2))
set_option maxRecDepth 4000 in
set_option maxHeartbeats 1000000 in
theorem E_X6_readElements (rc : RT_X6_readBase) {k : Nat} (H : RH_X6_readBase rc k) (x1 : Int32) (s : t_S) (r : t_S) (hr : m_X6_readElements rc x1 s = some r) : t_C yX6_readElements cX6_readElements 3 none (3 + (k + 1)) [.ref 845, .int x1] s (fun v s' => v = none ∧ s' = r) := by
  refine t_C.imp (P := fun v s' => v = none ∧ (fun q => q = r) (s')) (t_C.of (by decide +kernel) (Nat.le_of_ble_eq_true rfl) ?_) (fun v s' hp => hp)
  intro D cy ad bs X
  have hk : t_hk (m_X6_readElements rc x1 s) (fun q => q = r) := ⟨r, hr, rfl⟩
  show mj_G D cy ad bs X cX6_readElements 3 yX6_readElements.cls none yX6_readElements.name (3 + (k + 1)) 0 0 1065 (t_P (fun v s' => v = none ∧ (fun q => q = r) (s'))) 0 [(0, .ref 845), (1, .int x1)] [] (t_m s) 1065 0 0
  refine mj_aload_n dX6_readElements_0 0 rfl ?_
  refine t_getR 1 dX6_readElements_1 F_X6_28 qr_845_0 ?_
  refine t_getI dX6_readElements_4 F_X6_85 qf_1_8 ?_
  refine mj_bipush (v := 93) dX6_readElements_7 (by decide) ?_
  refine mj_icmp_ne 16 dX6_readElements_9 (by decide) (fun z => t_negK hk z (fun hk => ?_)) (fun z => t_posK hk z (fun hk => ?_))
  · refine mj_aload_n dX6_readElements_16 0 rfl ?_
    refine mj_iload_n dX6_readElements_17 1 rfl ?_
    refine mj_iconst (v := 1) dX6_readElements_18 (by decide) ?_
    refine mj_iadd dX6_readElements_19 ?_
    refine t_bndK hk (fun r1 er1 hk => ?_)
    refine t_callViE dX6_readElements_20 M_X6_readExps (H.2.2.2.2.1 _ _ _ er1) ML_X6_518 IM_X6_readExps SE_X6_readExps qc_845 rfl (As := [.int (x1 + (1 : Int32))]) rfl rfl (by omega) (Nat.le_of_ble_eq_true rfl) (Nat.le_of_ble_eq_true rfl) (Nat.le_of_ble_eq_true rfl) ?_
    refine mj_sublv [(0, .ref 845)] [0] rfl ?_
    exact B_X6_readElements_23 rc H _ _ _ hk
  · refine mj_iconst (v := 0) dX6_readElements_12 (by decide) ?_
    refine mj_goto 23 dX6_readElements_13 (by decide) ?_
    refine mj_sublv [(0, .ref 845)] [0] rfl ?_
    exact B_X6_readElements_23 rc H _ _ _ hk
noncomputable def k_X6_readExp_175 (rc : RT_X6_readBase) (l1 : Int32) (l2 : Int32) (l3 : Int32) (s : t_S) : Option (Int32 × t_S) :=
 (f_X6_lower l3 (0 : Int32) s).bind (fun r1 =>
 if l1 = (-1 : Int32) then ((f_X0_emit (0 : Int32) (0 : Int32) r1).bind (fun r2 =>
 some (l2, r2.2)))
 else (some (l2, r1)))
set_option maxRecDepth 4000 in
set_option maxHeartbeats 1000000 in
theorem B_X6_readExp_175 {D : va_G} {cy : Nat → ClassId} {ad : Nat → Nat} {bs : Nat} {X : State → Heap → Prop} (rc : RT_X6_readBase) {k : Nat} (H : RH_X6_readBase rc k) (l1 : Int32) (l2 : Int32) (l3 : Int32) (s : t_S) (Q : Int32 × t_S → Prop) (hk : t_hk (k_X6_readExp_175 rc l1 l2 l3 s) Q) : mj_G D cy ad bs X cX6_readExp 6 yX6_readExp.cls (some .int) yX6_readExp.name (3 + (k + 1)) 0 0 1065 (t_P (fun v s' => ∃ x, v = some (.int x) ∧ Q ((x, s')))) 175 [(0, .ref 845), (1, .int l1), (2, .int l2), (3, .int l3)] [] (t_m s) 1065 0 0 := by
  refine mj_aload_n dX6_readExp_175 0 rfl ?_
  refine mj_iload_n dX6_readExp_176 3 rfl ?_
  refine mj_iconst (v := 0) dX6_readExp_177 (by decide) ?_
  refine t_bndK hk (fun r1 er1 hk => ?_)
  refine t_callVvE dX6_readExp_178 M_X6_lower (C_X6_lower _ _ _ _ er1) ML_X6_467 IM_X6_lower SE_X6_lower qc_845 rfl (As := [.int l3, .int 0]) rfl rfl (by omega) (Nat.le_of_ble_eq_true rfl) (Nat.le_of_ble_eq_true rfl) (Nat.le_of_ble_eq_true rfl) ?_
  refine mj_iload_n dX6_readExp_181 1 rfl ?_
  refine mj_iconst (v := (-1)) dX6_readExp_182 (by decide) ?_
  refine mj_icmp_ne 196 dX6_readExp_183 (by decide) (fun z => t_negK hk z (fun hk => ?_)) (fun z => t_posK hk z (fun hk => ?_))
  · refine mj_iload_n dX6_readExp_196 2 rfl ?_
    exact t_somK hk (fun hf => t_iret dX6_readExp_197 rfl rfl ⟨_, rfl, hf⟩ (Nat.le_of_ble_eq_true rfl) (Nat.le_of_ble_eq_true rfl))
  · refine mj_aload_n dX6_readExp_186 0 rfl ?_
    refine t_getR 334 dX6_readExp_187 F_X6_43 qr_845_3 ?_
    refine mj_iconst (v := 0) dX6_readExp_190 (by decide) ?_
    refine mj_iconst (v := 0) dX6_readExp_191 (by decide) ?_
    refine t_bndK hk (fun r2 er2 hk => ?_)
    refine t_callViE dX6_readExp_192 M_X0_emit (C_X0_emit _ _ _ _ er2) ML_X6_202 IM_X0_emit SE_X0_emit qc_334 rfl (As := [.int 0, .int 0]) rfl rfl (by omega) (Nat.le_of_ble_eq_true rfl) (Nat.le_of_ble_eq_true rfl) (Nat.le_of_ble_eq_true rfl) ?_
    refine mj_pop dX6_readExp_195 rfl ?_
    refine mj_iload_n dX6_readExp_196 2 rfl ?_
    exact t_somK hk (fun hf => t_iret dX6_readExp_197 rfl rfl ⟨_, rfl, hf⟩ (Nat.le_of_ble_eq_true rfl) (Nat.le_of_ble_eq_true rfl))
noncomputable def k_X6_readExp_125 (rc : RT_X6_readBase) (l1 : Int32) (l2 : Int32) (l3 : Int32) (l4 : Int32) (s : t_S) : Option ((Int32 × Int32 × Int32 × Int32 × t_S) ⊕ (Int32 × t_S)) :=
 (f_X6_node s).bind (fun r1 =>
 if (r1.1 1 11) = (0 : Int32) then ((f_X6_pushOperator (r1.1 1 8) r1).bind (fun r2 =>
 (f_X2_advance r2).bind (fun r3 =>
 (rc.2.2.2.2.2.2.2.1 (if (0 : Int32) < l1 then l1 else (0 : Int32)) r3).bind (fun r4 =>
 some (.inl (l1, l2, l3, (l4 + 1), r4))))))
 else ((k_X6_readExp_175 rc l1 l2 l3 r1).map Sum.inr))
set_option maxRecDepth 4000 in
set_option maxHeartbeats 1000000 in
theorem B_X6_readExp_125 {D : va_G} {cy : Nat → ClassId} {ad : Nat → Nat} {bs : Nat} {X : State → Heap → Prop} (rc : RT_X6_readBase) {k : Nat} (H : RH_X6_readBase rc k) (l1 : Int32) (l2 : Int32) (l3 : Int32) (l4 : Int32) (s : t_S) (Q : (Int32 × Int32 × Int32 × Int32 × t_S) ⊕ (Int32 × t_S) → Prop) (Hb60 : ∀ (y0 : Int32) (y1 : Int32) (y2 : Int32) (y3 : Int32) (y4 : t_S), Q (.inl (y0, y1, y2, y3, y4)) → mj_G D cy ad bs X cX6_readExp 6 yX6_readExp.cls (some .int) yX6_readExp.name (3 + (k + 1)) 0 0 1065 (t_P (fun v s' => ∃ x, v = some (.int x) ∧ Q (.inr ((x, s'))))) 60 [(0, .ref 845), (1, .int (y0)), (2, .int (y1)), (3, .int (y2)), (4, .int (y3))] [] (t_m y4) 1065 0 0) (hk : t_hk (k_X6_readExp_125 rc l1 l2 l3 l4 s) Q) : mj_G D cy ad bs X cX6_readExp 6 yX6_readExp.cls (some .int) yX6_readExp.name (3 + (k + 1)) 0 0 1065 (t_P (fun v s' => ∃ x, v = some (.int x) ∧ Q (.inr ((x, s'))))) 125 [(0, .ref 845), (1, .int l1), (2, .int l2), (3, .int l3), (4, .int l4)] [] (t_m s) 1065 0 0 := by
  refine mj_aload_n dX6_readExp_125 0 rfl ?_
  refine t_bndK hk (fun r1 er1 hk => ?_)
  refine t_callVvE dX6_readExp_126 M_X6_node (C_X6_node _ _ er1) ML_X6_298 IM_X6_node SE_X6_node qc_845 rfl (As := []) rfl rfl (by omega) (Nat.le_of_ble_eq_true rfl) (Nat.le_of_ble_eq_true rfl) (Nat.le_of_ble_eq_true rfl) ?_
  refine mj_aload_n dX6_readExp_129 0 rfl ?_
  refine t_getR 1 dX6_readExp_130 F_X6_28 qr_845_0 ?_
  refine t_getI dX6_readExp_133 F_X6_82 qf_1_11 ?_
  refine mj_if_eq 142 dX6_readExp_136 (by decide) (fun z => t_posK hk z (fun hk => ?_)) (fun z => t_negK hk z (fun hk => ?_))
  · refine mj_aload_n dX6_readExp_142 0 rfl ?_
    refine mj_aload_n dX6_readExp_143 0 rfl ?_
    refine t_getR 1 dX6_readExp_144 F_X6_28 qr_845_0 ?_
    refine t_getI dX6_readExp_147 F_X6_85 qf_1_8 ?_
    refine t_bndK hk (fun r2 er2 hk => ?_)
    refine t_callVvE dX6_readExp_150 M_X6_pushOperator (C_X6_pushOperator _ _ _ er2) ML_X6_473 IM_X6_pushOperator SE_X6_pushOperator qc_845 rfl (As := [.int (r1.1 1 8)]) rfl rfl (by omega) (Nat.le_of_ble_eq_true rfl) (Nat.le_of_ble_eq_true rfl) (Nat.le_of_ble_eq_true rfl) ?_
    refine mj_aload_n dX6_readExp_153 0 rfl ?_
    refine t_getR 1 dX6_readExp_154 F_X6_28 qr_845_0 ?_
    refine t_bndK hk (fun r3 er3 hk => ?_)
    refine t_callVvE dX6_readExp_157 M_X2_advance (C_X2_advance _ _ er3) ML_X6_170 IM_X2_advance SE_X2_advance qc_1 rfl (As := []) rfl rfl (by omega) (Nat.le_of_ble_eq_true rfl) (Nat.le_of_ble_eq_true rfl) (Nat.le_of_ble_eq_true rfl) ?_
    refine mj_aload_n dX6_readExp_160 0 rfl ?_
    refine mj_iconst (v := 0) dX6_readExp_161 (by decide) ?_
    refine mj_iload_n dX6_readExp_162 1 rfl ?_
    refine mj_imax dX6_readExp_163 MM_max_X6_459 (by omega) (Nat.le_of_ble_eq_true rfl) (Nat.le_of_ble_eq_true rfl) (Nat.le_of_ble_eq_true rfl) ?_
    refine t_bndK hk (fun r4 er4 hk => ?_)
    refine t_callVvE dX6_readExp_166 M_X6_readOne (H.2.2.2.2.2.2.2.1 _ _ _ er4) ML_X6_461 IM_X6_readOne SE_X6_readOne qc_845 rfl (As := [.int (if (0 : Int32) < l1 then l1 else (0 : Int32))]) rfl rfl (by omega) (Nat.le_of_ble_eq_true rfl) (Nat.le_of_ble_eq_true rfl) (Nat.le_of_ble_eq_true rfl) ?_
    refine mj_iinc (k := 4) (v := (l4 + 1)) (lv2 := [(4, .int (l4 + 1)), (0, .ref 845), (1, .int l1), (2, .int l2), (3, .int l3)]) dX6_readExp_169 rfl rfl (by decide) rfl ?_
    refine mj_goto 60 dX6_readExp_172 (by decide) ?_
    refine mj_sublv [(0, .ref 845), (1, .int l1), (2, .int l2), (3, .int l3), (4, .int (l4 + 1))] [1, 2, 3, 4, 0] rfl ?_
    exact t_somK hk (fun hf => Hb60 l1 l2 l3 (l4 + 1) r4 hf)
  · refine t_mapK hk (fun hk => ?_)
    refine mj_goto 175 dX6_readExp_139 (by decide) ?_
    refine mj_sublv [(0, .ref 845), (1, .int l1), (2, .int l2), (3, .int l3)] [0, 1, 2, 3] rfl ?_
    exact B_X6_readExp_175 rc H _ _ _ _ _ hk
noncomputable def k_X6_readExp_60 (rc : RT_X6_readBase) (l1 : Int32) (l2 : Int32) (l3 : Int32) (l4 : Int32) (s : t_S) : Option ((Int32 × Int32 × Int32 × Int32 × t_S) ⊕ (Int32 × t_S)) :=
 if (3000 : Int32) ≤ l4 then ((k_X6_readExp_175 rc l1 l2 l3 s).map Sum.inr)
 else (if (f_X6_bindingOf (s.1 1 8) s) = (0 : Int32) then ((k_X6_readExp_175 rc l1 l2 l3 s).map Sum.inr)
 else ((f_X6_lower l3 (f_X6_bindingOf (s.1 1 8) s) s).bind (fun r2 =>
 if (f_X6_bindingOf (s.1 1 8) s) = (3 : Int32) then (if (r2.1 845 7) ≤ l3 then (k_X6_readExp_125 rc l1 l2 l3 l4 r2)
 else ((f_X6_bindingOfTop r2).bind (fun r3 =>
 if r3 = (3 : Int32) then ((f_X2_fail (2 : Int32) r2).bind (fun r4 =>
 k_X6_readExp_125 rc l1 l2 l3 l4 r4))
 else (k_X6_readExp_125 rc l1 l2 l3 l4 r2))))
 else (k_X6_readExp_125 rc l1 l2 l3 l4 r2))))
set_option maxRecDepth 4000 in
set_option maxHeartbeats 1000000 in
theorem B_X6_readExp_60 {D : va_G} {cy : Nat → ClassId} {ad : Nat → Nat} {bs : Nat} {X : State → Heap → Prop} (rc : RT_X6_readBase) {k : Nat} (H : RH_X6_readBase rc k) (l1 : Int32) (l2 : Int32) (l3 : Int32) (l4 : Int32) (s : t_S) (Q : (Int32 × Int32 × Int32 × Int32 × t_S) ⊕ (Int32 × t_S) → Prop) (Hb60 : ∀ (y0 : Int32) (y1 : Int32) (y2 : Int32) (y3 : Int32) (y4 : t_S), Q (.inl (y0, y1, y2, y3, y4)) → mj_G D cy ad bs X cX6_readExp 6 yX6_readExp.cls (some .int) yX6_readExp.name (3 + (k + 1)) 0 0 1065 (t_P (fun v s' => ∃ x, v = some (.int x) ∧ Q (.inr ((x, s'))))) 60 [(0, .ref 845), (1, .int (y0)), (2, .int (y1)), (3, .int (y2)), (4, .int (y3))] [] (t_m y4) 1065 0 0) (hk : t_hk (k_X6_readExp_60 rc l1 l2 l3 l4 s) Q) : mj_G D cy ad bs X cX6_readExp 6 yX6_readExp.cls (some .int) yX6_readExp.name (3 + (k + 1)) 0 0 1065 (t_P (fun v s' => ∃ x, v = some (.int x) ∧ Q (.inr ((x, s'))))) 60 [(0, .ref 845), (1, .int l1), (2, .int l2), (3, .int l3), (4, .int l4)] [] (t_m s) 1065 0 0 := by
  refine mj_iload dX6_readExp_60 4 rfl ?_
  refine mj_sipush (v := 3000) dX6_readExp_62 (by decide) ?_
  refine mj_icmp_ge 175 dX6_readExp_65 (by decide) (fun z => t_posK hk z (fun hk => ?_)) (fun z => t_negK hk z (fun hk => ?_))
  · refine mj_sublv [(0, .ref 845), (1, .int l1), (2, .int l2), (3, .int l3)] [0, 1, 2, 3] rfl ?_
    refine t_mapK hk (fun hk => ?_)
    exact B_X6_readExp_175 rc H _ _ _ _ _ hk
  · refine mj_aload_n dX6_readExp_68 0 rfl ?_
    refine t_getR 1 dX6_readExp_69 F_X6_28 qr_845_0 ?_
    refine t_getI dX6_readExp_72 F_X6_85 qf_1_8 ?_
    refine t_callSiP dX6_readExp_75 M_X6_bindingOf (C_X6_bindingOf _ _) ML_X6_464 SM_X6_bindingOf (As := [.int (s.1 1 8)]) rfl rfl (by omega) (Nat.le_of_ble_eq_true rfl) (Nat.le_of_ble_eq_true rfl) (Nat.le_of_ble_eq_true rfl) ?_
    refine mj_istore (lv2 := [(5, .int (f_X6_bindingOf (s.1 1 8) s)), (0, .ref 845), (1, .int l1), (2, .int l2), (3, .int l3), (4, .int l4)]) dX6_readExp_78 (by decide) rfl ?_
    refine mj_iload dX6_readExp_80 0 rfl ?_
    refine mj_if_ne 88 dX6_readExp_82 (by decide) (fun z => t_negK hk z (fun hk => ?_)) (fun z => t_posK hk z (fun hk => ?_))
    · refine mj_aload_n dX6_readExp_88 1 rfl ?_
      refine mj_iload_n dX6_readExp_89 4 rfl ?_
      refine mj_iload dX6_readExp_90 0 rfl ?_
      refine t_bndK hk (fun r2 er2 hk => ?_)
      refine t_callVvE dX6_readExp_92 M_X6_lower (C_X6_lower _ _ _ _ er2) ML_X6_467 IM_X6_lower SE_X6_lower qc_845 rfl (As := [.int l3, .int (f_X6_bindingOf (s.1 1 8) s)]) rfl rfl (by omega) (Nat.le_of_ble_eq_true rfl) (Nat.le_of_ble_eq_true rfl) (Nat.le_of_ble_eq_true rfl) ?_
      refine mj_iload dX6_readExp_95 0 rfl ?_
      refine mj_iconst (v := 3) dX6_readExp_97 (by decide) ?_
      refine mj_icmp_ne 125 dX6_readExp_98 (by decide) (fun z => t_negK hk z (fun hk => ?_)) (fun z => t_posK hk z (fun hk => ?_))
      · refine mj_sublv [(0, .ref 845), (1, .int l1), (2, .int l2), (3, .int l3), (4, .int l4)] [1, 2, 3, 4, 5] rfl ?_
        exact B_X6_readExp_125 rc H _ _ _ _ _ _ (fun y0 y1 y2 y3 y4 hx => Hb60 y0 y1 y2 y3 y4 hx) hk
      · refine mj_aload_n dX6_readExp_101 1 rfl ?_
        refine t_getI dX6_readExp_102 F_X6_128 qf_845_7 ?_
        refine mj_iload_n dX6_readExp_105 4 rfl ?_
        refine mj_icmp_le 125 dX6_readExp_106 (by decide) (fun z => t_posK hk z (fun hk => ?_)) (fun z => t_negK hk z (fun hk => ?_))
        · refine mj_sublv [(0, .ref 845), (1, .int l1), (2, .int l2), (3, .int l3), (4, .int l4)] [1, 2, 3, 4, 5] rfl ?_
          exact B_X6_readExp_125 rc H _ _ _ _ _ _ (fun y0 y1 y2 y3 y4 hx => Hb60 y0 y1 y2 y3 y4 hx) hk
        · refine mj_aload_n dX6_readExp_109 1 rfl ?_
          refine t_bndK hk (fun r3 er3 hk => ?_)
          refine t_callViP dX6_readExp_110 M_X6_bindingOfTop (C_X6_bindingOfTop _ _ er3) ML_X6_470 IM_X6_bindingOfTop SE_X6_bindingOfTop qc_845 rfl (As := []) rfl rfl (by omega) (Nat.le_of_ble_eq_true rfl) (Nat.le_of_ble_eq_true rfl) (Nat.le_of_ble_eq_true rfl) ?_
          refine mj_iconst (v := 3) dX6_readExp_113 (by decide) ?_
          refine mj_icmp_ne 125 dX6_readExp_114 (by decide) (fun z => t_negK hk z (fun hk => ?_)) (fun z => t_posK hk z (fun hk => ?_))
          · refine mj_sublv [(0, .ref 845), (1, .int l1), (2, .int l2), (3, .int l3), (4, .int l4)] [1, 2, 3, 4, 5] rfl ?_
            exact B_X6_readExp_125 rc H _ _ _ _ _ _ (fun y0 y1 y2 y3 y4 hx => Hb60 y0 y1 y2 y3 y4 hx) hk
          · refine mj_aload_n dX6_readExp_117 1 rfl ?_
            refine t_getR 1 dX6_readExp_118 F_X6_28 qr_845_0 ?_
            refine mj_iconst (v := 2) dX6_readExp_121 (by decide) ?_
            refine t_bndK hk (fun r4 er4 hk => ?_)
            refine t_callVvE dX6_readExp_122 M_X2_fail (C_X2_fail _ _ _ er4) ML_X6_100 IM_X2_fail SE_X2_fail qc_1 rfl (As := [.int 2]) rfl rfl (by omega) (Nat.le_of_ble_eq_true rfl) (Nat.le_of_ble_eq_true rfl) (Nat.le_of_ble_eq_true rfl) ?_
            refine mj_sublv [(0, .ref 845), (1, .int l1), (2, .int l2), (3, .int l3), (4, .int l4)] [1, 2, 3, 4, 5] rfl ?_
            exact B_X6_readExp_125 rc H _ _ _ _ _ _ (fun y0 y1 y2 y3 y4 hx => Hb60 y0 y1 y2 y3 y4 hx) hk
    · refine t_mapK hk (fun hk => ?_)
      refine mj_goto 175 dX6_readExp_85 (by decide) ?_
      refine mj_sublv [(0, .ref 845), (1, .int l1), (2, .int l2), (3, .int l3)] [1, 2, 3, 4] rfl ?_
      exact B_X6_readExp_175 rc H _ _ _ _ _ hk
noncomputable def b_X6_readExp_60 (rc : RT_X6_readBase) (x : Int32 × Int32 × Int32 × Int32 × t_S) : Option ((Int32 × Int32 × Int32 × Int32 × t_S) ⊕ (Int32 × t_S)) := k_X6_readExp_60 rc x.1 x.2.1 x.2.2.1 x.2.2.2.1 x.2.2.2.2
set_option maxRecDepth 4000 in
set_option maxHeartbeats 1000000 in
theorem LH_X6_readExp_60 {D : va_G} {cy : Nat → ClassId} {ad : Nat → Nat} {bs : Nat} {X : State → Heap → Prop} (rc : RT_X6_readBase) {k : Nat} (H : RH_X6_readBase rc k) : ∀ (n : Nat) (y0 : Int32) (y1 : Int32) (y2 : Int32) (y3 : Int32) (y4 : t_S) (Q : Int32 × t_S → Prop) (hk : t_hk (t_loop (b_X6_readExp_60 rc) n (y0, y1, y2, y3, y4)) Q), mj_G D cy ad bs X cX6_readExp 6 yX6_readExp.cls (some .int) yX6_readExp.name (3 + (k + 1)) 0 0 1065 (t_P (fun v s' => ∃ x, v = some (.int x) ∧ Q ((x, s')))) 60 [(0, .ref 845), (1, .int (y0)), (2, .int (y1)), (3, .int (y2)), (4, .int (y3))] [] (t_m y4) 1065 0 0 := by
  intro n
  induction n with
  | zero => intro y0 y1 y2 y3 y4 Q hk; obtain ⟨r, hr, _⟩ := hk; cases hr
  | succ n ih =>
    intro y0 y1 y2 y3 y4 Q hk
    exact B_X6_readExp_60 rc H y0 y1 y2 y3 y4 (fun y => t_lq (b_X6_readExp_60 rc) n Q y) (fun y0' y1' y2' y3' y4' hy => ih y0' y1' y2' y3' y4' Q hy) (t_lp hk)
noncomputable def k_X6_readExp_43 (rc : RT_X6_readBase) (l1 : Int32) (l2 : Int32) (s : t_S) : Option (Int32 × t_S) :=
 (rc.2.2.2.2.2.2.2.1 (if (0 : Int32) < l1 then l1 else (0 : Int32)) s).bind (fun r1 =>
 t_loop (b_X6_readExp_60 rc) t_N (l1, l2, (s.1 845 7), 0, r1))
set_option maxRecDepth 4000 in
set_option maxHeartbeats 1000000 in
theorem B_X6_readExp_43 {D : va_G} {cy : Nat → ClassId} {ad : Nat → Nat} {bs : Nat} {X : State → Heap → Prop} (rc : RT_X6_readBase) {k : Nat} (H : RH_X6_readBase rc k) (l1 : Int32) (l2 : Int32) (s : t_S) (Q : Int32 × t_S → Prop) (hk : t_hk (k_X6_readExp_43 rc l1 l2 s) Q) : mj_G D cy ad bs X cX6_readExp 6 yX6_readExp.cls (some .int) yX6_readExp.name (3 + (k + 1)) 0 0 1065 (t_P (fun v s' => ∃ x, v = some (.int x) ∧ Q ((x, s')))) 43 [(0, .ref 845), (1, .int l1), (2, .int l2)] [] (t_m s) 1065 0 0 := by
  refine mj_aload_n dX6_readExp_43 0 rfl ?_
  refine t_getI dX6_readExp_44 F_X6_128 qf_845_7 ?_
  refine mj_istore_n 3 (lv2 := [(3, .int (s.1 845 7)), (0, .ref 845), (1, .int l1), (2, .int l2)]) dX6_readExp_47 rfl (by decide) rfl ?_
  refine mj_aload_n dX6_readExp_48 1 rfl ?_
  refine mj_iconst (v := 0) dX6_readExp_49 (by decide) ?_
  refine mj_iload_n dX6_readExp_50 2 rfl ?_
  refine mj_imax dX6_readExp_51 MM_max_X6_459 (by omega) (Nat.le_of_ble_eq_true rfl) (Nat.le_of_ble_eq_true rfl) (Nat.le_of_ble_eq_true rfl) ?_
  refine t_bndK hk (fun r1 er1 hk => ?_)
  refine t_callVvE dX6_readExp_54 M_X6_readOne (H.2.2.2.2.2.2.2.1 _ _ _ er1) ML_X6_461 IM_X6_readOne SE_X6_readOne qc_845 rfl (As := [.int (if (0 : Int32) < l1 then l1 else (0 : Int32))]) rfl rfl (by omega) (Nat.le_of_ble_eq_true rfl) (Nat.le_of_ble_eq_true rfl) (Nat.le_of_ble_eq_true rfl) ?_
  refine mj_iconst (v := 0) dX6_readExp_57 (by decide) ?_
  refine mj_istore (lv2 := [(4, .int 0), (3, .int (s.1 845 7)), (0, .ref 845), (1, .int l1), (2, .int l2)]) dX6_readExp_58 (by decide) rfl ?_
  refine mj_sublv [(0, .ref 845), (1, .int l1), (2, .int l2), (3, .int (s.1 845 7)), (4, .int 0)] [2, 3, 4, 1, 0] rfl ?_
  exact LH_X6_readExp_60 rc H _ l1 l2 (s.1 845 7) 0 r1 _ hk
noncomputable def k_X6_readExp_29 (rc : RT_X6_readBase) (l1 : Int32) (l2 : Int32) (s : t_S) : Option (Int32 × t_S) :=
 if l1 ≤ (16 : Int32) then (k_X6_readExp_43 rc l1 l2 s)
 else ((f_X2_fail (5 : Int32) s).bind (fun r1 =>
 k_X6_readExp_43 rc l1 l2 r1))
set_option maxRecDepth 4000 in
set_option maxHeartbeats 1000000 in
theorem B_X6_readExp_29 {D : va_G} {cy : Nat → ClassId} {ad : Nat → Nat} {bs : Nat} {X : State → Heap → Prop} (rc : RT_X6_readBase) {k : Nat} (H : RH_X6_readBase rc k) (l1 : Int32) (l2 : Int32) (s : t_S) (Q : Int32 × t_S → Prop) (hk : t_hk (k_X6_readExp_29 rc l1 l2 s) Q) : mj_G D cy ad bs X cX6_readExp 6 yX6_readExp.cls (some .int) yX6_readExp.name (3 + (k + 1)) 0 0 1065 (t_P (fun v s' => ∃ x, v = some (.int x) ∧ Q ((x, s')))) 29 [(0, .ref 845), (1, .int l1), (2, .int l2)] [] (t_m s) 1065 0 0 := by
  refine mj_iload_n dX6_readExp_29 1 rfl ?_
  refine mj_bipush (v := 16) dX6_readExp_30 (by decide) ?_
  refine mj_icmp_le 43 dX6_readExp_32 (by decide) (fun z => t_posK hk z (fun hk => ?_)) (fun z => t_negK hk z (fun hk => ?_))
  · exact B_X6_readExp_43 rc H _ _ _ _ hk
  · refine mj_aload_n dX6_readExp_35 0 rfl ?_
    refine t_getR 1 dX6_readExp_36 F_X6_28 qr_845_0 ?_
    refine mj_iconst (v := 5) dX6_readExp_39 (by decide) ?_
    refine t_bndK hk (fun r1 er1 hk => ?_)
    refine t_callVvE dX6_readExp_40 M_X2_fail (C_X2_fail _ _ _ er1) ML_X6_100 IM_X2_fail SE_X2_fail qc_1 rfl (As := [.int 5]) rfl rfl (by omega) (Nat.le_of_ble_eq_true rfl) (Nat.le_of_ble_eq_true rfl) (Nat.le_of_ble_eq_true rfl) ?_
    exact B_X6_readExp_43 rc H _ _ _ _ hk
noncomputable def m_X6_readExp (rc : RT_X6_readBase) (x1 : Int32) (s : t_S) : Option (Int32 × t_S) :=
 if (f_X6_beginsExp (s.1 1 8) s) = (0 : Int32) then ((f_X2_fail (2 : Int32) s).bind (fun r2 =>
 k_X6_readExp_29 rc x1 (s.1 334 2) r2))
 else (k_X6_readExp_29 rc x1 (s.1 334 2) s)
set_option maxRecDepth 4000 in
set_option maxHeartbeats 1000000 in
theorem E_X6_readExp (rc : RT_X6_readBase) {k : Nat} (H : RH_X6_readBase rc k) (x1 : Int32) (s : t_S) (r : Int32 × t_S) (hr : m_X6_readExp rc x1 s = some r) : t_C yX6_readExp cX6_readExp 6 (some .int) (3 + (k + 1)) [.ref 845, .int x1] s (fun v s' => v = some (.int r.1) ∧ s' = r.2) := by
  refine t_C.imp (P := fun v s' => ∃ x, v = some (.int x) ∧ (fun q => q = r) ((x, s'))) (t_C.of (by decide +kernel) (Nat.le_of_ble_eq_true rfl) ?_) (fun v s' hp => by obtain ⟨x, rfl, rfl⟩ := hp; exact ⟨rfl, rfl⟩)
  intro D cy ad bs X
  have hk : t_hk (m_X6_readExp rc x1 s) (fun q => q = r) := ⟨r, hr, rfl⟩
  show mj_G D cy ad bs X cX6_readExp 6 yX6_readExp.cls (some .int) yX6_readExp.name (3 + (k + 1)) 0 0 1065 (t_P (fun v s' => ∃ x, v = some (.int x) ∧ (fun q => q = r) ((x, s')))) 0 [(0, .ref 845), (1, .int x1)] [] (t_m s) 1065 0 0
  refine mj_aload_n dX6_readExp_0 0 rfl ?_
  refine t_getR 334 dX6_readExp_1 F_X6_43 qr_845_3 ?_
  refine t_getI dX6_readExp_4 F_X6_64 qf_334_2 ?_
  refine mj_istore_n 2 (lv2 := [(2, .int (s.1 334 2)), (0, .ref 845), (1, .int x1)]) dX6_readExp_7 rfl (by decide) rfl ?_
  refine mj_aload_n dX6_readExp_8 1 rfl ?_
  refine t_getR 1 dX6_readExp_9 F_X6_28 qr_845_0 ?_
  refine t_getI dX6_readExp_12 F_X6_85 qf_1_8 ?_
  refine t_callSiP dX6_readExp_15 M_X6_beginsExp (C_X6_beginsExp _ _) ML_X6_456 SM_X6_beginsExp (As := [.int (s.1 1 8)]) rfl rfl (by omega) (Nat.le_of_ble_eq_true rfl) (Nat.le_of_ble_eq_true rfl) (Nat.le_of_ble_eq_true rfl) ?_
  refine mj_if_ne 29 dX6_readExp_18 (by decide) (fun z => t_negK hk z (fun hk => ?_)) (fun z => t_posK hk z (fun hk => ?_))
  · refine mj_sublv [(0, .ref 845), (1, .int x1), (2, .int (s.1 334 2))] [1, 2, 0] rfl ?_
    exact B_X6_readExp_29 rc H _ _ _ _ hk
  · refine mj_aload_n dX6_readExp_21 1 rfl ?_
    refine t_getR 1 dX6_readExp_22 F_X6_28 qr_845_0 ?_
    refine mj_iconst (v := 2) dX6_readExp_25 (by decide) ?_
    refine t_bndK hk (fun r2 er2 hk => ?_)
    refine t_callVvE dX6_readExp_26 M_X2_fail (C_X2_fail _ _ _ er2) ML_X6_100 IM_X2_fail SE_X2_fail qc_1 rfl (As := [.int 2]) rfl rfl (by omega) (Nat.le_of_ble_eq_true rfl) (Nat.le_of_ble_eq_true rfl) (Nat.le_of_ble_eq_true rfl) ?_
    refine mj_sublv [(0, .ref 845), (1, .int x1), (2, .int (s.1 334 2))] [1, 2, 0] rfl ?_
    exact B_X6_readExp_29 rc H _ _ _ _ hk
noncomputable def k_X6_readExpFields_190 (rc : RT_X6_readBase) (l2 : Int32) (l3 : Int32) (s : t_S) : Option ((Int32 × Int32 × t_S) ⊕ (t_S)) :=
 if (s.1 845 9) ≤ l3 then ((t_let (t_setI s 845 9 l2) (fun s1 =>
 some (s1))).map Sum.inr)
 else (if t_ix l3 288 = true then
  (f_X0_emit (33 : Int32) (s.1 855 (l3.toNatClampNeg)) s).bind (fun r2 =>
 some (.inl (l2, (l3 + 1), r2.2)))
else none)
set_option maxRecDepth 4000 in
set_option maxHeartbeats 1000000 in
theorem B_X6_readExpFields_190 {D : va_G} {cy : Nat → ClassId} {ad : Nat → Nat} {bs : Nat} {X : State → Heap → Prop} (rc : RT_X6_readBase) {k : Nat} (H : RH_X6_readBase rc k) (l2 : Int32) (l3 : Int32) (s : t_S) (Q : (Int32 × Int32 × t_S) ⊕ (t_S) → Prop) (Hb190 : ∀ (y0 : Int32) (y1 : Int32) (y2 : t_S), Q (.inl (y0, y1, y2)) → mj_G D cy ad bs X cX6_readExpFields 4 yX6_readExpFields.cls none yX6_readExpFields.name (3 + (k + 1)) 0 0 1065 (t_P (fun v s' => v = none ∧ Q (.inr (s')))) 190 [(0, .ref 845), (2, .int (y0)), (3, .int (y1))] [] (t_m y2) 1065 0 0) (hk : t_hk (k_X6_readExpFields_190 rc l2 l3 s) Q) : mj_G D cy ad bs X cX6_readExpFields 4 yX6_readExpFields.cls none yX6_readExpFields.name (3 + (k + 1)) 0 0 1065 (t_P (fun v s' => v = none ∧ Q (.inr (s')))) 190 [(0, .ref 845), (2, .int l2), (3, .int l3)] [] (t_m s) 1065 0 0 := by
  refine mj_iload_n dX6_readExpFields_190 2 rfl ?_
  refine mj_aload_n dX6_readExpFields_191 0 rfl ?_
  refine t_getI dX6_readExpFields_192 F_X6_131 qf_845_9 ?_
  refine mj_icmp_ge 220 dX6_readExpFields_195 (by decide) (fun z => t_posK hk z (fun hk => ?_)) (fun z => t_negK hk z (fun hk => ?_))
  · refine t_mapK hk (fun hk => ?_)
    refine mj_aload_n dX6_readExpFields_220 0 rfl ?_
    refine mj_iload_n dX6_readExpFields_221 1 rfl ?_
    refine t_putIK dX6_readExpFields_222 F_X6_131 qf_845_9 rfl (fun s1 ws1 => t_letE hk ws1 (fun hk => ?_))
    exact t_somK hk (fun hf => t_vret dX6_readExpFields_225 rfl ⟨rfl, hf⟩ (Nat.le_of_ble_eq_true rfl) (Nat.le_of_ble_eq_true rfl))
  · refine mj_aload_n dX6_readExpFields_198 0 rfl ?_
    refine t_getR 334 dX6_readExpFields_199 F_X6_43 qr_845_3 ?_
    refine mj_bipush (v := 33) dX6_readExpFields_202 (by decide) ?_
    refine mj_aload_n dX6_readExpFields_204 0 rfl ?_
    refine t_getR 855 dX6_readExpFields_205 F_X6_15 qr_845_8 ?_
    refine mj_iload_n dX6_readExpFields_208 2 rfl ?_
    refine t_chkK hk (fun c0 hk => ?_)
    refine t_iald dX6_readExpFields_209 qa_855 (t_ixv c0) ?_
    refine t_bndK hk (fun r2 er2 hk => ?_)
    refine t_callViE dX6_readExpFields_210 M_X0_emit (C_X0_emit _ _ _ _ er2) ML_X6_202 IM_X0_emit SE_X0_emit qc_334 rfl (As := [.int 33, .int (s.1 855 (l3.toNatClampNeg))]) rfl rfl (by omega) (Nat.le_of_ble_eq_true rfl) (Nat.le_of_ble_eq_true rfl) (Nat.le_of_ble_eq_true rfl) ?_
    refine mj_pop dX6_readExpFields_213 rfl ?_
    refine mj_iinc (k := 2) (v := (l3 + 1)) (lv2 := [(3, .int (l3 + 1)), (0, .ref 845), (2, .int l2)]) dX6_readExpFields_214 rfl rfl (by decide) rfl ?_
    refine mj_goto 190 dX6_readExpFields_217 (by decide) ?_
    refine mj_sublv [(0, .ref 845), (2, .int l2), (3, .int (l3 + 1))] [1, 2, 0] rfl ?_
    exact t_somK hk (fun hf => Hb190 l2 (l3 + 1) r2.2 hf)
noncomputable def b_X6_readExpFields_190 (rc : RT_X6_readBase) (x : Int32 × Int32 × t_S) : Option ((Int32 × Int32 × t_S) ⊕ (t_S)) := k_X6_readExpFields_190 rc x.1 x.2.1 x.2.2
set_option maxRecDepth 4000 in
set_option maxHeartbeats 1000000 in
theorem LH_X6_readExpFields_190 {D : va_G} {cy : Nat → ClassId} {ad : Nat → Nat} {bs : Nat} {X : State → Heap → Prop} (rc : RT_X6_readBase) {k : Nat} (H : RH_X6_readBase rc k) : ∀ (n : Nat) (y0 : Int32) (y1 : Int32) (y2 : t_S) (Q : t_S → Prop) (hk : t_hk (t_loop (b_X6_readExpFields_190 rc) n (y0, y1, y2)) Q), mj_G D cy ad bs X cX6_readExpFields 4 yX6_readExpFields.cls none yX6_readExpFields.name (3 + (k + 1)) 0 0 1065 (t_P (fun v s' => v = none ∧ Q (s'))) 190 [(0, .ref 845), (2, .int (y0)), (3, .int (y1))] [] (t_m y2) 1065 0 0 := by
  intro n
  induction n with
  | zero => intro y0 y1 y2 Q hk; obtain ⟨r, hr, _⟩ := hk; cases hr
  | succ n ih =>
    intro y0 y1 y2 Q hk
    exact B_X6_readExpFields_190 rc H y0 y1 y2 (fun y => t_lq (b_X6_readExpFields_190 rc) n Q y) (fun y0' y1' y2' hy => ih y0' y1' y2' Q hy) (t_lp hk)
noncomputable def k_X6_readExpFields_163 (rc : RT_X6_readBase) (l2 : Int32) (s : t_S) : Option (t_S) :=
 (f_X2_need (125 : Int32) s).bind (fun r1 =>
 (f_X0_emit (32 : Int32) ((r1.1 845 9) - l2) r1).bind (fun r2 =>
 t_loop (b_X6_readExpFields_190 rc) t_N (l2, l2, r2.2)))
set_option maxRecDepth 4000 in
set_option maxHeartbeats 1000000 in
theorem B_X6_readExpFields_163 {D : va_G} {cy : Nat → ClassId} {ad : Nat → Nat} {bs : Nat} {X : State → Heap → Prop} (rc : RT_X6_readBase) {k : Nat} (H : RH_X6_readBase rc k) (l2 : Int32) (s : t_S) (Q : t_S → Prop) (hk : t_hk (k_X6_readExpFields_163 rc l2 s) Q) : mj_G D cy ad bs X cX6_readExpFields 4 yX6_readExpFields.cls none yX6_readExpFields.name (3 + (k + 1)) 0 0 1065 (t_P (fun v s' => v = none ∧ Q (s'))) 163 [(0, .ref 845), (2, .int l2)] [] (t_m s) 1065 0 0 := by
  refine mj_aload_n dX6_readExpFields_163 0 rfl ?_
  refine t_getR 1 dX6_readExpFields_164 F_X6_28 qr_845_0 ?_
  refine mj_bipush (v := 125) dX6_readExpFields_167 (by decide) ?_
  refine t_bndK hk (fun r1 er1 hk => ?_)
  refine t_callVvE dX6_readExpFields_169 M_X2_need (C_X2_need _ _ _ er1) ML_X6_184 IM_X2_need SE_X2_need qc_1 rfl (As := [.int 125]) rfl rfl (by omega) (Nat.le_of_ble_eq_true rfl) (Nat.le_of_ble_eq_true rfl) (Nat.le_of_ble_eq_true rfl) ?_
  refine mj_aload_n dX6_readExpFields_172 0 rfl ?_
  refine t_getR 334 dX6_readExpFields_173 F_X6_43 qr_845_3 ?_
  refine mj_bipush (v := 32) dX6_readExpFields_176 (by decide) ?_
  refine mj_aload_n dX6_readExpFields_178 0 rfl ?_
  refine t_getI dX6_readExpFields_179 F_X6_131 qf_845_9 ?_
  refine mj_iload_n dX6_readExpFields_182 1 rfl ?_
  refine mj_isub dX6_readExpFields_183 ?_
  refine t_bndK hk (fun r2 er2 hk => ?_)
  refine t_callViE dX6_readExpFields_184 M_X0_emit (C_X0_emit _ _ _ _ er2) ML_X6_202 IM_X0_emit SE_X0_emit qc_334 rfl (As := [.int 32, .int ((r1.1 845 9) - l2)]) rfl rfl (by omega) (Nat.le_of_ble_eq_true rfl) (Nat.le_of_ble_eq_true rfl) (Nat.le_of_ble_eq_true rfl) ?_
  refine mj_pop dX6_readExpFields_187 rfl ?_
  refine mj_iload_n dX6_readExpFields_188 1 rfl ?_
  refine mj_istore_n 3 (lv2 := [(3, .int l2), (0, .ref 845), (2, .int l2)]) dX6_readExpFields_189 rfl (by decide) rfl ?_
  refine mj_sublv [(0, .ref 845), (2, .int l2), (3, .int l2)] [1, 2, 0] rfl ?_
  exact LH_X6_readExpFields_190 rc H _ l2 l2 r2.2 _ hk
noncomputable def k_X6_readExpFields_87 (rc : RT_X6_readBase) (l1 : Int32) (l2 : Int32) (l3 : Int32) (s : t_S) : Option ((Int32 × Int32 × Int32 × t_S) ⊕ (t_S)) :=
 (f_X6_node s).bind (fun r1 =>
 if (r1.1 1 11) = (0 : Int32) then ((f_X6_takeFieldName r1).bind (fun r2 =>
 if t_ix (r1.1 845 9) 288 = true then
  t_let (t_setI r2.2 855 ((r1.1 845 9).toNatClampNeg) r2.1) (fun s1 =>
 t_let (t_setI s1 845 9 ((s1.1 845 9) + (1 : Int32))) (fun s2 =>
 (f_X2_need (11 : Int32) s2).bind (fun r4 =>
 (rc.2.2.1 (l1 + (1 : Int32)) r4).bind (fun r5 =>
 (f_X2_take (44 : Int32) r5.2).bind (fun r6 =>
 if r6.1 = (0 : Int32) then ((k_X6_readExpFields_163 rc l2 r6.2).map Sum.inr)
 else (some (.inl (l1, l2, (l3 + 1), r6.2))))))))
else none))
 else ((some (r1)).map Sum.inr))
set_option maxRecDepth 4000 in
set_option maxHeartbeats 1000000 in
theorem B_X6_readExpFields_87 {D : va_G} {cy : Nat → ClassId} {ad : Nat → Nat} {bs : Nat} {X : State → Heap → Prop} (rc : RT_X6_readBase) {k : Nat} (H : RH_X6_readBase rc k) (l1 : Int32) (l2 : Int32) (l3 : Int32) (s : t_S) (Q : (Int32 × Int32 × Int32 × t_S) ⊕ (t_S) → Prop) (Hb19 : ∀ (y0 : Int32) (y1 : Int32) (y2 : Int32) (y3 : t_S), Q (.inl (y0, y1, y2, y3)) → mj_G D cy ad bs X cX6_readExpFields 4 yX6_readExpFields.cls none yX6_readExpFields.name (3 + (k + 1)) 0 0 1065 (t_P (fun v s' => v = none ∧ Q (.inr (s')))) 19 [(0, .ref 845), (1, .int (y0)), (2, .int (y1)), (3, .int (y2))] [] (t_m y3) 1065 0 0) (hk : t_hk (k_X6_readExpFields_87 rc l1 l2 l3 s) Q) : mj_G D cy ad bs X cX6_readExpFields 4 yX6_readExpFields.cls none yX6_readExpFields.name (3 + (k + 1)) 0 0 1065 (t_P (fun v s' => v = none ∧ Q (.inr (s')))) 87 [(0, .ref 845), (1, .int l1), (2, .int l2), (3, .int l3)] [] (t_m s) 1065 0 0 := by
  refine mj_aload_n dX6_readExpFields_87 0 rfl ?_
  refine t_bndK hk (fun r1 er1 hk => ?_)
  refine t_callVvE dX6_readExpFields_88 M_X6_node (C_X6_node _ _ er1) ML_X6_298 IM_X6_node SE_X6_node qc_845 rfl (As := []) rfl rfl (by omega) (Nat.le_of_ble_eq_true rfl) (Nat.le_of_ble_eq_true rfl) (Nat.le_of_ble_eq_true rfl) ?_
  refine mj_aload_n dX6_readExpFields_91 0 rfl ?_
  refine t_getR 1 dX6_readExpFields_92 F_X6_28 qr_845_0 ?_
  refine t_getI dX6_readExpFields_95 F_X6_82 qf_1_11 ?_
  refine mj_if_eq 102 dX6_readExpFields_98 (by decide) (fun z => t_posK hk z (fun hk => ?_)) (fun z => t_negK hk z (fun hk => ?_))
  · refine mj_aload_n dX6_readExpFields_102 0 rfl ?_
    refine t_getR 855 dX6_readExpFields_103 F_X6_15 qr_845_8 ?_
    refine mj_aload_n dX6_readExpFields_106 0 rfl ?_
    refine t_getI dX6_readExpFields_107 F_X6_131 qf_845_9 ?_
    refine mj_aload_n dX6_readExpFields_110 0 rfl ?_
    refine t_bndK hk (fun r2 er2 hk => ?_)
    refine t_callViE dX6_readExpFields_111 M_X6_takeFieldName (C_X6_takeFieldName _ _ er2) ML_X6_485 IM_X6_takeFieldName SE_X6_takeFieldName qc_845 rfl (As := []) rfl rfl (by omega) (Nat.le_of_ble_eq_true rfl) (Nat.le_of_ble_eq_true rfl) (Nat.le_of_ble_eq_true rfl) ?_
    refine t_chkK hk (fun c2 hk => ?_)
    refine t_iastK dX6_readExpFields_114 qa_855 (t_ixv c2) (fun s1 ws1 => t_letE hk ws1 (fun hk => ?_))
    refine mj_aload_n dX6_readExpFields_115 0 rfl ?_
    refine mj_dup dX6_readExpFields_116 rfl ?_
    refine t_getI dX6_readExpFields_117 F_X6_131 qf_845_9 ?_
    refine mj_iconst (v := 1) dX6_readExpFields_120 (by decide) ?_
    refine mj_iadd dX6_readExpFields_121 ?_
    refine t_putIK dX6_readExpFields_122 F_X6_131 qf_845_9 rfl (fun s2 ws2 => t_letE hk ws2 (fun hk => ?_))
    refine mj_aload_n dX6_readExpFields_125 0 rfl ?_
    refine t_getR 1 dX6_readExpFields_126 F_X6_28 qr_845_0 ?_
    refine mj_bipush (v := 11) dX6_readExpFields_129 (by decide) ?_
    refine t_bndK hk (fun r4 er4 hk => ?_)
    refine t_callVvE dX6_readExpFields_131 M_X2_need (C_X2_need _ _ _ er4) ML_X6_184 IM_X2_need SE_X2_need qc_1 rfl (As := [.int 11]) rfl rfl (by omega) (Nat.le_of_ble_eq_true rfl) (Nat.le_of_ble_eq_true rfl) (Nat.le_of_ble_eq_true rfl) ?_
    refine mj_aload_n dX6_readExpFields_134 0 rfl ?_
    refine mj_iload_n dX6_readExpFields_135 1 rfl ?_
    refine mj_iconst (v := 1) dX6_readExpFields_136 (by decide) ?_
    refine mj_iadd dX6_readExpFields_137 ?_
    refine t_bndK hk (fun r5 er5 hk => ?_)
    refine t_callViE dX6_readExpFields_138 M_X6_readExp (H.2.2.1 _ _ _ er5) ML_X6_120 IM_X6_readExp SE_X6_readExp qc_845 rfl (As := [.int (l1 + (1 : Int32))]) rfl rfl (by omega) (Nat.le_of_ble_eq_true rfl) (Nat.le_of_ble_eq_true rfl) (Nat.le_of_ble_eq_true rfl) ?_
    refine mj_pop dX6_readExpFields_141 rfl ?_
    refine mj_aload_n dX6_readExpFields_142 0 rfl ?_
    refine t_getR 1 dX6_readExpFields_143 F_X6_28 qr_845_0 ?_
    refine mj_bipush (v := 44) dX6_readExpFields_146 (by decide) ?_
    refine t_bndK hk (fun r6 er6 hk => ?_)
    refine t_callViE dX6_readExpFields_148 M_X2_take (C_X2_take _ _ _ er6) ML_X6_246 IM_X2_take SE_X2_take qc_1 rfl (As := [.int 44]) rfl rfl (by omega) (Nat.le_of_ble_eq_true rfl) (Nat.le_of_ble_eq_true rfl) (Nat.le_of_ble_eq_true rfl) ?_
    refine mj_if_ne 157 dX6_readExpFields_151 (by decide) (fun z => t_negK hk z (fun hk => ?_)) (fun z => t_posK hk z (fun hk => ?_))
    · refine mj_iinc (k := 3) (v := (l3 + 1)) (lv2 := [(3, .int (l3 + 1)), (0, .ref 845), (1, .int l1), (2, .int l2)]) dX6_readExpFields_157 rfl rfl (by decide) rfl ?_
      refine mj_goto 19 dX6_readExpFields_160 (by decide) ?_
      refine mj_sublv [(0, .ref 845), (1, .int l1), (2, .int l2), (3, .int (l3 + 1))] [1, 2, 3, 0] rfl ?_
      exact t_somK hk (fun hf => Hb19 l1 l2 (l3 + 1) r6.2 hf)
    · refine t_mapK hk (fun hk => ?_)
      refine mj_goto 163 dX6_readExpFields_154 (by decide) ?_
      refine mj_sublv [(0, .ref 845), (2, .int l2)] [0, 2] rfl ?_
      exact B_X6_readExpFields_163 rc H _ _ _ hk
  · refine t_mapK hk (fun hk => ?_)
    exact t_somK hk (fun hf => t_vret dX6_readExpFields_101 rfl ⟨rfl, hf⟩ (Nat.le_of_ble_eq_true rfl) (Nat.le_of_ble_eq_true rfl))
noncomputable def k_X6_readExpFields_19 (rc : RT_X6_readBase) (l1 : Int32) (l2 : Int32) (l3 : Int32) (s : t_S) : Option ((Int32 × Int32 × Int32 × t_S) ⊕ (t_S)) :=
 if (16 : Int32) < l3 then ((k_X6_readExpFields_163 rc l2 s).map Sum.inr)
 else (if (s.1 1 8) = (1 : Int32) then ((f_X6_isOpen l2 (f_X2_word s) s).bind (fun r2 =>
 if r2 = (0 : Int32) then (if l3 = (16 : Int32) then ((f_X2_fail (5 : Int32) s).bind (fun r3 =>
 k_X6_readExpFields_87 rc l1 l2 l3 r3))
 else (k_X6_readExpFields_87 rc l1 l2 l3 s))
 else ((f_X2_fail (3 : Int32) s).bind (fun r4 =>
 k_X6_readExpFields_87 rc l1 l2 l3 r4))))
 else ((f_X2_fail (2 : Int32) s).bind (fun r5 =>
 k_X6_readExpFields_87 rc l1 l2 l3 r5)))
set_option maxRecDepth 4000 in
set_option maxHeartbeats 1000000 in
theorem B_X6_readExpFields_19 {D : va_G} {cy : Nat → ClassId} {ad : Nat → Nat} {bs : Nat} {X : State → Heap → Prop} (rc : RT_X6_readBase) {k : Nat} (H : RH_X6_readBase rc k) (l1 : Int32) (l2 : Int32) (l3 : Int32) (s : t_S) (Q : (Int32 × Int32 × Int32 × t_S) ⊕ (t_S) → Prop) (Hb19 : ∀ (y0 : Int32) (y1 : Int32) (y2 : Int32) (y3 : t_S), Q (.inl (y0, y1, y2, y3)) → mj_G D cy ad bs X cX6_readExpFields 4 yX6_readExpFields.cls none yX6_readExpFields.name (3 + (k + 1)) 0 0 1065 (t_P (fun v s' => v = none ∧ Q (.inr (s')))) 19 [(0, .ref 845), (1, .int (y0)), (2, .int (y1)), (3, .int (y2))] [] (t_m y3) 1065 0 0) (hk : t_hk (k_X6_readExpFields_19 rc l1 l2 l3 s) Q) : mj_G D cy ad bs X cX6_readExpFields 4 yX6_readExpFields.cls none yX6_readExpFields.name (3 + (k + 1)) 0 0 1065 (t_P (fun v s' => v = none ∧ Q (.inr (s')))) 19 [(0, .ref 845), (1, .int l1), (2, .int l2), (3, .int l3)] [] (t_m s) 1065 0 0 := by
  refine mj_iload_n dX6_readExpFields_19 3 rfl ?_
  refine mj_bipush (v := 16) dX6_readExpFields_20 (by decide) ?_
  refine mj_icmp_gt 163 dX6_readExpFields_22 (by decide) (fun z => t_posK hk z (fun hk => ?_)) (fun z => t_negK hk z (fun hk => ?_))
  · refine mj_sublv [(0, .ref 845), (2, .int l2)] [0, 2] rfl ?_
    refine t_mapK hk (fun hk => ?_)
    exact B_X6_readExpFields_163 rc H _ _ _ hk
  · refine mj_aload_n dX6_readExpFields_25 0 rfl ?_
    refine t_getR 1 dX6_readExpFields_26 F_X6_28 qr_845_0 ?_
    refine t_getI dX6_readExpFields_29 F_X6_85 qf_1_8 ?_
    refine mj_iconst (v := 1) dX6_readExpFields_32 (by decide) ?_
    refine mj_icmp_eq 47 dX6_readExpFields_33 (by decide) (fun z => t_posK hk z (fun hk => ?_)) (fun z => t_negK hk z (fun hk => ?_))
    · refine mj_aload_n dX6_readExpFields_47 0 rfl ?_
      refine mj_iload_n dX6_readExpFields_48 2 rfl ?_
      refine mj_aload_n dX6_readExpFields_49 0 rfl ?_
      refine t_getR 1 dX6_readExpFields_50 F_X6_28 qr_845_0 ?_
      refine t_callViP dX6_readExpFields_53 M_X2_word (C_X2_word _) ML_X6_166 IM_X2_word SE_X2_word qc_1 rfl (As := []) rfl rfl (by omega) (Nat.le_of_ble_eq_true rfl) (Nat.le_of_ble_eq_true rfl) (Nat.le_of_ble_eq_true rfl) ?_
      refine t_bndK hk (fun r2 er2 hk => ?_)
      refine t_callViP dX6_readExpFields_56 M_X6_isOpen (C_X6_isOpen _ _ _ _ er2) ML_X6_515 IM_X6_isOpen SE_X6_isOpen qc_845 rfl (As := [.int l2, .int (f_X2_word s)]) rfl rfl (by omega) (Nat.le_of_ble_eq_true rfl) (Nat.le_of_ble_eq_true rfl) (Nat.le_of_ble_eq_true rfl) ?_
      refine mj_if_eq 73 dX6_readExpFields_59 (by decide) (fun z => t_posK hk z (fun hk => ?_)) (fun z => t_negK hk z (fun hk => ?_))
      · refine mj_iload_n dX6_readExpFields_73 3 rfl ?_
        refine mj_bipush (v := 16) dX6_readExpFields_74 (by decide) ?_
        refine mj_icmp_ne 87 dX6_readExpFields_76 (by decide) (fun z => t_negK hk z (fun hk => ?_)) (fun z => t_posK hk z (fun hk => ?_))
        · exact B_X6_readExpFields_87 rc H _ _ _ _ _ (fun y0 y1 y2 y3 hx => Hb19 y0 y1 y2 y3 hx) hk
        · refine mj_aload_n dX6_readExpFields_79 0 rfl ?_
          refine t_getR 1 dX6_readExpFields_80 F_X6_28 qr_845_0 ?_
          refine mj_iconst (v := 5) dX6_readExpFields_83 (by decide) ?_
          refine t_bndK hk (fun r3 er3 hk => ?_)
          refine t_callVvE dX6_readExpFields_84 M_X2_fail (C_X2_fail _ _ _ er3) ML_X6_100 IM_X2_fail SE_X2_fail qc_1 rfl (As := [.int 5]) rfl rfl (by omega) (Nat.le_of_ble_eq_true rfl) (Nat.le_of_ble_eq_true rfl) (Nat.le_of_ble_eq_true rfl) ?_
          exact B_X6_readExpFields_87 rc H _ _ _ _ _ (fun y0 y1 y2 y3 hx => Hb19 y0 y1 y2 y3 hx) hk
      · refine mj_aload_n dX6_readExpFields_62 0 rfl ?_
        refine t_getR 1 dX6_readExpFields_63 F_X6_28 qr_845_0 ?_
        refine mj_iconst (v := 3) dX6_readExpFields_66 (by decide) ?_
        refine t_bndK hk (fun r4 er4 hk => ?_)
        refine t_callVvE dX6_readExpFields_67 M_X2_fail (C_X2_fail _ _ _ er4) ML_X6_100 IM_X2_fail SE_X2_fail qc_1 rfl (As := [.int 3]) rfl rfl (by omega) (Nat.le_of_ble_eq_true rfl) (Nat.le_of_ble_eq_true rfl) (Nat.le_of_ble_eq_true rfl) ?_
        refine mj_goto 87 dX6_readExpFields_70 (by decide) ?_
        exact B_X6_readExpFields_87 rc H _ _ _ _ _ (fun y0 y1 y2 y3 hx => Hb19 y0 y1 y2 y3 hx) hk
    · refine mj_aload_n dX6_readExpFields_36 0 rfl ?_
      refine t_getR 1 dX6_readExpFields_37 F_X6_28 qr_845_0 ?_
      refine mj_iconst (v := 2) dX6_readExpFields_40 (by decide) ?_
      refine t_bndK hk (fun r5 er5 hk => ?_)
      refine t_callVvE dX6_readExpFields_41 M_X2_fail (C_X2_fail _ _ _ er5) ML_X6_100 IM_X2_fail SE_X2_fail qc_1 rfl (As := [.int 2]) rfl rfl (by omega) (Nat.le_of_ble_eq_true rfl) (Nat.le_of_ble_eq_true rfl) (Nat.le_of_ble_eq_true rfl) ?_
      refine mj_goto 87 dX6_readExpFields_44 (by decide) ?_
      exact B_X6_readExpFields_87 rc H _ _ _ _ _ (fun y0 y1 y2 y3 hx => Hb19 y0 y1 y2 y3 hx) hk
noncomputable def b_X6_readExpFields_19 (rc : RT_X6_readBase) (x : Int32 × Int32 × Int32 × t_S) : Option ((Int32 × Int32 × Int32 × t_S) ⊕ (t_S)) := k_X6_readExpFields_19 rc x.1 x.2.1 x.2.2.1 x.2.2.2
set_option maxRecDepth 4000 in
set_option maxHeartbeats 1000000 in
theorem LH_X6_readExpFields_19 {D : va_G} {cy : Nat → ClassId} {ad : Nat → Nat} {bs : Nat} {X : State → Heap → Prop} (rc : RT_X6_readBase) {k : Nat} (H : RH_X6_readBase rc k) : ∀ (n : Nat) (y0 : Int32) (y1 : Int32) (y2 : Int32) (y3 : t_S) (Q : t_S → Prop) (hk : t_hk (t_loop (b_X6_readExpFields_19 rc) n (y0, y1, y2, y3)) Q), mj_G D cy ad bs X cX6_readExpFields 4 yX6_readExpFields.cls none yX6_readExpFields.name (3 + (k + 1)) 0 0 1065 (t_P (fun v s' => v = none ∧ Q (s'))) 19 [(0, .ref 845), (1, .int (y0)), (2, .int (y1)), (3, .int (y2))] [] (t_m y3) 1065 0 0 := by
  intro n
  induction n with
  | zero => intro y0 y1 y2 y3 Q hk; obtain ⟨r, hr, _⟩ := hk; cases hr
  | succ n ih =>
    intro y0 y1 y2 y3 Q hk
    exact B_X6_readExpFields_19 rc H y0 y1 y2 y3 (fun y => t_lq (b_X6_readExpFields_19 rc) n Q y) (fun y0' y1' y2' y3' hy => ih y0' y1' y2' y3' Q hy) (t_lp hk)
noncomputable def m_X6_readExpFields (rc : RT_X6_readBase) (x1 : Int32) (s : t_S) : Option (t_S) :=
 if (s.1 1 8) = (125 : Int32) then (k_X6_readExpFields_163 rc (s.1 845 9) s)
 else (t_loop (b_X6_readExpFields_19 rc) t_N (x1, (s.1 845 9), 0, s))
set_option maxRecDepth 4000 in
set_option maxHeartbeats 1000000 in
theorem E_X6_readExpFields (rc : RT_X6_readBase) {k : Nat} (H : RH_X6_readBase rc k) (x1 : Int32) (s : t_S) (r : t_S) (hr : m_X6_readExpFields rc x1 s = some r) : t_C yX6_readExpFields cX6_readExpFields 4 none (3 + (k + 1)) [.ref 845, .int x1] s (fun v s' => v = none ∧ s' = r) := by
  refine t_C.imp (P := fun v s' => v = none ∧ (fun q => q = r) (s')) (t_C.of (by decide +kernel) (Nat.le_of_ble_eq_true rfl) ?_) (fun v s' hp => hp)
  intro D cy ad bs X
  have hk : t_hk (m_X6_readExpFields rc x1 s) (fun q => q = r) := ⟨r, hr, rfl⟩
  show mj_G D cy ad bs X cX6_readExpFields 4 yX6_readExpFields.cls none yX6_readExpFields.name (3 + (k + 1)) 0 0 1065 (t_P (fun v s' => v = none ∧ (fun q => q = r) (s'))) 0 [(0, .ref 845), (1, .int x1)] [] (t_m s) 1065 0 0
  refine mj_aload_n dX6_readExpFields_0 0 rfl ?_
  refine t_getI dX6_readExpFields_1 F_X6_131 qf_845_9 ?_
  refine mj_istore_n 2 (lv2 := [(2, .int (s.1 845 9)), (0, .ref 845), (1, .int x1)]) dX6_readExpFields_4 rfl (by decide) rfl ?_
  refine mj_aload_n dX6_readExpFields_5 1 rfl ?_
  refine t_getR 1 dX6_readExpFields_6 F_X6_28 qr_845_0 ?_
  refine t_getI dX6_readExpFields_9 F_X6_85 qf_1_8 ?_
  refine mj_bipush (v := 125) dX6_readExpFields_12 (by decide) ?_
  refine mj_icmp_eq 163 dX6_readExpFields_14 (by decide) (fun z => t_posK hk z (fun hk => ?_)) (fun z => t_negK hk z (fun hk => ?_))
  · refine mj_sublv [(0, .ref 845), (2, .int (s.1 845 9))] [1, 0] rfl ?_
    exact B_X6_readExpFields_163 rc H _ _ _ hk
  · refine mj_iconst (v := 0) dX6_readExpFields_17 (by decide) ?_
    refine mj_istore_n 3 (lv2 := [(3, .int 0), (2, .int (s.1 845 9)), (0, .ref 845), (1, .int x1)]) dX6_readExpFields_18 rfl (by decide) rfl ?_
    refine mj_sublv [(0, .ref 845), (1, .int x1), (2, .int (s.1 845 9)), (3, .int 0)] [2, 3, 1, 0] rfl ?_
    exact LH_X6_readExpFields_19 rc H _ x1 (s.1 845 9) 0 s _ hk
noncomputable def k_X6_readExps_45 (rc : RT_X6_readBase) (l1 : Int32) (l2 : Int32) (s : t_S) : Option ((Int32 × Int32 × t_S) ⊕ (Int32 × t_S)) :=
 (rc.2.2.1 l1 s).bind (fun r1 =>
 (f_X2_take (44 : Int32) r1.2).bind (fun r2 =>
 if r2.1 = (0 : Int32) then ((some ((l2 + (1 : Int32)), r2.2)).map Sum.inr)
 else (some (.inl (l1, (l2 + 1), r2.2)))))
set_option maxRecDepth 4000 in
set_option maxHeartbeats 1000000 in
theorem B_X6_readExps_45 {D : va_G} {cy : Nat → ClassId} {ad : Nat → Nat} {bs : Nat} {X : State → Heap → Prop} (rc : RT_X6_readBase) {k : Nat} (H : RH_X6_readBase rc k) (l1 : Int32) (l2 : Int32) (s : t_S) (Q : (Int32 × Int32 × t_S) ⊕ (Int32 × t_S) → Prop) (Hb2 : ∀ (y0 : Int32) (y1 : Int32) (y2 : t_S), Q (.inl (y0, y1, y2)) → mj_G D cy ad bs X cX6_readExps 3 yX6_readExps.cls (some .int) yX6_readExps.name (3 + (k + 1)) 0 0 1065 (t_P (fun v s' => ∃ x, v = some (.int x) ∧ Q (.inr ((x, s'))))) 2 [(0, .ref 845), (1, .int (y0)), (2, .int (y1))] [] (t_m y2) 1065 0 0) (hk : t_hk (k_X6_readExps_45 rc l1 l2 s) Q) : mj_G D cy ad bs X cX6_readExps 3 yX6_readExps.cls (some .int) yX6_readExps.name (3 + (k + 1)) 0 0 1065 (t_P (fun v s' => ∃ x, v = some (.int x) ∧ Q (.inr ((x, s'))))) 45 [(0, .ref 845), (1, .int l1), (2, .int l2)] [] (t_m s) 1065 0 0 := by
  refine mj_aload_n dX6_readExps_45 0 rfl ?_
  refine mj_iload_n dX6_readExps_46 1 rfl ?_
  refine t_bndK hk (fun r1 er1 hk => ?_)
  refine t_callViE dX6_readExps_47 M_X6_readExp (H.2.2.1 _ _ _ er1) ML_X6_120 IM_X6_readExp SE_X6_readExp qc_845 rfl (As := [.int l1]) rfl rfl (by omega) (Nat.le_of_ble_eq_true rfl) (Nat.le_of_ble_eq_true rfl) (Nat.le_of_ble_eq_true rfl) ?_
  refine mj_pop dX6_readExps_50 rfl ?_
  refine mj_aload_n dX6_readExps_51 0 rfl ?_
  refine t_getR 1 dX6_readExps_52 F_X6_28 qr_845_0 ?_
  refine mj_bipush (v := 44) dX6_readExps_55 (by decide) ?_
  refine t_bndK hk (fun r2 er2 hk => ?_)
  refine t_callViE dX6_readExps_57 M_X2_take (C_X2_take _ _ _ er2) ML_X6_246 IM_X2_take SE_X2_take qc_1 rfl (As := [.int 44]) rfl rfl (by omega) (Nat.le_of_ble_eq_true rfl) (Nat.le_of_ble_eq_true rfl) (Nat.le_of_ble_eq_true rfl) ?_
  refine mj_if_ne 67 dX6_readExps_60 (by decide) (fun z => t_negK hk z (fun hk => ?_)) (fun z => t_posK hk z (fun hk => ?_))
  · refine mj_iinc (k := 2) (v := (l2 + 1)) (lv2 := [(2, .int (l2 + 1)), (0, .ref 845), (1, .int l1)]) dX6_readExps_67 rfl rfl (by decide) rfl ?_
    refine mj_goto 2 dX6_readExps_70 (by decide) ?_
    refine mj_sublv [(0, .ref 845), (1, .int l1), (2, .int (l2 + 1))] [1, 2, 0] rfl ?_
    exact t_somK hk (fun hf => Hb2 l1 (l2 + 1) r2.2 hf)
  · refine t_mapK hk (fun hk => ?_)
    refine mj_iload_n dX6_readExps_63 2 rfl ?_
    refine mj_iconst (v := 1) dX6_readExps_64 (by decide) ?_
    refine mj_iadd dX6_readExps_65 ?_
    exact t_somK hk (fun hf => t_iret dX6_readExps_66 rfl rfl ⟨_, rfl, hf⟩ (Nat.le_of_ble_eq_true rfl) (Nat.le_of_ble_eq_true rfl))
noncomputable def k_X6_readExps_2 (rc : RT_X6_readBase) (l1 : Int32) (l2 : Int32) (s : t_S) : Option ((Int32 × Int32 × t_S) ⊕ (Int32 × t_S)) :=
 if (12 : Int32) < l2 then ((some (l2, s)).map Sum.inr)
 else (if (s.1 1 11) = (0 : Int32) then (if l2 = (12 : Int32) then (if (f_X6_beginsExp (s.1 1 8) s) = (0 : Int32) then (k_X6_readExps_45 rc l1 l2 s)
 else ((f_X2_fail (5 : Int32) s).bind (fun r2 =>
 k_X6_readExps_45 rc l1 l2 r2)))
 else (k_X6_readExps_45 rc l1 l2 s))
 else ((some (l2, s)).map Sum.inr))
set_option maxRecDepth 4000 in
set_option maxHeartbeats 1000000 in
theorem B_X6_readExps_2 {D : va_G} {cy : Nat → ClassId} {ad : Nat → Nat} {bs : Nat} {X : State → Heap → Prop} (rc : RT_X6_readBase) {k : Nat} (H : RH_X6_readBase rc k) (l1 : Int32) (l2 : Int32) (s : t_S) (Q : (Int32 × Int32 × t_S) ⊕ (Int32 × t_S) → Prop) (Hb2 : ∀ (y0 : Int32) (y1 : Int32) (y2 : t_S), Q (.inl (y0, y1, y2)) → mj_G D cy ad bs X cX6_readExps 3 yX6_readExps.cls (some .int) yX6_readExps.name (3 + (k + 1)) 0 0 1065 (t_P (fun v s' => ∃ x, v = some (.int x) ∧ Q (.inr ((x, s'))))) 2 [(0, .ref 845), (1, .int (y0)), (2, .int (y1))] [] (t_m y2) 1065 0 0) (hk : t_hk (k_X6_readExps_2 rc l1 l2 s) Q) : mj_G D cy ad bs X cX6_readExps 3 yX6_readExps.cls (some .int) yX6_readExps.name (3 + (k + 1)) 0 0 1065 (t_P (fun v s' => ∃ x, v = some (.int x) ∧ Q (.inr ((x, s'))))) 2 [(0, .ref 845), (1, .int l1), (2, .int l2)] [] (t_m s) 1065 0 0 := by
  refine mj_iload_n dX6_readExps_2 2 rfl ?_
  refine mj_bipush (v := 12) dX6_readExps_3 (by decide) ?_
  refine mj_icmp_gt 73 dX6_readExps_5 (by decide) (fun z => t_posK hk z (fun hk => ?_)) (fun z => t_negK hk z (fun hk => ?_))
  · refine t_mapK hk (fun hk => ?_)
    refine mj_iload_n dX6_readExps_73 2 rfl ?_
    exact t_somK hk (fun hf => t_iret dX6_readExps_74 rfl rfl ⟨_, rfl, hf⟩ (Nat.le_of_ble_eq_true rfl) (Nat.le_of_ble_eq_true rfl))
  · refine mj_aload_n dX6_readExps_8 0 rfl ?_
    refine t_getR 1 dX6_readExps_9 F_X6_28 qr_845_0 ?_
    refine t_getI dX6_readExps_12 F_X6_82 qf_1_11 ?_
    refine mj_if_ne 73 dX6_readExps_15 (by decide) (fun z => t_negK hk z (fun hk => ?_)) (fun z => t_posK hk z (fun hk => ?_))
    · refine t_mapK hk (fun hk => ?_)
      refine mj_iload_n dX6_readExps_73 2 rfl ?_
      exact t_somK hk (fun hf => t_iret dX6_readExps_74 rfl rfl ⟨_, rfl, hf⟩ (Nat.le_of_ble_eq_true rfl) (Nat.le_of_ble_eq_true rfl))
    · refine mj_iload_n dX6_readExps_18 2 rfl ?_
      refine mj_bipush (v := 12) dX6_readExps_19 (by decide) ?_
      refine mj_icmp_ne 45 dX6_readExps_21 (by decide) (fun z => t_negK hk z (fun hk => ?_)) (fun z => t_posK hk z (fun hk => ?_))
      · exact B_X6_readExps_45 rc H _ _ _ _ (fun y0 y1 y2 hx => Hb2 y0 y1 y2 hx) hk
      · refine mj_aload_n dX6_readExps_24 0 rfl ?_
        refine t_getR 1 dX6_readExps_25 F_X6_28 qr_845_0 ?_
        refine t_getI dX6_readExps_28 F_X6_85 qf_1_8 ?_
        refine t_callSiP dX6_readExps_31 M_X6_beginsExp (C_X6_beginsExp _ _) ML_X6_456 SM_X6_beginsExp (As := [.int (s.1 1 8)]) rfl rfl (by omega) (Nat.le_of_ble_eq_true rfl) (Nat.le_of_ble_eq_true rfl) (Nat.le_of_ble_eq_true rfl) ?_
        refine mj_if_eq 45 dX6_readExps_34 (by decide) (fun z => t_posK hk z (fun hk => ?_)) (fun z => t_negK hk z (fun hk => ?_))
        · exact B_X6_readExps_45 rc H _ _ _ _ (fun y0 y1 y2 hx => Hb2 y0 y1 y2 hx) hk
        · refine mj_aload_n dX6_readExps_37 0 rfl ?_
          refine t_getR 1 dX6_readExps_38 F_X6_28 qr_845_0 ?_
          refine mj_iconst (v := 5) dX6_readExps_41 (by decide) ?_
          refine t_bndK hk (fun r2 er2 hk => ?_)
          refine t_callVvE dX6_readExps_42 M_X2_fail (C_X2_fail _ _ _ er2) ML_X6_100 IM_X2_fail SE_X2_fail qc_1 rfl (As := [.int 5]) rfl rfl (by omega) (Nat.le_of_ble_eq_true rfl) (Nat.le_of_ble_eq_true rfl) (Nat.le_of_ble_eq_true rfl) ?_
          exact B_X6_readExps_45 rc H _ _ _ _ (fun y0 y1 y2 hx => Hb2 y0 y1 y2 hx) hk
noncomputable def b_X6_readExps_2 (rc : RT_X6_readBase) (x : Int32 × Int32 × t_S) : Option ((Int32 × Int32 × t_S) ⊕ (Int32 × t_S)) := k_X6_readExps_2 rc x.1 x.2.1 x.2.2
set_option maxRecDepth 4000 in
set_option maxHeartbeats 1000000 in
theorem LH_X6_readExps_2 {D : va_G} {cy : Nat → ClassId} {ad : Nat → Nat} {bs : Nat} {X : State → Heap → Prop} (rc : RT_X6_readBase) {k : Nat} (H : RH_X6_readBase rc k) : ∀ (n : Nat) (y0 : Int32) (y1 : Int32) (y2 : t_S) (Q : Int32 × t_S → Prop) (hk : t_hk (t_loop (b_X6_readExps_2 rc) n (y0, y1, y2)) Q), mj_G D cy ad bs X cX6_readExps 3 yX6_readExps.cls (some .int) yX6_readExps.name (3 + (k + 1)) 0 0 1065 (t_P (fun v s' => ∃ x, v = some (.int x) ∧ Q ((x, s')))) 2 [(0, .ref 845), (1, .int (y0)), (2, .int (y1))] [] (t_m y2) 1065 0 0 := by
  intro n
  induction n with
  | zero => intro y0 y1 y2 Q hk; obtain ⟨r, hr, _⟩ := hk; cases hr
  | succ n ih =>
    intro y0 y1 y2 Q hk
    exact B_X6_readExps_2 rc H y0 y1 y2 (fun y => t_lq (b_X6_readExps_2 rc) n Q y) (fun y0' y1' y2' hy => ih y0' y1' y2' Q hy) (t_lp hk)
noncomputable def m_X6_readExps (rc : RT_X6_readBase) (x1 : Int32) (s : t_S) : Option (Int32 × t_S) :=
 t_loop (b_X6_readExps_2 rc) t_N (x1, 0, s)
set_option maxRecDepth 4000 in
set_option maxHeartbeats 1000000 in
theorem E_X6_readExps (rc : RT_X6_readBase) {k : Nat} (H : RH_X6_readBase rc k) (x1 : Int32) (s : t_S) (r : Int32 × t_S) (hr : m_X6_readExps rc x1 s = some r) : t_C yX6_readExps cX6_readExps 3 (some .int) (3 + (k + 1)) [.ref 845, .int x1] s (fun v s' => v = some (.int r.1) ∧ s' = r.2) := by
  refine t_C.imp (P := fun v s' => ∃ x, v = some (.int x) ∧ (fun q => q = r) ((x, s'))) (t_C.of (by decide +kernel) (Nat.le_of_ble_eq_true rfl) ?_) (fun v s' hp => by obtain ⟨x, rfl, rfl⟩ := hp; exact ⟨rfl, rfl⟩)
  intro D cy ad bs X
  have hk : t_hk (m_X6_readExps rc x1 s) (fun q => q = r) := ⟨r, hr, rfl⟩
  show mj_G D cy ad bs X cX6_readExps 3 yX6_readExps.cls (some .int) yX6_readExps.name (3 + (k + 1)) 0 0 1065 (t_P (fun v s' => ∃ x, v = some (.int x) ∧ (fun q => q = r) ((x, s')))) 0 [(0, .ref 845), (1, .int x1)] [] (t_m s) 1065 0 0
  refine mj_iconst (v := 0) dX6_readExps_0 (by decide) ?_
  refine mj_istore_n 2 (lv2 := [(2, .int 0), (0, .ref 845), (1, .int x1)]) dX6_readExps_1 rfl (by decide) rfl ?_
  refine mj_sublv [(0, .ref 845), (1, .int x1), (2, .int 0)] [1, 2, 0] rfl ?_
  exact LH_X6_readExps_2 rc H _ x1 0 s _ hk
noncomputable def k_X6_readInner_131 (rc : RT_X6_readBase) (s : t_S) : Option (t_S) :=
 (f_X2_need (41 : Int32) s).bind (fun r1 =>
 some (r1))
set_option maxRecDepth 4000 in
set_option maxHeartbeats 1000000 in
theorem B_X6_readInner_131 {D : va_G} {cy : Nat → ClassId} {ad : Nat → Nat} {bs : Nat} {X : State → Heap → Prop} (rc : RT_X6_readBase) {k : Nat} (H : RH_X6_readBase rc k) (s : t_S) (Q : t_S → Prop) (hk : t_hk (k_X6_readInner_131 rc s) Q) : mj_G D cy ad bs X cX6_readInner 8 yX6_readInner.cls none yX6_readInner.name (3 + (k + 1)) 0 0 1065 (t_P (fun v s' => v = none ∧ Q (s'))) 131 [(0, .ref 845)] [] (t_m s) 1065 0 0 := by
  refine mj_aload_n dX6_readInner_131 0 rfl ?_
  refine t_getR 1 dX6_readInner_132 F_X6_28 qr_845_0 ?_
  refine mj_bipush (v := 41) dX6_readInner_135 (by decide) ?_
  refine t_bndK hk (fun r1 er1 hk => ?_)
  refine t_callVvE dX6_readInner_137 M_X2_need (C_X2_need _ _ _ er1) ML_X6_184 IM_X2_need SE_X2_need qc_1 rfl (As := [.int 41]) rfl rfl (by omega) (Nat.le_of_ble_eq_true rfl) (Nat.le_of_ble_eq_true rfl) (Nat.le_of_ble_eq_true rfl) ?_
  exact t_somK hk (fun hf => t_vret dX6_readInner_140 rfl ⟨rfl, hf⟩ (Nat.le_of_ble_eq_true rfl) (Nat.le_of_ble_eq_true rfl))
noncomputable def k_X6_readInner_106 (rc : RT_X6_readBase) (l1 : Int32) (l3 : Int32) (l4 : Int32) (l6 : Int32) (l7 : Int32) (s : t_S) : Option ((Int32 × Int32 × Int32 × Int32 × Int32 × t_S) ⊕ (t_S)) :=
 (f_X2_take (44 : Int32) s).bind (fun r1 =>
 if r1.1 = (0 : Int32) then ((k_X6_readInner_131 rc r1.2).map Sum.inr)
 else (some (.inl (l1, l3, l4, l7, (l6 + 1), r1.2))))
set_option maxRecDepth 4000 in
set_option maxHeartbeats 1000000 in
theorem B_X6_readInner_106 {D : va_G} {cy : Nat → ClassId} {ad : Nat → Nat} {bs : Nat} {X : State → Heap → Prop} (rc : RT_X6_readBase) {k : Nat} (H : RH_X6_readBase rc k) (l1 : Int32) (l3 : Int32) (l4 : Int32) (l6 : Int32) (l7 : Int32) (s : t_S) (Q : (Int32 × Int32 × Int32 × Int32 × Int32 × t_S) ⊕ (t_S) → Prop) (Hb16 : ∀ (y0 : Int32) (y1 : Int32) (y2 : Int32) (y3 : Int32) (y4 : Int32) (y5 : t_S), Q (.inl (y0, y1, y2, y3, y4, y5)) → mj_G D cy ad bs X cX6_readInner 8 yX6_readInner.cls none yX6_readInner.name (3 + (k + 1)) 0 0 1065 (t_P (fun v s' => v = none ∧ Q (.inr (s')))) 16 [(0, .ref 845), (1, .int (y0)), (3, .int (y1)), (4, .int (y2)), (5, .int (y3)), (6, .int (y4))] [] (t_m y5) 1065 0 0) (hk : t_hk (k_X6_readInner_106 rc l1 l3 l4 l6 l7 s) Q) : mj_G D cy ad bs X cX6_readInner 8 yX6_readInner.cls none yX6_readInner.name (3 + (k + 1)) 0 0 1065 (t_P (fun v s' => v = none ∧ Q (.inr (s')))) 106 [(0, .ref 845), (1, .int l1), (3, .int l3), (4, .int l4), (6, .int l6), (7, .int l7)] [] (t_m s) 1065 0 0 := by
  refine mj_iload dX6_readInner_106 5 rfl ?_
  refine mj_istore (lv2 := [(5, .int l7), (0, .ref 845), (1, .int l1), (3, .int l3), (4, .int l4), (6, .int l6), (7, .int l7)]) dX6_readInner_108 (by decide) rfl ?_
  refine mj_aload_n dX6_readInner_110 1 rfl ?_
  refine t_getR 1 dX6_readInner_111 F_X6_28 qr_845_0 ?_
  refine mj_bipush (v := 44) dX6_readInner_114 (by decide) ?_
  refine t_bndK hk (fun r1 er1 hk => ?_)
  refine t_callViE dX6_readInner_116 M_X2_take (C_X2_take _ _ _ er1) ML_X6_246 IM_X2_take SE_X2_take qc_1 rfl (As := [.int 44]) rfl rfl (by omega) (Nat.le_of_ble_eq_true rfl) (Nat.le_of_ble_eq_true rfl) (Nat.le_of_ble_eq_true rfl) ?_
  refine mj_if_ne 125 dX6_readInner_119 (by decide) (fun z => t_negK hk z (fun hk => ?_)) (fun z => t_posK hk z (fun hk => ?_))
  · refine mj_iinc (k := 5) (v := (l6 + 1)) (lv2 := [(6, .int (l6 + 1)), (5, .int l7), (0, .ref 845), (1, .int l1), (3, .int l3), (4, .int l4), (7, .int l7)]) dX6_readInner_125 rfl rfl (by decide) rfl ?_
    refine mj_goto 16 dX6_readInner_128 (by decide) ?_
    refine mj_sublv [(0, .ref 845), (1, .int l1), (3, .int l3), (4, .int l4), (5, .int l7), (6, .int (l6 + 1))] [2, 3, 4, 5, 1, 0] rfl ?_
    exact t_somK hk (fun hf => Hb16 l1 l3 l4 l7 (l6 + 1) r1.2 hf)
  · refine t_mapK hk (fun hk => ?_)
    refine mj_goto 131 dX6_readInner_122 (by decide) ?_
    refine mj_sublv [(0, .ref 845)] [1] rfl ?_
    exact B_X6_readInner_131 rc H _ _ hk
noncomputable def k_X6_readInner_51 (rc : RT_X6_readBase) (l1 : Int32) (l3 : Int32) (l4 : Int32) (l5 : Int32) (l6 : Int32) (s : t_S) : Option ((Int32 × Int32 × Int32 × Int32 × Int32 × t_S) ⊕ (t_S)) :=
 (rc.2.2.2.2.2.2.2.2.2.2.2.2.2.1 (l3 + (1 : Int32)) (l4 + (1 : Int32)) s).bind (fun r1 =>
 if (r1.2.1 1 11) = (0 : Int32) then (if l6 = (0 : Int32) then (if t_ix l1 6100 = true then
  t_let (t_setI r1.2 355 (l1.toNatClampNeg) r1.1) (fun s2 =>
 k_X6_readInner_106 rc l1 l3 l4 l6 r1.1 s2)
else none)
 else (if t_ix l5 6100 = true then
  t_let (t_setI r1.2 356 (l5.toNatClampNeg) r1.1) (fun s1 =>
 k_X6_readInner_106 rc l1 l3 l4 l6 r1.1 s1)
else none))
 else ((some (r1.2)).map Sum.inr))
set_option maxRecDepth 4000 in
set_option maxHeartbeats 1000000 in
theorem B_X6_readInner_51 {D : va_G} {cy : Nat → ClassId} {ad : Nat → Nat} {bs : Nat} {X : State → Heap → Prop} (rc : RT_X6_readBase) {k : Nat} (H : RH_X6_readBase rc k) (l1 : Int32) (l3 : Int32) (l4 : Int32) (l5 : Int32) (l6 : Int32) (s : t_S) (Q : (Int32 × Int32 × Int32 × Int32 × Int32 × t_S) ⊕ (t_S) → Prop) (Hb16 : ∀ (y0 : Int32) (y1 : Int32) (y2 : Int32) (y3 : Int32) (y4 : Int32) (y5 : t_S), Q (.inl (y0, y1, y2, y3, y4, y5)) → mj_G D cy ad bs X cX6_readInner 8 yX6_readInner.cls none yX6_readInner.name (3 + (k + 1)) 0 0 1065 (t_P (fun v s' => v = none ∧ Q (.inr (s')))) 16 [(0, .ref 845), (1, .int (y0)), (3, .int (y1)), (4, .int (y2)), (5, .int (y3)), (6, .int (y4))] [] (t_m y5) 1065 0 0) (hk : t_hk (k_X6_readInner_51 rc l1 l3 l4 l5 l6 s) Q) : mj_G D cy ad bs X cX6_readInner 8 yX6_readInner.cls none yX6_readInner.name (3 + (k + 1)) 0 0 1065 (t_P (fun v s' => v = none ∧ Q (.inr (s')))) 51 [(0, .ref 845), (1, .int l1), (3, .int l3), (4, .int l4), (5, .int l5), (6, .int l6)] [] (t_m s) 1065 0 0 := by
  refine mj_aload_n dX6_readInner_51 0 rfl ?_
  refine mj_iload_n dX6_readInner_52 2 rfl ?_
  refine mj_iconst (v := 1) dX6_readInner_53 (by decide) ?_
  refine mj_iadd dX6_readInner_54 ?_
  refine mj_iload dX6_readInner_55 3 rfl ?_
  refine mj_iconst (v := 1) dX6_readInner_57 (by decide) ?_
  refine mj_iadd dX6_readInner_58 ?_
  refine t_bndK hk (fun r1 er1 hk => ?_)
  refine t_callViE dX6_readInner_59 M_X6_readTempl (H.2.2.2.2.2.2.2.2.2.2.2.2.2.1 _ _ _ _ er1) ML_X6_198 IM_X6_readTempl SE_X6_readTempl qc_845 rfl (As := [.int (l3 + (1 : Int32)), .int (l4 + (1 : Int32))]) rfl rfl (by omega) (Nat.le_of_ble_eq_true rfl) (Nat.le_of_ble_eq_true rfl) (Nat.le_of_ble_eq_true rfl) ?_
  refine mj_istore (lv2 := [(7, .int r1.1), (0, .ref 845), (1, .int l1), (3, .int l3), (4, .int l4), (5, .int l5), (6, .int l6)]) dX6_readInner_62 (by decide) rfl ?_
  refine mj_aload_n dX6_readInner_64 1 rfl ?_
  refine t_getR 1 dX6_readInner_65 F_X6_28 qr_845_0 ?_
  refine t_getI dX6_readInner_68 F_X6_82 qf_1_11 ?_
  refine mj_if_eq 75 dX6_readInner_71 (by decide) (fun z => t_posK hk z (fun hk => ?_)) (fun z => t_negK hk z (fun hk => ?_))
  · refine mj_iload dX6_readInner_75 6 rfl ?_
    refine mj_if_ne 94 dX6_readInner_77 (by decide) (fun z => t_negK hk z (fun hk => ?_)) (fun z => t_posK hk z (fun hk => ?_))
    · refine mj_aload_n dX6_readInner_94 1 rfl ?_
      refine t_getR 353 dX6_readInner_95 F_X6_38 qr_845_2 ?_
      refine t_getR 356 dX6_readInner_98 F_X6_449 qr_353_2 ?_
      refine mj_iload dX6_readInner_101 5 rfl ?_
      refine mj_iload dX6_readInner_103 0 rfl ?_
      refine t_chkK hk (fun c1 hk => ?_)
      refine t_iastK dX6_readInner_105 qa_356 (t_ixv c1) (fun s1 ws1 => t_letE hk ws1 (fun hk => ?_))
      refine mj_sublv [(0, .ref 845), (1, .int l1), (3, .int l3), (4, .int l4), (6, .int l6), (7, .int r1.1)] [1, 2, 3, 4, 6, 0] rfl ?_
      exact B_X6_readInner_106 rc H _ _ _ _ _ _ _ (fun y0 y1 y2 y3 y4 y5 hx => Hb16 y0 y1 y2 y3 y4 y5 hx) hk
    · refine mj_aload_n dX6_readInner_80 1 rfl ?_
      refine t_getR 353 dX6_readInner_81 F_X6_38 qr_845_2 ?_
      refine t_getR 355 dX6_readInner_84 F_X6_445 qr_353_1 ?_
      refine mj_iload_n dX6_readInner_87 2 rfl ?_
      refine mj_iload dX6_readInner_88 0 rfl ?_
      refine t_chkK hk (fun c2 hk => ?_)
      refine t_iastK dX6_readInner_90 qa_355 (t_ixv c2) (fun s2 ws2 => t_letE hk ws2 (fun hk => ?_))
      refine mj_goto 106 dX6_readInner_91 (by decide) ?_
      refine mj_sublv [(0, .ref 845), (1, .int l1), (3, .int l3), (4, .int l4), (6, .int l6), (7, .int r1.1)] [1, 2, 3, 4, 6, 0] rfl ?_
      exact B_X6_readInner_106 rc H _ _ _ _ _ _ _ (fun y0 y1 y2 y3 y4 y5 hx => Hb16 y0 y1 y2 y3 y4 y5 hx) hk
  · refine t_mapK hk (fun hk => ?_)
    exact t_somK hk (fun hf => t_vret dX6_readInner_74 rfl ⟨rfl, hf⟩ (Nat.le_of_ble_eq_true rfl) (Nat.le_of_ble_eq_true rfl))
noncomputable def k_X6_readInner_16 (rc : RT_X6_readBase) (l1 : Int32) (l3 : Int32) (l4 : Int32) (l5 : Int32) (l6 : Int32) (s : t_S) : Option ((Int32 × Int32 × Int32 × Int32 × Int32 × t_S) ⊕ (t_S)) :=
 if (12 : Int32) < l6 then ((k_X6_readInner_131 rc s).map Sum.inr)
 else (if l6 = (12 : Int32) then (if (f_X6_beginsTempl (s.1 1 8) s) = (0 : Int32) then (k_X6_readInner_51 rc l1 l3 l4 l5 l6 s)
 else ((f_X2_fail (5 : Int32) s).bind (fun r2 =>
 k_X6_readInner_51 rc l1 l3 l4 l5 l6 r2)))
 else (k_X6_readInner_51 rc l1 l3 l4 l5 l6 s))
set_option maxRecDepth 4000 in
set_option maxHeartbeats 1000000 in
theorem B_X6_readInner_16 {D : va_G} {cy : Nat → ClassId} {ad : Nat → Nat} {bs : Nat} {X : State → Heap → Prop} (rc : RT_X6_readBase) {k : Nat} (H : RH_X6_readBase rc k) (l1 : Int32) (l3 : Int32) (l4 : Int32) (l5 : Int32) (l6 : Int32) (s : t_S) (Q : (Int32 × Int32 × Int32 × Int32 × Int32 × t_S) ⊕ (t_S) → Prop) (Hb16 : ∀ (y0 : Int32) (y1 : Int32) (y2 : Int32) (y3 : Int32) (y4 : Int32) (y5 : t_S), Q (.inl (y0, y1, y2, y3, y4, y5)) → mj_G D cy ad bs X cX6_readInner 8 yX6_readInner.cls none yX6_readInner.name (3 + (k + 1)) 0 0 1065 (t_P (fun v s' => v = none ∧ Q (.inr (s')))) 16 [(0, .ref 845), (1, .int (y0)), (3, .int (y1)), (4, .int (y2)), (5, .int (y3)), (6, .int (y4))] [] (t_m y5) 1065 0 0) (hk : t_hk (k_X6_readInner_16 rc l1 l3 l4 l5 l6 s) Q) : mj_G D cy ad bs X cX6_readInner 8 yX6_readInner.cls none yX6_readInner.name (3 + (k + 1)) 0 0 1065 (t_P (fun v s' => v = none ∧ Q (.inr (s')))) 16 [(0, .ref 845), (1, .int l1), (3, .int l3), (4, .int l4), (5, .int l5), (6, .int l6)] [] (t_m s) 1065 0 0 := by
  refine mj_iload dX6_readInner_16 5 rfl ?_
  refine mj_bipush (v := 12) dX6_readInner_18 (by decide) ?_
  refine mj_icmp_gt 131 dX6_readInner_20 (by decide) (fun z => t_posK hk z (fun hk => ?_)) (fun z => t_negK hk z (fun hk => ?_))
  · refine mj_sublv [(0, .ref 845)] [0] rfl ?_
    refine t_mapK hk (fun hk => ?_)
    exact B_X6_readInner_131 rc H _ _ hk
  · refine mj_iload dX6_readInner_23 5 rfl ?_
    refine mj_bipush (v := 12) dX6_readInner_25 (by decide) ?_
    refine mj_icmp_ne 51 dX6_readInner_27 (by decide) (fun z => t_negK hk z (fun hk => ?_)) (fun z => t_posK hk z (fun hk => ?_))
    · exact B_X6_readInner_51 rc H _ _ _ _ _ _ _ (fun y0 y1 y2 y3 y4 y5 hx => Hb16 y0 y1 y2 y3 y4 y5 hx) hk
    · refine mj_aload_n dX6_readInner_30 0 rfl ?_
      refine t_getR 1 dX6_readInner_31 F_X6_28 qr_845_0 ?_
      refine t_getI dX6_readInner_34 F_X6_85 qf_1_8 ?_
      refine t_callSiP dX6_readInner_37 M_X6_beginsTempl (C_X6_beginsTempl _ _) ML_X6_382 SM_X6_beginsTempl (As := [.int (s.1 1 8)]) rfl rfl (by omega) (Nat.le_of_ble_eq_true rfl) (Nat.le_of_ble_eq_true rfl) (Nat.le_of_ble_eq_true rfl) ?_
      refine mj_if_eq 51 dX6_readInner_40 (by decide) (fun z => t_posK hk z (fun hk => ?_)) (fun z => t_negK hk z (fun hk => ?_))
      · exact B_X6_readInner_51 rc H _ _ _ _ _ _ _ (fun y0 y1 y2 y3 y4 y5 hx => Hb16 y0 y1 y2 y3 y4 y5 hx) hk
      · refine mj_aload_n dX6_readInner_43 0 rfl ?_
        refine t_getR 1 dX6_readInner_44 F_X6_28 qr_845_0 ?_
        refine mj_iconst (v := 5) dX6_readInner_47 (by decide) ?_
        refine t_bndK hk (fun r2 er2 hk => ?_)
        refine t_callVvE dX6_readInner_48 M_X2_fail (C_X2_fail _ _ _ er2) ML_X6_100 IM_X2_fail SE_X2_fail qc_1 rfl (As := [.int 5]) rfl rfl (by omega) (Nat.le_of_ble_eq_true rfl) (Nat.le_of_ble_eq_true rfl) (Nat.le_of_ble_eq_true rfl) ?_
        exact B_X6_readInner_51 rc H _ _ _ _ _ _ _ (fun y0 y1 y2 y3 y4 y5 hx => Hb16 y0 y1 y2 y3 y4 y5 hx) hk
noncomputable def b_X6_readInner_16 (rc : RT_X6_readBase) (x : Int32 × Int32 × Int32 × Int32 × Int32 × t_S) : Option ((Int32 × Int32 × Int32 × Int32 × Int32 × t_S) ⊕ (t_S)) := k_X6_readInner_16 rc x.1 x.2.1 x.2.2.1 x.2.2.2.1 x.2.2.2.2.1 x.2.2.2.2.2
set_option maxRecDepth 4000 in
set_option maxHeartbeats 1000000 in
theorem LH_X6_readInner_16 {D : va_G} {cy : Nat → ClassId} {ad : Nat → Nat} {bs : Nat} {X : State → Heap → Prop} (rc : RT_X6_readBase) {k : Nat} (H : RH_X6_readBase rc k) : ∀ (n : Nat) (y0 : Int32) (y1 : Int32) (y2 : Int32) (y3 : Int32) (y4 : Int32) (y5 : t_S) (Q : t_S → Prop) (hk : t_hk (t_loop (b_X6_readInner_16 rc) n (y0, y1, y2, y3, y4, y5)) Q), mj_G D cy ad bs X cX6_readInner 8 yX6_readInner.cls none yX6_readInner.name (3 + (k + 1)) 0 0 1065 (t_P (fun v s' => v = none ∧ Q (s'))) 16 [(0, .ref 845), (1, .int (y0)), (3, .int (y1)), (4, .int (y2)), (5, .int (y3)), (6, .int (y4))] [] (t_m y5) 1065 0 0 := by
  intro n
  induction n with
  | zero => intro y0 y1 y2 y3 y4 y5 Q hk; obtain ⟨r, hr, _⟩ := hk; cases hr
  | succ n ih =>
    intro y0 y1 y2 y3 y4 y5 Q hk
    exact B_X6_readInner_16 rc H y0 y1 y2 y3 y4 y5 (fun y => t_lq (b_X6_readInner_16 rc) n Q y) (fun y0' y1' y2' y3' y4' y5' hy => ih y0' y1' y2' y3' y4' y5' Q hy) (t_lp hk)
noncomputable def m_X6_readInner (rc : RT_X6_readBase) (x1 : Int32) (x2 : Int32) (x3 : Int32) (x4 : Int32) (s : t_S) : Option (t_S) :=
 if t_ix x1 6100 = true then
  t_let (t_setI s 354 (x1.toNatClampNeg) x2) (fun s1 =>
 t_loop (b_X6_readInner_16 rc) t_N (x1, x3, x4, (-1), 0, s1))
else none
set_option maxRecDepth 4000 in
set_option maxHeartbeats 1000000 in
theorem E_X6_readInner (rc : RT_X6_readBase) {k : Nat} (H : RH_X6_readBase rc k) (x1 : Int32) (x2 : Int32) (x3 : Int32) (x4 : Int32) (s : t_S) (r : t_S) (hr : m_X6_readInner rc x1 x2 x3 x4 s = some r) : t_C yX6_readInner cX6_readInner 8 none (3 + (k + 1)) [.ref 845, .int x1, .int x2, .int x3, .int x4] s (fun v s' => v = none ∧ s' = r) := by
  refine t_C.imp (P := fun v s' => v = none ∧ (fun q => q = r) (s')) (t_C.of (by decide +kernel) (Nat.le_of_ble_eq_true rfl) ?_) (fun v s' hp => hp)
  intro D cy ad bs X
  have hk : t_hk (m_X6_readInner rc x1 x2 x3 x4 s) (fun q => q = r) := ⟨r, hr, rfl⟩
  show mj_G D cy ad bs X cX6_readInner 8 yX6_readInner.cls none yX6_readInner.name (3 + (k + 1)) 0 0 1065 (t_P (fun v s' => v = none ∧ (fun q => q = r) (s'))) 0 [(0, .ref 845), (1, .int x1), (2, .int x2), (3, .int x3), (4, .int x4)] [] (t_m s) 1065 0 0
  refine mj_aload_n dX6_readInner_0 0 rfl ?_
  refine t_getR 353 dX6_readInner_1 F_X6_38 qr_845_2 ?_
  refine t_getR 354 dX6_readInner_4 F_X6_395 qr_353_0 ?_
  refine mj_iload_n dX6_readInner_7 1 rfl ?_
  refine mj_iload_n dX6_readInner_8 2 rfl ?_
  refine t_chkK hk (fun c0 hk => ?_)
  refine t_iastK dX6_readInner_9 qa_354 (t_ixv c0) (fun s1 ws1 => t_letE hk ws1 (fun hk => ?_))
  refine mj_iconst (v := (-1)) dX6_readInner_10 (by decide) ?_
  refine mj_istore (lv2 := [(5, .int (-1)), (0, .ref 845), (1, .int x1), (2, .int x2), (3, .int x3), (4, .int x4)]) dX6_readInner_11 (by decide) rfl ?_
  refine mj_iconst (v := 0) dX6_readInner_13 (by decide) ?_
  refine mj_istore (lv2 := [(6, .int 0), (5, .int (-1)), (0, .ref 845), (1, .int x1), (2, .int x2), (3, .int x3), (4, .int x4)]) dX6_readInner_14 (by decide) rfl ?_
  refine mj_sublv [(0, .ref 845), (1, .int x1), (3, .int x3), (4, .int x4), (5, .int (-1)), (6, .int 0)] [2, 3, 5, 6, 1, 0] rfl ?_
  exact LH_X6_readInner_16 rc H _ x1 x3 x4 (-1) 0 s1 _ hk
noncomputable def m_X6_readMet (rc : RT_X6_readBase) (x1 : Int32) (s : t_S) : Option (t_S) :=
 (f_X2_need (40 : Int32) s).bind (fun r1 =>
 (rc.2.2.1 (x1 + (1 : Int32)) r1).bind (fun r2 =>
 (f_X2_need (44 : Int32) r2.2).bind (fun r3 =>
 (rc.2.2.2.2.2.2.2.2.2.2.2.2.2.1 (x1 + (1 : Int32)) (-1000 : Int32) r3).bind (fun r4 =>
 (f_X0_emit (36 : Int32) r4.1 r4.2).bind (fun r5 =>
 (f_X2_need (41 : Int32) r5.2).bind (fun r6 =>
 some (r6)))))))
set_option maxRecDepth 4000 in
set_option maxHeartbeats 1000000 in
theorem E_X6_readMet (rc : RT_X6_readBase) {k : Nat} (H : RH_X6_readBase rc k) (x1 : Int32) (s : t_S) (r : t_S) (hr : m_X6_readMet rc x1 s = some r) : t_C yX6_readMet cX6_readMet 2 none (3 + (k + 1)) [.ref 845, .int x1] s (fun v s' => v = none ∧ s' = r) := by
  refine t_C.imp (P := fun v s' => v = none ∧ (fun q => q = r) (s')) (t_C.of (by decide +kernel) (Nat.le_of_ble_eq_true rfl) ?_) (fun v s' hp => hp)
  intro D cy ad bs X
  have hk : t_hk (m_X6_readMet rc x1 s) (fun q => q = r) := ⟨r, hr, rfl⟩
  show mj_G D cy ad bs X cX6_readMet 2 yX6_readMet.cls none yX6_readMet.name (3 + (k + 1)) 0 0 1065 (t_P (fun v s' => v = none ∧ (fun q => q = r) (s'))) 0 [(0, .ref 845), (1, .int x1)] [] (t_m s) 1065 0 0
  refine mj_aload_n dX6_readMet_0 0 rfl ?_
  refine t_getR 1 dX6_readMet_1 F_X6_28 qr_845_0 ?_
  refine mj_bipush (v := 40) dX6_readMet_4 (by decide) ?_
  refine t_bndK hk (fun r1 er1 hk => ?_)
  refine t_callVvE dX6_readMet_6 M_X2_need (C_X2_need _ _ _ er1) ML_X6_184 IM_X2_need SE_X2_need qc_1 rfl (As := [.int 40]) rfl rfl (by omega) (Nat.le_of_ble_eq_true rfl) (Nat.le_of_ble_eq_true rfl) (Nat.le_of_ble_eq_true rfl) ?_
  refine mj_aload_n dX6_readMet_9 0 rfl ?_
  refine mj_iload_n dX6_readMet_10 1 rfl ?_
  refine mj_iconst (v := 1) dX6_readMet_11 (by decide) ?_
  refine mj_iadd dX6_readMet_12 ?_
  refine t_bndK hk (fun r2 er2 hk => ?_)
  refine t_callViE dX6_readMet_13 M_X6_readExp (H.2.2.1 _ _ _ er2) ML_X6_120 IM_X6_readExp SE_X6_readExp qc_845 rfl (As := [.int (x1 + (1 : Int32))]) rfl rfl (by omega) (Nat.le_of_ble_eq_true rfl) (Nat.le_of_ble_eq_true rfl) (Nat.le_of_ble_eq_true rfl) ?_
  refine mj_pop dX6_readMet_16 rfl ?_
  refine mj_aload_n dX6_readMet_17 0 rfl ?_
  refine t_getR 1 dX6_readMet_18 F_X6_28 qr_845_0 ?_
  refine mj_bipush (v := 44) dX6_readMet_21 (by decide) ?_
  refine t_bndK hk (fun r3 er3 hk => ?_)
  refine t_callVvE dX6_readMet_23 M_X2_need (C_X2_need _ _ _ er3) ML_X6_184 IM_X2_need SE_X2_need qc_1 rfl (As := [.int 44]) rfl rfl (by omega) (Nat.le_of_ble_eq_true rfl) (Nat.le_of_ble_eq_true rfl) (Nat.le_of_ble_eq_true rfl) ?_
  refine mj_aload_n dX6_readMet_26 0 rfl ?_
  refine t_getR 334 dX6_readMet_27 F_X6_43 qr_845_3 ?_
  refine mj_bipush (v := 36) dX6_readMet_30 (by decide) ?_
  refine mj_aload_n dX6_readMet_32 0 rfl ?_
  refine mj_iload_n dX6_readMet_33 1 rfl ?_
  refine mj_iconst (v := 1) dX6_readMet_34 (by decide) ?_
  refine mj_iadd dX6_readMet_35 ?_
  refine mj_sipush (v := (-1000)) dX6_readMet_36 (by decide) ?_
  refine t_bndK hk (fun r4 er4 hk => ?_)
  refine t_callViE dX6_readMet_39 M_X6_readTempl (H.2.2.2.2.2.2.2.2.2.2.2.2.2.1 _ _ _ _ er4) ML_X6_198 IM_X6_readTempl SE_X6_readTempl qc_845 rfl (As := [.int (x1 + (1 : Int32)), .int (-1000)]) rfl rfl (by omega) (Nat.le_of_ble_eq_true rfl) (Nat.le_of_ble_eq_true rfl) (Nat.le_of_ble_eq_true rfl) ?_
  refine t_bndK hk (fun r5 er5 hk => ?_)
  refine t_callViE dX6_readMet_42 M_X0_emit (C_X0_emit _ _ _ _ er5) ML_X6_202 IM_X0_emit SE_X0_emit qc_334 rfl (As := [.int 36, .int r4.1]) rfl rfl (by omega) (Nat.le_of_ble_eq_true rfl) (Nat.le_of_ble_eq_true rfl) (Nat.le_of_ble_eq_true rfl) ?_
  refine mj_pop dX6_readMet_45 rfl ?_
  refine mj_aload_n dX6_readMet_46 0 rfl ?_
  refine t_getR 1 dX6_readMet_47 F_X6_28 qr_845_0 ?_
  refine mj_bipush (v := 41) dX6_readMet_50 (by decide) ?_
  refine t_bndK hk (fun r6 er6 hk => ?_)
  refine t_callVvE dX6_readMet_52 M_X2_need (C_X2_need _ _ _ er6) ML_X6_184 IM_X2_need SE_X2_need qc_1 rfl (As := [.int 41]) rfl rfl (by omega) (Nat.le_of_ble_eq_true rfl) (Nat.le_of_ble_eq_true rfl) (Nat.le_of_ble_eq_true rfl) ?_
  exact t_somK hk (fun hf => t_vret dX6_readMet_55 rfl ⟨rfl, hf⟩ (Nat.le_of_ble_eq_true rfl) (Nat.le_of_ble_eq_true rfl))
noncomputable def k_X6_readOne_313 (rc : RT_X6_readBase) (l2 : Int32) (s : t_S) : Option ((Int32 × t_S) ⊕ (t_S)) :=
 if (s.1 845 7) ≤ l2 then ((some (s)).map Sum.inr)
 else (t_let (t_setI s 845 7 ((s.1 845 7) - (1 : Int32))) (fun s1 =>
 if t_ix ((2 : Int32) * (s1.1 845 7)) 6004 = true then
  if t_ix (((2 : Int32) * (s1.1 845 7)) + (1 : Int32)) 6004 = true then
  (f_X0_emit (s1.1 854 (((2 : Int32) * (s1.1 845 7)).toNatClampNeg)) (s1.1 854 ((((2 : Int32) * (s1.1 845 7)) + (1 : Int32)).toNatClampNeg)) s1).bind (fun r3 =>
 some (.inl (l2, r3.2)))
else none
else none))
set_option maxRecDepth 4000 in
set_option maxHeartbeats 1000000 in
theorem B_X6_readOne_313 {D : va_G} {cy : Nat → ClassId} {ad : Nat → Nat} {bs : Nat} {X : State → Heap → Prop} (rc : RT_X6_readBase) {k : Nat} (H : RH_X6_readBase rc k) (l2 : Int32) (s : t_S) (Q : (Int32 × t_S) ⊕ (t_S) → Prop) (Hb313 : ∀ (y0 : Int32) (y1 : t_S), Q (.inl (y0, y1)) → mj_G D cy ad bs X cX6_readOne 5 yX6_readOne.cls none yX6_readOne.name (3 + (k + 1)) 0 0 1065 (t_P (fun v s' => v = none ∧ Q (.inr (s')))) 313 [(0, .ref 845), (2, .int (y0))] [] (t_m y1) 1065 0 0) (hk : t_hk (k_X6_readOne_313 rc l2 s) Q) : mj_G D cy ad bs X cX6_readOne 5 yX6_readOne.cls none yX6_readOne.name (3 + (k + 1)) 0 0 1065 (t_P (fun v s' => v = none ∧ Q (.inr (s')))) 313 [(0, .ref 845), (2, .int l2)] [] (t_m s) 1065 0 0 := by
  refine mj_aload_n dX6_readOne_313 0 rfl ?_
  refine t_getI dX6_readOne_314 F_X6_128 qf_845_7 ?_
  refine mj_iload_n dX6_readOne_317 1 rfl ?_
  refine mj_icmp_le 366 dX6_readOne_318 (by decide) (fun z => t_posK hk z (fun hk => ?_)) (fun z => t_negK hk z (fun hk => ?_))
  · refine t_mapK hk (fun hk => ?_)
    exact t_somK hk (fun hf => t_vret dX6_readOne_366 rfl ⟨rfl, hf⟩ (Nat.le_of_ble_eq_true rfl) (Nat.le_of_ble_eq_true rfl))
  · refine mj_aload_n dX6_readOne_321 0 rfl ?_
    refine mj_dup dX6_readOne_322 rfl ?_
    refine t_getI dX6_readOne_323 F_X6_128 qf_845_7 ?_
    refine mj_iconst (v := 1) dX6_readOne_326 (by decide) ?_
    refine mj_isub dX6_readOne_327 ?_
    refine t_putIK dX6_readOne_328 F_X6_128 qf_845_7 rfl (fun s1 ws1 => t_letE hk ws1 (fun hk => ?_))
    refine mj_aload_n dX6_readOne_331 0 rfl ?_
    refine t_getR 334 dX6_readOne_332 F_X6_43 qr_845_3 ?_
    refine mj_aload_n dX6_readOne_335 0 rfl ?_
    refine t_getR 854 dX6_readOne_336 F_X6_11 qr_845_6 ?_
    refine mj_iconst (v := 2) dX6_readOne_339 (by decide) ?_
    refine mj_aload_n dX6_readOne_340 0 rfl ?_
    refine t_getI dX6_readOne_341 F_X6_128 qf_845_7 ?_
    refine mj_imul dX6_readOne_344 ?_
    refine t_chkK hk (fun c0 hk => ?_)
    refine t_iald dX6_readOne_345 qa_854 (t_ixv c0) ?_
    refine mj_aload_n dX6_readOne_346 0 rfl ?_
    refine t_getR 854 dX6_readOne_347 F_X6_11 qr_845_6 ?_
    refine mj_iconst (v := 2) dX6_readOne_350 (by decide) ?_
    refine mj_aload_n dX6_readOne_351 0 rfl ?_
    refine t_getI dX6_readOne_352 F_X6_128 qf_845_7 ?_
    refine mj_imul dX6_readOne_355 ?_
    refine mj_iconst (v := 1) dX6_readOne_356 (by decide) ?_
    refine mj_iadd dX6_readOne_357 ?_
    refine t_chkK hk (fun c1 hk => ?_)
    refine t_iald dX6_readOne_358 qa_854 (t_ixv c1) ?_
    refine t_bndK hk (fun r3 er3 hk => ?_)
    refine t_callViE dX6_readOne_359 M_X0_emit (C_X0_emit _ _ _ _ er3) ML_X6_202 IM_X0_emit SE_X0_emit qc_334 rfl (As := [.int (s1.1 854 (((2 : Int32) * (s1.1 845 7)).toNatClampNeg)), .int (s1.1 854 ((((2 : Int32) * (s1.1 845 7)) + (1 : Int32)).toNatClampNeg))]) rfl rfl (by omega) (Nat.le_of_ble_eq_true rfl) (Nat.le_of_ble_eq_true rfl) (Nat.le_of_ble_eq_true rfl) ?_
    refine mj_pop dX6_readOne_362 rfl ?_
    refine mj_goto 313 dX6_readOne_363 (by decide) ?_
    exact t_somK hk (fun hf => Hb313 l2 r3.2 hf)
noncomputable def b_X6_readOne_313 (rc : RT_X6_readBase) (x : Int32 × t_S) : Option ((Int32 × t_S) ⊕ (t_S)) := k_X6_readOne_313 rc x.1 x.2
set_option maxRecDepth 4000 in
set_option maxHeartbeats 1000000 in
theorem LH_X6_readOne_313 {D : va_G} {cy : Nat → ClassId} {ad : Nat → Nat} {bs : Nat} {X : State → Heap → Prop} (rc : RT_X6_readBase) {k : Nat} (H : RH_X6_readBase rc k) : ∀ (n : Nat) (y0 : Int32) (y1 : t_S) (Q : t_S → Prop) (hk : t_hk (t_loop (b_X6_readOne_313 rc) n (y0, y1)) Q), mj_G D cy ad bs X cX6_readOne 5 yX6_readOne.cls none yX6_readOne.name (3 + (k + 1)) 0 0 1065 (t_P (fun v s' => v = none ∧ Q (s'))) 313 [(0, .ref 845), (2, .int (y0))] [] (t_m y1) 1065 0 0 := by
  intro n
  induction n with
  | zero => intro y0 y1 Q hk; obtain ⟨r, hr, _⟩ := hk; cases hr
  | succ n ih =>
    intro y0 y1 Q hk
    exact B_X6_readOne_313 rc H y0 y1 (fun y => t_lq (b_X6_readOne_313 rc) n Q y) (fun y0' y1' hy => ih y0' y1' Q hy) (t_lp hk)
noncomputable def k_X6_readOne_307 (rc : RT_X6_readBase) (l1 : Int32) (l2 : Int32) (l3 : Int32) (s : t_S) : Option ((Int32 × Int32 × Int32 × t_S) ⊕ (t_S)) :=
 some (.inl (l1, l2, (l3 + 1), s))
set_option maxRecDepth 4000 in
set_option maxHeartbeats 1000000 in
theorem B_X6_readOne_307 {D : va_G} {cy : Nat → ClassId} {ad : Nat → Nat} {bs : Nat} {X : State → Heap → Prop} (rc : RT_X6_readBase) {k : Nat} (H : RH_X6_readBase rc k) (l1 : Int32) (l2 : Int32) (l3 : Int32) (s : t_S) (Q : (Int32 × Int32 × Int32 × t_S) ⊕ (t_S) → Prop) (Hb186 : ∀ (y0 : Int32) (y1 : Int32) (y2 : Int32) (y3 : t_S), Q (.inl (y0, y1, y2, y3)) → mj_G D cy ad bs X cX6_readOne 5 yX6_readOne.cls none yX6_readOne.name (3 + (k + 1)) 0 0 1065 (t_P (fun v s' => v = none ∧ Q (.inr (s')))) 186 [(0, .ref 845), (1, .int (y0)), (2, .int (y1)), (3, .int (y2))] [] (t_m y3) 1065 0 0) (hk : t_hk (k_X6_readOne_307 rc l1 l2 l3 s) Q) : mj_G D cy ad bs X cX6_readOne 5 yX6_readOne.cls none yX6_readOne.name (3 + (k + 1)) 0 0 1065 (t_P (fun v s' => v = none ∧ Q (.inr (s')))) 307 [(0, .ref 845), (1, .int l1), (2, .int l2), (3, .int l3)] [] (t_m s) 1065 0 0 := by
  refine mj_iinc (k := 3) (v := (l3 + 1)) (lv2 := [(3, .int (l3 + 1)), (0, .ref 845), (1, .int l1), (2, .int l2)]) dX6_readOne_307 rfl rfl (by decide) rfl ?_
  refine mj_goto 186 dX6_readOne_310 (by decide) ?_
  refine mj_sublv [(0, .ref 845), (1, .int l1), (2, .int l2), (3, .int (l3 + 1))] [1, 2, 3, 0] rfl ?_
  exact t_somK hk (fun hf => Hb186 l1 l2 (l3 + 1) s hf)
noncomputable def k_X6_readOne_230 (rc : RT_X6_readBase) (l1 : Int32) (l2 : Int32) (l3 : Int32) (s : t_S) : Option ((Int32 × Int32 × Int32 × t_S) ⊕ (t_S)) :=
 (f_X6_node s).bind (fun r1 =>
 (f_X2_take (46 : Int32) r1).bind (fun r2 =>
 if r2.1 = (0 : Int32) then ((f_X2_take (91 : Int32) r2.2).bind (fun r3 =>
 if r3.1 = (0 : Int32) then (k_X6_readOne_307 rc l1 l2 l3 r3.2)
 else ((rc.2.2.1 (l1 + (1 : Int32)) r3.2).bind (fun r4 =>
 (f_X2_need (93 : Int32) r4.2).bind (fun r5 =>
 (f_X0_emit (15 : Int32) (0 : Int32) r5).bind (fun r6 =>
 k_X6_readOne_307 rc l1 l2 l3 r6.2))))))
 else ((f_X6_takeFieldName r2.2).bind (fun r7 =>
 (f_X0_emit (14 : Int32) r7.1 r7.2).bind (fun r8 =>
 k_X6_readOne_307 rc l1 l2 l3 r8.2)))))
set_option maxRecDepth 4000 in
set_option maxHeartbeats 1000000 in
theorem B_X6_readOne_230 {D : va_G} {cy : Nat → ClassId} {ad : Nat → Nat} {bs : Nat} {X : State → Heap → Prop} (rc : RT_X6_readBase) {k : Nat} (H : RH_X6_readBase rc k) (l1 : Int32) (l2 : Int32) (l3 : Int32) (s : t_S) (Q : (Int32 × Int32 × Int32 × t_S) ⊕ (t_S) → Prop) (Hb186 : ∀ (y0 : Int32) (y1 : Int32) (y2 : Int32) (y3 : t_S), Q (.inl (y0, y1, y2, y3)) → mj_G D cy ad bs X cX6_readOne 5 yX6_readOne.cls none yX6_readOne.name (3 + (k + 1)) 0 0 1065 (t_P (fun v s' => v = none ∧ Q (.inr (s')))) 186 [(0, .ref 845), (1, .int (y0)), (2, .int (y1)), (3, .int (y2))] [] (t_m y3) 1065 0 0) (hk : t_hk (k_X6_readOne_230 rc l1 l2 l3 s) Q) : mj_G D cy ad bs X cX6_readOne 5 yX6_readOne.cls none yX6_readOne.name (3 + (k + 1)) 0 0 1065 (t_P (fun v s' => v = none ∧ Q (.inr (s')))) 230 [(0, .ref 845), (1, .int l1), (2, .int l2), (3, .int l3)] [] (t_m s) 1065 0 0 := by
  refine mj_aload_n dX6_readOne_230 0 rfl ?_
  refine t_bndK hk (fun r1 er1 hk => ?_)
  refine t_callVvE dX6_readOne_231 M_X6_node (C_X6_node _ _ er1) ML_X6_298 IM_X6_node SE_X6_node qc_845 rfl (As := []) rfl rfl (by omega) (Nat.le_of_ble_eq_true rfl) (Nat.le_of_ble_eq_true rfl) (Nat.le_of_ble_eq_true rfl) ?_
  refine mj_aload_n dX6_readOne_234 0 rfl ?_
  refine t_getR 1 dX6_readOne_235 F_X6_28 qr_845_0 ?_
  refine mj_bipush (v := 46) dX6_readOne_238 (by decide) ?_
  refine t_bndK hk (fun r2 er2 hk => ?_)
  refine t_callViE dX6_readOne_240 M_X2_take (C_X2_take _ _ _ er2) ML_X6_246 IM_X2_take SE_X2_take qc_1 rfl (As := [.int 46]) rfl rfl (by omega) (Nat.le_of_ble_eq_true rfl) (Nat.le_of_ble_eq_true rfl) (Nat.le_of_ble_eq_true rfl) ?_
  refine mj_if_eq 267 dX6_readOne_243 (by decide) (fun z => t_posK hk z (fun hk => ?_)) (fun z => t_negK hk z (fun hk => ?_))
  · refine mj_aload_n dX6_readOne_267 0 rfl ?_
    refine t_getR 1 dX6_readOne_268 F_X6_28 qr_845_0 ?_
    refine mj_bipush (v := 91) dX6_readOne_271 (by decide) ?_
    refine t_bndK hk (fun r3 er3 hk => ?_)
    refine t_callViE dX6_readOne_273 M_X2_take (C_X2_take _ _ _ er3) ML_X6_246 IM_X2_take SE_X2_take qc_1 rfl (As := [.int 91]) rfl rfl (by omega) (Nat.le_of_ble_eq_true rfl) (Nat.le_of_ble_eq_true rfl) (Nat.le_of_ble_eq_true rfl) ?_
    refine mj_if_eq 307 dX6_readOne_276 (by decide) (fun z => t_posK hk z (fun hk => ?_)) (fun z => t_negK hk z (fun hk => ?_))
    · exact B_X6_readOne_307 rc H _ _ _ _ _ (fun y0 y1 y2 y3 hx => Hb186 y0 y1 y2 y3 hx) hk
    · refine mj_aload_n dX6_readOne_279 0 rfl ?_
      refine mj_iload_n dX6_readOne_280 1 rfl ?_
      refine mj_iconst (v := 1) dX6_readOne_281 (by decide) ?_
      refine mj_iadd dX6_readOne_282 ?_
      refine t_bndK hk (fun r4 er4 hk => ?_)
      refine t_callViE dX6_readOne_283 M_X6_readExp (H.2.2.1 _ _ _ er4) ML_X6_120 IM_X6_readExp SE_X6_readExp qc_845 rfl (As := [.int (l1 + (1 : Int32))]) rfl rfl (by omega) (Nat.le_of_ble_eq_true rfl) (Nat.le_of_ble_eq_true rfl) (Nat.le_of_ble_eq_true rfl) ?_
      refine mj_pop dX6_readOne_286 rfl ?_
      refine mj_aload_n dX6_readOne_287 0 rfl ?_
      refine t_getR 1 dX6_readOne_288 F_X6_28 qr_845_0 ?_
      refine mj_bipush (v := 93) dX6_readOne_291 (by decide) ?_
      refine t_bndK hk (fun r5 er5 hk => ?_)
      refine t_callVvE dX6_readOne_293 M_X2_need (C_X2_need _ _ _ er5) ML_X6_184 IM_X2_need SE_X2_need qc_1 rfl (As := [.int 93]) rfl rfl (by omega) (Nat.le_of_ble_eq_true rfl) (Nat.le_of_ble_eq_true rfl) (Nat.le_of_ble_eq_true rfl) ?_
      refine mj_aload_n dX6_readOne_296 0 rfl ?_
      refine t_getR 334 dX6_readOne_297 F_X6_43 qr_845_3 ?_
      refine mj_bipush (v := 15) dX6_readOne_300 (by decide) ?_
      refine mj_iconst (v := 0) dX6_readOne_302 (by decide) ?_
      refine t_bndK hk (fun r6 er6 hk => ?_)
      refine t_callViE dX6_readOne_303 M_X0_emit (C_X0_emit _ _ _ _ er6) ML_X6_202 IM_X0_emit SE_X0_emit qc_334 rfl (As := [.int 15, .int 0]) rfl rfl (by omega) (Nat.le_of_ble_eq_true rfl) (Nat.le_of_ble_eq_true rfl) (Nat.le_of_ble_eq_true rfl) ?_
      refine mj_pop dX6_readOne_306 rfl ?_
      exact B_X6_readOne_307 rc H _ _ _ _ _ (fun y0 y1 y2 y3 hx => Hb186 y0 y1 y2 y3 hx) hk
  · refine mj_aload_n dX6_readOne_246 0 rfl ?_
    refine t_bndK hk (fun r7 er7 hk => ?_)
    refine t_callViE dX6_readOne_247 M_X6_takeFieldName (C_X6_takeFieldName _ _ er7) ML_X6_485 IM_X6_takeFieldName SE_X6_takeFieldName qc_845 rfl (As := []) rfl rfl (by omega) (Nat.le_of_ble_eq_true rfl) (Nat.le_of_ble_eq_true rfl) (Nat.le_of_ble_eq_true rfl) ?_
    refine mj_istore (lv2 := [(4, .int r7.1), (0, .ref 845), (1, .int l1), (2, .int l2), (3, .int l3)]) dX6_readOne_250 (by decide) rfl ?_
    refine mj_aload_n dX6_readOne_252 1 rfl ?_
    refine t_getR 334 dX6_readOne_253 F_X6_43 qr_845_3 ?_
    refine mj_bipush (v := 14) dX6_readOne_256 (by decide) ?_
    refine mj_iload dX6_readOne_258 0 rfl ?_
    refine t_bndK hk (fun r8 er8 hk => ?_)
    refine t_callViE dX6_readOne_260 M_X0_emit (C_X0_emit _ _ _ _ er8) ML_X6_202 IM_X0_emit SE_X0_emit qc_334 rfl (As := [.int 14, .int r7.1]) rfl rfl (by omega) (Nat.le_of_ble_eq_true rfl) (Nat.le_of_ble_eq_true rfl) (Nat.le_of_ble_eq_true rfl) ?_
    refine mj_pop dX6_readOne_263 rfl ?_
    refine mj_goto 307 dX6_readOne_264 (by decide) ?_
    refine mj_sublv [(0, .ref 845), (1, .int l1), (2, .int l2), (3, .int l3)] [1, 2, 3, 4] rfl ?_
    exact B_X6_readOne_307 rc H _ _ _ _ _ (fun y0 y1 y2 y3 hx => Hb186 y0 y1 y2 y3 hx) hk
noncomputable def k_X6_readOne_186 (rc : RT_X6_readBase) (l1 : Int32) (l2 : Int32) (l3 : Int32) (s : t_S) : Option ((Int32 × Int32 × Int32 × t_S) ⊕ (t_S)) :=
 if (3000 : Int32) < l3 then ((t_loop (b_X6_readOne_313 rc) t_N (l2, s)).map Sum.inr)
 else (if (s.1 1 11) = (0 : Int32) then (if (s.1 1 8) = (46 : Int32) then (k_X6_readOne_230 rc l1 l2 l3 s)
 else (if (s.1 1 8) = (91 : Int32) then (k_X6_readOne_230 rc l1 l2 l3 s)
 else ((t_loop (b_X6_readOne_313 rc) t_N (l2, s)).map Sum.inr)))
 else ((t_loop (b_X6_readOne_313 rc) t_N (l2, s)).map Sum.inr))
set_option maxRecDepth 4000 in
set_option maxHeartbeats 1000000 in
theorem B_X6_readOne_186 {D : va_G} {cy : Nat → ClassId} {ad : Nat → Nat} {bs : Nat} {X : State → Heap → Prop} (rc : RT_X6_readBase) {k : Nat} (H : RH_X6_readBase rc k) (l1 : Int32) (l2 : Int32) (l3 : Int32) (s : t_S) (Q : (Int32 × Int32 × Int32 × t_S) ⊕ (t_S) → Prop) (Hb186 : ∀ (y0 : Int32) (y1 : Int32) (y2 : Int32) (y3 : t_S), Q (.inl (y0, y1, y2, y3)) → mj_G D cy ad bs X cX6_readOne 5 yX6_readOne.cls none yX6_readOne.name (3 + (k + 1)) 0 0 1065 (t_P (fun v s' => v = none ∧ Q (.inr (s')))) 186 [(0, .ref 845), (1, .int (y0)), (2, .int (y1)), (3, .int (y2))] [] (t_m y3) 1065 0 0) (hk : t_hk (k_X6_readOne_186 rc l1 l2 l3 s) Q) : mj_G D cy ad bs X cX6_readOne 5 yX6_readOne.cls none yX6_readOne.name (3 + (k + 1)) 0 0 1065 (t_P (fun v s' => v = none ∧ Q (.inr (s')))) 186 [(0, .ref 845), (1, .int l1), (2, .int l2), (3, .int l3)] [] (t_m s) 1065 0 0 := by
  refine mj_iload_n dX6_readOne_186 3 rfl ?_
  refine mj_sipush (v := 3000) dX6_readOne_187 (by decide) ?_
  refine mj_icmp_gt 313 dX6_readOne_190 (by decide) (fun z => t_posK hk z (fun hk => ?_)) (fun z => t_negK hk z (fun hk => ?_))
  · refine mj_sublv [(0, .ref 845), (2, .int l2)] [0, 2] rfl ?_
    refine t_mapK hk (fun hk => ?_)
    exact LH_X6_readOne_313 rc H _ l2 s _ hk
  · refine mj_aload_n dX6_readOne_193 0 rfl ?_
    refine t_getR 1 dX6_readOne_194 F_X6_28 qr_845_0 ?_
    refine t_getI dX6_readOne_197 F_X6_82 qf_1_11 ?_
    refine mj_if_ne 313 dX6_readOne_200 (by decide) (fun z => t_negK hk z (fun hk => ?_)) (fun z => t_posK hk z (fun hk => ?_))
    · refine mj_sublv [(0, .ref 845), (2, .int l2)] [0, 2] rfl ?_
      refine t_mapK hk (fun hk => ?_)
      exact LH_X6_readOne_313 rc H _ l2 s _ hk
    · refine mj_aload_n dX6_readOne_203 0 rfl ?_
      refine t_getR 1 dX6_readOne_204 F_X6_28 qr_845_0 ?_
      refine t_getI dX6_readOne_207 F_X6_85 qf_1_8 ?_
      refine mj_bipush (v := 46) dX6_readOne_210 (by decide) ?_
      refine mj_icmp_eq 230 dX6_readOne_212 (by decide) (fun z => t_posK hk z (fun hk => ?_)) (fun z => t_negK hk z (fun hk => ?_))
      · exact B_X6_readOne_230 rc H _ _ _ _ _ (fun y0 y1 y2 y3 hx => Hb186 y0 y1 y2 y3 hx) hk
      · refine mj_aload_n dX6_readOne_215 0 rfl ?_
        refine t_getR 1 dX6_readOne_216 F_X6_28 qr_845_0 ?_
        refine t_getI dX6_readOne_219 F_X6_85 qf_1_8 ?_
        refine mj_bipush (v := 91) dX6_readOne_222 (by decide) ?_
        refine mj_icmp_eq 230 dX6_readOne_224 (by decide) (fun z => t_posK hk z (fun hk => ?_)) (fun z => t_negK hk z (fun hk => ?_))
        · exact B_X6_readOne_230 rc H _ _ _ _ _ (fun y0 y1 y2 y3 hx => Hb186 y0 y1 y2 y3 hx) hk
        · refine t_mapK hk (fun hk => ?_)
          refine mj_goto 313 dX6_readOne_227 (by decide) ?_
          refine mj_sublv [(0, .ref 845), (2, .int l2)] [0, 2] rfl ?_
          exact LH_X6_readOne_313 rc H _ l2 s _ hk
noncomputable def b_X6_readOne_186 (rc : RT_X6_readBase) (x : Int32 × Int32 × Int32 × t_S) : Option ((Int32 × Int32 × Int32 × t_S) ⊕ (t_S)) := k_X6_readOne_186 rc x.1 x.2.1 x.2.2.1 x.2.2.2
set_option maxRecDepth 4000 in
set_option maxHeartbeats 1000000 in
theorem LH_X6_readOne_186 {D : va_G} {cy : Nat → ClassId} {ad : Nat → Nat} {bs : Nat} {X : State → Heap → Prop} (rc : RT_X6_readBase) {k : Nat} (H : RH_X6_readBase rc k) : ∀ (n : Nat) (y0 : Int32) (y1 : Int32) (y2 : Int32) (y3 : t_S) (Q : t_S → Prop) (hk : t_hk (t_loop (b_X6_readOne_186 rc) n (y0, y1, y2, y3)) Q), mj_G D cy ad bs X cX6_readOne 5 yX6_readOne.cls none yX6_readOne.name (3 + (k + 1)) 0 0 1065 (t_P (fun v s' => v = none ∧ Q (s'))) 186 [(0, .ref 845), (1, .int (y0)), (2, .int (y1)), (3, .int (y2))] [] (t_m y3) 1065 0 0 := by
  intro n
  induction n with
  | zero => intro y0 y1 y2 y3 Q hk; obtain ⟨r, hr, _⟩ := hk; cases hr
  | succ n ih =>
    intro y0 y1 y2 y3 Q hk
    exact B_X6_readOne_186 rc H y0 y1 y2 y3 (fun y => t_lq (b_X6_readOne_186 rc) n Q y) (fun y0' y1' y2' y3' hy => ih y0' y1' y2' y3' Q hy) (t_lp hk)
noncomputable def k_X6_readOne_184 (rc : RT_X6_readBase) (l1 : Int32) (l2 : Int32) (s : t_S) : Option (t_S) :=
 t_loop (b_X6_readOne_186 rc) t_N (l1, l2, 0, s)
set_option maxRecDepth 4000 in
set_option maxHeartbeats 1000000 in
theorem B_X6_readOne_184 {D : va_G} {cy : Nat → ClassId} {ad : Nat → Nat} {bs : Nat} {X : State → Heap → Prop} (rc : RT_X6_readBase) {k : Nat} (H : RH_X6_readBase rc k) (l1 : Int32) (l2 : Int32) (s : t_S) (Q : t_S → Prop) (hk : t_hk (k_X6_readOne_184 rc l1 l2 s) Q) : mj_G D cy ad bs X cX6_readOne 5 yX6_readOne.cls none yX6_readOne.name (3 + (k + 1)) 0 0 1065 (t_P (fun v s' => v = none ∧ Q (s'))) 184 [(0, .ref 845), (1, .int l1), (2, .int l2)] [] (t_m s) 1065 0 0 := by
  refine mj_iconst (v := 0) dX6_readOne_184 (by decide) ?_
  refine mj_istore_n 3 (lv2 := [(3, .int 0), (0, .ref 845), (1, .int l1), (2, .int l2)]) dX6_readOne_185 rfl (by decide) rfl ?_
  refine mj_sublv [(0, .ref 845), (1, .int l1), (2, .int l2), (3, .int 0)] [1, 2, 3, 0] rfl ?_
  exact LH_X6_readOne_186 rc H _ l1 l2 0 s _ hk
noncomputable def k_X6_readOne_165 (rc : RT_X6_readBase) (l1 : Int32) (l2 : Int32) (s : t_S) : Option (t_S) :=
 (f_X6_node s).bind (fun r1 =>
 if (r1.1 1 11) = (0 : Int32) then ((rc.1 l1 r1).bind (fun r2 =>
 k_X6_readOne_184 rc l1 l2 r2))
 else (k_X6_readOne_184 rc l1 l2 r1))
set_option maxRecDepth 4000 in
set_option maxHeartbeats 1000000 in
theorem B_X6_readOne_165 {D : va_G} {cy : Nat → ClassId} {ad : Nat → Nat} {bs : Nat} {X : State → Heap → Prop} (rc : RT_X6_readBase) {k : Nat} (H : RH_X6_readBase rc k) (l1 : Int32) (l2 : Int32) (s : t_S) (Q : t_S → Prop) (hk : t_hk (k_X6_readOne_165 rc l1 l2 s) Q) : mj_G D cy ad bs X cX6_readOne 5 yX6_readOne.cls none yX6_readOne.name (3 + (k + 1)) 0 0 1065 (t_P (fun v s' => v = none ∧ Q (s'))) 165 [(0, .ref 845), (1, .int l1), (2, .int l2)] [] (t_m s) 1065 0 0 := by
  refine mj_aload_n dX6_readOne_165 0 rfl ?_
  refine t_bndK hk (fun r1 er1 hk => ?_)
  refine t_callVvE dX6_readOne_166 M_X6_node (C_X6_node _ _ er1) ML_X6_298 IM_X6_node SE_X6_node qc_845 rfl (As := []) rfl rfl (by omega) (Nat.le_of_ble_eq_true rfl) (Nat.le_of_ble_eq_true rfl) (Nat.le_of_ble_eq_true rfl) ?_
  refine mj_aload_n dX6_readOne_169 0 rfl ?_
  refine t_getR 1 dX6_readOne_170 F_X6_28 qr_845_0 ?_
  refine t_getI dX6_readOne_173 F_X6_82 qf_1_11 ?_
  refine mj_if_ne 184 dX6_readOne_176 (by decide) (fun z => t_negK hk z (fun hk => ?_)) (fun z => t_posK hk z (fun hk => ?_))
  · exact B_X6_readOne_184 rc H _ _ _ _ hk
  · refine mj_aload_n dX6_readOne_179 0 rfl ?_
    refine mj_iload_n dX6_readOne_180 1 rfl ?_
    refine t_bndK hk (fun r2 er2 hk => ?_)
    refine t_callVvE dX6_readOne_181 M_X6_readBase (H.1 _ _ _ er2) ML_X6_488 IM_X6_readBase SE_X6_readBase qc_845 rfl (As := [.int l1]) rfl rfl (by omega) (Nat.le_of_ble_eq_true rfl) (Nat.le_of_ble_eq_true rfl) (Nat.le_of_ble_eq_true rfl) ?_
    exact B_X6_readOne_184 rc H _ _ _ _ hk
noncomputable def k_X6_readOne_144 (rc : RT_X6_readBase) (l1 : Int32) (l2 : Int32) (s : t_S) : Option (t_S) :=
 if (f_X6_beginsBase (s.1 1 8) s) = (0 : Int32) then ((f_X2_fail (2 : Int32) s).bind (fun r2 =>
 k_X6_readOne_165 rc l1 l2 r2))
 else (k_X6_readOne_165 rc l1 l2 s)
set_option maxRecDepth 4000 in
set_option maxHeartbeats 1000000 in
theorem B_X6_readOne_144 {D : va_G} {cy : Nat → ClassId} {ad : Nat → Nat} {bs : Nat} {X : State → Heap → Prop} (rc : RT_X6_readBase) {k : Nat} (H : RH_X6_readBase rc k) (l1 : Int32) (l2 : Int32) (s : t_S) (Q : t_S → Prop) (hk : t_hk (k_X6_readOne_144 rc l1 l2 s) Q) : mj_G D cy ad bs X cX6_readOne 5 yX6_readOne.cls none yX6_readOne.name (3 + (k + 1)) 0 0 1065 (t_P (fun v s' => v = none ∧ Q (s'))) 144 [(0, .ref 845), (1, .int l1), (2, .int l2)] [] (t_m s) 1065 0 0 := by
  refine mj_aload_n dX6_readOne_144 0 rfl ?_
  refine t_getR 1 dX6_readOne_145 F_X6_28 qr_845_0 ?_
  refine t_getI dX6_readOne_148 F_X6_85 qf_1_8 ?_
  refine t_callSiP dX6_readOne_151 M_X6_beginsBase (C_X6_beginsBase _ _) ML_X6_453 SM_X6_beginsBase (As := [.int (s.1 1 8)]) rfl rfl (by omega) (Nat.le_of_ble_eq_true rfl) (Nat.le_of_ble_eq_true rfl) (Nat.le_of_ble_eq_true rfl) ?_
  refine mj_if_ne 165 dX6_readOne_154 (by decide) (fun z => t_negK hk z (fun hk => ?_)) (fun z => t_posK hk z (fun hk => ?_))
  · exact B_X6_readOne_165 rc H _ _ _ _ hk
  · refine mj_aload_n dX6_readOne_157 0 rfl ?_
    refine t_getR 1 dX6_readOne_158 F_X6_28 qr_845_0 ?_
    refine mj_iconst (v := 2) dX6_readOne_161 (by decide) ?_
    refine t_bndK hk (fun r2 er2 hk => ?_)
    refine t_callVvE dX6_readOne_162 M_X2_fail (C_X2_fail _ _ _ er2) ML_X6_100 IM_X2_fail SE_X2_fail qc_1 rfl (As := [.int 2]) rfl rfl (by omega) (Nat.le_of_ble_eq_true rfl) (Nat.le_of_ble_eq_true rfl) (Nat.le_of_ble_eq_true rfl) ?_
    exact B_X6_readOne_165 rc H _ _ _ _ hk
noncomputable def k_X6_readOne_138 (rc : RT_X6_readBase) (l1 : Int32) (l2 : Int32) (l3 : Int32) (s : t_S) : Option ((Int32 × Int32 × Int32 × t_S) ⊕ (t_S)) :=
 some (.inl (l1, l2, (l3 + 1), s))
set_option maxRecDepth 4000 in
set_option maxHeartbeats 1000000 in
theorem B_X6_readOne_138 {D : va_G} {cy : Nat → ClassId} {ad : Nat → Nat} {bs : Nat} {X : State → Heap → Prop} (rc : RT_X6_readBase) {k : Nat} (H : RH_X6_readBase rc k) (l1 : Int32) (l2 : Int32) (l3 : Int32) (s : t_S) (Q : (Int32 × Int32 × Int32 × t_S) ⊕ (t_S) → Prop) (Hb7 : ∀ (y0 : Int32) (y1 : Int32) (y2 : Int32) (y3 : t_S), Q (.inl (y0, y1, y2, y3)) → mj_G D cy ad bs X cX6_readOne 5 yX6_readOne.cls none yX6_readOne.name (3 + (k + 1)) 0 0 1065 (t_P (fun v s' => v = none ∧ Q (.inr (s')))) 7 [(0, .ref 845), (1, .int (y0)), (2, .int (y1)), (3, .int (y2))] [] (t_m y3) 1065 0 0) (hk : t_hk (k_X6_readOne_138 rc l1 l2 l3 s) Q) : mj_G D cy ad bs X cX6_readOne 5 yX6_readOne.cls none yX6_readOne.name (3 + (k + 1)) 0 0 1065 (t_P (fun v s' => v = none ∧ Q (.inr (s')))) 138 [(0, .ref 845), (1, .int l1), (2, .int l2), (3, .int l3)] [] (t_m s) 1065 0 0 := by
  refine mj_iinc (k := 3) (v := (l3 + 1)) (lv2 := [(3, .int (l3 + 1)), (0, .ref 845), (1, .int l1), (2, .int l2)]) dX6_readOne_138 rfl rfl (by decide) rfl ?_
  refine mj_goto 7 dX6_readOne_141 (by decide) ?_
  refine mj_sublv [(0, .ref 845), (1, .int l1), (2, .int l2), (3, .int (l3 + 1))] [1, 2, 3, 0] rfl ?_
  exact t_somK hk (fun hf => Hb7 l1 l2 (l3 + 1) s hf)
noncomputable def k_X6_readOne_65 (rc : RT_X6_readBase) (l1 : Int32) (l2 : Int32) (l3 : Int32) (l4 : Int32) (s : t_S) : Option ((Int32 × Int32 × Int32 × t_S) ⊕ (t_S)) :=
 (f_X6_node s).bind (fun r1 =>
 (f_X2_advance r1).bind (fun r2 =>
 if l4 = (45 : Int32) then ((f_X6_pushWaiting (10 : Int32) (0 : Int32) r2).bind (fun r7 =>
 k_X6_readOne_138 rc l1 l2 l3 r7))
 else (if l4 = (33 : Int32) then ((f_X6_pushWaiting (11 : Int32) (0 : Int32) r2).bind (fun r6 =>
 k_X6_readOne_138 rc l1 l2 l3 r6))
 else (if l4 = (230 : Int32) then ((f_X6_pushWaiting (12 : Int32) (0 : Int32) r2).bind (fun r5 =>
 k_X6_readOne_138 rc l1 l2 l3 r5))
 else ((f_X6_takeFieldName r2).bind (fun r3 =>
 (f_X6_pushWaiting (13 : Int32) r3.1 r3.2).bind (fun r4 =>
 k_X6_readOne_138 rc l1 l2 l3 r4)))))))
set_option maxRecDepth 4000 in
set_option maxHeartbeats 1000000 in
theorem B_X6_readOne_65 {D : va_G} {cy : Nat → ClassId} {ad : Nat → Nat} {bs : Nat} {X : State → Heap → Prop} (rc : RT_X6_readBase) {k : Nat} (H : RH_X6_readBase rc k) (l1 : Int32) (l2 : Int32) (l3 : Int32) (l4 : Int32) (s : t_S) (Q : (Int32 × Int32 × Int32 × t_S) ⊕ (t_S) → Prop) (Hb7 : ∀ (y0 : Int32) (y1 : Int32) (y2 : Int32) (y3 : t_S), Q (.inl (y0, y1, y2, y3)) → mj_G D cy ad bs X cX6_readOne 5 yX6_readOne.cls none yX6_readOne.name (3 + (k + 1)) 0 0 1065 (t_P (fun v s' => v = none ∧ Q (.inr (s')))) 7 [(0, .ref 845), (1, .int (y0)), (2, .int (y1)), (3, .int (y2))] [] (t_m y3) 1065 0 0) (hk : t_hk (k_X6_readOne_65 rc l1 l2 l3 l4 s) Q) : mj_G D cy ad bs X cX6_readOne 5 yX6_readOne.cls none yX6_readOne.name (3 + (k + 1)) 0 0 1065 (t_P (fun v s' => v = none ∧ Q (.inr (s')))) 65 [(0, .ref 845), (1, .int l1), (2, .int l2), (3, .int l3), (4, .int l4)] [] (t_m s) 1065 0 0 := by
  refine mj_aload_n dX6_readOne_65 0 rfl ?_
  refine t_bndK hk (fun r1 er1 hk => ?_)
  refine t_callVvE dX6_readOne_66 M_X6_node (C_X6_node _ _ er1) ML_X6_298 IM_X6_node SE_X6_node qc_845 rfl (As := []) rfl rfl (by omega) (Nat.le_of_ble_eq_true rfl) (Nat.le_of_ble_eq_true rfl) (Nat.le_of_ble_eq_true rfl) ?_
  refine mj_aload_n dX6_readOne_69 0 rfl ?_
  refine t_getR 1 dX6_readOne_70 F_X6_28 qr_845_0 ?_
  refine t_bndK hk (fun r2 er2 hk => ?_)
  refine t_callVvE dX6_readOne_73 M_X2_advance (C_X2_advance _ _ er2) ML_X6_170 IM_X2_advance SE_X2_advance qc_1 rfl (As := []) rfl rfl (by omega) (Nat.le_of_ble_eq_true rfl) (Nat.le_of_ble_eq_true rfl) (Nat.le_of_ble_eq_true rfl) ?_
  refine mj_iload dX6_readOne_76 4 rfl ?_
  refine mj_bipush (v := 45) dX6_readOne_78 (by decide) ?_
  refine mj_icmp_ne 93 dX6_readOne_80 (by decide) (fun z => t_negK hk z (fun hk => ?_)) (fun z => t_posK hk z (fun hk => ?_))
  · refine mj_iload dX6_readOne_93 4 rfl ?_
    refine mj_bipush (v := 33) dX6_readOne_95 (by decide) ?_
    refine mj_icmp_ne 110 dX6_readOne_97 (by decide) (fun z => t_negK hk z (fun hk => ?_)) (fun z => t_posK hk z (fun hk => ?_))
    · refine mj_iload dX6_readOne_110 4 rfl ?_
      refine mj_sipush (v := 230) dX6_readOne_112 (by decide) ?_
      refine mj_icmp_ne 128 dX6_readOne_115 (by decide) (fun z => t_negK hk z (fun hk => ?_)) (fun z => t_posK hk z (fun hk => ?_))
      · refine mj_aload_n dX6_readOne_128 0 rfl ?_
        refine mj_bipush (v := 13) dX6_readOne_129 (by decide) ?_
        refine mj_aload_n dX6_readOne_131 0 rfl ?_
        refine t_bndK hk (fun r3 er3 hk => ?_)
        refine t_callViE dX6_readOne_132 M_X6_takeFieldName (C_X6_takeFieldName _ _ er3) ML_X6_485 IM_X6_takeFieldName SE_X6_takeFieldName qc_845 rfl (As := []) rfl rfl (by omega) (Nat.le_of_ble_eq_true rfl) (Nat.le_of_ble_eq_true rfl) (Nat.le_of_ble_eq_true rfl) ?_
        refine t_bndK hk (fun r4 er4 hk => ?_)
        refine t_callVvE dX6_readOne_135 M_X6_pushWaiting (C_X6_pushWaiting _ _ _ _ er4) ML_X6_476 IM_X6_pushWaiting SE_X6_pushWaiting qc_845 rfl (As := [.int 13, .int r3.1]) rfl rfl (by omega) (Nat.le_of_ble_eq_true rfl) (Nat.le_of_ble_eq_true rfl) (Nat.le_of_ble_eq_true rfl) ?_
        refine mj_sublv [(0, .ref 845), (1, .int l1), (2, .int l2), (3, .int l3)] [0, 1, 2, 3] rfl ?_
        exact B_X6_readOne_138 rc H _ _ _ _ _ (fun y0 y1 y2 y3 hx => Hb7 y0 y1 y2 y3 hx) hk
      · refine mj_aload_n dX6_readOne_118 0 rfl ?_
        refine mj_bipush (v := 12) dX6_readOne_119 (by decide) ?_
        refine mj_iconst (v := 0) dX6_readOne_121 (by decide) ?_
        refine t_bndK hk (fun r5 er5 hk => ?_)
        refine t_callVvE dX6_readOne_122 M_X6_pushWaiting (C_X6_pushWaiting _ _ _ _ er5) ML_X6_476 IM_X6_pushWaiting SE_X6_pushWaiting qc_845 rfl (As := [.int 12, .int 0]) rfl rfl (by omega) (Nat.le_of_ble_eq_true rfl) (Nat.le_of_ble_eq_true rfl) (Nat.le_of_ble_eq_true rfl) ?_
        refine mj_goto 138 dX6_readOne_125 (by decide) ?_
        refine mj_sublv [(0, .ref 845), (1, .int l1), (2, .int l2), (3, .int l3)] [0, 1, 2, 3] rfl ?_
        exact B_X6_readOne_138 rc H _ _ _ _ _ (fun y0 y1 y2 y3 hx => Hb7 y0 y1 y2 y3 hx) hk
    · refine mj_aload_n dX6_readOne_100 0 rfl ?_
      refine mj_bipush (v := 11) dX6_readOne_101 (by decide) ?_
      refine mj_iconst (v := 0) dX6_readOne_103 (by decide) ?_
      refine t_bndK hk (fun r6 er6 hk => ?_)
      refine t_callVvE dX6_readOne_104 M_X6_pushWaiting (C_X6_pushWaiting _ _ _ _ er6) ML_X6_476 IM_X6_pushWaiting SE_X6_pushWaiting qc_845 rfl (As := [.int 11, .int 0]) rfl rfl (by omega) (Nat.le_of_ble_eq_true rfl) (Nat.le_of_ble_eq_true rfl) (Nat.le_of_ble_eq_true rfl) ?_
      refine mj_goto 138 dX6_readOne_107 (by decide) ?_
      refine mj_sublv [(0, .ref 845), (1, .int l1), (2, .int l2), (3, .int l3)] [0, 1, 2, 3] rfl ?_
      exact B_X6_readOne_138 rc H _ _ _ _ _ (fun y0 y1 y2 y3 hx => Hb7 y0 y1 y2 y3 hx) hk
  · refine mj_aload_n dX6_readOne_83 0 rfl ?_
    refine mj_bipush (v := 10) dX6_readOne_84 (by decide) ?_
    refine mj_iconst (v := 0) dX6_readOne_86 (by decide) ?_
    refine t_bndK hk (fun r7 er7 hk => ?_)
    refine t_callVvE dX6_readOne_87 M_X6_pushWaiting (C_X6_pushWaiting _ _ _ _ er7) ML_X6_476 IM_X6_pushWaiting SE_X6_pushWaiting qc_845 rfl (As := [.int 10, .int 0]) rfl rfl (by omega) (Nat.le_of_ble_eq_true rfl) (Nat.le_of_ble_eq_true rfl) (Nat.le_of_ble_eq_true rfl) ?_
    refine mj_goto 138 dX6_readOne_90 (by decide) ?_
    refine mj_sublv [(0, .ref 845), (1, .int l1), (2, .int l2), (3, .int l3)] [0, 1, 2, 3] rfl ?_
    exact B_X6_readOne_138 rc H _ _ _ _ _ (fun y0 y1 y2 y3 hx => Hb7 y0 y1 y2 y3 hx) hk
noncomputable def k_X6_readOne_7 (rc : RT_X6_readBase) (l1 : Int32) (l2 : Int32) (l3 : Int32) (s : t_S) : Option ((Int32 × Int32 × Int32 × t_S) ⊕ (t_S)) :=
 if (3000 : Int32) < l3 then ((k_X6_readOne_144 rc l1 l2 s).map Sum.inr)
 else (if (s.1 1 11) = (0 : Int32) then (if (s.1 1 8) = (45 : Int32) then (k_X6_readOne_65 rc l1 l2 l3 (s.1 1 8) s)
 else (if (s.1 1 8) = (33 : Int32) then (k_X6_readOne_65 rc l1 l2 l3 (s.1 1 8) s)
 else (if (s.1 1 8) = (64 : Int32) then (k_X6_readOne_65 rc l1 l2 l3 (s.1 1 8) s)
 else (if (s.1 1 8) = (230 : Int32) then (k_X6_readOne_65 rc l1 l2 l3 (s.1 1 8) s)
 else ((k_X6_readOne_144 rc l1 l2 s).map Sum.inr)))))
 else ((k_X6_readOne_144 rc l1 l2 s).map Sum.inr))
set_option maxRecDepth 4000 in
set_option maxHeartbeats 1000000 in
theorem B_X6_readOne_7 {D : va_G} {cy : Nat → ClassId} {ad : Nat → Nat} {bs : Nat} {X : State → Heap → Prop} (rc : RT_X6_readBase) {k : Nat} (H : RH_X6_readBase rc k) (l1 : Int32) (l2 : Int32) (l3 : Int32) (s : t_S) (Q : (Int32 × Int32 × Int32 × t_S) ⊕ (t_S) → Prop) (Hb7 : ∀ (y0 : Int32) (y1 : Int32) (y2 : Int32) (y3 : t_S), Q (.inl (y0, y1, y2, y3)) → mj_G D cy ad bs X cX6_readOne 5 yX6_readOne.cls none yX6_readOne.name (3 + (k + 1)) 0 0 1065 (t_P (fun v s' => v = none ∧ Q (.inr (s')))) 7 [(0, .ref 845), (1, .int (y0)), (2, .int (y1)), (3, .int (y2))] [] (t_m y3) 1065 0 0) (hk : t_hk (k_X6_readOne_7 rc l1 l2 l3 s) Q) : mj_G D cy ad bs X cX6_readOne 5 yX6_readOne.cls none yX6_readOne.name (3 + (k + 1)) 0 0 1065 (t_P (fun v s' => v = none ∧ Q (.inr (s')))) 7 [(0, .ref 845), (1, .int l1), (2, .int l2), (3, .int l3)] [] (t_m s) 1065 0 0 := by
  refine mj_iload_n dX6_readOne_7 3 rfl ?_
  refine mj_sipush (v := 3000) dX6_readOne_8 (by decide) ?_
  refine mj_icmp_gt 144 dX6_readOne_11 (by decide) (fun z => t_posK hk z (fun hk => ?_)) (fun z => t_negK hk z (fun hk => ?_))
  · refine mj_sublv [(0, .ref 845), (1, .int l1), (2, .int l2)] [0, 1, 2] rfl ?_
    refine t_mapK hk (fun hk => ?_)
    exact B_X6_readOne_144 rc H _ _ _ _ hk
  · refine mj_aload_n dX6_readOne_14 0 rfl ?_
    refine t_getR 1 dX6_readOne_15 F_X6_28 qr_845_0 ?_
    refine t_getI dX6_readOne_18 F_X6_82 qf_1_11 ?_
    refine mj_if_ne 144 dX6_readOne_21 (by decide) (fun z => t_negK hk z (fun hk => ?_)) (fun z => t_posK hk z (fun hk => ?_))
    · refine mj_sublv [(0, .ref 845), (1, .int l1), (2, .int l2)] [0, 1, 2] rfl ?_
      refine t_mapK hk (fun hk => ?_)
      exact B_X6_readOne_144 rc H _ _ _ _ hk
    · refine mj_aload_n dX6_readOne_24 0 rfl ?_
      refine t_getR 1 dX6_readOne_25 F_X6_28 qr_845_0 ?_
      refine t_getI dX6_readOne_28 F_X6_85 qf_1_8 ?_
      refine mj_istore (lv2 := [(4, .int (s.1 1 8)), (0, .ref 845), (1, .int l1), (2, .int l2), (3, .int l3)]) dX6_readOne_31 (by decide) rfl ?_
      refine mj_iload dX6_readOne_33 0 rfl ?_
      refine mj_bipush (v := 45) dX6_readOne_35 (by decide) ?_
      refine mj_icmp_eq 65 dX6_readOne_37 (by decide) (fun z => t_posK hk z (fun hk => ?_)) (fun z => t_negK hk z (fun hk => ?_))
      · refine mj_sublv [(0, .ref 845), (1, .int l1), (2, .int l2), (3, .int l3), (4, .int (s.1 1 8))] [1, 2, 3, 4, 0] rfl ?_
        exact B_X6_readOne_65 rc H _ _ _ _ _ _ (fun y0 y1 y2 y3 hx => Hb7 y0 y1 y2 y3 hx) hk
      · refine mj_iload dX6_readOne_40 0 rfl ?_
        refine mj_bipush (v := 33) dX6_readOne_42 (by decide) ?_
        refine mj_icmp_eq 65 dX6_readOne_44 (by decide) (fun z => t_posK hk z (fun hk => ?_)) (fun z => t_negK hk z (fun hk => ?_))
        · refine mj_sublv [(0, .ref 845), (1, .int l1), (2, .int l2), (3, .int l3), (4, .int (s.1 1 8))] [1, 2, 3, 4, 0] rfl ?_
          exact B_X6_readOne_65 rc H _ _ _ _ _ _ (fun y0 y1 y2 y3 hx => Hb7 y0 y1 y2 y3 hx) hk
        · refine mj_iload dX6_readOne_47 0 rfl ?_
          refine mj_bipush (v := 64) dX6_readOne_49 (by decide) ?_
          refine mj_icmp_eq 65 dX6_readOne_51 (by decide) (fun z => t_posK hk z (fun hk => ?_)) (fun z => t_negK hk z (fun hk => ?_))
          · refine mj_sublv [(0, .ref 845), (1, .int l1), (2, .int l2), (3, .int l3), (4, .int (s.1 1 8))] [1, 2, 3, 4, 0] rfl ?_
            exact B_X6_readOne_65 rc H _ _ _ _ _ _ (fun y0 y1 y2 y3 hx => Hb7 y0 y1 y2 y3 hx) hk
          · refine mj_iload dX6_readOne_54 0 rfl ?_
            refine mj_sipush (v := 230) dX6_readOne_56 (by decide) ?_
            refine mj_icmp_eq 65 dX6_readOne_59 (by decide) (fun z => t_posK hk z (fun hk => ?_)) (fun z => t_negK hk z (fun hk => ?_))
            · refine mj_sublv [(0, .ref 845), (1, .int l1), (2, .int l2), (3, .int l3), (4, .int (s.1 1 8))] [1, 2, 3, 4, 0] rfl ?_
              exact B_X6_readOne_65 rc H _ _ _ _ _ _ (fun y0 y1 y2 y3 hx => Hb7 y0 y1 y2 y3 hx) hk
            · refine t_mapK hk (fun hk => ?_)
              refine mj_goto 144 dX6_readOne_62 (by decide) ?_
              refine mj_sublv [(0, .ref 845), (1, .int l1), (2, .int l2)] [1, 2, 3] rfl ?_
              exact B_X6_readOne_144 rc H _ _ _ _ hk
noncomputable def b_X6_readOne_7 (rc : RT_X6_readBase) (x : Int32 × Int32 × Int32 × t_S) : Option ((Int32 × Int32 × Int32 × t_S) ⊕ (t_S)) := k_X6_readOne_7 rc x.1 x.2.1 x.2.2.1 x.2.2.2
set_option maxRecDepth 4000 in
set_option maxHeartbeats 1000000 in
theorem LH_X6_readOne_7 {D : va_G} {cy : Nat → ClassId} {ad : Nat → Nat} {bs : Nat} {X : State → Heap → Prop} (rc : RT_X6_readBase) {k : Nat} (H : RH_X6_readBase rc k) : ∀ (n : Nat) (y0 : Int32) (y1 : Int32) (y2 : Int32) (y3 : t_S) (Q : t_S → Prop) (hk : t_hk (t_loop (b_X6_readOne_7 rc) n (y0, y1, y2, y3)) Q), mj_G D cy ad bs X cX6_readOne 5 yX6_readOne.cls none yX6_readOne.name (3 + (k + 1)) 0 0 1065 (t_P (fun v s' => v = none ∧ Q (s'))) 7 [(0, .ref 845), (1, .int (y0)), (2, .int (y1)), (3, .int (y2))] [] (t_m y3) 1065 0 0 := by
  intro n
  induction n with
  | zero => intro y0 y1 y2 y3 Q hk; obtain ⟨r, hr, _⟩ := hk; cases hr
  | succ n ih =>
    intro y0 y1 y2 y3 Q hk
    exact B_X6_readOne_7 rc H y0 y1 y2 y3 (fun y => t_lq (b_X6_readOne_7 rc) n Q y) (fun y0' y1' y2' y3' hy => ih y0' y1' y2' y3' Q hy) (t_lp hk)
noncomputable def m_X6_readOne (rc : RT_X6_readBase) (x1 : Int32) (s : t_S) : Option (t_S) :=
 t_loop (b_X6_readOne_7 rc) t_N (x1, (s.1 845 7), 0, s)
set_option maxRecDepth 4000 in
set_option maxHeartbeats 1000000 in
theorem E_X6_readOne (rc : RT_X6_readBase) {k : Nat} (H : RH_X6_readBase rc k) (x1 : Int32) (s : t_S) (r : t_S) (hr : m_X6_readOne rc x1 s = some r) : t_C yX6_readOne cX6_readOne 5 none (3 + (k + 1)) [.ref 845, .int x1] s (fun v s' => v = none ∧ s' = r) := by
  refine t_C.imp (P := fun v s' => v = none ∧ (fun q => q = r) (s')) (t_C.of (by decide +kernel) (Nat.le_of_ble_eq_true rfl) ?_) (fun v s' hp => hp)
  intro D cy ad bs X
  have hk : t_hk (m_X6_readOne rc x1 s) (fun q => q = r) := ⟨r, hr, rfl⟩
  show mj_G D cy ad bs X cX6_readOne 5 yX6_readOne.cls none yX6_readOne.name (3 + (k + 1)) 0 0 1065 (t_P (fun v s' => v = none ∧ (fun q => q = r) (s'))) 0 [(0, .ref 845), (1, .int x1)] [] (t_m s) 1065 0 0
  refine mj_aload_n dX6_readOne_0 0 rfl ?_
  refine t_getI dX6_readOne_1 F_X6_128 qf_845_7 ?_
  refine mj_istore_n 2 (lv2 := [(2, .int (s.1 845 7)), (0, .ref 845), (1, .int x1)]) dX6_readOne_4 rfl (by decide) rfl ?_
  refine mj_iconst (v := 0) dX6_readOne_5 (by decide) ?_
  refine mj_istore_n 3 (lv2 := [(3, .int 0), (2, .int (s.1 845 7)), (0, .ref 845), (1, .int x1)]) dX6_readOne_6 rfl (by decide) rfl ?_
  refine mj_sublv [(0, .ref 845), (1, .int x1), (2, .int (s.1 845 7)), (3, .int 0)] [2, 3, 1, 0] rfl ?_
  exact LH_X6_readOne_7 rc H _ x1 (s.1 845 7) 0 s _ hk
noncomputable def m_X6_readPerm (rc : RT_X6_readBase) (x1 : Int32) (x2 : Int32) (s : t_S) : Option (Int32 × t_S) :=
 (f_X6_node s).bind (fun r1 =>
 if (r1.1 1 11) = (0 : Int32) then ((f_X10_add x2 r1).bind (fun r2 =>
 (f_X2_advance r2.2).bind (fun r3 =>
 (rc.2.2.2.2.2.2.2.2.2.2.1 r2.1 (18 : Int32) x1 x2 r3).bind (fun r4 =>
 some (r2.1, r4)))))
 else (some ((0 : Int32), r1)))
set_option maxRecDepth 4000 in
set_option maxHeartbeats 1000000 in
theorem E_X6_readPerm (rc : RT_X6_readBase) {k : Nat} (H : RH_X6_readBase rc k) (x1 : Int32) (x2 : Int32) (s : t_S) (r : Int32 × t_S) (hr : m_X6_readPerm rc x1 x2 s = some r) : t_C yX6_readPerm cX6_readPerm 4 (some .int) (3 + (k + 1)) [.ref 845, .int x1, .int x2] s (fun v s' => v = some (.int r.1) ∧ s' = r.2) := by
  refine t_C.imp (P := fun v s' => ∃ x, v = some (.int x) ∧ (fun q => q = r) ((x, s'))) (t_C.of (by decide +kernel) (Nat.le_of_ble_eq_true rfl) ?_) (fun v s' hp => by obtain ⟨x, rfl, rfl⟩ := hp; exact ⟨rfl, rfl⟩)
  intro D cy ad bs X
  have hk : t_hk (m_X6_readPerm rc x1 x2 s) (fun q => q = r) := ⟨r, hr, rfl⟩
  show mj_G D cy ad bs X cX6_readPerm 4 yX6_readPerm.cls (some .int) yX6_readPerm.name (3 + (k + 1)) 0 0 1065 (t_P (fun v s' => ∃ x, v = some (.int x) ∧ (fun q => q = r) ((x, s')))) 0 [(0, .ref 845), (1, .int x1), (2, .int x2)] [] (t_m s) 1065 0 0
  refine mj_aload_n dX6_readPerm_0 0 rfl ?_
  refine t_bndK hk (fun r1 er1 hk => ?_)
  refine t_callVvE dX6_readPerm_1 M_X6_node (C_X6_node _ _ er1) ML_X6_298 IM_X6_node SE_X6_node qc_845 rfl (As := []) rfl rfl (by omega) (Nat.le_of_ble_eq_true rfl) (Nat.le_of_ble_eq_true rfl) (Nat.le_of_ble_eq_true rfl) ?_
  refine mj_aload_n dX6_readPerm_4 0 rfl ?_
  refine t_getR 1 dX6_readPerm_5 F_X6_28 qr_845_0 ?_
  refine t_getI dX6_readPerm_8 F_X6_82 qf_1_11 ?_
  refine mj_if_eq 16 dX6_readPerm_11 (by decide) (fun z => t_posK hk z (fun hk => ?_)) (fun z => t_negK hk z (fun hk => ?_))
  · refine mj_aload_n dX6_readPerm_16 0 rfl ?_
    refine t_getR 353 dX6_readPerm_17 F_X6_38 qr_845_2 ?_
    refine mj_iload_n dX6_readPerm_20 2 rfl ?_
    refine t_bndK hk (fun r2 er2 hk => ?_)
    refine t_callViE dX6_readPerm_21 M_X10_add (C_X10_add _ _ _ er2) ML_X6_385 IM_X10_add SE_X10_add qc_353 rfl (As := [.int x2]) rfl rfl (by omega) (Nat.le_of_ble_eq_true rfl) (Nat.le_of_ble_eq_true rfl) (Nat.le_of_ble_eq_true rfl) ?_
    refine mj_istore_n 3 (lv2 := [(3, .int r2.1), (0, .ref 845), (1, .int x1), (2, .int x2)]) dX6_readPerm_24 rfl (by decide) rfl ?_
    refine mj_aload_n dX6_readPerm_25 1 rfl ?_
    refine t_getR 1 dX6_readPerm_26 F_X6_28 qr_845_0 ?_
    refine t_bndK hk (fun r3 er3 hk => ?_)
    refine t_callVvE dX6_readPerm_29 M_X2_advance (C_X2_advance _ _ er3) ML_X6_170 IM_X2_advance SE_X2_advance qc_1 rfl (As := []) rfl rfl (by omega) (Nat.le_of_ble_eq_true rfl) (Nat.le_of_ble_eq_true rfl) (Nat.le_of_ble_eq_true rfl) ?_
    refine mj_aload_n dX6_readPerm_32 1 rfl ?_
    refine mj_iload_n dX6_readPerm_33 0 rfl ?_
    refine mj_bipush (v := 18) dX6_readPerm_34 (by decide) ?_
    refine mj_iload_n dX6_readPerm_36 2 rfl ?_
    refine mj_iload_n dX6_readPerm_37 3 rfl ?_
    refine t_bndK hk (fun r4 er4 hk => ?_)
    refine t_callVvE dX6_readPerm_38 M_X6_readRow (H.2.2.2.2.2.2.2.2.2.2.1 _ _ _ _ _ _ er4) ML_X6_430 IM_X6_readRow SE_X6_readRow qc_845 rfl (As := [.int r2.1, .int 18, .int x1, .int x2]) rfl rfl (by omega) (Nat.le_of_ble_eq_true rfl) (Nat.le_of_ble_eq_true rfl) (Nat.le_of_ble_eq_true rfl) ?_
    refine mj_iload_n dX6_readPerm_41 0 rfl ?_
    exact t_somK hk (fun hf => t_iret dX6_readPerm_42 rfl rfl ⟨_, rfl, hf⟩ (Nat.le_of_ble_eq_true rfl) (Nat.le_of_ble_eq_true rfl))
  · refine mj_iconst (v := 0) dX6_readPerm_14 (by decide) ?_
    exact t_somK hk (fun hf => t_iret dX6_readPerm_15 rfl rfl ⟨_, rfl, hf⟩ (Nat.le_of_ble_eq_true rfl) (Nat.le_of_ble_eq_true rfl))
noncomputable def k_X6_readPieces_185 (rc : RT_X6_readBase) (s : t_S) : Option (t_S) :=
 (f_X2_need (93 : Int32) s).bind (fun r1 =>
 some (r1))
set_option maxRecDepth 4000 in
set_option maxHeartbeats 1000000 in
theorem B_X6_readPieces_185 {D : va_G} {cy : Nat → ClassId} {ad : Nat → Nat} {bs : Nat} {X : State → Heap → Prop} (rc : RT_X6_readBase) {k : Nat} (H : RH_X6_readBase rc k) (s : t_S) (Q : t_S → Prop) (hk : t_hk (k_X6_readPieces_185 rc s) Q) : mj_G D cy ad bs X cX6_readPieces 8 yX6_readPieces.cls none yX6_readPieces.name (3 + (k + 1)) 0 0 1065 (t_P (fun v s' => v = none ∧ Q (s'))) 185 [(0, .ref 845)] [] (t_m s) 1065 0 0 := by
  refine mj_aload_n dX6_readPieces_185 0 rfl ?_
  refine t_getR 1 dX6_readPieces_186 F_X6_28 qr_845_0 ?_
  refine mj_bipush (v := 93) dX6_readPieces_189 (by decide) ?_
  refine t_bndK hk (fun r1 er1 hk => ?_)
  refine t_callVvE dX6_readPieces_191 M_X2_need (C_X2_need _ _ _ er1) ML_X6_184 IM_X2_need SE_X2_need qc_1 rfl (As := [.int 93]) rfl rfl (by omega) (Nat.le_of_ble_eq_true rfl) (Nat.le_of_ble_eq_true rfl) (Nat.le_of_ble_eq_true rfl) ?_
  exact t_somK hk (fun hf => t_vret dX6_readPieces_194 rfl ⟨rfl, hf⟩ (Nat.le_of_ble_eq_true rfl) (Nat.le_of_ble_eq_true rfl))
noncomputable def k_X6_readPieces_160 (rc : RT_X6_readBase) (l1 : Int32) (l2 : Int32) (l3 : Int32) (l5 : Int32) (l7 : Int32) (s : t_S) : Option ((Int32 × Int32 × Int32 × Int32 × Int32 × t_S) ⊕ (t_S)) :=
 (f_X2_take (44 : Int32) s).bind (fun r1 =>
 if r1.1 = (0 : Int32) then ((k_X6_readPieces_185 rc r1.2).map Sum.inr)
 else (some (.inl (l1, l2, l3, l7, (l5 + 1), r1.2))))
set_option maxRecDepth 4000 in
set_option maxHeartbeats 1000000 in
theorem B_X6_readPieces_160 {D : va_G} {cy : Nat → ClassId} {ad : Nat → Nat} {bs : Nat} {X : State → Heap → Prop} (rc : RT_X6_readBase) {k : Nat} (H : RH_X6_readBase rc k) (l1 : Int32) (l2 : Int32) (l3 : Int32) (l5 : Int32) (l7 : Int32) (s : t_S) (Q : (Int32 × Int32 × Int32 × Int32 × Int32 × t_S) ⊕ (t_S) → Prop) (Hb30 : ∀ (y0 : Int32) (y1 : Int32) (y2 : Int32) (y3 : Int32) (y4 : Int32) (y5 : t_S), Q (.inl (y0, y1, y2, y3, y4, y5)) → mj_G D cy ad bs X cX6_readPieces 8 yX6_readPieces.cls none yX6_readPieces.name (3 + (k + 1)) 0 0 1065 (t_P (fun v s' => v = none ∧ Q (.inr (s')))) 30 [(0, .ref 845), (1, .int (y0)), (2, .int (y1)), (3, .int (y2)), (4, .int (y3)), (5, .int (y4))] [] (t_m y5) 1065 0 0) (hk : t_hk (k_X6_readPieces_160 rc l1 l2 l3 l5 l7 s) Q) : mj_G D cy ad bs X cX6_readPieces 8 yX6_readPieces.cls none yX6_readPieces.name (3 + (k + 1)) 0 0 1065 (t_P (fun v s' => v = none ∧ Q (.inr (s')))) 160 [(0, .ref 845), (1, .int l1), (2, .int l2), (3, .int l3), (5, .int l5), (7, .int l7)] [] (t_m s) 1065 0 0 := by
  refine mj_iload dX6_readPieces_160 5 rfl ?_
  refine mj_istore (lv2 := [(4, .int l7), (0, .ref 845), (1, .int l1), (2, .int l2), (3, .int l3), (5, .int l5), (7, .int l7)]) dX6_readPieces_162 (by decide) rfl ?_
  refine mj_aload_n dX6_readPieces_164 1 rfl ?_
  refine t_getR 1 dX6_readPieces_165 F_X6_28 qr_845_0 ?_
  refine mj_bipush (v := 44) dX6_readPieces_168 (by decide) ?_
  refine t_bndK hk (fun r1 er1 hk => ?_)
  refine t_callViE dX6_readPieces_170 M_X2_take (C_X2_take _ _ _ er1) ML_X6_246 IM_X2_take SE_X2_take qc_1 rfl (As := [.int 44]) rfl rfl (by omega) (Nat.le_of_ble_eq_true rfl) (Nat.le_of_ble_eq_true rfl) (Nat.le_of_ble_eq_true rfl) ?_
  refine mj_if_ne 179 dX6_readPieces_173 (by decide) (fun z => t_negK hk z (fun hk => ?_)) (fun z => t_posK hk z (fun hk => ?_))
  · refine mj_iinc (k := 5) (v := (l5 + 1)) (lv2 := [(5, .int (l5 + 1)), (4, .int l7), (0, .ref 845), (1, .int l1), (2, .int l2), (3, .int l3), (7, .int l7)]) dX6_readPieces_179 rfl rfl (by decide) rfl ?_
    refine mj_goto 30 dX6_readPieces_182 (by decide) ?_
    refine mj_sublv [(0, .ref 845), (1, .int l1), (2, .int l2), (3, .int l3), (4, .int l7), (5, .int (l5 + 1))] [2, 3, 4, 5, 1, 0] rfl ?_
    exact t_somK hk (fun hf => Hb30 l1 l2 l3 l7 (l5 + 1) r1.2 hf)
  · refine t_mapK hk (fun hk => ?_)
    refine mj_goto 185 dX6_readPieces_176 (by decide) ?_
    refine mj_sublv [(0, .ref 845)] [1] rfl ?_
    exact B_X6_readPieces_185 rc H _ _ hk
noncomputable def k_X6_readPieces_116 (rc : RT_X6_readBase) (l1 : Int32) (l2 : Int32) (l3 : Int32) (l4 : Int32) (l5 : Int32) (k0 : Int32) (s : t_S) : Option ((Int32 × Int32 × Int32 × Int32 × Int32 × t_S) ⊕ (t_S)) :=
 if (s.1 1 11) = (0 : Int32) then (if l5 = (0 : Int32) then (if t_ix l1 6100 = true then
  t_let (t_setI s 355 (l1.toNatClampNeg) k0) (fun s2 =>
 k_X6_readPieces_160 rc l1 l2 l3 l5 k0 s2)
else none)
 else (if t_ix l4 6100 = true then
  t_let (t_setI s 356 (l4.toNatClampNeg) k0) (fun s1 =>
 k_X6_readPieces_160 rc l1 l2 l3 l5 k0 s1)
else none))
 else ((some (s)).map Sum.inr)
set_option maxRecDepth 4000 in
set_option maxHeartbeats 1000000 in
theorem B_X6_readPieces_116 {D : va_G} {cy : Nat → ClassId} {ad : Nat → Nat} {bs : Nat} {X : State → Heap → Prop} (rc : RT_X6_readBase) {k : Nat} (H : RH_X6_readBase rc k) (l1 : Int32) (l2 : Int32) (l3 : Int32) (l4 : Int32) (l5 : Int32) (k0 : Int32) (s : t_S) (Q : (Int32 × Int32 × Int32 × Int32 × Int32 × t_S) ⊕ (t_S) → Prop) (Hb30 : ∀ (y0 : Int32) (y1 : Int32) (y2 : Int32) (y3 : Int32) (y4 : Int32) (y5 : t_S), Q (.inl (y0, y1, y2, y3, y4, y5)) → mj_G D cy ad bs X cX6_readPieces 8 yX6_readPieces.cls none yX6_readPieces.name (3 + (k + 1)) 0 0 1065 (t_P (fun v s' => v = none ∧ Q (.inr (s')))) 30 [(0, .ref 845), (1, .int (y0)), (2, .int (y1)), (3, .int (y2)), (4, .int (y3)), (5, .int (y4))] [] (t_m y5) 1065 0 0) (hk : t_hk (k_X6_readPieces_116 rc l1 l2 l3 l4 l5 k0 s) Q) : mj_G D cy ad bs X cX6_readPieces 8 yX6_readPieces.cls none yX6_readPieces.name (3 + (k + 1)) 0 0 1065 (t_P (fun v s' => v = none ∧ Q (.inr (s')))) 116 [(0, .ref 845), (1, .int l1), (2, .int l2), (3, .int l3), (4, .int l4), (5, .int l5)] [.int k0] (t_m s) 1065 0 0 := by
  refine mj_istore (lv2 := [(7, .int k0), (0, .ref 845), (1, .int l1), (2, .int l2), (3, .int l3), (4, .int l4), (5, .int l5)]) dX6_readPieces_116 (by decide) rfl ?_
  refine mj_aload_n dX6_readPieces_118 1 rfl ?_
  refine t_getR 1 dX6_readPieces_119 F_X6_28 qr_845_0 ?_
  refine t_getI dX6_readPieces_122 F_X6_82 qf_1_11 ?_
  refine mj_if_eq 129 dX6_readPieces_125 (by decide) (fun z => t_posK hk z (fun hk => ?_)) (fun z => t_negK hk z (fun hk => ?_))
  · refine mj_iload dX6_readPieces_129 6 rfl ?_
    refine mj_if_ne 148 dX6_readPieces_131 (by decide) (fun z => t_negK hk z (fun hk => ?_)) (fun z => t_posK hk z (fun hk => ?_))
    · refine mj_aload_n dX6_readPieces_148 1 rfl ?_
      refine t_getR 353 dX6_readPieces_149 F_X6_38 qr_845_2 ?_
      refine t_getR 356 dX6_readPieces_152 F_X6_449 qr_353_2 ?_
      refine mj_iload dX6_readPieces_155 5 rfl ?_
      refine mj_iload dX6_readPieces_157 0 rfl ?_
      refine t_chkK hk (fun c0 hk => ?_)
      refine t_iastK dX6_readPieces_159 qa_356 (t_ixv c0) (fun s1 ws1 => t_letE hk ws1 (fun hk => ?_))
      refine mj_sublv [(0, .ref 845), (1, .int l1), (2, .int l2), (3, .int l3), (5, .int l5), (7, .int k0)] [1, 2, 3, 4, 6, 0] rfl ?_
      exact B_X6_readPieces_160 rc H _ _ _ _ _ _ _ (fun y0 y1 y2 y3 y4 y5 hx => Hb30 y0 y1 y2 y3 y4 y5 hx) hk
    · refine mj_aload_n dX6_readPieces_134 1 rfl ?_
      refine t_getR 353 dX6_readPieces_135 F_X6_38 qr_845_2 ?_
      refine t_getR 355 dX6_readPieces_138 F_X6_445 qr_353_1 ?_
      refine mj_iload_n dX6_readPieces_141 2 rfl ?_
      refine mj_iload dX6_readPieces_142 0 rfl ?_
      refine t_chkK hk (fun c1 hk => ?_)
      refine t_iastK dX6_readPieces_144 qa_355 (t_ixv c1) (fun s2 ws2 => t_letE hk ws2 (fun hk => ?_))
      refine mj_goto 160 dX6_readPieces_145 (by decide) ?_
      refine mj_sublv [(0, .ref 845), (1, .int l1), (2, .int l2), (3, .int l3), (5, .int l5), (7, .int k0)] [1, 2, 3, 4, 6, 0] rfl ?_
      exact B_X6_readPieces_160 rc H _ _ _ _ _ _ _ (fun y0 y1 y2 y3 y4 y5 hx => Hb30 y0 y1 y2 y3 y4 y5 hx) hk
  · refine t_mapK hk (fun hk => ?_)
    exact t_somK hk (fun hf => t_vret dX6_readPieces_128 rfl ⟨rfl, hf⟩ (Nat.le_of_ble_eq_true rfl) (Nat.le_of_ble_eq_true rfl))
noncomputable def k_X6_readPieces_90 (rc : RT_X6_readBase) (l1 : Int32) (l2 : Int32) (l3 : Int32) (l4 : Int32) (l5 : Int32) (l6 : Int32) (s : t_S) : Option ((Int32 × Int32 × Int32 × Int32 × Int32 × t_S) ⊕ (t_S)) :=
 if l6 = (0 : Int32) then ((rc.2.2.2.2.2.2.2.2.2.2.2.2.2.1 (l2 + (1 : Int32)) (l3 + (1 : Int32)) s).bind (fun r1 =>
 k_X6_readPieces_116 rc l1 l2 l3 l4 l5 r1.1 r1.2))
 else ((rc.2.2.2.2.2.2.2.2.1 l2 (l3 + (1 : Int32)) s).bind (fun r2 =>
 k_X6_readPieces_116 rc l1 l2 l3 l4 l5 r2.1 r2.2))
set_option maxRecDepth 4000 in
set_option maxHeartbeats 1000000 in
theorem B_X6_readPieces_90 {D : va_G} {cy : Nat → ClassId} {ad : Nat → Nat} {bs : Nat} {X : State → Heap → Prop} (rc : RT_X6_readBase) {k : Nat} (H : RH_X6_readBase rc k) (l1 : Int32) (l2 : Int32) (l3 : Int32) (l4 : Int32) (l5 : Int32) (l6 : Int32) (s : t_S) (Q : (Int32 × Int32 × Int32 × Int32 × Int32 × t_S) ⊕ (t_S) → Prop) (Hb30 : ∀ (y0 : Int32) (y1 : Int32) (y2 : Int32) (y3 : Int32) (y4 : Int32) (y5 : t_S), Q (.inl (y0, y1, y2, y3, y4, y5)) → mj_G D cy ad bs X cX6_readPieces 8 yX6_readPieces.cls none yX6_readPieces.name (3 + (k + 1)) 0 0 1065 (t_P (fun v s' => v = none ∧ Q (.inr (s')))) 30 [(0, .ref 845), (1, .int (y0)), (2, .int (y1)), (3, .int (y2)), (4, .int (y3)), (5, .int (y4))] [] (t_m y5) 1065 0 0) (hk : t_hk (k_X6_readPieces_90 rc l1 l2 l3 l4 l5 l6 s) Q) : mj_G D cy ad bs X cX6_readPieces 8 yX6_readPieces.cls none yX6_readPieces.name (3 + (k + 1)) 0 0 1065 (t_P (fun v s' => v = none ∧ Q (.inr (s')))) 90 [(0, .ref 845), (1, .int l1), (2, .int l2), (3, .int l3), (4, .int l4), (5, .int l5), (6, .int l6)] [] (t_m s) 1065 0 0 := by
  refine mj_iload dX6_readPieces_90 6 rfl ?_
  refine mj_if_eq 106 dX6_readPieces_92 (by decide) (fun z => t_posK hk z (fun hk => ?_)) (fun z => t_negK hk z (fun hk => ?_))
  · refine mj_aload_n dX6_readPieces_106 0 rfl ?_
    refine mj_iload_n dX6_readPieces_107 2 rfl ?_
    refine mj_iconst (v := 1) dX6_readPieces_108 (by decide) ?_
    refine mj_iadd dX6_readPieces_109 ?_
    refine mj_iload_n dX6_readPieces_110 3 rfl ?_
    refine mj_iconst (v := 1) dX6_readPieces_111 (by decide) ?_
    refine mj_iadd dX6_readPieces_112 ?_
    refine t_bndK hk (fun r1 er1 hk => ?_)
    refine t_callViE dX6_readPieces_113 M_X6_readTempl (H.2.2.2.2.2.2.2.2.2.2.2.2.2.1 _ _ _ _ er1) ML_X6_198 IM_X6_readTempl SE_X6_readTempl qc_845 rfl (As := [.int (l2 + (1 : Int32)), .int (l3 + (1 : Int32))]) rfl rfl (by omega) (Nat.le_of_ble_eq_true rfl) (Nat.le_of_ble_eq_true rfl) (Nat.le_of_ble_eq_true rfl) ?_
    refine mj_sublv [(0, .ref 845), (1, .int l1), (2, .int l2), (3, .int l3), (4, .int l4), (5, .int l5)] [0, 1, 2, 3, 4, 5] rfl ?_
    exact B_X6_readPieces_116 rc H _ _ _ _ _ _ _ _ (fun y0 y1 y2 y3 y4 y5 hx => Hb30 y0 y1 y2 y3 y4 y5 hx) hk
  · refine mj_aload_n dX6_readPieces_95 0 rfl ?_
    refine mj_iload_n dX6_readPieces_96 2 rfl ?_
    refine mj_iload_n dX6_readPieces_97 3 rfl ?_
    refine mj_iconst (v := 1) dX6_readPieces_98 (by decide) ?_
    refine mj_iadd dX6_readPieces_99 ?_
    refine t_bndK hk (fun r2 er2 hk => ?_)
    refine t_callViE dX6_readPieces_100 M_X6_readPerm (H.2.2.2.2.2.2.2.2.1 _ _ _ _ er2) ML_X6_450 IM_X6_readPerm SE_X6_readPerm qc_845 rfl (As := [.int l2, .int (l3 + (1 : Int32))]) rfl rfl (by omega) (Nat.le_of_ble_eq_true rfl) (Nat.le_of_ble_eq_true rfl) (Nat.le_of_ble_eq_true rfl) ?_
    refine mj_goto 116 dX6_readPieces_103 (by decide) ?_
    refine mj_sublv [(0, .ref 845), (1, .int l1), (2, .int l2), (3, .int l3), (4, .int l4), (5, .int l5)] [0, 1, 2, 3, 4, 5] rfl ?_
    exact B_X6_readPieces_116 rc H _ _ _ _ _ _ _ _ (fun y0 y1 y2 y3 y4 y5 hx => Hb30 y0 y1 y2 y3 y4 y5 hx) hk
noncomputable def k_X6_readPieces_82 (rc : RT_X6_readBase) (l1 : Int32) (l2 : Int32) (l3 : Int32) (l4 : Int32) (l5 : Int32) (l6 : Int32) (s : t_S) : Option ((Int32 × Int32 × Int32 × Int32 × Int32 × t_S) ⊕ (t_S)) :=
 (f_X2_fail (5 : Int32) s).bind (fun r1 =>
 k_X6_readPieces_90 rc l1 l2 l3 l4 l5 l6 r1)
set_option maxRecDepth 4000 in
set_option maxHeartbeats 1000000 in
theorem B_X6_readPieces_82 {D : va_G} {cy : Nat → ClassId} {ad : Nat → Nat} {bs : Nat} {X : State → Heap → Prop} (rc : RT_X6_readBase) {k : Nat} (H : RH_X6_readBase rc k) (l1 : Int32) (l2 : Int32) (l3 : Int32) (l4 : Int32) (l5 : Int32) (l6 : Int32) (s : t_S) (Q : (Int32 × Int32 × Int32 × Int32 × Int32 × t_S) ⊕ (t_S) → Prop) (Hb30 : ∀ (y0 : Int32) (y1 : Int32) (y2 : Int32) (y3 : Int32) (y4 : Int32) (y5 : t_S), Q (.inl (y0, y1, y2, y3, y4, y5)) → mj_G D cy ad bs X cX6_readPieces 8 yX6_readPieces.cls none yX6_readPieces.name (3 + (k + 1)) 0 0 1065 (t_P (fun v s' => v = none ∧ Q (.inr (s')))) 30 [(0, .ref 845), (1, .int (y0)), (2, .int (y1)), (3, .int (y2)), (4, .int (y3)), (5, .int (y4))] [] (t_m y5) 1065 0 0) (hk : t_hk (k_X6_readPieces_82 rc l1 l2 l3 l4 l5 l6 s) Q) : mj_G D cy ad bs X cX6_readPieces 8 yX6_readPieces.cls none yX6_readPieces.name (3 + (k + 1)) 0 0 1065 (t_P (fun v s' => v = none ∧ Q (.inr (s')))) 82 [(0, .ref 845), (1, .int l1), (2, .int l2), (3, .int l3), (4, .int l4), (5, .int l5), (6, .int l6)] [] (t_m s) 1065 0 0 := by
  refine mj_aload_n dX6_readPieces_82 0 rfl ?_
  refine t_getR 1 dX6_readPieces_83 F_X6_28 qr_845_0 ?_
  refine mj_iconst (v := 5) dX6_readPieces_86 (by decide) ?_
  refine t_bndK hk (fun r1 er1 hk => ?_)
  refine t_callVvE dX6_readPieces_87 M_X2_fail (C_X2_fail _ _ _ er1) ML_X6_100 IM_X2_fail SE_X2_fail qc_1 rfl (As := [.int 5]) rfl rfl (by omega) (Nat.le_of_ble_eq_true rfl) (Nat.le_of_ble_eq_true rfl) (Nat.le_of_ble_eq_true rfl) ?_
  exact B_X6_readPieces_90 rc H _ _ _ _ _ _ _ _ (fun y0 y1 y2 y3 y4 y5 hx => Hb30 y0 y1 y2 y3 y4 y5 hx) hk
noncomputable def k_X6_readPieces_55 (rc : RT_X6_readBase) (l1 : Int32) (l2 : Int32) (l3 : Int32) (l4 : Int32) (l5 : Int32) (k0 : Int32) (s : t_S) : Option ((Int32 × Int32 × Int32 × Int32 × Int32 × t_S) ⊕ (t_S)) :=
 if l5 = (12 : Int32) then (if k0 = (0 : Int32) then (if (f_X6_beginsTempl (s.1 1 8) s) = (0 : Int32) then (k_X6_readPieces_90 rc l1 l2 l3 l4 l5 k0 s)
 else (k_X6_readPieces_82 rc l1 l2 l3 l4 l5 k0 s))
 else (k_X6_readPieces_82 rc l1 l2 l3 l4 l5 k0 s))
 else (k_X6_readPieces_90 rc l1 l2 l3 l4 l5 k0 s)
set_option maxRecDepth 4000 in
set_option maxHeartbeats 1000000 in
theorem B_X6_readPieces_55 {D : va_G} {cy : Nat → ClassId} {ad : Nat → Nat} {bs : Nat} {X : State → Heap → Prop} (rc : RT_X6_readBase) {k : Nat} (H : RH_X6_readBase rc k) (l1 : Int32) (l2 : Int32) (l3 : Int32) (l4 : Int32) (l5 : Int32) (k0 : Int32) (s : t_S) (Q : (Int32 × Int32 × Int32 × Int32 × Int32 × t_S) ⊕ (t_S) → Prop) (Hb30 : ∀ (y0 : Int32) (y1 : Int32) (y2 : Int32) (y3 : Int32) (y4 : Int32) (y5 : t_S), Q (.inl (y0, y1, y2, y3, y4, y5)) → mj_G D cy ad bs X cX6_readPieces 8 yX6_readPieces.cls none yX6_readPieces.name (3 + (k + 1)) 0 0 1065 (t_P (fun v s' => v = none ∧ Q (.inr (s')))) 30 [(0, .ref 845), (1, .int (y0)), (2, .int (y1)), (3, .int (y2)), (4, .int (y3)), (5, .int (y4))] [] (t_m y5) 1065 0 0) (hk : t_hk (k_X6_readPieces_55 rc l1 l2 l3 l4 l5 k0 s) Q) : mj_G D cy ad bs X cX6_readPieces 8 yX6_readPieces.cls none yX6_readPieces.name (3 + (k + 1)) 0 0 1065 (t_P (fun v s' => v = none ∧ Q (.inr (s')))) 55 [(0, .ref 845), (1, .int l1), (2, .int l2), (3, .int l3), (4, .int l4), (5, .int l5)] [.int k0] (t_m s) 1065 0 0 := by
  refine mj_istore (lv2 := [(6, .int k0), (0, .ref 845), (1, .int l1), (2, .int l2), (3, .int l3), (4, .int l4), (5, .int l5)]) dX6_readPieces_55 (by decide) rfl ?_
  refine mj_iload dX6_readPieces_57 6 rfl ?_
  refine mj_bipush (v := 12) dX6_readPieces_59 (by decide) ?_
  refine mj_icmp_ne 90 dX6_readPieces_61 (by decide) (fun z => t_negK hk z (fun hk => ?_)) (fun z => t_posK hk z (fun hk => ?_))
  · refine mj_sublv [(0, .ref 845), (1, .int l1), (2, .int l2), (3, .int l3), (4, .int l4), (5, .int l5), (6, .int k0)] [1, 2, 3, 4, 5, 6, 0] rfl ?_
    exact B_X6_readPieces_90 rc H _ _ _ _ _ _ _ _ (fun y0 y1 y2 y3 y4 y5 hx => Hb30 y0 y1 y2 y3 y4 y5 hx) hk
  · refine mj_iload dX6_readPieces_64 0 rfl ?_
    refine mj_if_ne 82 dX6_readPieces_66 (by decide) (fun z => t_negK hk z (fun hk => ?_)) (fun z => t_posK hk z (fun hk => ?_))
    · refine mj_sublv [(0, .ref 845), (1, .int l1), (2, .int l2), (3, .int l3), (4, .int l4), (5, .int l5), (6, .int k0)] [1, 2, 3, 4, 5, 6, 0] rfl ?_
      exact B_X6_readPieces_82 rc H _ _ _ _ _ _ _ _ (fun y0 y1 y2 y3 y4 y5 hx => Hb30 y0 y1 y2 y3 y4 y5 hx) hk
    · refine mj_aload_n dX6_readPieces_69 1 rfl ?_
      refine t_getR 1 dX6_readPieces_70 F_X6_28 qr_845_0 ?_
      refine t_getI dX6_readPieces_73 F_X6_85 qf_1_8 ?_
      refine t_callSiP dX6_readPieces_76 M_X6_beginsTempl (C_X6_beginsTempl _ _) ML_X6_382 SM_X6_beginsTempl (As := [.int (s.1 1 8)]) rfl rfl (by omega) (Nat.le_of_ble_eq_true rfl) (Nat.le_of_ble_eq_true rfl) (Nat.le_of_ble_eq_true rfl) ?_
      refine mj_if_eq 90 dX6_readPieces_79 (by decide) (fun z => t_posK hk z (fun hk => ?_)) (fun z => t_negK hk z (fun hk => ?_))
      · refine mj_sublv [(0, .ref 845), (1, .int l1), (2, .int l2), (3, .int l3), (4, .int l4), (5, .int l5), (6, .int k0)] [1, 2, 3, 4, 5, 6, 0] rfl ?_
        exact B_X6_readPieces_90 rc H _ _ _ _ _ _ _ _ (fun y0 y1 y2 y3 y4 y5 hx => Hb30 y0 y1 y2 y3 y4 y5 hx) hk
      · refine mj_sublv [(0, .ref 845), (1, .int l1), (2, .int l2), (3, .int l3), (4, .int l4), (5, .int l5), (6, .int k0)] [1, 2, 3, 4, 5, 6, 0] rfl ?_
        exact B_X6_readPieces_82 rc H _ _ _ _ _ _ _ _ (fun y0 y1 y2 y3 y4 y5 hx => Hb30 y0 y1 y2 y3 y4 y5 hx) hk
noncomputable def k_X6_readPieces_30 (rc : RT_X6_readBase) (l1 : Int32) (l2 : Int32) (l3 : Int32) (l4 : Int32) (l5 : Int32) (s : t_S) : Option ((Int32 × Int32 × Int32 × Int32 × Int32 × t_S) ⊕ (t_S)) :=
 if (12 : Int32) < l5 then ((k_X6_readPieces_185 rc s).map Sum.inr)
 else (if (s.1 1 8) = (229 : Int32) then (k_X6_readPieces_55 rc l1 l2 l3 l4 l5 1 s)
 else (k_X6_readPieces_55 rc l1 l2 l3 l4 l5 0 s))
set_option maxRecDepth 4000 in
set_option maxHeartbeats 1000000 in
theorem B_X6_readPieces_30 {D : va_G} {cy : Nat → ClassId} {ad : Nat → Nat} {bs : Nat} {X : State → Heap → Prop} (rc : RT_X6_readBase) {k : Nat} (H : RH_X6_readBase rc k) (l1 : Int32) (l2 : Int32) (l3 : Int32) (l4 : Int32) (l5 : Int32) (s : t_S) (Q : (Int32 × Int32 × Int32 × Int32 × Int32 × t_S) ⊕ (t_S) → Prop) (Hb30 : ∀ (y0 : Int32) (y1 : Int32) (y2 : Int32) (y3 : Int32) (y4 : Int32) (y5 : t_S), Q (.inl (y0, y1, y2, y3, y4, y5)) → mj_G D cy ad bs X cX6_readPieces 8 yX6_readPieces.cls none yX6_readPieces.name (3 + (k + 1)) 0 0 1065 (t_P (fun v s' => v = none ∧ Q (.inr (s')))) 30 [(0, .ref 845), (1, .int (y0)), (2, .int (y1)), (3, .int (y2)), (4, .int (y3)), (5, .int (y4))] [] (t_m y5) 1065 0 0) (hk : t_hk (k_X6_readPieces_30 rc l1 l2 l3 l4 l5 s) Q) : mj_G D cy ad bs X cX6_readPieces 8 yX6_readPieces.cls none yX6_readPieces.name (3 + (k + 1)) 0 0 1065 (t_P (fun v s' => v = none ∧ Q (.inr (s')))) 30 [(0, .ref 845), (1, .int l1), (2, .int l2), (3, .int l3), (4, .int l4), (5, .int l5)] [] (t_m s) 1065 0 0 := by
  refine mj_iload dX6_readPieces_30 5 rfl ?_
  refine mj_bipush (v := 12) dX6_readPieces_32 (by decide) ?_
  refine mj_icmp_gt 185 dX6_readPieces_34 (by decide) (fun z => t_posK hk z (fun hk => ?_)) (fun z => t_negK hk z (fun hk => ?_))
  · refine mj_sublv [(0, .ref 845)] [0] rfl ?_
    refine t_mapK hk (fun hk => ?_)
    exact B_X6_readPieces_185 rc H _ _ hk
  · refine mj_aload_n dX6_readPieces_37 0 rfl ?_
    refine t_getR 1 dX6_readPieces_38 F_X6_28 qr_845_0 ?_
    refine t_getI dX6_readPieces_41 F_X6_85 qf_1_8 ?_
    refine mj_sipush (v := 229) dX6_readPieces_44 (by decide) ?_
    refine mj_icmp_ne 54 dX6_readPieces_47 (by decide) (fun z => t_negK hk z (fun hk => ?_)) (fun z => t_posK hk z (fun hk => ?_))
    · refine mj_iconst (v := 0) dX6_readPieces_54 (by decide) ?_
      exact B_X6_readPieces_55 rc H _ _ _ _ _ _ _ _ (fun y0 y1 y2 y3 y4 y5 hx => Hb30 y0 y1 y2 y3 y4 y5 hx) hk
    · refine mj_iconst (v := 1) dX6_readPieces_50 (by decide) ?_
      refine mj_goto 55 dX6_readPieces_51 (by decide) ?_
      exact B_X6_readPieces_55 rc H _ _ _ _ _ _ _ _ (fun y0 y1 y2 y3 y4 y5 hx => Hb30 y0 y1 y2 y3 y4 y5 hx) hk
noncomputable def b_X6_readPieces_30 (rc : RT_X6_readBase) (x : Int32 × Int32 × Int32 × Int32 × Int32 × t_S) : Option ((Int32 × Int32 × Int32 × Int32 × Int32 × t_S) ⊕ (t_S)) := k_X6_readPieces_30 rc x.1 x.2.1 x.2.2.1 x.2.2.2.1 x.2.2.2.2.1 x.2.2.2.2.2
set_option maxRecDepth 4000 in
set_option maxHeartbeats 1000000 in
theorem LH_X6_readPieces_30 {D : va_G} {cy : Nat → ClassId} {ad : Nat → Nat} {bs : Nat} {X : State → Heap → Prop} (rc : RT_X6_readBase) {k : Nat} (H : RH_X6_readBase rc k) : ∀ (n : Nat) (y0 : Int32) (y1 : Int32) (y2 : Int32) (y3 : Int32) (y4 : Int32) (y5 : t_S) (Q : t_S → Prop) (hk : t_hk (t_loop (b_X6_readPieces_30 rc) n (y0, y1, y2, y3, y4, y5)) Q), mj_G D cy ad bs X cX6_readPieces 8 yX6_readPieces.cls none yX6_readPieces.name (3 + (k + 1)) 0 0 1065 (t_P (fun v s' => v = none ∧ Q (s'))) 30 [(0, .ref 845), (1, .int (y0)), (2, .int (y1)), (3, .int (y2)), (4, .int (y3)), (5, .int (y4))] [] (t_m y5) 1065 0 0 := by
  intro n
  induction n with
  | zero => intro y0 y1 y2 y3 y4 y5 Q hk; obtain ⟨r, hr, _⟩ := hk; cases hr
  | succ n ih =>
    intro y0 y1 y2 y3 y4 y5 Q hk
    exact B_X6_readPieces_30 rc H y0 y1 y2 y3 y4 y5 (fun y => t_lq (b_X6_readPieces_30 rc) n Q y) (fun y0' y1' y2' y3' y4' y5' hy => ih y0' y1' y2' y3' y4' y5' Q hy) (t_lp hk)
noncomputable def m_X6_readPieces (rc : RT_X6_readBase) (x1 : Int32) (x2 : Int32) (x3 : Int32) (s : t_S) : Option (t_S) :=
 if t_ix x1 6100 = true then
  t_let (t_setI s 354 (x1.toNatClampNeg) (10 : Int32)) (fun s1 =>
 (f_X2_take (93 : Int32) s1).bind (fun r2 =>
 if r2.1 = (0 : Int32) then (t_loop (b_X6_readPieces_30 rc) t_N (x1, x2, x3, (-1), 0, r2.2))
 else (some (r2.2))))
else none
set_option maxRecDepth 4000 in
set_option maxHeartbeats 1000000 in
theorem E_X6_readPieces (rc : RT_X6_readBase) {k : Nat} (H : RH_X6_readBase rc k) (x1 : Int32) (x2 : Int32) (x3 : Int32) (s : t_S) (r : t_S) (hr : m_X6_readPieces rc x1 x2 x3 s = some r) : t_C yX6_readPieces cX6_readPieces 8 none (3 + (k + 1)) [.ref 845, .int x1, .int x2, .int x3] s (fun v s' => v = none ∧ s' = r) := by
  refine t_C.imp (P := fun v s' => v = none ∧ (fun q => q = r) (s')) (t_C.of (by decide +kernel) (Nat.le_of_ble_eq_true rfl) ?_) (fun v s' hp => hp)
  intro D cy ad bs X
  have hk : t_hk (m_X6_readPieces rc x1 x2 x3 s) (fun q => q = r) := ⟨r, hr, rfl⟩
  show mj_G D cy ad bs X cX6_readPieces 8 yX6_readPieces.cls none yX6_readPieces.name (3 + (k + 1)) 0 0 1065 (t_P (fun v s' => v = none ∧ (fun q => q = r) (s'))) 0 [(0, .ref 845), (1, .int x1), (2, .int x2), (3, .int x3)] [] (t_m s) 1065 0 0
  refine mj_aload_n dX6_readPieces_0 0 rfl ?_
  refine t_getR 353 dX6_readPieces_1 F_X6_38 qr_845_2 ?_
  refine t_getR 354 dX6_readPieces_4 F_X6_395 qr_353_0 ?_
  refine mj_iload_n dX6_readPieces_7 1 rfl ?_
  refine mj_bipush (v := 10) dX6_readPieces_8 (by decide) ?_
  refine t_chkK hk (fun c0 hk => ?_)
  refine t_iastK dX6_readPieces_10 qa_354 (t_ixv c0) (fun s1 ws1 => t_letE hk ws1 (fun hk => ?_))
  refine mj_aload_n dX6_readPieces_11 0 rfl ?_
  refine t_getR 1 dX6_readPieces_12 F_X6_28 qr_845_0 ?_
  refine mj_bipush (v := 93) dX6_readPieces_15 (by decide) ?_
  refine t_bndK hk (fun r2 er2 hk => ?_)
  refine t_callViE dX6_readPieces_17 M_X2_take (C_X2_take _ _ _ er2) ML_X6_246 IM_X2_take SE_X2_take qc_1 rfl (As := [.int 93]) rfl rfl (by omega) (Nat.le_of_ble_eq_true rfl) (Nat.le_of_ble_eq_true rfl) (Nat.le_of_ble_eq_true rfl) ?_
  refine mj_if_eq 24 dX6_readPieces_20 (by decide) (fun z => t_posK hk z (fun hk => ?_)) (fun z => t_negK hk z (fun hk => ?_))
  · refine mj_iconst (v := (-1)) dX6_readPieces_24 (by decide) ?_
    refine mj_istore (lv2 := [(4, .int (-1)), (0, .ref 845), (1, .int x1), (2, .int x2), (3, .int x3)]) dX6_readPieces_25 (by decide) rfl ?_
    refine mj_iconst (v := 0) dX6_readPieces_27 (by decide) ?_
    refine mj_istore (lv2 := [(5, .int 0), (4, .int (-1)), (0, .ref 845), (1, .int x1), (2, .int x2), (3, .int x3)]) dX6_readPieces_28 (by decide) rfl ?_
    refine mj_sublv [(0, .ref 845), (1, .int x1), (2, .int x2), (3, .int x3), (4, .int (-1)), (5, .int 0)] [2, 3, 4, 5, 1, 0] rfl ?_
    exact LH_X6_readPieces_30 rc H _ x1 x2 x3 (-1) 0 r2.2 _ hk
  · exact t_somK hk (fun hf => t_vret dX6_readPieces_23 rfl ⟨rfl, hf⟩ (Nat.le_of_ble_eq_true rfl) (Nat.le_of_ble_eq_true rfl))
noncomputable def m_X6_readRow (rc : RT_X6_readBase) (x1 : Int32) (x2 : Int32) (x3 : Int32) (x4 : Int32) (s : t_S) : Option (t_S) :=
 (f_X2_need (40 : Int32) s).bind (fun r1 =>
 (rc.2.2.2.2.2.1 x1 x2 x3 x4 r1).bind (fun r2 =>
 some (r2)))
set_option maxRecDepth 4000 in
set_option maxHeartbeats 1000000 in
theorem E_X6_readRow (rc : RT_X6_readBase) {k : Nat} (H : RH_X6_readBase rc k) (x1 : Int32) (x2 : Int32) (x3 : Int32) (x4 : Int32) (s : t_S) (r : t_S) (hr : m_X6_readRow rc x1 x2 x3 x4 s = some r) : t_C yX6_readRow cX6_readRow 5 none (3 + (k + 1)) [.ref 845, .int x1, .int x2, .int x3, .int x4] s (fun v s' => v = none ∧ s' = r) := by
  refine t_C.imp (P := fun v s' => v = none ∧ (fun q => q = r) (s')) (t_C.of (by decide +kernel) (Nat.le_of_ble_eq_true rfl) ?_) (fun v s' hp => hp)
  intro D cy ad bs X
  have hk : t_hk (m_X6_readRow rc x1 x2 x3 x4 s) (fun q => q = r) := ⟨r, hr, rfl⟩
  show mj_G D cy ad bs X cX6_readRow 5 yX6_readRow.cls none yX6_readRow.name (3 + (k + 1)) 0 0 1065 (t_P (fun v s' => v = none ∧ (fun q => q = r) (s'))) 0 [(0, .ref 845), (1, .int x1), (2, .int x2), (3, .int x3), (4, .int x4)] [] (t_m s) 1065 0 0
  refine mj_aload_n dX6_readRow_0 0 rfl ?_
  refine t_getR 1 dX6_readRow_1 F_X6_28 qr_845_0 ?_
  refine mj_bipush (v := 40) dX6_readRow_4 (by decide) ?_
  refine t_bndK hk (fun r1 er1 hk => ?_)
  refine t_callVvE dX6_readRow_6 M_X2_need (C_X2_need _ _ _ er1) ML_X6_184 IM_X2_need SE_X2_need qc_1 rfl (As := [.int 40]) rfl rfl (by omega) (Nat.le_of_ble_eq_true rfl) (Nat.le_of_ble_eq_true rfl) (Nat.le_of_ble_eq_true rfl) ?_
  refine mj_aload_n dX6_readRow_9 0 rfl ?_
  refine mj_iload_n dX6_readRow_10 1 rfl ?_
  refine mj_iload_n dX6_readRow_11 2 rfl ?_
  refine mj_iload_n dX6_readRow_12 3 rfl ?_
  refine mj_iload dX6_readRow_13 4 rfl ?_
  refine t_bndK hk (fun r2 er2 hk => ?_)
  refine t_callVvE dX6_readRow_15 M_X6_readInner (H.2.2.2.2.2.1 _ _ _ _ _ _ er2) ML_X6_423 IM_X6_readInner SE_X6_readInner qc_845 rfl (As := [.int x1, .int x2, .int x3, .int x4]) rfl rfl (by omega) (Nat.le_of_ble_eq_true rfl) (Nat.le_of_ble_eq_true rfl) (Nat.le_of_ble_eq_true rfl) ?_
  exact t_somK hk (fun hf => t_vret dX6_readRow_18 rfl ⟨rfl, hf⟩ (Nat.le_of_ble_eq_true rfl) (Nat.le_of_ble_eq_true rfl))
noncomputable def m_X6_readSame (rc : RT_X6_readBase) (x1 : Int32) (x2 : Int32) (s : t_S) : Option (t_S) :=
 if t_ix x1 6100 = true then
  t_let (t_setI s 354 (x1.toNatClampNeg) (17 : Int32)) (fun s1 =>
 (f_X2_need (40 : Int32) s1).bind (fun r2 =>
 (rc.2.2.1 (x2 + (1 : Int32)) r2).bind (fun r3 =>
 (f_X2_need (41 : Int32) r3.2).bind (fun r4 =>
 (f_X0_emit (34 : Int32) x1 r4).bind (fun r5 =>
 some (r5.2))))))
else none
set_option maxRecDepth 4000 in
set_option maxHeartbeats 1000000 in
theorem E_X6_readSame (rc : RT_X6_readBase) {k : Nat} (H : RH_X6_readBase rc k) (x1 : Int32) (x2 : Int32) (s : t_S) (r : t_S) (hr : m_X6_readSame rc x1 x2 s = some r) : t_C yX6_readSame cX6_readSame 3 none (3 + (k + 1)) [.ref 845, .int x1, .int x2] s (fun v s' => v = none ∧ s' = r) := by
  refine t_C.imp (P := fun v s' => v = none ∧ (fun q => q = r) (s')) (t_C.of (by decide +kernel) (Nat.le_of_ble_eq_true rfl) ?_) (fun v s' hp => hp)
  intro D cy ad bs X
  have hk : t_hk (m_X6_readSame rc x1 x2 s) (fun q => q = r) := ⟨r, hr, rfl⟩
  show mj_G D cy ad bs X cX6_readSame 3 yX6_readSame.cls none yX6_readSame.name (3 + (k + 1)) 0 0 1065 (t_P (fun v s' => v = none ∧ (fun q => q = r) (s'))) 0 [(0, .ref 845), (1, .int x1), (2, .int x2)] [] (t_m s) 1065 0 0
  refine mj_aload_n dX6_readSame_0 0 rfl ?_
  refine t_getR 353 dX6_readSame_1 F_X6_38 qr_845_2 ?_
  refine t_getR 354 dX6_readSame_4 F_X6_395 qr_353_0 ?_
  refine mj_iload_n dX6_readSame_7 1 rfl ?_
  refine mj_bipush (v := 17) dX6_readSame_8 (by decide) ?_
  refine t_chkK hk (fun c0 hk => ?_)
  refine t_iastK dX6_readSame_10 qa_354 (t_ixv c0) (fun s1 ws1 => t_letE hk ws1 (fun hk => ?_))
  refine mj_aload_n dX6_readSame_11 0 rfl ?_
  refine t_getR 1 dX6_readSame_12 F_X6_28 qr_845_0 ?_
  refine mj_bipush (v := 40) dX6_readSame_15 (by decide) ?_
  refine t_bndK hk (fun r2 er2 hk => ?_)
  refine t_callVvE dX6_readSame_17 M_X2_need (C_X2_need _ _ _ er2) ML_X6_184 IM_X2_need SE_X2_need qc_1 rfl (As := [.int 40]) rfl rfl (by omega) (Nat.le_of_ble_eq_true rfl) (Nat.le_of_ble_eq_true rfl) (Nat.le_of_ble_eq_true rfl) ?_
  refine mj_aload_n dX6_readSame_20 0 rfl ?_
  refine mj_iload_n dX6_readSame_21 2 rfl ?_
  refine mj_iconst (v := 1) dX6_readSame_22 (by decide) ?_
  refine mj_iadd dX6_readSame_23 ?_
  refine t_bndK hk (fun r3 er3 hk => ?_)
  refine t_callViE dX6_readSame_24 M_X6_readExp (H.2.2.1 _ _ _ er3) ML_X6_120 IM_X6_readExp SE_X6_readExp qc_845 rfl (As := [.int (x2 + (1 : Int32))]) rfl rfl (by omega) (Nat.le_of_ble_eq_true rfl) (Nat.le_of_ble_eq_true rfl) (Nat.le_of_ble_eq_true rfl) ?_
  refine mj_pop dX6_readSame_27 rfl ?_
  refine mj_aload_n dX6_readSame_28 0 rfl ?_
  refine t_getR 1 dX6_readSame_29 F_X6_28 qr_845_0 ?_
  refine mj_bipush (v := 41) dX6_readSame_32 (by decide) ?_
  refine t_bndK hk (fun r4 er4 hk => ?_)
  refine t_callVvE dX6_readSame_34 M_X2_need (C_X2_need _ _ _ er4) ML_X6_184 IM_X2_need SE_X2_need qc_1 rfl (As := [.int 41]) rfl rfl (by omega) (Nat.le_of_ble_eq_true rfl) (Nat.le_of_ble_eq_true rfl) (Nat.le_of_ble_eq_true rfl) ?_
  refine mj_aload_n dX6_readSame_37 0 rfl ?_
  refine t_getR 334 dX6_readSame_38 F_X6_43 qr_845_3 ?_
  refine mj_bipush (v := 34) dX6_readSame_41 (by decide) ?_
  refine mj_iload_n dX6_readSame_43 1 rfl ?_
  refine t_bndK hk (fun r5 er5 hk => ?_)
  refine t_callViE dX6_readSame_44 M_X0_emit (C_X0_emit _ _ _ _ er5) ML_X6_202 IM_X0_emit SE_X0_emit qc_334 rfl (As := [.int 34, .int x1]) rfl rfl (by omega) (Nat.le_of_ble_eq_true rfl) (Nat.le_of_ble_eq_true rfl) (Nat.le_of_ble_eq_true rfl) ?_
  refine mj_pop dX6_readSame_47 rfl ?_
  exact t_somK hk (fun hf => t_vret dX6_readSame_48 rfl ⟨rfl, hf⟩ (Nat.le_of_ble_eq_true rfl) (Nat.le_of_ble_eq_true rfl))
noncomputable def k_X6_readTag_38 (rc : RT_X6_readBase) (l1 : Int32) (l2 : Int32) (l3 : Int32) (s : t_S) : Option (t_S) :=
 (f_X2_need (1 : Int32) s).bind (fun r1 =>
 (rc.2.2.2.2.2.2.2.2.2.2.2.2.2.1 (l2 + (1 : Int32)) (l3 + (1 : Int32)) r1).bind (fun r2 =>
 if t_ix l1 6100 = true then
  t_let (t_setI r2.2 355 (l1.toNatClampNeg) r2.1) (fun s1 =>
 some (s1))
else none))
set_option maxRecDepth 4000 in
set_option maxHeartbeats 1000000 in
theorem B_X6_readTag_38 {D : va_G} {cy : Nat → ClassId} {ad : Nat → Nat} {bs : Nat} {X : State → Heap → Prop} (rc : RT_X6_readBase) {k : Nat} (H : RH_X6_readBase rc k) (l1 : Int32) (l2 : Int32) (l3 : Int32) (s : t_S) (Q : t_S → Prop) (hk : t_hk (k_X6_readTag_38 rc l1 l2 l3 s) Q) : mj_G D cy ad bs X cX6_readTag 4 yX6_readTag.cls none yX6_readTag.name (3 + (k + 1)) 0 0 1065 (t_P (fun v s' => v = none ∧ Q (s'))) 38 [(0, .ref 845), (1, .int l1), (2, .int l2), (3, .int l3)] [] (t_m s) 1065 0 0 := by
  refine mj_aload_n dX6_readTag_38 0 rfl ?_
  refine t_getR 1 dX6_readTag_39 F_X6_28 qr_845_0 ?_
  refine mj_iconst (v := 1) dX6_readTag_42 (by decide) ?_
  refine t_bndK hk (fun r1 er1 hk => ?_)
  refine t_callVvE dX6_readTag_43 M_X2_need (C_X2_need _ _ _ er1) ML_X6_184 IM_X2_need SE_X2_need qc_1 rfl (As := [.int 1]) rfl rfl (by omega) (Nat.le_of_ble_eq_true rfl) (Nat.le_of_ble_eq_true rfl) (Nat.le_of_ble_eq_true rfl) ?_
  refine mj_aload_n dX6_readTag_46 0 rfl ?_
  refine t_getR 353 dX6_readTag_47 F_X6_38 qr_845_2 ?_
  refine t_getR 355 dX6_readTag_50 F_X6_445 qr_353_1 ?_
  refine mj_iload_n dX6_readTag_53 1 rfl ?_
  refine mj_aload_n dX6_readTag_54 0 rfl ?_
  refine mj_iload_n dX6_readTag_55 2 rfl ?_
  refine mj_iconst (v := 1) dX6_readTag_56 (by decide) ?_
  refine mj_iadd dX6_readTag_57 ?_
  refine mj_iload_n dX6_readTag_58 3 rfl ?_
  refine mj_iconst (v := 1) dX6_readTag_59 (by decide) ?_
  refine mj_iadd dX6_readTag_60 ?_
  refine t_bndK hk (fun r2 er2 hk => ?_)
  refine t_callViE dX6_readTag_61 M_X6_readTempl (H.2.2.2.2.2.2.2.2.2.2.2.2.2.1 _ _ _ _ er2) ML_X6_198 IM_X6_readTempl SE_X6_readTempl qc_845 rfl (As := [.int (l2 + (1 : Int32)), .int (l3 + (1 : Int32))]) rfl rfl (by omega) (Nat.le_of_ble_eq_true rfl) (Nat.le_of_ble_eq_true rfl) (Nat.le_of_ble_eq_true rfl) ?_
  refine t_chkK hk (fun c2 hk => ?_)
  refine t_iastK dX6_readTag_64 qa_355 (t_ixv c2) (fun s1 ws1 => t_letE hk ws1 (fun hk => ?_))
  exact t_somK hk (fun hf => t_vret dX6_readTag_65 rfl ⟨rfl, hf⟩ (Nat.le_of_ble_eq_true rfl) (Nat.le_of_ble_eq_true rfl))
noncomputable def m_X6_readTag (rc : RT_X6_readBase) (x1 : Int32) (x2 : Int32) (x3 : Int32) (s : t_S) : Option (t_S) :=
 if t_ix x1 6100 = true then
  t_let (t_setI s 354 (x1.toNatClampNeg) (9 : Int32)) (fun s1 =>
 if (s1.1 1 8) = (1 : Int32) then (t_let (t_setI s1 357 (x1.toNatClampNeg) (f_X2_word s1)) (fun s2 =>
 k_X6_readTag_38 rc x1 x2 x3 s2))
 else (k_X6_readTag_38 rc x1 x2 x3 s1))
else none
set_option maxRecDepth 4000 in
set_option maxHeartbeats 1000000 in
theorem E_X6_readTag (rc : RT_X6_readBase) {k : Nat} (H : RH_X6_readBase rc k) (x1 : Int32) (x2 : Int32) (x3 : Int32) (s : t_S) (r : t_S) (hr : m_X6_readTag rc x1 x2 x3 s = some r) : t_C yX6_readTag cX6_readTag 4 none (3 + (k + 1)) [.ref 845, .int x1, .int x2, .int x3] s (fun v s' => v = none ∧ s' = r) := by
  refine t_C.imp (P := fun v s' => v = none ∧ (fun q => q = r) (s')) (t_C.of (by decide +kernel) (Nat.le_of_ble_eq_true rfl) ?_) (fun v s' hp => hp)
  intro D cy ad bs X
  have hk : t_hk (m_X6_readTag rc x1 x2 x3 s) (fun q => q = r) := ⟨r, hr, rfl⟩
  show mj_G D cy ad bs X cX6_readTag 4 yX6_readTag.cls none yX6_readTag.name (3 + (k + 1)) 0 0 1065 (t_P (fun v s' => v = none ∧ (fun q => q = r) (s'))) 0 [(0, .ref 845), (1, .int x1), (2, .int x2), (3, .int x3)] [] (t_m s) 1065 0 0
  refine mj_aload_n dX6_readTag_0 0 rfl ?_
  refine t_getR 353 dX6_readTag_1 F_X6_38 qr_845_2 ?_
  refine t_getR 354 dX6_readTag_4 F_X6_395 qr_353_0 ?_
  refine mj_iload_n dX6_readTag_7 1 rfl ?_
  refine mj_bipush (v := 9) dX6_readTag_8 (by decide) ?_
  refine t_chkK hk (fun c0 hk => ?_)
  refine t_iastK dX6_readTag_10 qa_354 (t_ixv c0) (fun s1 ws1 => t_letE hk ws1 (fun hk => ?_))
  refine mj_aload_n dX6_readTag_11 0 rfl ?_
  refine t_getR 1 dX6_readTag_12 F_X6_28 qr_845_0 ?_
  refine t_getI dX6_readTag_15 F_X6_85 qf_1_8 ?_
  refine mj_iconst (v := 1) dX6_readTag_18 (by decide) ?_
  refine mj_icmp_ne 38 dX6_readTag_19 (by decide) (fun z => t_negK hk z (fun hk => ?_)) (fun z => t_posK hk z (fun hk => ?_))
  · exact B_X6_readTag_38 rc H _ _ _ _ _ hk
  · refine mj_aload_n dX6_readTag_22 0 rfl ?_
    refine t_getR 353 dX6_readTag_23 F_X6_38 qr_845_2 ?_
    refine t_getR 357 dX6_readTag_26 F_X6_399 qr_353_3 ?_
    refine mj_iload_n dX6_readTag_29 1 rfl ?_
    refine mj_aload_n dX6_readTag_30 0 rfl ?_
    refine t_getR 1 dX6_readTag_31 F_X6_28 qr_845_0 ?_
    refine t_callViP dX6_readTag_34 M_X2_word (C_X2_word _) ML_X6_166 IM_X2_word SE_X2_word qc_1 rfl (As := []) rfl rfl (by omega) (Nat.le_of_ble_eq_true rfl) (Nat.le_of_ble_eq_true rfl) (Nat.le_of_ble_eq_true rfl) ?_
    refine t_iastK dX6_readTag_37 qa_357 (t_ixv c0) (fun s2 ws2 => t_letE hk ws2 (fun hk => ?_))
    exact B_X6_readTag_38 rc H _ _ _ _ _ hk
noncomputable def k_X6_readTempl_95 (rc : RT_X6_readBase) (l3 : Int32) (s : t_S) : Option (Int32 × t_S) :=
 (f_X2_take (220 : Int32) s).bind (fun r1 =>
 if r1.1 = (0 : Int32) then (some (l3, r1.2))
 else (if t_ix l3 6100 = true then
  t_let (t_setI r1.2 360 (l3.toNatClampNeg) (1 : Int32)) (fun s1 =>
 some (l3, s1))
else none))
set_option maxRecDepth 4000 in
set_option maxHeartbeats 1000000 in
theorem B_X6_readTempl_95 {D : va_G} {cy : Nat → ClassId} {ad : Nat → Nat} {bs : Nat} {X : State → Heap → Prop} (rc : RT_X6_readBase) {k : Nat} (H : RH_X6_readBase rc k) (l3 : Int32) (s : t_S) (Q : Int32 × t_S → Prop) (hk : t_hk (k_X6_readTempl_95 rc l3 s) Q) : mj_G D cy ad bs X cX6_readTempl 4 yX6_readTempl.cls (some .int) yX6_readTempl.name (3 + (k + 1)) 0 0 1065 (t_P (fun v s' => ∃ x, v = some (.int x) ∧ Q ((x, s')))) 95 [(0, .ref 845), (3, .int l3)] [] (t_m s) 1065 0 0 := by
  refine mj_aload_n dX6_readTempl_95 0 rfl ?_
  refine t_getR 1 dX6_readTempl_96 F_X6_28 qr_845_0 ?_
  refine mj_sipush (v := 220) dX6_readTempl_99 (by decide) ?_
  refine t_bndK hk (fun r1 er1 hk => ?_)
  refine t_callViE dX6_readTempl_102 M_X2_take (C_X2_take _ _ _ er1) ML_X6_246 IM_X2_take SE_X2_take qc_1 rfl (As := [.int 220]) rfl rfl (by omega) (Nat.le_of_ble_eq_true rfl) (Nat.le_of_ble_eq_true rfl) (Nat.le_of_ble_eq_true rfl) ?_
  refine mj_if_eq 118 dX6_readTempl_105 (by decide) (fun z => t_posK hk z (fun hk => ?_)) (fun z => t_negK hk z (fun hk => ?_))
  · refine mj_iload_n dX6_readTempl_118 1 rfl ?_
    exact t_somK hk (fun hf => t_iret dX6_readTempl_119 rfl rfl ⟨_, rfl, hf⟩ (Nat.le_of_ble_eq_true rfl) (Nat.le_of_ble_eq_true rfl))
  · refine mj_aload_n dX6_readTempl_108 0 rfl ?_
    refine t_getR 353 dX6_readTempl_109 F_X6_38 qr_845_2 ?_
    refine t_getR 360 dX6_readTempl_112 F_X6_392 qr_353_6 ?_
    refine mj_iload_n dX6_readTempl_115 1 rfl ?_
    refine mj_iconst (v := 1) dX6_readTempl_116 (by decide) ?_
    refine t_chkK hk (fun c1 hk => ?_)
    refine t_zastK dX6_readTempl_117 qa_360 (t_ixv c1) (by decide) (fun s1 ws1 => t_letE hk ws1 (fun hk => ?_))
    refine mj_iload_n dX6_readTempl_118 1 rfl ?_
    exact t_somK hk (fun hf => t_iret dX6_readTempl_119 rfl rfl ⟨_, rfl, hf⟩ (Nat.le_of_ble_eq_true rfl) (Nat.le_of_ble_eq_true rfl))
noncomputable def k_X6_readTempl_35 (rc : RT_X6_readBase) (l1 : Int32) (l2 : Int32) (s : t_S) : Option (Int32 × t_S) :=
 (f_X6_node s).bind (fun r1 =>
 if (r1.1 1 11) = (0 : Int32) then ((f_X10_add l2 r1).bind (fun r2 =>
 (rc.2.2.2.2.2.2.2.2.2.2.2.2.2.2.2 r2.1 l1 l2 r2.2).bind (fun r3 =>
 (f_X2_take (219 : Int32) r3).bind (fun r4 =>
 if r4.1 = (0 : Int32) then (k_X6_readTempl_95 rc r2.1 r4.2)
 else ((f_X6_readSpan (40 : Int32) r4.2).bind (fun r5 =>
 if t_ix r2.1 6100 = true then
  t_let (t_setI r5.2 359 (r2.1.toNatClampNeg) r5.1) (fun s1 =>
 k_X6_readTempl_95 rc r2.1 s1)
else none))))))
 else (some ((0 : Int32), r1)))
set_option maxRecDepth 4000 in
set_option maxHeartbeats 1000000 in
theorem B_X6_readTempl_35 {D : va_G} {cy : Nat → ClassId} {ad : Nat → Nat} {bs : Nat} {X : State → Heap → Prop} (rc : RT_X6_readBase) {k : Nat} (H : RH_X6_readBase rc k) (l1 : Int32) (l2 : Int32) (s : t_S) (Q : Int32 × t_S → Prop) (hk : t_hk (k_X6_readTempl_35 rc l1 l2 s) Q) : mj_G D cy ad bs X cX6_readTempl 4 yX6_readTempl.cls (some .int) yX6_readTempl.name (3 + (k + 1)) 0 0 1065 (t_P (fun v s' => ∃ x, v = some (.int x) ∧ Q ((x, s')))) 35 [(0, .ref 845), (1, .int l1), (2, .int l2)] [] (t_m s) 1065 0 0 := by
  refine mj_aload_n dX6_readTempl_35 0 rfl ?_
  refine t_bndK hk (fun r1 er1 hk => ?_)
  refine t_callVvE dX6_readTempl_36 M_X6_node (C_X6_node _ _ er1) ML_X6_298 IM_X6_node SE_X6_node qc_845 rfl (As := []) rfl rfl (by omega) (Nat.le_of_ble_eq_true rfl) (Nat.le_of_ble_eq_true rfl) (Nat.le_of_ble_eq_true rfl) ?_
  refine mj_aload_n dX6_readTempl_39 0 rfl ?_
  refine t_getR 1 dX6_readTempl_40 F_X6_28 qr_845_0 ?_
  refine t_getI dX6_readTempl_43 F_X6_82 qf_1_11 ?_
  refine mj_if_eq 51 dX6_readTempl_46 (by decide) (fun z => t_posK hk z (fun hk => ?_)) (fun z => t_negK hk z (fun hk => ?_))
  · refine mj_aload_n dX6_readTempl_51 0 rfl ?_
    refine t_getR 353 dX6_readTempl_52 F_X6_38 qr_845_2 ?_
    refine mj_iload_n dX6_readTempl_55 2 rfl ?_
    refine t_bndK hk (fun r2 er2 hk => ?_)
    refine t_callViE dX6_readTempl_56 M_X10_add (C_X10_add _ _ _ er2) ML_X6_385 IM_X10_add SE_X10_add qc_353 rfl (As := [.int l2]) rfl rfl (by omega) (Nat.le_of_ble_eq_true rfl) (Nat.le_of_ble_eq_true rfl) (Nat.le_of_ble_eq_true rfl) ?_
    refine mj_istore_n 3 (lv2 := [(3, .int r2.1), (0, .ref 845), (1, .int l1), (2, .int l2)]) dX6_readTempl_59 rfl (by decide) rfl ?_
    refine mj_aload_n dX6_readTempl_60 1 rfl ?_
    refine mj_iload_n dX6_readTempl_61 0 rfl ?_
    refine mj_iload_n dX6_readTempl_62 2 rfl ?_
    refine mj_iload_n dX6_readTempl_63 3 rfl ?_
    refine t_bndK hk (fun r3 er3 hk => ?_)
    refine t_callVvE dX6_readTempl_64 M_X6_readTone (H.2.2.2.2.2.2.2.2.2.2.2.2.2.2.2 _ _ _ _ _ er3) ML_X6_386 IM_X6_readTone SE_X6_readTone qc_845 rfl (As := [.int r2.1, .int l1, .int l2]) rfl rfl (by omega) (Nat.le_of_ble_eq_true rfl) (Nat.le_of_ble_eq_true rfl) (Nat.le_of_ble_eq_true rfl) ?_
    refine mj_aload_n dX6_readTempl_67 1 rfl ?_
    refine t_getR 1 dX6_readTempl_68 F_X6_28 qr_845_0 ?_
    refine mj_sipush (v := 219) dX6_readTempl_71 (by decide) ?_
    refine t_bndK hk (fun r4 er4 hk => ?_)
    refine t_callViE dX6_readTempl_74 M_X2_take (C_X2_take _ _ _ er4) ML_X6_246 IM_X2_take SE_X2_take qc_1 rfl (As := [.int 219]) rfl rfl (by omega) (Nat.le_of_ble_eq_true rfl) (Nat.le_of_ble_eq_true rfl) (Nat.le_of_ble_eq_true rfl) ?_
    refine mj_if_eq 95 dX6_readTempl_77 (by decide) (fun z => t_posK hk z (fun hk => ?_)) (fun z => t_negK hk z (fun hk => ?_))
    · refine mj_sublv [(0, .ref 845), (3, .int r2.1)] [1, 0] rfl ?_
      exact B_X6_readTempl_95 rc H _ _ _ hk
    · refine mj_aload_n dX6_readTempl_80 1 rfl ?_
      refine t_getR 353 dX6_readTempl_81 F_X6_38 qr_845_2 ?_
      refine t_getR 359 dX6_readTempl_84 F_X6_389 qr_353_5 ?_
      refine mj_iload_n dX6_readTempl_87 0 rfl ?_
      refine mj_aload_n dX6_readTempl_88 1 rfl ?_
      refine mj_bipush (v := 40) dX6_readTempl_89 (by decide) ?_
      refine t_bndK hk (fun r5 er5 hk => ?_)
      refine t_callViE dX6_readTempl_91 M_X6_readSpan (C_X6_readSpan _ _ _ er5) ML_X6_312 IM_X6_readSpan SE_X6_readSpan qc_845 rfl (As := [.int 40]) rfl rfl (by omega) (Nat.le_of_ble_eq_true rfl) (Nat.le_of_ble_eq_true rfl) (Nat.le_of_ble_eq_true rfl) ?_
      refine t_chkK hk (fun c5 hk => ?_)
      refine t_iastK dX6_readTempl_94 qa_359 (t_ixv c5) (fun s1 ws1 => t_letE hk ws1 (fun hk => ?_))
      refine mj_sublv [(0, .ref 845), (3, .int r2.1)] [1, 0] rfl ?_
      exact B_X6_readTempl_95 rc H _ _ _ hk
  · refine mj_iconst (v := 0) dX6_readTempl_49 (by decide) ?_
    exact t_somK hk (fun hf => t_iret dX6_readTempl_50 rfl rfl ⟨_, rfl, hf⟩ (Nat.le_of_ble_eq_true rfl) (Nat.le_of_ble_eq_true rfl))
noncomputable def k_X6_readTempl_21 (rc : RT_X6_readBase) (l1 : Int32) (l2 : Int32) (s : t_S) : Option (Int32 × t_S) :=
 if l1 ≤ (16 : Int32) then (k_X6_readTempl_35 rc l1 l2 s)
 else ((f_X2_fail (5 : Int32) s).bind (fun r1 =>
 k_X6_readTempl_35 rc l1 l2 r1))
set_option maxRecDepth 4000 in
set_option maxHeartbeats 1000000 in
theorem B_X6_readTempl_21 {D : va_G} {cy : Nat → ClassId} {ad : Nat → Nat} {bs : Nat} {X : State → Heap → Prop} (rc : RT_X6_readBase) {k : Nat} (H : RH_X6_readBase rc k) (l1 : Int32) (l2 : Int32) (s : t_S) (Q : Int32 × t_S → Prop) (hk : t_hk (k_X6_readTempl_21 rc l1 l2 s) Q) : mj_G D cy ad bs X cX6_readTempl 4 yX6_readTempl.cls (some .int) yX6_readTempl.name (3 + (k + 1)) 0 0 1065 (t_P (fun v s' => ∃ x, v = some (.int x) ∧ Q ((x, s')))) 21 [(0, .ref 845), (1, .int l1), (2, .int l2)] [] (t_m s) 1065 0 0 := by
  refine mj_iload_n dX6_readTempl_21 1 rfl ?_
  refine mj_bipush (v := 16) dX6_readTempl_22 (by decide) ?_
  refine mj_icmp_le 35 dX6_readTempl_24 (by decide) (fun z => t_posK hk z (fun hk => ?_)) (fun z => t_negK hk z (fun hk => ?_))
  · exact B_X6_readTempl_35 rc H _ _ _ _ hk
  · refine mj_aload_n dX6_readTempl_27 0 rfl ?_
    refine t_getR 1 dX6_readTempl_28 F_X6_28 qr_845_0 ?_
    refine mj_iconst (v := 5) dX6_readTempl_31 (by decide) ?_
    refine t_bndK hk (fun r1 er1 hk => ?_)
    refine t_callVvE dX6_readTempl_32 M_X2_fail (C_X2_fail _ _ _ er1) ML_X6_100 IM_X2_fail SE_X2_fail qc_1 rfl (As := [.int 5]) rfl rfl (by omega) (Nat.le_of_ble_eq_true rfl) (Nat.le_of_ble_eq_true rfl) (Nat.le_of_ble_eq_true rfl) ?_
    exact B_X6_readTempl_35 rc H _ _ _ _ hk
noncomputable def m_X6_readTempl (rc : RT_X6_readBase) (x1 : Int32) (x2 : Int32) (s : t_S) : Option (Int32 × t_S) :=
 if (f_X6_beginsTempl (s.1 1 8) s) = (0 : Int32) then ((f_X2_fail (2 : Int32) s).bind (fun r2 =>
 k_X6_readTempl_21 rc x1 x2 r2))
 else (k_X6_readTempl_21 rc x1 x2 s)
set_option maxRecDepth 4000 in
set_option maxHeartbeats 1000000 in
theorem E_X6_readTempl (rc : RT_X6_readBase) {k : Nat} (H : RH_X6_readBase rc k) (x1 : Int32) (x2 : Int32) (s : t_S) (r : Int32 × t_S) (hr : m_X6_readTempl rc x1 x2 s = some r) : t_C yX6_readTempl cX6_readTempl 4 (some .int) (3 + (k + 1)) [.ref 845, .int x1, .int x2] s (fun v s' => v = some (.int r.1) ∧ s' = r.2) := by
  refine t_C.imp (P := fun v s' => ∃ x, v = some (.int x) ∧ (fun q => q = r) ((x, s'))) (t_C.of (by decide +kernel) (Nat.le_of_ble_eq_true rfl) ?_) (fun v s' hp => by obtain ⟨x, rfl, rfl⟩ := hp; exact ⟨rfl, rfl⟩)
  intro D cy ad bs X
  have hk : t_hk (m_X6_readTempl rc x1 x2 s) (fun q => q = r) := ⟨r, hr, rfl⟩
  show mj_G D cy ad bs X cX6_readTempl 4 yX6_readTempl.cls (some .int) yX6_readTempl.name (3 + (k + 1)) 0 0 1065 (t_P (fun v s' => ∃ x, v = some (.int x) ∧ (fun q => q = r) ((x, s')))) 0 [(0, .ref 845), (1, .int x1), (2, .int x2)] [] (t_m s) 1065 0 0
  refine mj_aload_n dX6_readTempl_0 0 rfl ?_
  refine t_getR 1 dX6_readTempl_1 F_X6_28 qr_845_0 ?_
  refine t_getI dX6_readTempl_4 F_X6_85 qf_1_8 ?_
  refine t_callSiP dX6_readTempl_7 M_X6_beginsTempl (C_X6_beginsTempl _ _) ML_X6_382 SM_X6_beginsTempl (As := [.int (s.1 1 8)]) rfl rfl (by omega) (Nat.le_of_ble_eq_true rfl) (Nat.le_of_ble_eq_true rfl) (Nat.le_of_ble_eq_true rfl) ?_
  refine mj_if_ne 21 dX6_readTempl_10 (by decide) (fun z => t_negK hk z (fun hk => ?_)) (fun z => t_posK hk z (fun hk => ?_))
  · exact B_X6_readTempl_21 rc H _ _ _ _ hk
  · refine mj_aload_n dX6_readTempl_13 0 rfl ?_
    refine t_getR 1 dX6_readTempl_14 F_X6_28 qr_845_0 ?_
    refine mj_iconst (v := 2) dX6_readTempl_17 (by decide) ?_
    refine t_bndK hk (fun r2 er2 hk => ?_)
    refine t_callVvE dX6_readTempl_18 M_X2_fail (C_X2_fail _ _ _ er2) ML_X6_100 IM_X2_fail SE_X2_fail qc_1 rfl (As := [.int 2]) rfl rfl (by omega) (Nat.le_of_ble_eq_true rfl) (Nat.le_of_ble_eq_true rfl) (Nat.le_of_ble_eq_true rfl) ?_
    exact B_X6_readTempl_21 rc H _ _ _ _ hk
noncomputable def k_X6_readTemplFields_248 (rc : RT_X6_readBase) (s : t_S) : Option (t_S) :=
 (f_X2_need (125 : Int32) s).bind (fun r1 =>
 some (r1))
set_option maxRecDepth 4000 in
set_option maxHeartbeats 1000000 in
theorem B_X6_readTemplFields_248 {D : va_G} {cy : Nat → ClassId} {ad : Nat → Nat} {bs : Nat} {X : State → Heap → Prop} (rc : RT_X6_readBase) {k : Nat} (H : RH_X6_readBase rc k) (s : t_S) (Q : t_S → Prop) (hk : t_hk (k_X6_readTemplFields_248 rc s) Q) : mj_G D cy ad bs X cX6_readTemplFields 7 yX6_readTemplFields.cls none yX6_readTemplFields.name (3 + (k + 1)) 0 0 1065 (t_P (fun v s' => v = none ∧ Q (s'))) 248 [(0, .ref 845)] [] (t_m s) 1065 0 0 := by
  refine mj_aload_n dX6_readTemplFields_248 0 rfl ?_
  refine t_getR 1 dX6_readTemplFields_249 F_X6_28 qr_845_0 ?_
  refine mj_bipush (v := 125) dX6_readTemplFields_252 (by decide) ?_
  refine t_bndK hk (fun r1 er1 hk => ?_)
  refine t_callVvE dX6_readTemplFields_254 M_X2_need (C_X2_need _ _ _ er1) ML_X6_184 IM_X2_need SE_X2_need qc_1 rfl (As := [.int 125]) rfl rfl (by omega) (Nat.le_of_ble_eq_true rfl) (Nat.le_of_ble_eq_true rfl) (Nat.le_of_ble_eq_true rfl) ?_
  exact t_somK hk (fun hf => t_vret dX6_readTemplFields_257 rfl ⟨rfl, hf⟩ (Nat.le_of_ble_eq_true rfl) (Nat.le_of_ble_eq_true rfl))
noncomputable def k_X6_readTemplFields_187 (rc : RT_X6_readBase) (l1 : Int32) (l2 : Int32) (l3 : Int32) (l5 : Int32) (l6 : Int32) (s : t_S) : Option ((Int32 × Int32 × Int32 × Int32 × Int32 × t_S) ⊕ (t_S)) :=
 (f_X2_advance s).bind (fun r1 =>
 (f_X2_need (11 : Int32) r1).bind (fun r2 =>
 (rc.2.2.2.2.2.2.2.2.2.2.2.2.2.1 (l2 + (1 : Int32)) (l3 + (1 : Int32)) r2).bind (fun r3 =>
 if t_ix l6 6100 = true then
  t_let (t_setI r3.2 355 (l6.toNatClampNeg) r3.1) (fun s1 =>
 (f_X2_take (44 : Int32) s1).bind (fun r5 =>
 if r5.1 = (0 : Int32) then ((k_X6_readTemplFields_248 rc r5.2).map Sum.inr)
 else (some (.inl (l1, l2, l3, l6, (l5 + 1), r5.2)))))
else none)))
set_option maxRecDepth 4000 in
set_option maxHeartbeats 1000000 in
theorem B_X6_readTemplFields_187 {D : va_G} {cy : Nat → ClassId} {ad : Nat → Nat} {bs : Nat} {X : State → Heap → Prop} (rc : RT_X6_readBase) {k : Nat} (H : RH_X6_readBase rc k) (l1 : Int32) (l2 : Int32) (l3 : Int32) (l5 : Int32) (l6 : Int32) (s : t_S) (Q : (Int32 × Int32 × Int32 × Int32 × Int32 × t_S) ⊕ (t_S) → Prop) (Hb30 : ∀ (y0 : Int32) (y1 : Int32) (y2 : Int32) (y3 : Int32) (y4 : Int32) (y5 : t_S), Q (.inl (y0, y1, y2, y3, y4, y5)) → mj_G D cy ad bs X cX6_readTemplFields 7 yX6_readTemplFields.cls none yX6_readTemplFields.name (3 + (k + 1)) 0 0 1065 (t_P (fun v s' => v = none ∧ Q (.inr (s')))) 30 [(0, .ref 845), (1, .int (y0)), (2, .int (y1)), (3, .int (y2)), (4, .int (y3)), (5, .int (y4))] [] (t_m y5) 1065 0 0) (hk : t_hk (k_X6_readTemplFields_187 rc l1 l2 l3 l5 l6 s) Q) : mj_G D cy ad bs X cX6_readTemplFields 7 yX6_readTemplFields.cls none yX6_readTemplFields.name (3 + (k + 1)) 0 0 1065 (t_P (fun v s' => v = none ∧ Q (.inr (s')))) 187 [(0, .ref 845), (1, .int l1), (2, .int l2), (3, .int l3), (5, .int l5), (6, .int l6)] [] (t_m s) 1065 0 0 := by
  refine mj_iload dX6_readTemplFields_187 5 rfl ?_
  refine mj_istore (lv2 := [(4, .int l6), (0, .ref 845), (1, .int l1), (2, .int l2), (3, .int l3), (5, .int l5), (6, .int l6)]) dX6_readTemplFields_189 (by decide) rfl ?_
  refine mj_aload_n dX6_readTemplFields_191 1 rfl ?_
  refine t_getR 1 dX6_readTemplFields_192 F_X6_28 qr_845_0 ?_
  refine t_bndK hk (fun r1 er1 hk => ?_)
  refine t_callVvE dX6_readTemplFields_195 M_X2_advance (C_X2_advance _ _ er1) ML_X6_170 IM_X2_advance SE_X2_advance qc_1 rfl (As := []) rfl rfl (by omega) (Nat.le_of_ble_eq_true rfl) (Nat.le_of_ble_eq_true rfl) (Nat.le_of_ble_eq_true rfl) ?_
  refine mj_aload_n dX6_readTemplFields_198 1 rfl ?_
  refine t_getR 1 dX6_readTemplFields_199 F_X6_28 qr_845_0 ?_
  refine mj_bipush (v := 11) dX6_readTemplFields_202 (by decide) ?_
  refine t_bndK hk (fun r2 er2 hk => ?_)
  refine t_callVvE dX6_readTemplFields_204 M_X2_need (C_X2_need _ _ _ er2) ML_X6_184 IM_X2_need SE_X2_need qc_1 rfl (As := [.int 11]) rfl rfl (by omega) (Nat.le_of_ble_eq_true rfl) (Nat.le_of_ble_eq_true rfl) (Nat.le_of_ble_eq_true rfl) ?_
  refine mj_aload_n dX6_readTemplFields_207 1 rfl ?_
  refine t_getR 353 dX6_readTemplFields_208 F_X6_38 qr_845_2 ?_
  refine t_getR 355 dX6_readTemplFields_211 F_X6_445 qr_353_1 ?_
  refine mj_iload dX6_readTemplFields_214 6 rfl ?_
  refine mj_aload_n dX6_readTemplFields_216 1 rfl ?_
  refine mj_iload_n dX6_readTemplFields_217 3 rfl ?_
  refine mj_iconst (v := 1) dX6_readTemplFields_218 (by decide) ?_
  refine mj_iadd dX6_readTemplFields_219 ?_
  refine mj_iload_n dX6_readTemplFields_220 4 rfl ?_
  refine mj_iconst (v := 1) dX6_readTemplFields_221 (by decide) ?_
  refine mj_iadd dX6_readTemplFields_222 ?_
  refine t_bndK hk (fun r3 er3 hk => ?_)
  refine t_callViE dX6_readTemplFields_223 M_X6_readTempl (H.2.2.2.2.2.2.2.2.2.2.2.2.2.1 _ _ _ _ er3) ML_X6_198 IM_X6_readTempl SE_X6_readTempl qc_845 rfl (As := [.int (l2 + (1 : Int32)), .int (l3 + (1 : Int32))]) rfl rfl (by omega) (Nat.le_of_ble_eq_true rfl) (Nat.le_of_ble_eq_true rfl) (Nat.le_of_ble_eq_true rfl) ?_
  refine t_chkK hk (fun c3 hk => ?_)
  refine t_iastK dX6_readTemplFields_226 qa_355 (t_ixv c3) (fun s1 ws1 => t_letE hk ws1 (fun hk => ?_))
  refine mj_aload_n dX6_readTemplFields_227 1 rfl ?_
  refine t_getR 1 dX6_readTemplFields_228 F_X6_28 qr_845_0 ?_
  refine mj_bipush (v := 44) dX6_readTemplFields_231 (by decide) ?_
  refine t_bndK hk (fun r5 er5 hk => ?_)
  refine t_callViE dX6_readTemplFields_233 M_X2_take (C_X2_take _ _ _ er5) ML_X6_246 IM_X2_take SE_X2_take qc_1 rfl (As := [.int 44]) rfl rfl (by omega) (Nat.le_of_ble_eq_true rfl) (Nat.le_of_ble_eq_true rfl) (Nat.le_of_ble_eq_true rfl) ?_
  refine mj_if_ne 242 dX6_readTemplFields_236 (by decide) (fun z => t_negK hk z (fun hk => ?_)) (fun z => t_posK hk z (fun hk => ?_))
  · refine mj_iinc (k := 5) (v := (l5 + 1)) (lv2 := [(5, .int (l5 + 1)), (4, .int l6), (0, .ref 845), (1, .int l1), (2, .int l2), (3, .int l3), (6, .int l6)]) dX6_readTemplFields_242 rfl rfl (by decide) rfl ?_
    refine mj_goto 30 dX6_readTemplFields_245 (by decide) ?_
    refine mj_sublv [(0, .ref 845), (1, .int l1), (2, .int l2), (3, .int l3), (4, .int l6), (5, .int (l5 + 1))] [2, 3, 4, 5, 1, 0] rfl ?_
    exact t_somK hk (fun hf => Hb30 l1 l2 l3 l6 (l5 + 1) r5.2 hf)
  · refine t_mapK hk (fun hk => ?_)
    refine mj_goto 248 dX6_readTemplFields_239 (by decide) ?_
    refine mj_sublv [(0, .ref 845)] [1] rfl ?_
    exact B_X6_readTemplFields_248 rc H _ _ hk
noncomputable def k_X6_readTemplFields_100 (rc : RT_X6_readBase) (l1 : Int32) (l2 : Int32) (l3 : Int32) (l4 : Int32) (l5 : Int32) (s : t_S) : Option ((Int32 × Int32 × Int32 × Int32 × Int32 × t_S) ⊕ (t_S)) :=
 (f_X6_node s).bind (fun r1 =>
 if (r1.1 1 11) = (0 : Int32) then ((f_X10_add (-1000 : Int32) r1).bind (fun r2 =>
 if t_ix r2.1 6100 = true then
  t_let (t_setI r2.2 354 (r2.1.toNatClampNeg) (19 : Int32)) (fun s1 =>
 t_let (t_setI s1 357 (r2.1.toNatClampNeg) (f_X2_word s1)) (fun s2 =>
 if l5 = (0 : Int32) then (if t_ix l1 6100 = true then
  t_let (t_setI s2 355 (l1.toNatClampNeg) r2.1) (fun s4 =>
 k_X6_readTemplFields_187 rc l1 l2 l3 l5 r2.1 s4)
else none)
 else (if t_ix l4 6100 = true then
  t_let (t_setI s2 356 (l4.toNatClampNeg) r2.1) (fun s3 =>
 k_X6_readTemplFields_187 rc l1 l2 l3 l5 r2.1 s3)
else none)))
else none))
 else ((some (r1)).map Sum.inr))
set_option maxRecDepth 4000 in
set_option maxHeartbeats 1000000 in
theorem B_X6_readTemplFields_100 {D : va_G} {cy : Nat → ClassId} {ad : Nat → Nat} {bs : Nat} {X : State → Heap → Prop} (rc : RT_X6_readBase) {k : Nat} (H : RH_X6_readBase rc k) (l1 : Int32) (l2 : Int32) (l3 : Int32) (l4 : Int32) (l5 : Int32) (s : t_S) (Q : (Int32 × Int32 × Int32 × Int32 × Int32 × t_S) ⊕ (t_S) → Prop) (Hb30 : ∀ (y0 : Int32) (y1 : Int32) (y2 : Int32) (y3 : Int32) (y4 : Int32) (y5 : t_S), Q (.inl (y0, y1, y2, y3, y4, y5)) → mj_G D cy ad bs X cX6_readTemplFields 7 yX6_readTemplFields.cls none yX6_readTemplFields.name (3 + (k + 1)) 0 0 1065 (t_P (fun v s' => v = none ∧ Q (.inr (s')))) 30 [(0, .ref 845), (1, .int (y0)), (2, .int (y1)), (3, .int (y2)), (4, .int (y3)), (5, .int (y4))] [] (t_m y5) 1065 0 0) (hk : t_hk (k_X6_readTemplFields_100 rc l1 l2 l3 l4 l5 s) Q) : mj_G D cy ad bs X cX6_readTemplFields 7 yX6_readTemplFields.cls none yX6_readTemplFields.name (3 + (k + 1)) 0 0 1065 (t_P (fun v s' => v = none ∧ Q (.inr (s')))) 100 [(0, .ref 845), (1, .int l1), (2, .int l2), (3, .int l3), (4, .int l4), (5, .int l5)] [] (t_m s) 1065 0 0 := by
  refine mj_aload_n dX6_readTemplFields_100 0 rfl ?_
  refine t_bndK hk (fun r1 er1 hk => ?_)
  refine t_callVvE dX6_readTemplFields_101 M_X6_node (C_X6_node _ _ er1) ML_X6_298 IM_X6_node SE_X6_node qc_845 rfl (As := []) rfl rfl (by omega) (Nat.le_of_ble_eq_true rfl) (Nat.le_of_ble_eq_true rfl) (Nat.le_of_ble_eq_true rfl) ?_
  refine mj_aload_n dX6_readTemplFields_104 0 rfl ?_
  refine t_getR 1 dX6_readTemplFields_105 F_X6_28 qr_845_0 ?_
  refine t_getI dX6_readTemplFields_108 F_X6_82 qf_1_11 ?_
  refine mj_if_eq 115 dX6_readTemplFields_111 (by decide) (fun z => t_posK hk z (fun hk => ?_)) (fun z => t_negK hk z (fun hk => ?_))
  · refine mj_aload_n dX6_readTemplFields_115 0 rfl ?_
    refine t_getR 353 dX6_readTemplFields_116 F_X6_38 qr_845_2 ?_
    refine mj_sipush (v := (-1000)) dX6_readTemplFields_119 (by decide) ?_
    refine t_bndK hk (fun r2 er2 hk => ?_)
    refine t_callViE dX6_readTemplFields_122 M_X10_add (C_X10_add _ _ _ er2) ML_X6_385 IM_X10_add SE_X10_add qc_353 rfl (As := [.int (-1000)]) rfl rfl (by omega) (Nat.le_of_ble_eq_true rfl) (Nat.le_of_ble_eq_true rfl) (Nat.le_of_ble_eq_true rfl) ?_
    refine mj_istore (lv2 := [(6, .int r2.1), (0, .ref 845), (1, .int l1), (2, .int l2), (3, .int l3), (4, .int l4), (5, .int l5)]) dX6_readTemplFields_125 (by decide) rfl ?_
    refine mj_aload_n dX6_readTemplFields_127 1 rfl ?_
    refine t_getR 353 dX6_readTemplFields_128 F_X6_38 qr_845_2 ?_
    refine t_getR 354 dX6_readTemplFields_131 F_X6_395 qr_353_0 ?_
    refine mj_iload dX6_readTemplFields_134 0 rfl ?_
    refine mj_bipush (v := 19) dX6_readTemplFields_136 (by decide) ?_
    refine t_chkK hk (fun c2 hk => ?_)
    refine t_iastK dX6_readTemplFields_138 qa_354 (t_ixv c2) (fun s1 ws1 => t_letE hk ws1 (fun hk => ?_))
    refine mj_aload_n dX6_readTemplFields_139 1 rfl ?_
    refine t_getR 353 dX6_readTemplFields_140 F_X6_38 qr_845_2 ?_
    refine t_getR 357 dX6_readTemplFields_143 F_X6_399 qr_353_3 ?_
    refine mj_iload dX6_readTemplFields_146 0 rfl ?_
    refine mj_aload_n dX6_readTemplFields_148 1 rfl ?_
    refine t_getR 1 dX6_readTemplFields_149 F_X6_28 qr_845_0 ?_
    refine t_callViP dX6_readTemplFields_152 M_X2_word (C_X2_word _) ML_X6_166 IM_X2_word SE_X2_word qc_1 rfl (As := []) rfl rfl (by omega) (Nat.le_of_ble_eq_true rfl) (Nat.le_of_ble_eq_true rfl) (Nat.le_of_ble_eq_true rfl) ?_
    refine t_iastK dX6_readTemplFields_155 qa_357 (t_ixv c2) (fun s2 ws2 => t_letE hk ws2 (fun hk => ?_))
    refine mj_iload dX6_readTemplFields_156 6 rfl ?_
    refine mj_if_ne 175 dX6_readTemplFields_158 (by decide) (fun z => t_negK hk z (fun hk => ?_)) (fun z => t_posK hk z (fun hk => ?_))
    · refine mj_aload_n dX6_readTemplFields_175 1 rfl ?_
      refine t_getR 353 dX6_readTemplFields_176 F_X6_38 qr_845_2 ?_
      refine t_getR 356 dX6_readTemplFields_179 F_X6_449 qr_353_2 ?_
      refine mj_iload dX6_readTemplFields_182 5 rfl ?_
      refine mj_iload dX6_readTemplFields_184 0 rfl ?_
      refine t_chkK hk (fun c4 hk => ?_)
      refine t_iastK dX6_readTemplFields_186 qa_356 (t_ixv c4) (fun s3 ws3 => t_letE hk ws3 (fun hk => ?_))
      refine mj_sublv [(0, .ref 845), (1, .int l1), (2, .int l2), (3, .int l3), (5, .int l5), (6, .int r2.1)] [1, 2, 3, 4, 6, 0] rfl ?_
      exact B_X6_readTemplFields_187 rc H _ _ _ _ _ _ _ (fun y0 y1 y2 y3 y4 y5 hx => Hb30 y0 y1 y2 y3 y4 y5 hx) hk
    · refine mj_aload_n dX6_readTemplFields_161 1 rfl ?_
      refine t_getR 353 dX6_readTemplFields_162 F_X6_38 qr_845_2 ?_
      refine t_getR 355 dX6_readTemplFields_165 F_X6_445 qr_353_1 ?_
      refine mj_iload_n dX6_readTemplFields_168 2 rfl ?_
      refine mj_iload dX6_readTemplFields_169 0 rfl ?_
      refine t_chkK hk (fun c5 hk => ?_)
      refine t_iastK dX6_readTemplFields_171 qa_355 (t_ixv c5) (fun s4 ws4 => t_letE hk ws4 (fun hk => ?_))
      refine mj_goto 187 dX6_readTemplFields_172 (by decide) ?_
      refine mj_sublv [(0, .ref 845), (1, .int l1), (2, .int l2), (3, .int l3), (5, .int l5), (6, .int r2.1)] [1, 2, 3, 4, 6, 0] rfl ?_
      exact B_X6_readTemplFields_187 rc H _ _ _ _ _ _ _ (fun y0 y1 y2 y3 y4 y5 hx => Hb30 y0 y1 y2 y3 y4 y5 hx) hk
  · refine t_mapK hk (fun hk => ?_)
    exact t_somK hk (fun hf => t_vret dX6_readTemplFields_114 rfl ⟨rfl, hf⟩ (Nat.le_of_ble_eq_true rfl) (Nat.le_of_ble_eq_true rfl))
noncomputable def k_X6_readTemplFields_30 (rc : RT_X6_readBase) (l1 : Int32) (l2 : Int32) (l3 : Int32) (l4 : Int32) (l5 : Int32) (s : t_S) : Option ((Int32 × Int32 × Int32 × Int32 × Int32 × t_S) ⊕ (t_S)) :=
 if (16 : Int32) < l5 then ((k_X6_readTemplFields_248 rc s).map Sum.inr)
 else (if (s.1 1 8) = (1 : Int32) then ((f_X6_hasField l1 (f_X2_word s) s).bind (fun r2 =>
 if r2 = (0 : Int32) then (if l5 = (16 : Int32) then ((f_X2_fail (5 : Int32) s).bind (fun r3 =>
 k_X6_readTemplFields_100 rc l1 l2 l3 l4 l5 r3))
 else (k_X6_readTemplFields_100 rc l1 l2 l3 l4 l5 s))
 else ((f_X2_fail (3 : Int32) s).bind (fun r4 =>
 k_X6_readTemplFields_100 rc l1 l2 l3 l4 l5 r4))))
 else ((f_X2_fail (2 : Int32) s).bind (fun r5 =>
 k_X6_readTemplFields_100 rc l1 l2 l3 l4 l5 r5)))
set_option maxRecDepth 4000 in
set_option maxHeartbeats 1000000 in
theorem B_X6_readTemplFields_30 {D : va_G} {cy : Nat → ClassId} {ad : Nat → Nat} {bs : Nat} {X : State → Heap → Prop} (rc : RT_X6_readBase) {k : Nat} (H : RH_X6_readBase rc k) (l1 : Int32) (l2 : Int32) (l3 : Int32) (l4 : Int32) (l5 : Int32) (s : t_S) (Q : (Int32 × Int32 × Int32 × Int32 × Int32 × t_S) ⊕ (t_S) → Prop) (Hb30 : ∀ (y0 : Int32) (y1 : Int32) (y2 : Int32) (y3 : Int32) (y4 : Int32) (y5 : t_S), Q (.inl (y0, y1, y2, y3, y4, y5)) → mj_G D cy ad bs X cX6_readTemplFields 7 yX6_readTemplFields.cls none yX6_readTemplFields.name (3 + (k + 1)) 0 0 1065 (t_P (fun v s' => v = none ∧ Q (.inr (s')))) 30 [(0, .ref 845), (1, .int (y0)), (2, .int (y1)), (3, .int (y2)), (4, .int (y3)), (5, .int (y4))] [] (t_m y5) 1065 0 0) (hk : t_hk (k_X6_readTemplFields_30 rc l1 l2 l3 l4 l5 s) Q) : mj_G D cy ad bs X cX6_readTemplFields 7 yX6_readTemplFields.cls none yX6_readTemplFields.name (3 + (k + 1)) 0 0 1065 (t_P (fun v s' => v = none ∧ Q (.inr (s')))) 30 [(0, .ref 845), (1, .int l1), (2, .int l2), (3, .int l3), (4, .int l4), (5, .int l5)] [] (t_m s) 1065 0 0 := by
  refine mj_iload dX6_readTemplFields_30 5 rfl ?_
  refine mj_bipush (v := 16) dX6_readTemplFields_32 (by decide) ?_
  refine mj_icmp_gt 248 dX6_readTemplFields_34 (by decide) (fun z => t_posK hk z (fun hk => ?_)) (fun z => t_negK hk z (fun hk => ?_))
  · refine mj_sublv [(0, .ref 845)] [0] rfl ?_
    refine t_mapK hk (fun hk => ?_)
    exact B_X6_readTemplFields_248 rc H _ _ hk
  · refine mj_aload_n dX6_readTemplFields_37 0 rfl ?_
    refine t_getR 1 dX6_readTemplFields_38 F_X6_28 qr_845_0 ?_
    refine t_getI dX6_readTemplFields_41 F_X6_85 qf_1_8 ?_
    refine mj_iconst (v := 1) dX6_readTemplFields_44 (by decide) ?_
    refine mj_icmp_eq 59 dX6_readTemplFields_45 (by decide) (fun z => t_posK hk z (fun hk => ?_)) (fun z => t_negK hk z (fun hk => ?_))
    · refine mj_aload_n dX6_readTemplFields_59 0 rfl ?_
      refine mj_iload_n dX6_readTemplFields_60 1 rfl ?_
      refine mj_aload_n dX6_readTemplFields_61 0 rfl ?_
      refine t_getR 1 dX6_readTemplFields_62 F_X6_28 qr_845_0 ?_
      refine t_callViP dX6_readTemplFields_65 M_X2_word (C_X2_word _) ML_X6_166 IM_X2_word SE_X2_word qc_1 rfl (As := []) rfl rfl (by omega) (Nat.le_of_ble_eq_true rfl) (Nat.le_of_ble_eq_true rfl) (Nat.le_of_ble_eq_true rfl) ?_
      refine t_bndK hk (fun r2 er2 hk => ?_)
      refine t_callViP dX6_readTemplFields_68 M_X6_hasField (C_X6_hasField _ _ _ _ er2) ML_X6_446 IM_X6_hasField SE_X6_hasField qc_845 rfl (As := [.int l1, .int (f_X2_word s)]) rfl rfl (by omega) (Nat.le_of_ble_eq_true rfl) (Nat.le_of_ble_eq_true rfl) (Nat.le_of_ble_eq_true rfl) ?_
      refine mj_if_eq 85 dX6_readTemplFields_71 (by decide) (fun z => t_posK hk z (fun hk => ?_)) (fun z => t_negK hk z (fun hk => ?_))
      · refine mj_iload dX6_readTemplFields_85 5 rfl ?_
        refine mj_bipush (v := 16) dX6_readTemplFields_87 (by decide) ?_
        refine mj_icmp_ne 100 dX6_readTemplFields_89 (by decide) (fun z => t_negK hk z (fun hk => ?_)) (fun z => t_posK hk z (fun hk => ?_))
        · exact B_X6_readTemplFields_100 rc H _ _ _ _ _ _ _ (fun y0 y1 y2 y3 y4 y5 hx => Hb30 y0 y1 y2 y3 y4 y5 hx) hk
        · refine mj_aload_n dX6_readTemplFields_92 0 rfl ?_
          refine t_getR 1 dX6_readTemplFields_93 F_X6_28 qr_845_0 ?_
          refine mj_iconst (v := 5) dX6_readTemplFields_96 (by decide) ?_
          refine t_bndK hk (fun r3 er3 hk => ?_)
          refine t_callVvE dX6_readTemplFields_97 M_X2_fail (C_X2_fail _ _ _ er3) ML_X6_100 IM_X2_fail SE_X2_fail qc_1 rfl (As := [.int 5]) rfl rfl (by omega) (Nat.le_of_ble_eq_true rfl) (Nat.le_of_ble_eq_true rfl) (Nat.le_of_ble_eq_true rfl) ?_
          exact B_X6_readTemplFields_100 rc H _ _ _ _ _ _ _ (fun y0 y1 y2 y3 y4 y5 hx => Hb30 y0 y1 y2 y3 y4 y5 hx) hk
      · refine mj_aload_n dX6_readTemplFields_74 0 rfl ?_
        refine t_getR 1 dX6_readTemplFields_75 F_X6_28 qr_845_0 ?_
        refine mj_iconst (v := 3) dX6_readTemplFields_78 (by decide) ?_
        refine t_bndK hk (fun r4 er4 hk => ?_)
        refine t_callVvE dX6_readTemplFields_79 M_X2_fail (C_X2_fail _ _ _ er4) ML_X6_100 IM_X2_fail SE_X2_fail qc_1 rfl (As := [.int 3]) rfl rfl (by omega) (Nat.le_of_ble_eq_true rfl) (Nat.le_of_ble_eq_true rfl) (Nat.le_of_ble_eq_true rfl) ?_
        refine mj_goto 100 dX6_readTemplFields_82 (by decide) ?_
        exact B_X6_readTemplFields_100 rc H _ _ _ _ _ _ _ (fun y0 y1 y2 y3 y4 y5 hx => Hb30 y0 y1 y2 y3 y4 y5 hx) hk
    · refine mj_aload_n dX6_readTemplFields_48 0 rfl ?_
      refine t_getR 1 dX6_readTemplFields_49 F_X6_28 qr_845_0 ?_
      refine mj_iconst (v := 2) dX6_readTemplFields_52 (by decide) ?_
      refine t_bndK hk (fun r5 er5 hk => ?_)
      refine t_callVvE dX6_readTemplFields_53 M_X2_fail (C_X2_fail _ _ _ er5) ML_X6_100 IM_X2_fail SE_X2_fail qc_1 rfl (As := [.int 2]) rfl rfl (by omega) (Nat.le_of_ble_eq_true rfl) (Nat.le_of_ble_eq_true rfl) (Nat.le_of_ble_eq_true rfl) ?_
      refine mj_goto 100 dX6_readTemplFields_56 (by decide) ?_
      exact B_X6_readTemplFields_100 rc H _ _ _ _ _ _ _ (fun y0 y1 y2 y3 y4 y5 hx => Hb30 y0 y1 y2 y3 y4 y5 hx) hk
noncomputable def b_X6_readTemplFields_30 (rc : RT_X6_readBase) (x : Int32 × Int32 × Int32 × Int32 × Int32 × t_S) : Option ((Int32 × Int32 × Int32 × Int32 × Int32 × t_S) ⊕ (t_S)) := k_X6_readTemplFields_30 rc x.1 x.2.1 x.2.2.1 x.2.2.2.1 x.2.2.2.2.1 x.2.2.2.2.2
set_option maxRecDepth 4000 in
set_option maxHeartbeats 1000000 in
theorem LH_X6_readTemplFields_30 {D : va_G} {cy : Nat → ClassId} {ad : Nat → Nat} {bs : Nat} {X : State → Heap → Prop} (rc : RT_X6_readBase) {k : Nat} (H : RH_X6_readBase rc k) : ∀ (n : Nat) (y0 : Int32) (y1 : Int32) (y2 : Int32) (y3 : Int32) (y4 : Int32) (y5 : t_S) (Q : t_S → Prop) (hk : t_hk (t_loop (b_X6_readTemplFields_30 rc) n (y0, y1, y2, y3, y4, y5)) Q), mj_G D cy ad bs X cX6_readTemplFields 7 yX6_readTemplFields.cls none yX6_readTemplFields.name (3 + (k + 1)) 0 0 1065 (t_P (fun v s' => v = none ∧ Q (s'))) 30 [(0, .ref 845), (1, .int (y0)), (2, .int (y1)), (3, .int (y2)), (4, .int (y3)), (5, .int (y4))] [] (t_m y5) 1065 0 0 := by
  intro n
  induction n with
  | zero => intro y0 y1 y2 y3 y4 y5 Q hk; obtain ⟨r, hr, _⟩ := hk; cases hr
  | succ n ih =>
    intro y0 y1 y2 y3 y4 y5 Q hk
    exact B_X6_readTemplFields_30 rc H y0 y1 y2 y3 y4 y5 (fun y => t_lq (b_X6_readTemplFields_30 rc) n Q y) (fun y0' y1' y2' y3' y4' y5' hy => ih y0' y1' y2' y3' y4' y5' Q hy) (t_lp hk)
noncomputable def m_X6_readTemplFields (rc : RT_X6_readBase) (x1 : Int32) (x2 : Int32) (x3 : Int32) (s : t_S) : Option (t_S) :=
 if t_ix x1 6100 = true then
  t_let (t_setI s 354 (x1.toNatClampNeg) (8 : Int32)) (fun s1 =>
 (f_X2_take (125 : Int32) s1).bind (fun r2 =>
 if r2.1 = (0 : Int32) then (t_loop (b_X6_readTemplFields_30 rc) t_N (x1, x2, x3, (-1), 0, r2.2))
 else (some (r2.2))))
else none
set_option maxRecDepth 4000 in
set_option maxHeartbeats 1000000 in
theorem E_X6_readTemplFields (rc : RT_X6_readBase) {k : Nat} (H : RH_X6_readBase rc k) (x1 : Int32) (x2 : Int32) (x3 : Int32) (s : t_S) (r : t_S) (hr : m_X6_readTemplFields rc x1 x2 x3 s = some r) : t_C yX6_readTemplFields cX6_readTemplFields 7 none (3 + (k + 1)) [.ref 845, .int x1, .int x2, .int x3] s (fun v s' => v = none ∧ s' = r) := by
  refine t_C.imp (P := fun v s' => v = none ∧ (fun q => q = r) (s')) (t_C.of (by decide +kernel) (Nat.le_of_ble_eq_true rfl) ?_) (fun v s' hp => hp)
  intro D cy ad bs X
  have hk : t_hk (m_X6_readTemplFields rc x1 x2 x3 s) (fun q => q = r) := ⟨r, hr, rfl⟩
  show mj_G D cy ad bs X cX6_readTemplFields 7 yX6_readTemplFields.cls none yX6_readTemplFields.name (3 + (k + 1)) 0 0 1065 (t_P (fun v s' => v = none ∧ (fun q => q = r) (s'))) 0 [(0, .ref 845), (1, .int x1), (2, .int x2), (3, .int x3)] [] (t_m s) 1065 0 0
  refine mj_aload_n dX6_readTemplFields_0 0 rfl ?_
  refine t_getR 353 dX6_readTemplFields_1 F_X6_38 qr_845_2 ?_
  refine t_getR 354 dX6_readTemplFields_4 F_X6_395 qr_353_0 ?_
  refine mj_iload_n dX6_readTemplFields_7 1 rfl ?_
  refine mj_bipush (v := 8) dX6_readTemplFields_8 (by decide) ?_
  refine t_chkK hk (fun c0 hk => ?_)
  refine t_iastK dX6_readTemplFields_10 qa_354 (t_ixv c0) (fun s1 ws1 => t_letE hk ws1 (fun hk => ?_))
  refine mj_aload_n dX6_readTemplFields_11 0 rfl ?_
  refine t_getR 1 dX6_readTemplFields_12 F_X6_28 qr_845_0 ?_
  refine mj_bipush (v := 125) dX6_readTemplFields_15 (by decide) ?_
  refine t_bndK hk (fun r2 er2 hk => ?_)
  refine t_callViE dX6_readTemplFields_17 M_X2_take (C_X2_take _ _ _ er2) ML_X6_246 IM_X2_take SE_X2_take qc_1 rfl (As := [.int 125]) rfl rfl (by omega) (Nat.le_of_ble_eq_true rfl) (Nat.le_of_ble_eq_true rfl) (Nat.le_of_ble_eq_true rfl) ?_
  refine mj_if_eq 24 dX6_readTemplFields_20 (by decide) (fun z => t_posK hk z (fun hk => ?_)) (fun z => t_negK hk z (fun hk => ?_))
  · refine mj_iconst (v := (-1)) dX6_readTemplFields_24 (by decide) ?_
    refine mj_istore (lv2 := [(4, .int (-1)), (0, .ref 845), (1, .int x1), (2, .int x2), (3, .int x3)]) dX6_readTemplFields_25 (by decide) rfl ?_
    refine mj_iconst (v := 0) dX6_readTemplFields_27 (by decide) ?_
    refine mj_istore (lv2 := [(5, .int 0), (4, .int (-1)), (0, .ref 845), (1, .int x1), (2, .int x2), (3, .int x3)]) dX6_readTemplFields_28 (by decide) rfl ?_
    refine mj_sublv [(0, .ref 845), (1, .int x1), (2, .int x2), (3, .int x3), (4, .int (-1)), (5, .int 0)] [2, 3, 4, 5, 1, 0] rfl ?_
    exact LH_X6_readTemplFields_30 rc H _ x1 x2 x3 (-1) 0 r2.2 _ hk
  · exact t_somK hk (fun hf => t_vret dX6_readTemplFields_23 rfl ⟨rfl, hf⟩ (Nat.le_of_ble_eq_true rfl) (Nat.le_of_ble_eq_true rfl))
noncomputable def k_X6_readTone_163 (rc : RT_X6_readBase) (k0 : Int64) (k1 : Int32) (s : t_S) : Option (t_S) :=
 if t_ix k1 6100 = true then
  t_let (t_setJ s 362 (k1.toNatClampNeg) k0) (fun s1 =>
 some (s1))
else none
set_option maxRecDepth 4000 in
set_option maxHeartbeats 1000000 in
theorem B_X6_readTone_163 {D : va_G} {cy : Nat → ClassId} {ad : Nat → Nat} {bs : Nat} {X : State → Heap → Prop} (rc : RT_X6_readBase) {k : Nat} (H : RH_X6_readBase rc k) (k0 : Int64) (k1 : Int32) (s : t_S) (Q : t_S → Prop) (hk : t_hk (k_X6_readTone_163 rc k0 k1 s) Q) : mj_G D cy ad bs X cX6_readTone 5 yX6_readTone.cls none yX6_readTone.name (3 + (k + 1)) 0 0 1065 (t_P (fun v s' => v = none ∧ Q (s'))) 163 [] [.long k0, .int k1, .ref 362] (t_m s) 1065 0 0 := by
  refine t_chkK hk (fun c0 hk => ?_)
  refine t_lastK dX6_readTone_163 qa_362 (t_ixv c0) (fun s1 ws1 => t_letE hk ws1 (fun hk => ?_))
  exact t_somK hk (fun hf => t_vret dX6_readTone_164 rfl ⟨rfl, hf⟩ (Nat.le_of_ble_eq_true rfl) (Nat.le_of_ble_eq_true rfl))
noncomputable def k_X6_readTone_530 (rc : RT_X6_readBase) (l1 : Int32) (s : t_S) : Option (t_S) :=
 if t_ix l1 6100 = true then
  t_let (t_setI s 354 (l1.toNatClampNeg) (14 : Int32)) (fun s1 =>
 (f_X2_need (3 : Int32) s1).bind (fun r2 =>
 some (r2)))
else none
set_option maxRecDepth 4000 in
set_option maxHeartbeats 1000000 in
theorem B_X6_readTone_530 {D : va_G} {cy : Nat → ClassId} {ad : Nat → Nat} {bs : Nat} {X : State → Heap → Prop} (rc : RT_X6_readBase) {k : Nat} (H : RH_X6_readBase rc k) (l1 : Int32) (s : t_S) (Q : t_S → Prop) (hk : t_hk (k_X6_readTone_530 rc l1 s) Q) : mj_G D cy ad bs X cX6_readTone 5 yX6_readTone.cls none yX6_readTone.name (3 + (k + 1)) 0 0 1065 (t_P (fun v s' => v = none ∧ Q (s'))) 530 [(0, .ref 845), (1, .int l1)] [] (t_m s) 1065 0 0 := by
  refine mj_aload_n dX6_readTone_530 0 rfl ?_
  refine t_getR 353 dX6_readTone_531 F_X6_38 qr_845_2 ?_
  refine t_getR 354 dX6_readTone_534 F_X6_395 qr_353_0 ?_
  refine mj_iload_n dX6_readTone_537 1 rfl ?_
  refine mj_bipush (v := 14) dX6_readTone_538 (by decide) ?_
  refine t_chkK hk (fun c0 hk => ?_)
  refine t_iastK dX6_readTone_540 qa_354 (t_ixv c0) (fun s1 ws1 => t_letE hk ws1 (fun hk => ?_))
  refine mj_aload_n dX6_readTone_541 0 rfl ?_
  refine t_getR 1 dX6_readTone_542 F_X6_28 qr_845_0 ?_
  refine mj_iconst (v := 3) dX6_readTone_545 (by decide) ?_
  refine t_bndK hk (fun r2 er2 hk => ?_)
  refine t_callVvE dX6_readTone_546 M_X2_need (C_X2_need _ _ _ er2) ML_X6_184 IM_X2_need SE_X2_need qc_1 rfl (As := [.int 3]) rfl rfl (by omega) (Nat.le_of_ble_eq_true rfl) (Nat.le_of_ble_eq_true rfl) (Nat.le_of_ble_eq_true rfl) ?_
  refine mj_goto 552 dX6_readTone_549 (by decide) ?_
  exact t_somK hk (fun hf => t_vret dX6_readTone_552 rfl ⟨rfl, hf⟩ (Nat.le_of_ble_eq_true rfl) (Nat.le_of_ble_eq_true rfl))
noncomputable def k_X6_readTone_310 (rc : RT_X6_readBase) (l1 : Int32) (l2 : Int32) (l3 : Int32) (l4 : Int32) (s : t_S) : Option (t_S) :=
 (f_X2_advance s).bind (fun r1 =>
 if l4.toInt = 40 then ((rc.2.2.2.2.2.1 l1 (13 : Int32) l2 l3 r1).bind (fun r2 =>
 some (r2)))
 else if l4.toInt = 61 then ((rc.2.2.2.2.2.2.2.2.2.2.2.1 l1 l2 r1).bind (fun r3 =>
 some (r3)))
 else if l4.toInt = 64 then ((rc.2.2.2.2.2.2.2.2.2.2.2.2.1 l1 l2 l3 r1).bind (fun r4 =>
 some (r4)))
 else if l4.toInt = 91 then ((rc.2.2.2.2.2.2.2.2.2.1 l1 l2 l3 r1).bind (fun r5 =>
 some (r5)))
 else if l4.toInt = 123 then ((rc.2.2.2.2.2.2.2.2.2.2.2.2.2.2.1 l1 l2 l3 r1).bind (fun r6 =>
 some (r6)))
 else if l4.toInt = 224 then ((rc.2.2.2.2.2.2.2.2.2.2.1 l1 (11 : Int32) l2 l3 r1).bind (fun r7 =>
 some (r7)))
 else if l4.toInt = 225 then ((rc.2.2.2.2.2.2.2.2.2.2.1 l1 (12 : Int32) l2 l3 r1).bind (fun r8 =>
 some (r8)))
 else if l4.toInt = 226 then (if (r1.1 1 8) = (3 : Int32) then ((f_X6_poolText r1).bind (fun r9 =>
 (f_X10_setLiteral l1 r9.1 r9.2).bind (fun r10 =>
 k_X6_readTone_530 rc l1 r10)))
 else (k_X6_readTone_530 rc l1 r1))
 else if l4.toInt = 227 then ((rc.2.2.2.2.2.2.2.2.2.2.1 l1 (15 : Int32) l2 l3 r1).bind (fun r11 =>
 some (r11)))
 else if l4.toInt = 228 then ((rc.2.2.2.2.2.2.2.2.2.2.1 l1 (16 : Int32) l2 l3 r1).bind (fun r12 =>
 some (r12)))
 else (some (r1)))
set_option maxRecDepth 4000 in
set_option maxHeartbeats 1000000 in
theorem B_X6_readTone_310 {D : va_G} {cy : Nat → ClassId} {ad : Nat → Nat} {bs : Nat} {X : State → Heap → Prop} (rc : RT_X6_readBase) {k : Nat} (H : RH_X6_readBase rc k) (l1 : Int32) (l2 : Int32) (l3 : Int32) (l4 : Int32) (s : t_S) (Q : t_S → Prop) (hk : t_hk (k_X6_readTone_310 rc l1 l2 l3 l4 s) Q) : mj_G D cy ad bs X cX6_readTone 5 yX6_readTone.cls none yX6_readTone.name (3 + (k + 1)) 0 0 1065 (t_P (fun v s' => v = none ∧ Q (s'))) 310 [(0, .ref 845), (1, .int l1), (2, .int l2), (3, .int l3), (4, .int l4)] [] (t_m s) 1065 0 0 := by
  refine mj_aload_n dX6_readTone_310 0 rfl ?_
  refine t_getR 1 dX6_readTone_311 F_X6_28 qr_845_0 ?_
  refine t_bndK hk (fun r1 er1 hk => ?_)
  refine t_callVvE dX6_readTone_314 M_X2_advance (C_X2_advance _ _ er1) ML_X6_170 IM_X2_advance SE_X2_advance qc_1 rfl (As := []) rfl rfl (by omega) (Nat.le_of_ble_eq_true rfl) (Nat.le_of_ble_eq_true rfl) (Nat.le_of_ble_eq_true rfl) ?_
  refine mj_iload dX6_readTone_317 4 rfl ?_
  by_cases h0 : l4.toInt = 40
  · replace hk := t_pos hk h0
    refine mj_lookup 438 dX6_readTone_319 (by decide) (by rw [h0] <;> rfl) (by decide) ?_
    refine mj_aload_n dX6_readTone_438 0 rfl ?_
    refine mj_iload_n dX6_readTone_439 1 rfl ?_
    refine mj_bipush (v := 13) dX6_readTone_440 (by decide) ?_
    refine mj_iload_n dX6_readTone_442 2 rfl ?_
    refine mj_iload_n dX6_readTone_443 3 rfl ?_
    refine t_bndK hk (fun r2 er2 hk => ?_)
    refine t_callVvE dX6_readTone_444 M_X6_readInner (H.2.2.2.2.2.1 _ _ _ _ _ _ er2) ML_X6_423 IM_X6_readInner SE_X6_readInner qc_845 rfl (As := [.int l1, .int 13, .int l2, .int l3]) rfl rfl (by omega) (Nat.le_of_ble_eq_true rfl) (Nat.le_of_ble_eq_true rfl) (Nat.le_of_ble_eq_true rfl) ?_
    refine mj_goto 552 dX6_readTone_447 (by decide) ?_
    exact t_somK hk (fun hf => t_vret dX6_readTone_552 rfl ⟨rfl, hf⟩ (Nat.le_of_ble_eq_true rfl) (Nat.le_of_ble_eq_true rfl))
  replace hk := t_neg hk h0
  by_cases h1 : l4.toInt = 61
  · replace hk := t_pos hk h1
    refine mj_lookup 450 dX6_readTone_319 (by decide) (by rw [h1] <;> rfl) (by decide) ?_
    refine mj_aload_n dX6_readTone_450 0 rfl ?_
    refine mj_iload_n dX6_readTone_451 1 rfl ?_
    refine mj_iload_n dX6_readTone_452 2 rfl ?_
    refine t_bndK hk (fun r3 er3 hk => ?_)
    refine t_callVvE dX6_readTone_453 M_X6_readSame (H.2.2.2.2.2.2.2.2.2.2.2.1 _ _ _ _ er3) ML_X6_427 IM_X6_readSame SE_X6_readSame qc_845 rfl (As := [.int l1, .int l2]) rfl rfl (by omega) (Nat.le_of_ble_eq_true rfl) (Nat.le_of_ble_eq_true rfl) (Nat.le_of_ble_eq_true rfl) ?_
    refine mj_goto 552 dX6_readTone_456 (by decide) ?_
    exact t_somK hk (fun hf => t_vret dX6_readTone_552 rfl ⟨rfl, hf⟩ (Nat.le_of_ble_eq_true rfl) (Nat.le_of_ble_eq_true rfl))
  replace hk := t_neg hk h1
  by_cases h2 : l4.toInt = 64
  · replace hk := t_pos hk h2
    refine mj_lookup 418 dX6_readTone_319 (by decide) (by rw [h2] <;> rfl) (by decide) ?_
    refine mj_aload_n dX6_readTone_418 0 rfl ?_
    refine mj_iload_n dX6_readTone_419 1 rfl ?_
    refine mj_iload_n dX6_readTone_420 2 rfl ?_
    refine mj_iload_n dX6_readTone_421 3 rfl ?_
    refine t_bndK hk (fun r4 er4 hk => ?_)
    refine t_callVvE dX6_readTone_422 M_X6_readTag (H.2.2.2.2.2.2.2.2.2.2.2.2.1 _ _ _ _ _ er4) ML_X6_417 IM_X6_readTag SE_X6_readTag qc_845 rfl (As := [.int l1, .int l2, .int l3]) rfl rfl (by omega) (Nat.le_of_ble_eq_true rfl) (Nat.le_of_ble_eq_true rfl) (Nat.le_of_ble_eq_true rfl) ?_
    refine mj_goto 552 dX6_readTone_425 (by decide) ?_
    exact t_somK hk (fun hf => t_vret dX6_readTone_552 rfl ⟨rfl, hf⟩ (Nat.le_of_ble_eq_true rfl) (Nat.le_of_ble_eq_true rfl))
  replace hk := t_neg hk h2
  by_cases h3 : l4.toInt = 91
  · replace hk := t_pos hk h3
    refine mj_lookup 428 dX6_readTone_319 (by decide) (by rw [h3] <;> rfl) (by decide) ?_
    refine mj_aload_n dX6_readTone_428 0 rfl ?_
    refine mj_iload_n dX6_readTone_429 1 rfl ?_
    refine mj_iload_n dX6_readTone_430 2 rfl ?_
    refine mj_iload_n dX6_readTone_431 3 rfl ?_
    refine t_bndK hk (fun r5 er5 hk => ?_)
    refine t_callVvE dX6_readTone_432 M_X6_readPieces (H.2.2.2.2.2.2.2.2.2.1 _ _ _ _ _ er5) ML_X6_420 IM_X6_readPieces SE_X6_readPieces qc_845 rfl (As := [.int l1, .int l2, .int l3]) rfl rfl (by omega) (Nat.le_of_ble_eq_true rfl) (Nat.le_of_ble_eq_true rfl) (Nat.le_of_ble_eq_true rfl) ?_
    refine mj_goto 552 dX6_readTone_435 (by decide) ?_
    exact t_somK hk (fun hf => t_vret dX6_readTone_552 rfl ⟨rfl, hf⟩ (Nat.le_of_ble_eq_true rfl) (Nat.le_of_ble_eq_true rfl))
  replace hk := t_neg hk h3
  by_cases h4 : l4.toInt = 123
  · replace hk := t_pos hk h4
    refine mj_lookup 408 dX6_readTone_319 (by decide) (by rw [h4] <;> rfl) (by decide) ?_
    refine mj_aload_n dX6_readTone_408 0 rfl ?_
    refine mj_iload_n dX6_readTone_409 1 rfl ?_
    refine mj_iload_n dX6_readTone_410 2 rfl ?_
    refine mj_iload_n dX6_readTone_411 3 rfl ?_
    refine t_bndK hk (fun r6 er6 hk => ?_)
    refine t_callVvE dX6_readTone_412 M_X6_readTemplFields (H.2.2.2.2.2.2.2.2.2.2.2.2.2.2.1 _ _ _ _ _ er6) ML_X6_414 IM_X6_readTemplFields SE_X6_readTemplFields qc_845 rfl (As := [.int l1, .int l2, .int l3]) rfl rfl (by omega) (Nat.le_of_ble_eq_true rfl) (Nat.le_of_ble_eq_true rfl) (Nat.le_of_ble_eq_true rfl) ?_
    refine mj_goto 552 dX6_readTone_415 (by decide) ?_
    exact t_somK hk (fun hf => t_vret dX6_readTone_552 rfl ⟨rfl, hf⟩ (Nat.le_of_ble_eq_true rfl) (Nat.le_of_ble_eq_true rfl))
  replace hk := t_neg hk h4
  by_cases h5 : l4.toInt = 224
  · replace hk := t_pos hk h5
    refine mj_lookup 459 dX6_readTone_319 (by decide) (by rw [h5] <;> rfl) (by decide) ?_
    refine mj_aload_n dX6_readTone_459 0 rfl ?_
    refine mj_iload_n dX6_readTone_460 1 rfl ?_
    refine mj_bipush (v := 11) dX6_readTone_461 (by decide) ?_
    refine mj_iload_n dX6_readTone_463 2 rfl ?_
    refine mj_iload_n dX6_readTone_464 3 rfl ?_
    refine t_bndK hk (fun r7 er7 hk => ?_)
    refine t_callVvE dX6_readTone_465 M_X6_readRow (H.2.2.2.2.2.2.2.2.2.2.1 _ _ _ _ _ _ er7) ML_X6_430 IM_X6_readRow SE_X6_readRow qc_845 rfl (As := [.int l1, .int 11, .int l2, .int l3]) rfl rfl (by omega) (Nat.le_of_ble_eq_true rfl) (Nat.le_of_ble_eq_true rfl) (Nat.le_of_ble_eq_true rfl) ?_
    refine mj_goto 552 dX6_readTone_468 (by decide) ?_
    exact t_somK hk (fun hf => t_vret dX6_readTone_552 rfl ⟨rfl, hf⟩ (Nat.le_of_ble_eq_true rfl) (Nat.le_of_ble_eq_true rfl))
  replace hk := t_neg hk h5
  by_cases h6 : l4.toInt = 225
  · replace hk := t_pos hk h6
    refine mj_lookup 471 dX6_readTone_319 (by decide) (by rw [h6] <;> rfl) (by decide) ?_
    refine mj_aload_n dX6_readTone_471 0 rfl ?_
    refine mj_iload_n dX6_readTone_472 1 rfl ?_
    refine mj_bipush (v := 12) dX6_readTone_473 (by decide) ?_
    refine mj_iload_n dX6_readTone_475 2 rfl ?_
    refine mj_iload_n dX6_readTone_476 3 rfl ?_
    refine t_bndK hk (fun r8 er8 hk => ?_)
    refine t_callVvE dX6_readTone_477 M_X6_readRow (H.2.2.2.2.2.2.2.2.2.2.1 _ _ _ _ _ _ er8) ML_X6_430 IM_X6_readRow SE_X6_readRow qc_845 rfl (As := [.int l1, .int 12, .int l2, .int l3]) rfl rfl (by omega) (Nat.le_of_ble_eq_true rfl) (Nat.le_of_ble_eq_true rfl) (Nat.le_of_ble_eq_true rfl) ?_
    refine mj_goto 552 dX6_readTone_480 (by decide) ?_
    exact t_somK hk (fun hf => t_vret dX6_readTone_552 rfl ⟨rfl, hf⟩ (Nat.le_of_ble_eq_true rfl) (Nat.le_of_ble_eq_true rfl))
  replace hk := t_neg hk h6
  by_cases h7 : l4.toInt = 226
  · replace hk := t_pos hk h7
    refine mj_lookup 507 dX6_readTone_319 (by decide) (by rw [h7] <;> rfl) (by decide) ?_
    refine mj_aload_n dX6_readTone_507 0 rfl ?_
    refine t_getR 1 dX6_readTone_508 F_X6_28 qr_845_0 ?_
    refine t_getI dX6_readTone_511 F_X6_85 qf_1_8 ?_
    refine mj_iconst (v := 3) dX6_readTone_514 (by decide) ?_
    refine mj_icmp_ne 530 dX6_readTone_515 (by decide) (fun z => t_negK hk z (fun hk => ?_)) (fun z => t_posK hk z (fun hk => ?_))
    · refine mj_sublv [(0, .ref 845), (1, .int l1)] [0, 1] rfl ?_
      exact B_X6_readTone_530 rc H _ _ _ hk
    · refine mj_aload_n dX6_readTone_518 0 rfl ?_
      refine t_getR 353 dX6_readTone_519 F_X6_38 qr_845_2 ?_
      refine mj_iload_n dX6_readTone_522 1 rfl ?_
      refine mj_aload_n dX6_readTone_523 0 rfl ?_
      refine t_bndK hk (fun r9 er9 hk => ?_)
      refine t_callViE dX6_readTone_524 M_X6_poolText (C_X6_poolText _ _ er9) ML_X6_400 IM_X6_poolText SE_X6_poolText qc_845 rfl (As := []) rfl rfl (by omega) (Nat.le_of_ble_eq_true rfl) (Nat.le_of_ble_eq_true rfl) (Nat.le_of_ble_eq_true rfl) ?_
      refine t_bndK hk (fun r10 er10 hk => ?_)
      refine t_callVvE dX6_readTone_527 M_X10_setLiteral (C_X10_setLiteral _ _ _ _ er10) ML_X6_403 IM_X10_setLiteral SE_X10_setLiteral qc_353 rfl (As := [.int l1, .int r9.1]) rfl rfl (by omega) (Nat.le_of_ble_eq_true rfl) (Nat.le_of_ble_eq_true rfl) (Nat.le_of_ble_eq_true rfl) ?_
      refine mj_sublv [(0, .ref 845), (1, .int l1)] [0, 1] rfl ?_
      exact B_X6_readTone_530 rc H _ _ _ hk
  replace hk := t_neg hk h7
  by_cases h8 : l4.toInt = 227
  · replace hk := t_pos hk h8
    refine mj_lookup 483 dX6_readTone_319 (by decide) (by rw [h8] <;> rfl) (by decide) ?_
    refine mj_aload_n dX6_readTone_483 0 rfl ?_
    refine mj_iload_n dX6_readTone_484 1 rfl ?_
    refine mj_bipush (v := 15) dX6_readTone_485 (by decide) ?_
    refine mj_iload_n dX6_readTone_487 2 rfl ?_
    refine mj_iload_n dX6_readTone_488 3 rfl ?_
    refine t_bndK hk (fun r11 er11 hk => ?_)
    refine t_callVvE dX6_readTone_489 M_X6_readRow (H.2.2.2.2.2.2.2.2.2.2.1 _ _ _ _ _ _ er11) ML_X6_430 IM_X6_readRow SE_X6_readRow qc_845 rfl (As := [.int l1, .int 15, .int l2, .int l3]) rfl rfl (by omega) (Nat.le_of_ble_eq_true rfl) (Nat.le_of_ble_eq_true rfl) (Nat.le_of_ble_eq_true rfl) ?_
    refine mj_goto 552 dX6_readTone_492 (by decide) ?_
    exact t_somK hk (fun hf => t_vret dX6_readTone_552 rfl ⟨rfl, hf⟩ (Nat.le_of_ble_eq_true rfl) (Nat.le_of_ble_eq_true rfl))
  replace hk := t_neg hk h8
  by_cases h9 : l4.toInt = 228
  · replace hk := t_pos hk h9
    refine mj_lookup 495 dX6_readTone_319 (by decide) (by rw [h9] <;> rfl) (by decide) ?_
    refine mj_aload_n dX6_readTone_495 0 rfl ?_
    refine mj_iload_n dX6_readTone_496 1 rfl ?_
    refine mj_bipush (v := 16) dX6_readTone_497 (by decide) ?_
    refine mj_iload_n dX6_readTone_499 2 rfl ?_
    refine mj_iload_n dX6_readTone_500 3 rfl ?_
    refine t_bndK hk (fun r12 er12 hk => ?_)
    refine t_callVvE dX6_readTone_501 M_X6_readRow (H.2.2.2.2.2.2.2.2.2.2.1 _ _ _ _ _ _ er12) ML_X6_430 IM_X6_readRow SE_X6_readRow qc_845 rfl (As := [.int l1, .int 16, .int l2, .int l3]) rfl rfl (by omega) (Nat.le_of_ble_eq_true rfl) (Nat.le_of_ble_eq_true rfl) (Nat.le_of_ble_eq_true rfl) ?_
    refine mj_goto 552 dX6_readTone_504 (by decide) ?_
    exact t_somK hk (fun hf => t_vret dX6_readTone_552 rfl ⟨rfl, hf⟩ (Nat.le_of_ble_eq_true rfl) (Nat.le_of_ble_eq_true rfl))
  replace hk := t_neg hk h9
  refine mj_lookup 552 dX6_readTone_319 (by decide) (t_lk0 _ (And.intro h0 (And.intro h1 (And.intro h2 (And.intro h3 (And.intro h4 (And.intro h5 (And.intro h6 (And.intro h7 (And.intro h8 (And.intro h9 trivial))))))))))) (by decide) ?_
  exact t_somK hk (fun hf => t_vret dX6_readTone_552 rfl ⟨rfl, hf⟩ (Nat.le_of_ble_eq_true rfl) (Nat.le_of_ble_eq_true rfl))
noncomputable def m_X6_readTone (rc : RT_X6_readBase) (x1 : Int32) (x2 : Int32) (x3 : Int32) (s : t_S) : Option (t_S) :=
 if (s.1 1 8).toInt = 1 then (if t_ix x1 6100 = true then
  t_let (t_setI s 354 (x1.toNatClampNeg) (6 : Int32)) (fun s1 =>
 t_let (t_setI s1 357 (x1.toNatClampNeg) (f_X2_word s1)) (fun s2 =>
 (f_X0_emit (35 : Int32) x1 s2).bind (fun r3 =>
 (f_X6_link (13 : Int32) x1 (0 : Int32) r3.2).bind (fun r4 =>
 some (r4)))))
else none)
 else if (s.1 1 8).toInt = 2 then (if t_ix x1 6100 = true then
  t_let (t_setI s 354 (x1.toNatClampNeg) (3 : Int32)) (fun s3 =>
 (f_X6_readNumber (-1000000000000000 : Int64) s3).bind (fun r6 =>
 t_let (t_setJ r6.2 361 (x1.toNatClampNeg) r6.1) (fun s4 =>
 (f_X2_take (10 : Int32) s4).bind (fun r7 =>
 if r7.1 = (0 : Int32) then (k_X6_readTone_163 rc (r7.2.2.1 361 (x1.toNatClampNeg)) x1 r7.2)
 else ((f_X6_readNumber (r7.2.2.1 361 (x1.toNatClampNeg)) r7.2).bind (fun r8 =>
 k_X6_readTone_163 rc r8.1 x1 r8.2))))))
else none)
 else if (s.1 1 8).toInt = 3 then ((f_X6_poolText s).bind (fun r9 =>
 (f_X10_setLiteral x1 r9.1 r9.2).bind (fun r10 =>
 k_X6_readTone_310 rc x1 x2 x3 (s.1 1 8) r10)))
 else if (s.1 1 8).toInt = 42 then (if t_ix x1 6100 = true then
  t_let (t_setI s 354 (x1.toNatClampNeg) (2 : Int32)) (fun s5 =>
 k_X6_readTone_310 rc x1 x2 x3 (s.1 1 8) s5)
else none)
 else if (s.1 1 8).toInt = 45 then (if t_ix x1 6100 = true then
  t_let (t_setI s 354 (x1.toNatClampNeg) (3 : Int32)) (fun s6 =>
 (f_X6_readNumber (-1000000000000000 : Int64) s6).bind (fun r13 =>
 t_let (t_setJ r13.2 361 (x1.toNatClampNeg) r13.1) (fun s7 =>
 (f_X2_take (10 : Int32) s7).bind (fun r14 =>
 if r14.1 = (0 : Int32) then (k_X6_readTone_163 rc (r14.2.2.1 361 (x1.toNatClampNeg)) x1 r14.2)
 else ((f_X6_readNumber (r14.2.2.1 361 (x1.toNatClampNeg)) r14.2).bind (fun r15 =>
 k_X6_readTone_163 rc r15.1 x1 r15.2))))))
else none)
 else if (s.1 1 8).toInt = 63 then (if t_ix x1 6100 = true then
  t_let (t_setI s 354 (x1.toNatClampNeg) (1 : Int32)) (fun s8 =>
 k_X6_readTone_310 rc x1 x2 x3 (s.1 1 8) s8)
else none)
 else if (s.1 1 8).toInt = 221 then ((f_X0_poolCell (f_X0_truth (1 : Int32) s) s).bind (fun r18 =>
 (f_X10_setLiteral x1 r18.1 r18.2).bind (fun r19 =>
 k_X6_readTone_310 rc x1 x2 x3 (s.1 1 8) r19)))
 else if (s.1 1 8).toInt = 222 then ((f_X0_poolCell (f_X0_truth (0 : Int32) s) s).bind (fun r21 =>
 (f_X10_setLiteral x1 r21.1 r21.2).bind (fun r22 =>
 k_X6_readTone_310 rc x1 x2 x3 (s.1 1 8) r22)))
 else if (s.1 1 8).toInt = 223 then (if t_ix x1 6100 = true then
  t_let (t_setI s 354 (x1.toNatClampNeg) (5 : Int32)) (fun s9 =>
 k_X6_readTone_310 rc x1 x2 x3 (s.1 1 8) s9)
else none)
 else (k_X6_readTone_310 rc x1 x2 x3 (s.1 1 8) s)
set_option maxRecDepth 4000 in
set_option maxHeartbeats 1000000 in
theorem E_X6_readTone (rc : RT_X6_readBase) {k : Nat} (H : RH_X6_readBase rc k) (x1 : Int32) (x2 : Int32) (x3 : Int32) (s : t_S) (r : t_S) (hr : m_X6_readTone rc x1 x2 x3 s = some r) : t_C yX6_readTone cX6_readTone 5 none (3 + (k + 1)) [.ref 845, .int x1, .int x2, .int x3] s (fun v s' => v = none ∧ s' = r) := by
  refine t_C.imp (P := fun v s' => v = none ∧ (fun q => q = r) (s')) (t_C.of (by decide +kernel) (Nat.le_of_ble_eq_true rfl) ?_) (fun v s' hp => hp)
  intro D cy ad bs X
  have hk : t_hk (m_X6_readTone rc x1 x2 x3 s) (fun q => q = r) := ⟨r, hr, rfl⟩
  show mj_G D cy ad bs X cX6_readTone 5 yX6_readTone.cls none yX6_readTone.name (3 + (k + 1)) 0 0 1065 (t_P (fun v s' => v = none ∧ (fun q => q = r) (s'))) 0 [(0, .ref 845), (1, .int x1), (2, .int x2), (3, .int x3)] [] (t_m s) 1065 0 0
  refine mj_aload_n dX6_readTone_0 0 rfl ?_
  refine t_getR 1 dX6_readTone_1 F_X6_28 qr_845_0 ?_
  refine t_getI dX6_readTone_4 F_X6_85 qf_1_8 ?_
  refine mj_istore (lv2 := [(4, .int (s.1 1 8)), (0, .ref 845), (1, .int x1), (2, .int x2), (3, .int x3)]) dX6_readTone_7 (by decide) rfl ?_
  refine mj_iload dX6_readTone_9 0 rfl ?_
  by_cases h0 : (s.1 1 8).toInt = 1
  · replace hk := t_pos hk h0
    refine mj_lookup 165 dX6_readTone_11 (by decide) (by rw [h0] <;> rfl) (by decide) ?_
    refine mj_aload_n dX6_readTone_165 1 rfl ?_
    refine t_getR 353 dX6_readTone_166 F_X6_38 qr_845_2 ?_
    refine t_getR 354 dX6_readTone_169 F_X6_395 qr_353_0 ?_
    refine mj_iload_n dX6_readTone_172 2 rfl ?_
    refine mj_bipush (v := 6) dX6_readTone_173 (by decide) ?_
    refine t_chkK hk (fun c0 hk => ?_)
    refine t_iastK dX6_readTone_175 qa_354 (t_ixv c0) (fun s1 ws1 => t_letE hk ws1 (fun hk => ?_))
    refine mj_aload_n dX6_readTone_176 1 rfl ?_
    refine t_getR 353 dX6_readTone_177 F_X6_38 qr_845_2 ?_
    refine t_getR 357 dX6_readTone_180 F_X6_399 qr_353_3 ?_
    refine mj_iload_n dX6_readTone_183 2 rfl ?_
    refine mj_aload_n dX6_readTone_184 1 rfl ?_
    refine t_getR 1 dX6_readTone_185 F_X6_28 qr_845_0 ?_
    refine t_callViP dX6_readTone_188 M_X2_word (C_X2_word _) ML_X6_166 IM_X2_word SE_X2_word qc_1 rfl (As := []) rfl rfl (by omega) (Nat.le_of_ble_eq_true rfl) (Nat.le_of_ble_eq_true rfl) (Nat.le_of_ble_eq_true rfl) ?_
    refine t_iastK dX6_readTone_191 qa_357 (t_ixv c0) (fun s2 ws2 => t_letE hk ws2 (fun hk => ?_))
    refine mj_aload_n dX6_readTone_192 1 rfl ?_
    refine t_getR 334 dX6_readTone_193 F_X6_43 qr_845_3 ?_
    refine mj_bipush (v := 35) dX6_readTone_196 (by decide) ?_
    refine mj_iload_n dX6_readTone_198 2 rfl ?_
    refine t_bndK hk (fun r3 er3 hk => ?_)
    refine t_callViE dX6_readTone_199 M_X0_emit (C_X0_emit _ _ _ _ er3) ML_X6_202 IM_X0_emit SE_X0_emit qc_334 rfl (As := [.int 35, .int x1]) rfl rfl (by omega) (Nat.le_of_ble_eq_true rfl) (Nat.le_of_ble_eq_true rfl) (Nat.le_of_ble_eq_true rfl) ?_
    refine mj_pop dX6_readTone_202 rfl ?_
    refine mj_aload_n dX6_readTone_203 1 rfl ?_
    refine mj_bipush (v := 13) dX6_readTone_204 (by decide) ?_
    refine mj_iload_n dX6_readTone_206 2 rfl ?_
    refine mj_iconst (v := 0) dX6_readTone_207 (by decide) ?_
    refine t_bndK hk (fun r4 er4 hk => ?_)
    refine t_callVvE dX6_readTone_208 M_X6_link (C_X6_link _ _ _ _ _ er4) ML_X6_250 IM_X6_link SE_X6_link qc_845 rfl (As := [.int 13, .int x1, .int 0]) rfl rfl (by omega) (Nat.le_of_ble_eq_true rfl) (Nat.le_of_ble_eq_true rfl) (Nat.le_of_ble_eq_true rfl) ?_
    exact t_somK hk (fun hf => t_vret dX6_readTone_211 rfl ⟨rfl, hf⟩ (Nat.le_of_ble_eq_true rfl) (Nat.le_of_ble_eq_true rfl))
  replace hk := t_neg hk h0
  by_cases h1 : (s.1 1 8).toInt = 2
  · replace hk := t_pos hk h1
    refine mj_lookup 92 dX6_readTone_11 (by decide) (by rw [h1] <;> rfl) (by decide) ?_
    refine mj_aload_n dX6_readTone_92 1 rfl ?_
    refine t_getR 353 dX6_readTone_93 F_X6_38 qr_845_2 ?_
    refine t_getR 354 dX6_readTone_96 F_X6_395 qr_353_0 ?_
    refine mj_iload_n dX6_readTone_99 2 rfl ?_
    refine mj_iconst (v := 3) dX6_readTone_100 (by decide) ?_
    refine t_chkK hk (fun c4 hk => ?_)
    refine t_iastK dX6_readTone_101 qa_354 (t_ixv c4) (fun s3 ws3 => t_letE hk ws3 (fun hk => ?_))
    refine mj_aload_n dX6_readTone_102 1 rfl ?_
    refine t_getR 353 dX6_readTone_103 F_X6_38 qr_845_2 ?_
    refine t_getR 361 dX6_readTone_106 F_X6_397 qr_353_7 ?_
    refine mj_iload_n dX6_readTone_109 2 rfl ?_
    refine mj_aload_n dX6_readTone_110 1 rfl ?_
    refine mj_ldc2 dX6_readTone_111 K_X6_342 ?_
    refine t_bndK hk (fun r6 er6 hk => ?_)
    refine t_callVlE dX6_readTone_114 M_X6_readNumber (C_X6_readNumber _ _ _ er6) ML_X6_346 IM_X6_readNumber SE_X6_readNumber qc_845 rfl (As := [.long (-1000000000000000)]) rfl rfl (by omega) (Nat.le_of_ble_eq_true rfl) (Nat.le_of_ble_eq_true rfl) (Nat.le_of_ble_eq_true rfl) ?_
    refine t_lastK dX6_readTone_117 qa_361 (t_ixv c4) (fun s4 ws4 => t_letE hk ws4 (fun hk => ?_))
    refine mj_aload_n dX6_readTone_118 1 rfl ?_
    refine t_getR 353 dX6_readTone_119 F_X6_38 qr_845_2 ?_
    refine t_getR 362 dX6_readTone_122 F_X6_398 qr_353_8 ?_
    refine mj_iload_n dX6_readTone_125 2 rfl ?_
    refine mj_aload_n dX6_readTone_126 1 rfl ?_
    refine t_getR 1 dX6_readTone_127 F_X6_28 qr_845_0 ?_
    refine mj_bipush (v := 10) dX6_readTone_130 (by decide) ?_
    refine t_bndK hk (fun r7 er7 hk => ?_)
    refine t_callViE dX6_readTone_132 M_X2_take (C_X2_take _ _ _ er7) ML_X6_246 IM_X2_take SE_X2_take qc_1 rfl (As := [.int 10]) rfl rfl (by omega) (Nat.le_of_ble_eq_true rfl) (Nat.le_of_ble_eq_true rfl) (Nat.le_of_ble_eq_true rfl) ?_
    refine mj_if_eq 154 dX6_readTone_135 (by decide) (fun z => t_posK hk z (fun hk => ?_)) (fun z => t_negK hk z (fun hk => ?_))
    · refine mj_aload_n dX6_readTone_154 1 rfl ?_
      refine t_getR 353 dX6_readTone_155 F_X6_38 qr_845_2 ?_
      refine t_getR 361 dX6_readTone_158 F_X6_397 qr_353_7 ?_
      refine mj_iload_n dX6_readTone_161 2 rfl ?_
      refine t_lald dX6_readTone_162 qa_361 (t_ixv c4) ?_
      refine mj_sublv [] [] rfl ?_
      exact B_X6_readTone_163 rc H _ _ _ _ hk
    · refine mj_aload_n dX6_readTone_138 1 rfl ?_
      refine mj_aload_n dX6_readTone_139 1 rfl ?_
      refine t_getR 353 dX6_readTone_140 F_X6_38 qr_845_2 ?_
      refine t_getR 361 dX6_readTone_143 F_X6_397 qr_353_7 ?_
      refine mj_iload_n dX6_readTone_146 2 rfl ?_
      refine t_lald dX6_readTone_147 qa_361 (t_ixv c4) ?_
      refine t_bndK hk (fun r8 er8 hk => ?_)
      refine t_callVlE dX6_readTone_148 M_X6_readNumber (C_X6_readNumber _ _ _ er8) ML_X6_346 IM_X6_readNumber SE_X6_readNumber qc_845 rfl (As := [.long (r7.2.2.1 361 (x1.toNatClampNeg))]) rfl rfl (by omega) (Nat.le_of_ble_eq_true rfl) (Nat.le_of_ble_eq_true rfl) (Nat.le_of_ble_eq_true rfl) ?_
      refine mj_goto 163 dX6_readTone_151 (by decide) ?_
      refine mj_sublv [] [] rfl ?_
      exact B_X6_readTone_163 rc H _ _ _ _ hk
  replace hk := t_neg hk h1
  by_cases h2 : (s.1 1 8).toInt = 3
  · replace hk := t_pos hk h2
    refine mj_lookup 212 dX6_readTone_11 (by decide) (by rw [h2] <;> rfl) (by decide) ?_
    refine mj_aload_n dX6_readTone_212 1 rfl ?_
    refine t_getR 353 dX6_readTone_213 F_X6_38 qr_845_2 ?_
    refine mj_iload_n dX6_readTone_216 2 rfl ?_
    refine mj_aload_n dX6_readTone_217 1 rfl ?_
    refine t_bndK hk (fun r9 er9 hk => ?_)
    refine t_callViE dX6_readTone_218 M_X6_poolText (C_X6_poolText _ _ er9) ML_X6_400 IM_X6_poolText SE_X6_poolText qc_845 rfl (As := []) rfl rfl (by omega) (Nat.le_of_ble_eq_true rfl) (Nat.le_of_ble_eq_true rfl) (Nat.le_of_ble_eq_true rfl) ?_
    refine t_bndK hk (fun r10 er10 hk => ?_)
    refine t_callVvE dX6_readTone_221 M_X10_setLiteral (C_X10_setLiteral _ _ _ _ er10) ML_X6_403 IM_X10_setLiteral SE_X10_setLiteral qc_353 rfl (As := [.int x1, .int r9.1]) rfl rfl (by omega) (Nat.le_of_ble_eq_true rfl) (Nat.le_of_ble_eq_true rfl) (Nat.le_of_ble_eq_true rfl) ?_
    refine mj_goto 310 dX6_readTone_224 (by decide) ?_
    refine mj_sublv [(0, .ref 845), (1, .int x1), (2, .int x2), (3, .int x3), (4, .int (s.1 1 8))] [1, 2, 3, 4, 0] rfl ?_
    exact B_X6_readTone_310 rc H _ _ _ _ _ _ hk
  replace hk := t_neg hk h2
  by_cases h3 : (s.1 1 8).toInt = 42
  · replace hk := t_pos hk h3
    refine mj_lookup 297 dX6_readTone_11 (by decide) (by rw [h3] <;> rfl) (by decide) ?_
    refine mj_aload_n dX6_readTone_297 1 rfl ?_
    refine t_getR 353 dX6_readTone_298 F_X6_38 qr_845_2 ?_
    refine t_getR 354 dX6_readTone_301 F_X6_395 qr_353_0 ?_
    refine mj_iload_n dX6_readTone_304 2 rfl ?_
    refine mj_iconst (v := 2) dX6_readTone_305 (by decide) ?_
    refine t_chkK hk (fun c10 hk => ?_)
    refine t_iastK dX6_readTone_306 qa_354 (t_ixv c10) (fun s5 ws5 => t_letE hk ws5 (fun hk => ?_))
    refine mj_goto 310 dX6_readTone_307 (by decide) ?_
    refine mj_sublv [(0, .ref 845), (1, .int x1), (2, .int x2), (3, .int x3), (4, .int (s.1 1 8))] [1, 2, 3, 4, 0] rfl ?_
    exact B_X6_readTone_310 rc H _ _ _ _ _ _ hk
  replace hk := t_neg hk h3
  by_cases h4 : (s.1 1 8).toInt = 45
  · replace hk := t_pos hk h4
    refine mj_lookup 92 dX6_readTone_11 (by decide) (by rw [h4] <;> rfl) (by decide) ?_
    refine mj_aload_n dX6_readTone_92 1 rfl ?_
    refine t_getR 353 dX6_readTone_93 F_X6_38 qr_845_2 ?_
    refine t_getR 354 dX6_readTone_96 F_X6_395 qr_353_0 ?_
    refine mj_iload_n dX6_readTone_99 2 rfl ?_
    refine mj_iconst (v := 3) dX6_readTone_100 (by decide) ?_
    refine t_chkK hk (fun c11 hk => ?_)
    refine t_iastK dX6_readTone_101 qa_354 (t_ixv c11) (fun s6 ws6 => t_letE hk ws6 (fun hk => ?_))
    refine mj_aload_n dX6_readTone_102 1 rfl ?_
    refine t_getR 353 dX6_readTone_103 F_X6_38 qr_845_2 ?_
    refine t_getR 361 dX6_readTone_106 F_X6_397 qr_353_7 ?_
    refine mj_iload_n dX6_readTone_109 2 rfl ?_
    refine mj_aload_n dX6_readTone_110 1 rfl ?_
    refine mj_ldc2 dX6_readTone_111 K_X6_342 ?_
    refine t_bndK hk (fun r13 er13 hk => ?_)
    refine t_callVlE dX6_readTone_114 M_X6_readNumber (C_X6_readNumber _ _ _ er13) ML_X6_346 IM_X6_readNumber SE_X6_readNumber qc_845 rfl (As := [.long (-1000000000000000)]) rfl rfl (by omega) (Nat.le_of_ble_eq_true rfl) (Nat.le_of_ble_eq_true rfl) (Nat.le_of_ble_eq_true rfl) ?_
    refine t_lastK dX6_readTone_117 qa_361 (t_ixv c11) (fun s7 ws7 => t_letE hk ws7 (fun hk => ?_))
    refine mj_aload_n dX6_readTone_118 1 rfl ?_
    refine t_getR 353 dX6_readTone_119 F_X6_38 qr_845_2 ?_
    refine t_getR 362 dX6_readTone_122 F_X6_398 qr_353_8 ?_
    refine mj_iload_n dX6_readTone_125 2 rfl ?_
    refine mj_aload_n dX6_readTone_126 1 rfl ?_
    refine t_getR 1 dX6_readTone_127 F_X6_28 qr_845_0 ?_
    refine mj_bipush (v := 10) dX6_readTone_130 (by decide) ?_
    refine t_bndK hk (fun r14 er14 hk => ?_)
    refine t_callViE dX6_readTone_132 M_X2_take (C_X2_take _ _ _ er14) ML_X6_246 IM_X2_take SE_X2_take qc_1 rfl (As := [.int 10]) rfl rfl (by omega) (Nat.le_of_ble_eq_true rfl) (Nat.le_of_ble_eq_true rfl) (Nat.le_of_ble_eq_true rfl) ?_
    refine mj_if_eq 154 dX6_readTone_135 (by decide) (fun z => t_posK hk z (fun hk => ?_)) (fun z => t_negK hk z (fun hk => ?_))
    · refine mj_aload_n dX6_readTone_154 1 rfl ?_
      refine t_getR 353 dX6_readTone_155 F_X6_38 qr_845_2 ?_
      refine t_getR 361 dX6_readTone_158 F_X6_397 qr_353_7 ?_
      refine mj_iload_n dX6_readTone_161 2 rfl ?_
      refine t_lald dX6_readTone_162 qa_361 (t_ixv c11) ?_
      refine mj_sublv [] [] rfl ?_
      exact B_X6_readTone_163 rc H _ _ _ _ hk
    · refine mj_aload_n dX6_readTone_138 1 rfl ?_
      refine mj_aload_n dX6_readTone_139 1 rfl ?_
      refine t_getR 353 dX6_readTone_140 F_X6_38 qr_845_2 ?_
      refine t_getR 361 dX6_readTone_143 F_X6_397 qr_353_7 ?_
      refine mj_iload_n dX6_readTone_146 2 rfl ?_
      refine t_lald dX6_readTone_147 qa_361 (t_ixv c11) ?_
      refine t_bndK hk (fun r15 er15 hk => ?_)
      refine t_callVlE dX6_readTone_148 M_X6_readNumber (C_X6_readNumber _ _ _ er15) ML_X6_346 IM_X6_readNumber SE_X6_readNumber qc_845 rfl (As := [.long (r14.2.2.1 361 (x1.toNatClampNeg))]) rfl rfl (by omega) (Nat.le_of_ble_eq_true rfl) (Nat.le_of_ble_eq_true rfl) (Nat.le_of_ble_eq_true rfl) ?_
      refine mj_goto 163 dX6_readTone_151 (by decide) ?_
      refine mj_sublv [] [] rfl ?_
      exact B_X6_readTone_163 rc H _ _ _ _ hk
  replace hk := t_neg hk h4
  by_cases h5 : (s.1 1 8).toInt = 63
  · replace hk := t_pos hk h5
    refine mj_lookup 284 dX6_readTone_11 (by decide) (by rw [h5] <;> rfl) (by decide) ?_
    refine mj_aload_n dX6_readTone_284 1 rfl ?_
    refine t_getR 353 dX6_readTone_285 F_X6_38 qr_845_2 ?_
    refine t_getR 354 dX6_readTone_288 F_X6_395 qr_353_0 ?_
    refine mj_iload_n dX6_readTone_291 2 rfl ?_
    refine mj_iconst (v := 1) dX6_readTone_292 (by decide) ?_
    refine t_chkK hk (fun c15 hk => ?_)
    refine t_iastK dX6_readTone_293 qa_354 (t_ixv c15) (fun s8 ws8 => t_letE hk ws8 (fun hk => ?_))
    refine mj_goto 310 dX6_readTone_294 (by decide) ?_
    refine mj_sublv [(0, .ref 845), (1, .int x1), (2, .int x2), (3, .int x3), (4, .int (s.1 1 8))] [1, 2, 3, 4, 0] rfl ?_
    exact B_X6_readTone_310 rc H _ _ _ _ _ _ hk
  replace hk := t_neg hk h5
  by_cases h6 : (s.1 1 8).toInt = 221
  · replace hk := t_pos hk h6
    refine mj_lookup 227 dX6_readTone_11 (by decide) (by rw [h6] <;> rfl) (by decide) ?_
    refine mj_aload_n dX6_readTone_227 1 rfl ?_
    refine t_getR 353 dX6_readTone_228 F_X6_38 qr_845_2 ?_
    refine mj_iload_n dX6_readTone_231 2 rfl ?_
    refine mj_aload_n dX6_readTone_232 1 rfl ?_
    refine t_getR 334 dX6_readTone_233 F_X6_43 qr_845_3 ?_
    refine mj_iconst (v := 1) dX6_readTone_236 (by decide) ?_
    refine t_callSlP dX6_readTone_237 M_X0_truth (C_X0_truth _ _) ML_X6_406 SM_X0_truth (As := [.int 1]) rfl rfl (by omega) (Nat.le_of_ble_eq_true rfl) (Nat.le_of_ble_eq_true rfl) (Nat.le_of_ble_eq_true rfl) ?_
    refine t_bndK hk (fun r18 er18 hk => ?_)
    refine t_callViE dX6_readTone_240 M_X0_poolCell (C_X0_poolCell _ _ _ er18) ML_X6_410 IM_X0_poolCell SE_X0_poolCell qc_334 rfl (As := [.long (f_X0_truth (1 : Int32) s)]) rfl rfl (by omega) (Nat.le_of_ble_eq_true rfl) (Nat.le_of_ble_eq_true rfl) (Nat.le_of_ble_eq_true rfl) ?_
    refine t_bndK hk (fun r19 er19 hk => ?_)
    refine t_callVvE dX6_readTone_243 M_X10_setLiteral (C_X10_setLiteral _ _ _ _ er19) ML_X6_403 IM_X10_setLiteral SE_X10_setLiteral qc_353 rfl (As := [.int x1, .int r18.1]) rfl rfl (by omega) (Nat.le_of_ble_eq_true rfl) (Nat.le_of_ble_eq_true rfl) (Nat.le_of_ble_eq_true rfl) ?_
    refine mj_goto 310 dX6_readTone_246 (by decide) ?_
    refine mj_sublv [(0, .ref 845), (1, .int x1), (2, .int x2), (3, .int x3), (4, .int (s.1 1 8))] [1, 2, 3, 4, 0] rfl ?_
    exact B_X6_readTone_310 rc H _ _ _ _ _ _ hk
  replace hk := t_neg hk h6
  by_cases h7 : (s.1 1 8).toInt = 222
  · replace hk := t_pos hk h7
    refine mj_lookup 249 dX6_readTone_11 (by decide) (by rw [h7] <;> rfl) (by decide) ?_
    refine mj_aload_n dX6_readTone_249 1 rfl ?_
    refine t_getR 353 dX6_readTone_250 F_X6_38 qr_845_2 ?_
    refine mj_iload_n dX6_readTone_253 2 rfl ?_
    refine mj_aload_n dX6_readTone_254 1 rfl ?_
    refine t_getR 334 dX6_readTone_255 F_X6_43 qr_845_3 ?_
    refine mj_iconst (v := 0) dX6_readTone_258 (by decide) ?_
    refine t_callSlP dX6_readTone_259 M_X0_truth (C_X0_truth _ _) ML_X6_406 SM_X0_truth (As := [.int 0]) rfl rfl (by omega) (Nat.le_of_ble_eq_true rfl) (Nat.le_of_ble_eq_true rfl) (Nat.le_of_ble_eq_true rfl) ?_
    refine t_bndK hk (fun r21 er21 hk => ?_)
    refine t_callViE dX6_readTone_262 M_X0_poolCell (C_X0_poolCell _ _ _ er21) ML_X6_410 IM_X0_poolCell SE_X0_poolCell qc_334 rfl (As := [.long (f_X0_truth (0 : Int32) s)]) rfl rfl (by omega) (Nat.le_of_ble_eq_true rfl) (Nat.le_of_ble_eq_true rfl) (Nat.le_of_ble_eq_true rfl) ?_
    refine t_bndK hk (fun r22 er22 hk => ?_)
    refine t_callVvE dX6_readTone_265 M_X10_setLiteral (C_X10_setLiteral _ _ _ _ er22) ML_X6_403 IM_X10_setLiteral SE_X10_setLiteral qc_353 rfl (As := [.int x1, .int r21.1]) rfl rfl (by omega) (Nat.le_of_ble_eq_true rfl) (Nat.le_of_ble_eq_true rfl) (Nat.le_of_ble_eq_true rfl) ?_
    refine mj_goto 310 dX6_readTone_268 (by decide) ?_
    refine mj_sublv [(0, .ref 845), (1, .int x1), (2, .int x2), (3, .int x3), (4, .int (s.1 1 8))] [1, 2, 3, 4, 0] rfl ?_
    exact B_X6_readTone_310 rc H _ _ _ _ _ _ hk
  replace hk := t_neg hk h7
  by_cases h8 : (s.1 1 8).toInt = 223
  · replace hk := t_pos hk h8
    refine mj_lookup 271 dX6_readTone_11 (by decide) (by rw [h8] <;> rfl) (by decide) ?_
    refine mj_aload_n dX6_readTone_271 1 rfl ?_
    refine t_getR 353 dX6_readTone_272 F_X6_38 qr_845_2 ?_
    refine t_getR 354 dX6_readTone_275 F_X6_395 qr_353_0 ?_
    refine mj_iload_n dX6_readTone_278 2 rfl ?_
    refine mj_iconst (v := 5) dX6_readTone_279 (by decide) ?_
    refine t_chkK hk (fun c22 hk => ?_)
    refine t_iastK dX6_readTone_280 qa_354 (t_ixv c22) (fun s9 ws9 => t_letE hk ws9 (fun hk => ?_))
    refine mj_goto 310 dX6_readTone_281 (by decide) ?_
    refine mj_sublv [(0, .ref 845), (1, .int x1), (2, .int x2), (3, .int x3), (4, .int (s.1 1 8))] [1, 2, 3, 4, 0] rfl ?_
    exact B_X6_readTone_310 rc H _ _ _ _ _ _ hk
  replace hk := t_neg hk h8
  refine mj_lookup 310 dX6_readTone_11 (by decide) (t_lk0 _ (And.intro h0 (And.intro h1 (And.intro h2 (And.intro h3 (And.intro h4 (And.intro h5 (And.intro h6 (And.intro h7 (And.intro h8 trivial)))))))))) (by decide) ?_
  refine mj_sublv [(0, .ref 845), (1, .int x1), (2, .int x2), (3, .int x3), (4, .int (s.1 1 8))] [1, 2, 3, 4, 0] rfl ?_
  exact B_X6_readTone_310 rc H _ _ _ _ _ _ hk
/-- so many calls deep -/
noncomputable def R_X6_readBase : Nat → RT_X6_readBase
  | 0 => ⟨fun _ _ => none, fun _ _ => none, fun _ _ => none, fun _ _ => none, fun _ _ => none, fun _ _ _ _ _ => none, fun _ _ => none, fun _ _ => none, fun _ _ _ => none, fun _ _ _ _ => none, fun _ _ _ _ _ => none, fun _ _ _ => none, fun _ _ _ _ => none, fun _ _ _ => none, fun _ _ _ _ => none, fun _ _ _ _ => none⟩
  | k + 1 => ⟨fun x1 s => m_X6_readBase (R_X6_readBase k) x1 s, fun x1 s => m_X6_readElements (R_X6_readBase k) x1 s, fun x1 s => m_X6_readExp (R_X6_readBase k) x1 s, fun x1 s => m_X6_readExpFields (R_X6_readBase k) x1 s, fun x1 s => m_X6_readExps (R_X6_readBase k) x1 s, fun x1 x2 x3 x4 s => m_X6_readInner (R_X6_readBase k) x1 x2 x3 x4 s, fun x1 s => m_X6_readMet (R_X6_readBase k) x1 s, fun x1 s => m_X6_readOne (R_X6_readBase k) x1 s, fun x1 x2 s => m_X6_readPerm (R_X6_readBase k) x1 x2 s, fun x1 x2 x3 s => m_X6_readPieces (R_X6_readBase k) x1 x2 x3 s, fun x1 x2 x3 x4 s => m_X6_readRow (R_X6_readBase k) x1 x2 x3 x4 s, fun x1 x2 s => m_X6_readSame (R_X6_readBase k) x1 x2 s, fun x1 x2 x3 s => m_X6_readTag (R_X6_readBase k) x1 x2 x3 s, fun x1 x2 s => m_X6_readTempl (R_X6_readBase k) x1 x2 s, fun x1 x2 x3 s => m_X6_readTemplFields (R_X6_readBase k) x1 x2 x3 s, fun x1 x2 x3 s => m_X6_readTone (R_X6_readBase k) x1 x2 x3 s⟩
theorem RR_X6_readBase : ∀ k : Nat, RH_X6_readBase (R_X6_readBase k) k := by
  intro k
  induction k with
  | zero => exact ⟨fun _ _ _ h => (by cases h), fun _ _ _ h => (by cases h), fun _ _ _ h => (by cases h), fun _ _ _ h => (by cases h), fun _ _ _ h => (by cases h), fun _ _ _ _ _ _ h => (by cases h), fun _ _ _ h => (by cases h), fun _ _ _ h => (by cases h), fun _ _ _ _ h => (by cases h), fun _ _ _ _ _ h => (by cases h), fun _ _ _ _ _ _ h => (by cases h), fun _ _ _ _ h => (by cases h), fun _ _ _ _ _ h => (by cases h), fun _ _ _ _ h => (by cases h), fun _ _ _ _ _ h => (by cases h), fun _ _ _ _ _ h => (by cases h)⟩
  | succ k ih => exact ⟨fun x1 s r h => E_X6_readBase (R_X6_readBase k) ih x1 s r h, fun x1 s r h => E_X6_readElements (R_X6_readBase k) ih x1 s r h, fun x1 s r h => E_X6_readExp (R_X6_readBase k) ih x1 s r h, fun x1 s r h => E_X6_readExpFields (R_X6_readBase k) ih x1 s r h, fun x1 s r h => E_X6_readExps (R_X6_readBase k) ih x1 s r h, fun x1 x2 x3 x4 s r h => E_X6_readInner (R_X6_readBase k) ih x1 x2 x3 x4 s r h, fun x1 s r h => E_X6_readMet (R_X6_readBase k) ih x1 s r h, fun x1 s r h => E_X6_readOne (R_X6_readBase k) ih x1 s r h, fun x1 x2 s r h => E_X6_readPerm (R_X6_readBase k) ih x1 x2 s r h, fun x1 x2 x3 s r h => E_X6_readPieces (R_X6_readBase k) ih x1 x2 x3 s r h, fun x1 x2 x3 x4 s r h => E_X6_readRow (R_X6_readBase k) ih x1 x2 x3 x4 s r h, fun x1 x2 s r h => E_X6_readSame (R_X6_readBase k) ih x1 x2 s r h, fun x1 x2 x3 s r h => E_X6_readTag (R_X6_readBase k) ih x1 x2 x3 s r h, fun x1 x2 s r h => E_X6_readTempl (R_X6_readBase k) ih x1 x2 s r h, fun x1 x2 x3 s r h => E_X6_readTemplFields (R_X6_readBase k) ih x1 x2 x3 s r h, fun x1 x2 x3 s r h => E_X6_readTone (R_X6_readBase k) ih x1 x2 x3 s r h⟩
noncomputable def f_X6_readBase (x1 : Int32) (s : t_S) : Option (t_S) := (R_X6_readBase 250).1 x1 s
theorem C_X6_readBase (x1 : Int32) (s : t_S) (r : t_S) (hr : f_X6_readBase x1 s = some r) : t_C yX6_readBase cX6_readBase 4 none 253 [.ref 845, .int x1] s (fun v s' => v = none ∧ s' = r) := (RR_X6_readBase 250).1 x1 s r hr
noncomputable def f_X6_readElements (x1 : Int32) (s : t_S) : Option (t_S) := (R_X6_readBase 250).2.1 x1 s
theorem C_X6_readElements (x1 : Int32) (s : t_S) (r : t_S) (hr : f_X6_readElements x1 s = some r) : t_C yX6_readElements cX6_readElements 3 none 253 [.ref 845, .int x1] s (fun v s' => v = none ∧ s' = r) := (RR_X6_readBase 250).2.1 x1 s r hr
noncomputable def f_X6_readExp (x1 : Int32) (s : t_S) : Option (Int32 × t_S) := (R_X6_readBase 250).2.2.1 x1 s
theorem C_X6_readExp (x1 : Int32) (s : t_S) (r : Int32 × t_S) (hr : f_X6_readExp x1 s = some r) : t_C yX6_readExp cX6_readExp 6 (some .int) 253 [.ref 845, .int x1] s (fun v s' => v = some (.int r.1) ∧ s' = r.2) := (RR_X6_readBase 250).2.2.1 x1 s r hr
noncomputable def f_X6_readExpFields (x1 : Int32) (s : t_S) : Option (t_S) := (R_X6_readBase 250).2.2.2.1 x1 s
theorem C_X6_readExpFields (x1 : Int32) (s : t_S) (r : t_S) (hr : f_X6_readExpFields x1 s = some r) : t_C yX6_readExpFields cX6_readExpFields 4 none 253 [.ref 845, .int x1] s (fun v s' => v = none ∧ s' = r) := (RR_X6_readBase 250).2.2.2.1 x1 s r hr
noncomputable def f_X6_readExps (x1 : Int32) (s : t_S) : Option (Int32 × t_S) := (R_X6_readBase 250).2.2.2.2.1 x1 s
theorem C_X6_readExps (x1 : Int32) (s : t_S) (r : Int32 × t_S) (hr : f_X6_readExps x1 s = some r) : t_C yX6_readExps cX6_readExps 3 (some .int) 253 [.ref 845, .int x1] s (fun v s' => v = some (.int r.1) ∧ s' = r.2) := (RR_X6_readBase 250).2.2.2.2.1 x1 s r hr
noncomputable def f_X6_readInner (x1 : Int32) (x2 : Int32) (x3 : Int32) (x4 : Int32) (s : t_S) : Option (t_S) := (R_X6_readBase 250).2.2.2.2.2.1 x1 x2 x3 x4 s
theorem C_X6_readInner (x1 : Int32) (x2 : Int32) (x3 : Int32) (x4 : Int32) (s : t_S) (r : t_S) (hr : f_X6_readInner x1 x2 x3 x4 s = some r) : t_C yX6_readInner cX6_readInner 8 none 253 [.ref 845, .int x1, .int x2, .int x3, .int x4] s (fun v s' => v = none ∧ s' = r) := (RR_X6_readBase 250).2.2.2.2.2.1 x1 x2 x3 x4 s r hr
noncomputable def f_X6_readMet (x1 : Int32) (s : t_S) : Option (t_S) := (R_X6_readBase 250).2.2.2.2.2.2.1 x1 s
theorem C_X6_readMet (x1 : Int32) (s : t_S) (r : t_S) (hr : f_X6_readMet x1 s = some r) : t_C yX6_readMet cX6_readMet 2 none 253 [.ref 845, .int x1] s (fun v s' => v = none ∧ s' = r) := (RR_X6_readBase 250).2.2.2.2.2.2.1 x1 s r hr
noncomputable def f_X6_readOne (x1 : Int32) (s : t_S) : Option (t_S) := (R_X6_readBase 250).2.2.2.2.2.2.2.1 x1 s
theorem C_X6_readOne (x1 : Int32) (s : t_S) (r : t_S) (hr : f_X6_readOne x1 s = some r) : t_C yX6_readOne cX6_readOne 5 none 253 [.ref 845, .int x1] s (fun v s' => v = none ∧ s' = r) := (RR_X6_readBase 250).2.2.2.2.2.2.2.1 x1 s r hr
noncomputable def f_X6_readPerm (x1 : Int32) (x2 : Int32) (s : t_S) : Option (Int32 × t_S) := (R_X6_readBase 250).2.2.2.2.2.2.2.2.1 x1 x2 s
theorem C_X6_readPerm (x1 : Int32) (x2 : Int32) (s : t_S) (r : Int32 × t_S) (hr : f_X6_readPerm x1 x2 s = some r) : t_C yX6_readPerm cX6_readPerm 4 (some .int) 253 [.ref 845, .int x1, .int x2] s (fun v s' => v = some (.int r.1) ∧ s' = r.2) := (RR_X6_readBase 250).2.2.2.2.2.2.2.2.1 x1 x2 s r hr
noncomputable def f_X6_readPieces (x1 : Int32) (x2 : Int32) (x3 : Int32) (s : t_S) : Option (t_S) := (R_X6_readBase 250).2.2.2.2.2.2.2.2.2.1 x1 x2 x3 s
theorem C_X6_readPieces (x1 : Int32) (x2 : Int32) (x3 : Int32) (s : t_S) (r : t_S) (hr : f_X6_readPieces x1 x2 x3 s = some r) : t_C yX6_readPieces cX6_readPieces 8 none 253 [.ref 845, .int x1, .int x2, .int x3] s (fun v s' => v = none ∧ s' = r) := (RR_X6_readBase 250).2.2.2.2.2.2.2.2.2.1 x1 x2 x3 s r hr
noncomputable def f_X6_readRow (x1 : Int32) (x2 : Int32) (x3 : Int32) (x4 : Int32) (s : t_S) : Option (t_S) := (R_X6_readBase 250).2.2.2.2.2.2.2.2.2.2.1 x1 x2 x3 x4 s
theorem C_X6_readRow (x1 : Int32) (x2 : Int32) (x3 : Int32) (x4 : Int32) (s : t_S) (r : t_S) (hr : f_X6_readRow x1 x2 x3 x4 s = some r) : t_C yX6_readRow cX6_readRow 5 none 253 [.ref 845, .int x1, .int x2, .int x3, .int x4] s (fun v s' => v = none ∧ s' = r) := (RR_X6_readBase 250).2.2.2.2.2.2.2.2.2.2.1 x1 x2 x3 x4 s r hr
noncomputable def f_X6_readSame (x1 : Int32) (x2 : Int32) (s : t_S) : Option (t_S) := (R_X6_readBase 250).2.2.2.2.2.2.2.2.2.2.2.1 x1 x2 s
theorem C_X6_readSame (x1 : Int32) (x2 : Int32) (s : t_S) (r : t_S) (hr : f_X6_readSame x1 x2 s = some r) : t_C yX6_readSame cX6_readSame 3 none 253 [.ref 845, .int x1, .int x2] s (fun v s' => v = none ∧ s' = r) := (RR_X6_readBase 250).2.2.2.2.2.2.2.2.2.2.2.1 x1 x2 s r hr
noncomputable def f_X6_readTag (x1 : Int32) (x2 : Int32) (x3 : Int32) (s : t_S) : Option (t_S) := (R_X6_readBase 250).2.2.2.2.2.2.2.2.2.2.2.2.1 x1 x2 x3 s
theorem C_X6_readTag (x1 : Int32) (x2 : Int32) (x3 : Int32) (s : t_S) (r : t_S) (hr : f_X6_readTag x1 x2 x3 s = some r) : t_C yX6_readTag cX6_readTag 4 none 253 [.ref 845, .int x1, .int x2, .int x3] s (fun v s' => v = none ∧ s' = r) := (RR_X6_readBase 250).2.2.2.2.2.2.2.2.2.2.2.2.1 x1 x2 x3 s r hr
noncomputable def f_X6_readTempl (x1 : Int32) (x2 : Int32) (s : t_S) : Option (Int32 × t_S) := (R_X6_readBase 250).2.2.2.2.2.2.2.2.2.2.2.2.2.1 x1 x2 s
theorem C_X6_readTempl (x1 : Int32) (x2 : Int32) (s : t_S) (r : Int32 × t_S) (hr : f_X6_readTempl x1 x2 s = some r) : t_C yX6_readTempl cX6_readTempl 4 (some .int) 253 [.ref 845, .int x1, .int x2] s (fun v s' => v = some (.int r.1) ∧ s' = r.2) := (RR_X6_readBase 250).2.2.2.2.2.2.2.2.2.2.2.2.2.1 x1 x2 s r hr
noncomputable def f_X6_readTemplFields (x1 : Int32) (x2 : Int32) (x3 : Int32) (s : t_S) : Option (t_S) := (R_X6_readBase 250).2.2.2.2.2.2.2.2.2.2.2.2.2.2.1 x1 x2 x3 s
theorem C_X6_readTemplFields (x1 : Int32) (x2 : Int32) (x3 : Int32) (s : t_S) (r : t_S) (hr : f_X6_readTemplFields x1 x2 x3 s = some r) : t_C yX6_readTemplFields cX6_readTemplFields 7 none 253 [.ref 845, .int x1, .int x2, .int x3] s (fun v s' => v = none ∧ s' = r) := (RR_X6_readBase 250).2.2.2.2.2.2.2.2.2.2.2.2.2.2.1 x1 x2 x3 s r hr
noncomputable def f_X6_readTone (x1 : Int32) (x2 : Int32) (x3 : Int32) (s : t_S) : Option (t_S) := (R_X6_readBase 250).2.2.2.2.2.2.2.2.2.2.2.2.2.2.2 x1 x2 x3 s
theorem C_X6_readTone (x1 : Int32) (x2 : Int32) (x3 : Int32) (s : t_S) (r : t_S) (hr : f_X6_readTone x1 x2 x3 s = some r) : t_C yX6_readTone cX6_readTone 5 none 253 [.ref 845, .int x1, .int x2, .int x3] s (fun v s' => v = none ∧ s' = r) := (RR_X6_readBase 250).2.2.2.2.2.2.2.2.2.2.2.2.2.2.2 x1 x2 x3 s r hr

