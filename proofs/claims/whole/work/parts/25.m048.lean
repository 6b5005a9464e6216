/-! Methods as functions, 48: X13_next, X13_addLocal, X13_find, X13_meant, X13_addPair -/
theorem qa_1013 : t_oka 1013 1 13000 = true := by decide +kernel
theorem qa_1015 : t_oka 1015 2 150200 = true := by decide +kernel
theorem qa_955 : t_oka 955 1 13000 = true := by decide +kernel
theorem qa_957 : t_oka 957 2 13000 = true := by decide +kernel
theorem qa_965 : t_oka 965 1 60 = true := by decide +kernel
theorem qf_950_114 : t_okf 950 13 114 0 = true := by decide +kernel
theorem qf_950_40 : t_okf 950 13 40 0 = true := by decide +kernel
theorem qr_950_110 : t_okr 950 13 110 1013 = true := by decide +kernel
theorem qr_950_112 : t_okr 950 13 112 1015 = true := by decide +kernel
theorem qr_950_17 : t_okr 950 13 17 955 = true := by decide +kernel
theorem qr_950_19 : t_okr 950 13 19 957 = true := by decide +kernel
theorem qr_950_37 : t_okr 950 13 37 964 = true := by decide +kernel
theorem qr_950_38 : t_okr 950 13 38 965 = true := by decide +kernel
theorem dX13_next_0 : decode cX13_next 0 = .ok (.aload_n 0, 1) := by decide +kernel
theorem dX13_next_1 : decode cX13_next 1 = .ok (.getfield 375, 3) := by decide +kernel
theorem dX13_next_101 : decode cX13_next 101 = .ok (.if_icmp .ne 16, 3) := by decide +kernel
theorem dX13_next_104 : decode cX13_next 104 = .ok (.aload_n 0, 1) := by decide +kernel
theorem dX13_next_105 : decode cX13_next 105 = .ok (.dup, 1) := by decide +kernel
theorem dX13_next_106 : decode cX13_next 106 = .ok (.getfield 378, 3) := by decide +kernel
theorem dX13_next_109 : decode cX13_next 109 = .ok (.iconst 1, 1) := by decide +kernel
theorem dX13_next_110 : decode cX13_next 110 = .ok (.iadd, 1) := by decide +kernel
theorem dX13_next_111 : decode cX13_next 111 = .ok (.putfield 378, 3) := by decide +kernel
theorem dX13_next_114 : decode cX13_next 114 = .ok (.goto (-51), 3) := by decide +kernel
theorem dX13_next_117 : decode cX13_next 117 = .ok (.aload_n 0, 1) := by decide +kernel
theorem dX13_next_118 : decode cX13_next 118 = .ok (.aload_n 0, 1) := by decide +kernel
theorem dX13_next_119 : decode cX13_next 119 = .ok (.getfield 378, 3) := by decide +kernel
theorem dX13_next_12 : decode cX13_next 12 = .ok (.return_, 1) := by decide +kernel
theorem dX13_next_122 : decode cX13_next 122 = .ok (.aload_n 0, 1) := by decide +kernel
theorem dX13_next_123 : decode cX13_next 123 = .ok (.getfield 391, 3) := by decide +kernel
theorem dX13_next_126 : decode cX13_next 126 = .ok (.isub, 1) := by decide +kernel
theorem dX13_next_127 : decode cX13_next 127 = .ok (.putfield 394, 3) := by decide +kernel
theorem dX13_next_13 : decode cX13_next 13 = .ok (.aload_n 0, 1) := by decide +kernel
theorem dX13_next_130 : decode cX13_next 130 = .ok (.aload_n 0, 1) := by decide +kernel
theorem dX13_next_131 : decode cX13_next 131 = .ok (.iconst 1, 1) := by decide +kernel
theorem dX13_next_132 : decode cX13_next 132 = .ok (.putfield 385, 3) := by decide +kernel
theorem dX13_next_135 : decode cX13_next 135 = .ok (.aload_n 0, 1) := by decide +kernel
theorem dX13_next_136 : decode cX13_next 136 = .ok (.aload_n 0, 1) := by decide +kernel
theorem dX13_next_137 : decode cX13_next 137 = .ok (.invokevirtual 407, 3) := by decide +kernel
theorem dX13_next_14 : decode cX13_next 14 = .ok (.invokevirtual 388, 3) := by decide +kernel
theorem dX13_next_140 : decode cX13_next 140 = .ok (.putfield 397, 3) := by decide +kernel
theorem dX13_next_143 : decode cX13_next 143 = .ok (.aload_n 0, 1) := by decide +kernel
theorem dX13_next_144 : decode cX13_next 144 = .ok (.getfield 394, 3) := by decide +kernel
theorem dX13_next_147 : decode cX13_next 147 = .ok (.bipush 12, 2) := by decide +kernel
theorem dX13_next_149 : decode cX13_next 149 = .ok (.if_icmp .le 287, 3) := by decide +kernel
theorem dX13_next_152 : decode cX13_next 152 = .ok (.aload_n 0, 1) := by decide +kernel
theorem dX13_next_153 : decode cX13_next 153 = .ok (.iconst 1, 1) := by decide +kernel
theorem dX13_next_154 : decode cX13_next 154 = .ok (.aload_n 0, 1) := by decide +kernel
theorem dX13_next_155 : decode cX13_next 155 = .ok (.getfield 391, 3) := by decide +kernel
theorem dX13_next_158 : decode cX13_next 158 = .ok (.invokevirtual 411, 3) := by decide +kernel
theorem dX13_next_161 : decode cX13_next 161 = .ok (.goto 275, 3) := by decide +kernel
theorem dX13_next_164 : decode cX13_next 164 = .ok (.iload_n 1, 1) := by decide +kernel
theorem dX13_next_165 : decode cX13_next 165 = .ok (.invokestatic 404, 3) := by decide +kernel
theorem dX13_next_168 : decode cX13_next 168 = .ok (.ifCond .eq 122, 3) := by decide +kernel
theorem dX13_next_17 : decode cX13_next 17 = .ok (.aload_n 0, 1) := by decide +kernel
theorem dX13_next_171 : decode cX13_next 171 = .ok (.aload_n 0, 1) := by decide +kernel
theorem dX13_next_172 : decode cX13_next 172 = .ok (.lconst 0, 1) := by decide +kernel
theorem dX13_next_173 : decode cX13_next 173 = .ok (.putfield 415, 3) := by decide +kernel
theorem dX13_next_176 : decode cX13_next 176 = .ok (.aload_n 0, 1) := by decide +kernel
theorem dX13_next_177 : decode cX13_next 177 = .ok (.aload_n 0, 1) := by decide +kernel
theorem dX13_next_178 : decode cX13_next 178 = .ok (.getfield 378, 3) := by decide +kernel
theorem dX13_next_18 : decode cX13_next 18 = .ok (.aload_n 0, 1) := by decide +kernel
theorem dX13_next_181 : decode cX13_next 181 = .ok (.invokevirtual 381, 3) := by decide +kernel
theorem dX13_next_184 : decode cX13_next 184 = .ok (.invokestatic 404, 3) := by decide +kernel
theorem dX13_next_187 : decode cX13_next 187 = .ok (.ifCond .eq 64, 3) := by decide +kernel
theorem dX13_next_19 : decode cX13_next 19 = .ok (.getfield 378, 3) := by decide +kernel
theorem dX13_next_190 : decode cX13_next 190 = .ok (.aload_n 0, 1) := by decide +kernel
theorem dX13_next_191 : decode cX13_next 191 = .ok (.aload_n 0, 1) := by decide +kernel
theorem dX13_next_192 : decode cX13_next 192 = .ok (.getfield 378, 3) := by decide +kernel
theorem dX13_next_195 : decode cX13_next 195 = .ok (.aload_n 0, 1) := by decide +kernel
theorem dX13_next_196 : decode cX13_next 196 = .ok (.getfield 391, 3) := by decide +kernel
theorem dX13_next_199 : decode cX13_next 199 = .ok (.isub, 1) := by decide +kernel
theorem dX13_next_200 : decode cX13_next 200 = .ok (.bipush 15, 2) := by decide +kernel
theorem dX13_next_202 : decode cX13_next 202 = .ok (.if_icmp .ge 29, 3) := by decide +kernel
theorem dX13_next_205 : decode cX13_next 205 = .ok (.ldc2_w 419, 3) := by decide +kernel
theorem dX13_next_208 : decode cX13_next 208 = .ok (.aload_n 0, 1) := by decide +kernel
theorem dX13_next_209 : decode cX13_next 209 = .ok (.getfield 415, 3) := by decide +kernel
theorem dX13_next_212 : decode cX13_next 212 = .ok (.lmul, 1) := by decide +kernel
theorem dX13_next_213 : decode cX13_next 213 = .ok (.aload_n 0, 1) := by decide +kernel
theorem dX13_next_214 : decode cX13_next 214 = .ok (.getfield 7, 3) := by decide +kernel
theorem dX13_next_217 : decode cX13_next 217 = .ok (.aload_n 0, 1) := by decide +kernel
theorem dX13_next_218 : decode cX13_next 218 = .ok (.getfield 378, 3) := by decide +kernel
theorem dX13_next_22 : decode cX13_next 22 = .ok (.putfield 391, 3) := by decide +kernel
theorem dX13_next_221 : decode cX13_next 221 = .ok (.iaload, 1) := by decide +kernel
theorem dX13_next_222 : decode cX13_next 222 = .ok (.i2l, 1) := by decide +kernel
theorem dX13_next_223 : decode cX13_next 223 = .ok (.ladd, 1) := by decide +kernel
theorem dX13_next_224 : decode cX13_next 224 = .ok (.ldc2_w 421, 3) := by decide +kernel
theorem dX13_next_227 : decode cX13_next 227 = .ok (.lsub, 1) := by decide +kernel
theorem dX13_next_228 : decode cX13_next 228 = .ok (.goto 7, 3) := by decide +kernel
theorem dX13_next_231 : decode cX13_next 231 = .ok (.aload_n 0, 1) := by decide +kernel
theorem dX13_next_232 : decode cX13_next 232 = .ok (.getfield 415, 3) := by decide +kernel
theorem dX13_next_235 : decode cX13_next 235 = .ok (.putfield 415, 3) := by decide +kernel
theorem dX13_next_238 : decode cX13_next 238 = .ok (.aload_n 0, 1) := by decide +kernel
theorem dX13_next_239 : decode cX13_next 239 = .ok (.dup, 1) := by decide +kernel
theorem dX13_next_240 : decode cX13_next 240 = .ok (.getfield 378, 3) := by decide +kernel
theorem dX13_next_243 : decode cX13_next 243 = .ok (.iconst 1, 1) := by decide +kernel
theorem dX13_next_244 : decode cX13_next 244 = .ok (.iadd, 1) := by decide +kernel
theorem dX13_next_245 : decode cX13_next 245 = .ok (.putfield 378, 3) := by decide +kernel
theorem dX13_next_248 : decode cX13_next 248 = .ok (.goto (-72), 3) := by decide +kernel
theorem dX13_next_25 : decode cX13_next 25 = .ok (.aload_n 0, 1) := by decide +kernel
theorem dX13_next_251 : decode cX13_next 251 = .ok (.aload_n 0, 1) := by decide +kernel
theorem dX13_next_252 : decode cX13_next 252 = .ok (.aload_n 0, 1) := by decide +kernel
theorem dX13_next_253 : decode cX13_next 253 = .ok (.getfield 378, 3) := by decide +kernel
theorem dX13_next_256 : decode cX13_next 256 = .ok (.aload_n 0, 1) := by decide +kernel
theorem dX13_next_257 : decode cX13_next 257 = .ok (.getfield 391, 3) := by decide +kernel
theorem dX13_next_26 : decode cX13_next 26 = .ok (.iconst 0, 1) := by decide +kernel
theorem dX13_next_260 : decode cX13_next 260 = .ok (.isub, 1) := by decide +kernel
theorem dX13_next_261 : decode cX13_next 261 = .ok (.putfield 394, 3) := by decide +kernel
theorem dX13_next_264 : decode cX13_next 264 = .ok (.aload_n 0, 1) := by decide +kernel
theorem dX13_next_265 : decode cX13_next 265 = .ok (.iconst 2, 1) := by decide +kernel
theorem dX13_next_266 : decode cX13_next 266 = .ok (.putfield 385, 3) := by decide +kernel
theorem dX13_next_269 : decode cX13_next 269 = .ok (.aload_n 0, 1) := by decide +kernel
theorem dX13_next_27 : decode cX13_next 27 = .ok (.putfield 394, 3) := by decide +kernel
theorem dX13_next_270 : decode cX13_next 270 = .ok (.getfield 394, 3) := by decide +kernel
theorem dX13_next_273 : decode cX13_next 273 = .ok (.bipush 15, 2) := by decide +kernel
theorem dX13_next_275 : decode cX13_next 275 = .ok (.if_icmp .le 161, 3) := by decide +kernel
theorem dX13_next_278 : decode cX13_next 278 = .ok (.aload_n 0, 1) := by decide +kernel
theorem dX13_next_279 : decode cX13_next 279 = .ok (.iconst 1, 1) := by decide +kernel
theorem dX13_next_280 : decode cX13_next 280 = .ok (.aload_n 0, 1) := by decide +kernel
theorem dX13_next_281 : decode cX13_next 281 = .ok (.getfield 391, 3) := by decide +kernel
theorem dX13_next_284 : decode cX13_next 284 = .ok (.invokevirtual 411, 3) := by decide +kernel
theorem dX13_next_287 : decode cX13_next 287 = .ok (.goto 149, 3) := by decide +kernel
theorem dX13_next_290 : decode cX13_next 290 = .ok (.iload_n 1, 1) := by decide +kernel
theorem dX13_next_291 : decode cX13_next 291 = .ok (.bipush 34, 2) := by decide +kernel
theorem dX13_next_293 : decode cX13_next 293 = .ok (.if_icmp .ne 138, 3) := by decide +kernel
theorem dX13_next_296 : decode cX13_next 296 = .ok (.aload_n 0, 1) := by decide +kernel
theorem dX13_next_297 : decode cX13_next 297 = .ok (.dup, 1) := by decide +kernel
theorem dX13_next_298 : decode cX13_next 298 = .ok (.getfield 378, 3) := by decide +kernel
theorem dX13_next_30 : decode cX13_next 30 = .ok (.aload_n 0, 1) := by decide +kernel
theorem dX13_next_301 : decode cX13_next 301 = .ok (.iconst 1, 1) := by decide +kernel
theorem dX13_next_302 : decode cX13_next 302 = .ok (.iadd, 1) := by decide +kernel
theorem dX13_next_303 : decode cX13_next 303 = .ok (.putfield 378, 3) := by decide +kernel
theorem dX13_next_306 : decode cX13_next 306 = .ok (.aload_n 0, 1) := by decide +kernel
theorem dX13_next_307 : decode cX13_next 307 = .ok (.aload_n 0, 1) := by decide +kernel
theorem dX13_next_308 : decode cX13_next 308 = .ok (.getfield 378, 3) := by decide +kernel
theorem dX13_next_31 : decode cX13_next 31 = .ok (.iconst (-1), 1) := by decide +kernel
theorem dX13_next_311 : decode cX13_next 311 = .ok (.invokevirtual 381, 3) := by decide +kernel
theorem dX13_next_314 : decode cX13_next 314 = .ok (.i2l, 1) := by decide +kernel
theorem dX13_next_315 : decode cX13_next 315 = .ok (.ldc2_w 423, 3) := by decide +kernel
theorem dX13_next_318 : decode cX13_next 318 = .ok (.ldc2_w 425, 3) := by decide +kernel
theorem dX13_next_32 : decode cX13_next 32 = .ok (.putfield 397, 3) := by decide +kernel
theorem dX13_next_321 : decode cX13_next 321 = .ok (.invokestatic 371, 3) := by decide +kernel
theorem dX13_next_324 : decode cX13_next 324 = .ok (.ifCond .eq 43, 3) := by decide +kernel
theorem dX13_next_327 : decode cX13_next 327 = .ok (.aload_n 0, 1) := by decide +kernel
theorem dX13_next_328 : decode cX13_next 328 = .ok (.aload_n 0, 1) := by decide +kernel
theorem dX13_next_329 : decode cX13_next 329 = .ok (.getfield 378, 3) := by decide +kernel
theorem dX13_next_332 : decode cX13_next 332 = .ok (.invokevirtual 381, 3) := by decide +kernel
theorem dX13_next_335 : decode cX13_next 335 = .ok (.bipush 34, 2) := by decide +kernel
theorem dX13_next_337 : decode cX13_next 337 = .ok (.if_icmp .eq 30, 3) := by decide +kernel
theorem dX13_next_340 : decode cX13_next 340 = .ok (.aload_n 0, 1) := by decide +kernel
theorem dX13_next_341 : decode cX13_next 341 = .ok (.getfield 378, 3) := by decide +kernel
theorem dX13_next_344 : decode cX13_next 344 = .ok (.aload_n 0, 1) := by decide +kernel
theorem dX13_next_345 : decode cX13_next 345 = .ok (.getfield 391, 3) := by decide +kernel
theorem dX13_next_348 : decode cX13_next 348 = .ok (.isub, 1) := by decide +kernel
theorem dX13_next_349 : decode cX13_next 349 = .ok (.bipush 41, 2) := by decide +kernel
theorem dX13_next_35 : decode cX13_next 35 = .ok (.aload_n 0, 1) := by decide +kernel
theorem dX13_next_351 : decode cX13_next 351 = .ok (.if_icmp .gt 16, 3) := by decide +kernel
theorem dX13_next_354 : decode cX13_next 354 = .ok (.aload_n 0, 1) := by decide +kernel
theorem dX13_next_355 : decode cX13_next 355 = .ok (.dup, 1) := by decide +kernel
theorem dX13_next_356 : decode cX13_next 356 = .ok (.getfield 378, 3) := by decide +kernel
theorem dX13_next_359 : decode cX13_next 359 = .ok (.iconst 1, 1) := by decide +kernel
theorem dX13_next_36 : decode cX13_next 36 = .ok (.aload_n 0, 1) := by decide +kernel
theorem dX13_next_360 : decode cX13_next 360 = .ok (.iadd, 1) := by decide +kernel
theorem dX13_next_361 : decode cX13_next 361 = .ok (.putfield 378, 3) := by decide +kernel
theorem dX13_next_364 : decode cX13_next 364 = .ok (.goto (-58), 3) := by decide +kernel
theorem dX13_next_367 : decode cX13_next 367 = .ok (.aload_n 0, 1) := by decide +kernel
theorem dX13_next_368 : decode cX13_next 368 = .ok (.aload_n 0, 1) := by decide +kernel
theorem dX13_next_369 : decode cX13_next 369 = .ok (.getfield 378, 3) := by decide +kernel
theorem dX13_next_37 : decode cX13_next 37 = .ok (.getfield 378, 3) := by decide +kernel
theorem dX13_next_372 : decode cX13_next 372 = .ok (.aload_n 0, 1) := by decide +kernel
theorem dX13_next_373 : decode cX13_next 373 = .ok (.getfield 391, 3) := by decide +kernel
theorem dX13_next_376 : decode cX13_next 376 = .ok (.isub, 1) := by decide +kernel
theorem dX13_next_377 : decode cX13_next 377 = .ok (.iconst 1, 1) := by decide +kernel
theorem dX13_next_378 : decode cX13_next 378 = .ok (.isub, 1) := by decide +kernel
theorem dX13_next_379 : decode cX13_next 379 = .ok (.putfield 394, 3) := by decide +kernel
theorem dX13_next_382 : decode cX13_next 382 = .ok (.aload_n 0, 1) := by decide +kernel
theorem dX13_next_383 : decode cX13_next 383 = .ok (.iconst 3, 1) := by decide +kernel
theorem dX13_next_384 : decode cX13_next 384 = .ok (.putfield 385, 3) := by decide +kernel
theorem dX13_next_387 : decode cX13_next 387 = .ok (.aload_n 0, 1) := by decide +kernel
theorem dX13_next_388 : decode cX13_next 388 = .ok (.getfield 394, 3) := by decide +kernel
theorem dX13_next_391 : decode cX13_next 391 = .ok (.bipush 40, 2) := by decide +kernel
theorem dX13_next_393 : decode cX13_next 393 = .ok (.if_icmp .gt 16, 3) := by decide +kernel
theorem dX13_next_396 : decode cX13_next 396 = .ok (.aload_n 0, 1) := by decide +kernel
theorem dX13_next_397 : decode cX13_next 397 = .ok (.aload_n 0, 1) := by decide +kernel
theorem dX13_next_398 : decode cX13_next 398 = .ok (.getfield 378, 3) := by decide +kernel
theorem dX13_next_4 : decode cX13_next 4 = .ok (.ifCond .eq 9, 3) := by decide +kernel
theorem dX13_next_40 : decode cX13_next 40 = .ok (.invokevirtual 381, 3) := by decide +kernel
theorem dX13_next_401 : decode cX13_next 401 = .ok (.invokevirtual 381, 3) := by decide +kernel
theorem dX13_next_404 : decode cX13_next 404 = .ok (.bipush 34, 2) := by decide +kernel
theorem dX13_next_406 : decode cX13_next 406 = .ok (.if_icmp .eq 12, 3) := by decide +kernel
theorem dX13_next_409 : decode cX13_next 409 = .ok (.aload_n 0, 1) := by decide +kernel
theorem dX13_next_410 : decode cX13_next 410 = .ok (.iconst 1, 1) := by decide +kernel
theorem dX13_next_411 : decode cX13_next 411 = .ok (.aload_n 0, 1) := by decide +kernel
theorem dX13_next_412 : decode cX13_next 412 = .ok (.getfield 391, 3) := by decide +kernel
theorem dX13_next_415 : decode cX13_next 415 = .ok (.invokevirtual 411, 3) := by decide +kernel
theorem dX13_next_418 : decode cX13_next 418 = .ok (.aload_n 0, 1) := by decide +kernel
theorem dX13_next_419 : decode cX13_next 419 = .ok (.dup, 1) := by decide +kernel
theorem dX13_next_420 : decode cX13_next 420 = .ok (.getfield 378, 3) := by decide +kernel
theorem dX13_next_423 : decode cX13_next 423 = .ok (.iconst 1, 1) := by decide +kernel
theorem dX13_next_424 : decode cX13_next 424 = .ok (.iadd, 1) := by decide +kernel
theorem dX13_next_425 : decode cX13_next 425 = .ok (.putfield 378, 3) := by decide +kernel
theorem dX13_next_428 : decode cX13_next 428 = .ok (.goto 8, 3) := by decide +kernel
theorem dX13_next_43 : decode cX13_next 43 = .ok (.istore_n 1, 1) := by decide +kernel
theorem dX13_next_431 : decode cX13_next 431 = .ok (.aload_n 0, 1) := by decide +kernel
theorem dX13_next_432 : decode cX13_next 432 = .ok (.iload_n 1, 1) := by decide +kernel
theorem dX13_next_433 : decode cX13_next 433 = .ok (.invokevirtual 427, 3) := by decide +kernel
theorem dX13_next_436 : decode cX13_next 436 = .ok (.aload_n 0, 1) := by decide +kernel
theorem dX13_next_437 : decode cX13_next 437 = .ok (.getfield 375, 3) := by decide +kernel
theorem dX13_next_44 : decode cX13_next 44 = .ok (.iload_n 1, 1) := by decide +kernel
theorem dX13_next_440 : decode cX13_next 440 = .ok (.ifCond .eq 8, 3) := by decide +kernel
theorem dX13_next_443 : decode cX13_next 443 = .ok (.aload_n 0, 1) := by decide +kernel
theorem dX13_next_444 : decode cX13_next 444 = .ok (.iconst 0, 1) := by decide +kernel
theorem dX13_next_445 : decode cX13_next 445 = .ok (.putfield 385, 3) := by decide +kernel
theorem dX13_next_448 : decode cX13_next 448 = .ok (.return_, 1) := by decide +kernel
theorem dX13_next_45 : decode cX13_next 45 = .ok (.ifCond .ge 11, 3) := by decide +kernel
theorem dX13_next_48 : decode cX13_next 48 = .ok (.aload_n 0, 1) := by decide +kernel
theorem dX13_next_49 : decode cX13_next 49 = .ok (.iconst 0, 1) := by decide +kernel
theorem dX13_next_50 : decode cX13_next 50 = .ok (.putfield 385, 3) := by decide +kernel
theorem dX13_next_53 : decode cX13_next 53 = .ok (.goto 383, 3) := by decide +kernel
theorem dX13_next_56 : decode cX13_next 56 = .ok (.iload_n 1, 1) := by decide +kernel
theorem dX13_next_57 : decode cX13_next 57 = .ok (.invokestatic 400, 3) := by decide +kernel
theorem dX13_next_60 : decode cX13_next 60 = .ok (.ifCond .eq 104, 3) := by decide +kernel
theorem dX13_next_63 : decode cX13_next 63 = .ok (.aload_n 0, 1) := by decide +kernel
theorem dX13_next_64 : decode cX13_next 64 = .ok (.aload_n 0, 1) := by decide +kernel
theorem dX13_next_65 : decode cX13_next 65 = .ok (.getfield 378, 3) := by decide +kernel
theorem dX13_next_68 : decode cX13_next 68 = .ok (.invokevirtual 381, 3) := by decide +kernel
theorem dX13_next_7 : decode cX13_next 7 = .ok (.aload_n 0, 1) := by decide +kernel
theorem dX13_next_71 : decode cX13_next 71 = .ok (.invokestatic 400, 3) := by decide +kernel
theorem dX13_next_74 : decode cX13_next 74 = .ok (.ifCond .ne 30, 3) := by decide +kernel
theorem dX13_next_77 : decode cX13_next 77 = .ok (.aload_n 0, 1) := by decide +kernel
theorem dX13_next_78 : decode cX13_next 78 = .ok (.aload_n 0, 1) := by decide +kernel
theorem dX13_next_79 : decode cX13_next 79 = .ok (.getfield 378, 3) := by decide +kernel
theorem dX13_next_8 : decode cX13_next 8 = .ok (.iconst 0, 1) := by decide +kernel
theorem dX13_next_82 : decode cX13_next 82 = .ok (.invokevirtual 381, 3) := by decide +kernel
theorem dX13_next_85 : decode cX13_next 85 = .ok (.invokestatic 404, 3) := by decide +kernel
theorem dX13_next_88 : decode cX13_next 88 = .ok (.ifCond .ne 16, 3) := by decide +kernel
theorem dX13_next_9 : decode cX13_next 9 = .ok (.putfield 385, 3) := by decide +kernel
theorem dX13_next_91 : decode cX13_next 91 = .ok (.aload_n 0, 1) := by decide +kernel
theorem dX13_next_92 : decode cX13_next 92 = .ok (.aload_n 0, 1) := by decide +kernel
theorem dX13_next_93 : decode cX13_next 93 = .ok (.getfield 378, 3) := by decide +kernel
theorem dX13_next_96 : decode cX13_next 96 = .ok (.invokevirtual 381, 3) := by decide +kernel
theorem dX13_next_99 : decode cX13_next 99 = .ok (.bipush 95, 2) := by decide +kernel
noncomputable def k_X13_next_235 (k0 : Int64) (s : t_S) : Option ((t_S) ⊕ (t_S)) :=
 t_let (t_setJ s 950 8 k0) (fun s1 =>
 t_let (t_setI s1 950 4 ((s1.1 950 4) + (1 : Int32))) (fun s2 =>
 some (.inl s2)))
set_option maxRecDepth 4000 in
set_option maxHeartbeats 1000000 in
theorem B_X13_next_235 {D : va_G} {cy : Nat → ClassId} {ad : Nat → Nat} {bs : Nat} {X : State → Heap → Prop} (k0 : Int64) (s : t_S) (Q : (t_S) ⊕ (t_S) → Prop) (Hb176 : ∀ (y0 : t_S), Q (.inl y0) → mj_G D cy ad bs X cX13_next 2 yX13_next.cls none yX13_next.name 5 0 0 1065 (t_P (fun v s' => v = none ∧ Q (.inr (s')))) 176 [(0, .ref 950)] [] (t_m y0) 1065 0 0) (hk : t_hk (k_X13_next_235 k0 s) Q) : mj_G D cy ad bs X cX13_next 2 yX13_next.cls none yX13_next.name 5 0 0 1065 (t_P (fun v s' => v = none ∧ Q (.inr (s')))) 235 [(0, .ref 950)] [.long k0, .ref 950] (t_m s) 1065 0 0 := by
  refine t_putJK dX13_next_235 F_X13_415 qf_950_8 rfl (fun s1 ws1 => t_letE hk ws1 (fun hk => ?_))
  refine mj_aload_n dX13_next_238 0 rfl ?_
  refine mj_dup dX13_next_239 rfl ?_
  refine t_getI dX13_next_240 F_X13_378 qf_950_4 ?_
  refine mj_iconst (v := 1) dX13_next_243 (by decide) ?_
  refine mj_iadd dX13_next_244 ?_
  refine t_putIK dX13_next_245 F_X13_378 qf_950_4 rfl (fun s2 ws2 => t_letE hk ws2 (fun hk => ?_))
  refine mj_goto 176 dX13_next_248 (by decide) ?_
  exact t_somK hk (fun hf => Hb176 s2 hf)
noncomputable def k_X13_next_436 (s : t_S) : Option (t_S) :=
 if (s.1 950 2) = (0 : Int32) then (some (s))
 else (t_let (t_setI s 950 5 (0 : Int32)) (fun s1 =>
 some (s1)))
set_option maxRecDepth 4000 in
set_option maxHeartbeats 1000000 in
theorem B_X13_next_436 {D : va_G} {cy : Nat → ClassId} {ad : Nat → Nat} {bs : Nat} {X : State → Heap → Prop} (s : t_S) (Q : t_S → Prop) (hk : t_hk (k_X13_next_436 s) Q) : mj_G D cy ad bs X cX13_next 2 yX13_next.cls none yX13_next.name 5 0 0 1065 (t_P (fun v s' => v = none ∧ Q (s'))) 436 [(0, .ref 950)] [] (t_m s) 1065 0 0 := by
  refine mj_aload_n dX13_next_436 0 rfl ?_
  refine t_getI dX13_next_437 F_X13_375 qf_950_2 ?_
  refine mj_if_eq 448 dX13_next_440 (by decide) (fun z => t_posK hk z (fun hk => ?_)) (fun z => t_negK hk z (fun hk => ?_))
  · exact t_somK hk (fun hf => t_vret dX13_next_448 rfl ⟨rfl, hf⟩ (Nat.le_of_ble_eq_true rfl) (Nat.le_of_ble_eq_true rfl))
  · refine mj_aload_n dX13_next_443 0 rfl ?_
    refine mj_iconst (v := 0) dX13_next_444 (by decide) ?_
    refine t_putIK dX13_next_445 F_X13_385 qf_950_5 rfl (fun s1 ws1 => t_letE hk ws1 (fun hk => ?_))
    exact t_somK hk (fun hf => t_vret dX13_next_448 rfl ⟨rfl, hf⟩ (Nat.le_of_ble_eq_true rfl) (Nat.le_of_ble_eq_true rfl))
noncomputable def k_X13_next_176 (s : t_S) : Option ((t_S) ⊕ (t_S)) :=
 (f_X13_peek (s.1 950 4) s).bind (fun r1 =>
 if (f_X13_isFigure r1 s) = (0 : Int32) then ((t_let (t_setI s 950 7 ((s.1 950 4) - (s.1 950 6))) (fun s1 =>
 t_let (t_setI s1 950 5 (2 : Int32)) (fun s2 =>
 if (s2.1 950 7) ≤ (15 : Int32) then (k_X13_next_436 s2)
 else ((f_X13_fail (1 : Int32) (s2.1 950 6) s2).bind (fun r3 =>
 k_X13_next_436 r3))))).map Sum.inr)
 else (if (15 : Int32) ≤ ((s.1 950 4) - (s.1 950 6)) then (k_X13_next_235 (s.2.1 950 8) s)
 else (if t_ix (s.1 950 4) 12000 = true then
  k_X13_next_235 ((((10 : Int64) * (s.2.1 950 8)) + ((s.1 951 ((s.1 950 4).toNatClampNeg)).toInt64)) - (48 : Int64)) s
else none)))
set_option maxRecDepth 4000 in
set_option maxHeartbeats 1000000 in
theorem B_X13_next_176 {D : va_G} {cy : Nat → ClassId} {ad : Nat → Nat} {bs : Nat} {X : State → Heap → Prop} (s : t_S) (Q : (t_S) ⊕ (t_S) → Prop) (Hb176 : ∀ (y0 : t_S), Q (.inl y0) → mj_G D cy ad bs X cX13_next 2 yX13_next.cls none yX13_next.name 5 0 0 1065 (t_P (fun v s' => v = none ∧ Q (.inr (s')))) 176 [(0, .ref 950)] [] (t_m y0) 1065 0 0) (hk : t_hk (k_X13_next_176 s) Q) : mj_G D cy ad bs X cX13_next 2 yX13_next.cls none yX13_next.name 5 0 0 1065 (t_P (fun v s' => v = none ∧ Q (.inr (s')))) 176 [(0, .ref 950)] [] (t_m s) 1065 0 0 := by
  refine mj_aload_n dX13_next_176 0 rfl ?_
  refine mj_aload_n dX13_next_177 0 rfl ?_
  refine t_getI dX13_next_178 F_X13_378 qf_950_4 ?_
  refine t_bndK hk (fun r1 er1 hk => ?_)
  refine t_callViP dX13_next_181 M_X13_peek (C_X13_peek _ _ _ er1) ML_X13_381 IM_X13_peek SE_X13_peek qc_950 rfl (As := [.int (s.1 950 4)]) rfl rfl (Nat.le_of_ble_eq_true rfl) (Nat.le_of_ble_eq_true rfl) (Nat.le_of_ble_eq_true rfl) (Nat.le_of_ble_eq_true rfl) ?_
  refine t_callSiP dX13_next_184 M_X13_isFigure (C_X13_isFigure _ _) ML_X13_404 SM_X13_isFigure (As := [.int r1]) rfl rfl (Nat.le_of_ble_eq_true rfl) (Nat.le_of_ble_eq_true rfl) (Nat.le_of_ble_eq_true rfl) (Nat.le_of_ble_eq_true rfl) ?_
  refine mj_if_eq 251 dX13_next_187 (by decide) (fun z => t_posK hk z (fun hk => ?_)) (fun z => t_negK hk z (fun hk => ?_))
  · refine t_mapK hk (fun hk => ?_)
    refine mj_aload_n dX13_next_251 0 rfl ?_
    refine mj_aload_n dX13_next_252 0 rfl ?_
    refine t_getI dX13_next_253 F_X13_378 qf_950_4 ?_
    refine mj_aload_n dX13_next_256 0 rfl ?_
    refine t_getI dX13_next_257 F_X13_391 qf_950_6 ?_
    refine mj_isub dX13_next_260 ?_
    refine t_putIK dX13_next_261 F_X13_394 qf_950_7 rfl (fun s1 ws1 => t_letE hk ws1 (fun hk => ?_))
    refine mj_aload_n dX13_next_264 0 rfl ?_
    refine mj_iconst (v := 2) dX13_next_265 (by decide) ?_
    refine t_putIK dX13_next_266 F_X13_385 qf_950_5 rfl (fun s2 ws2 => t_letE hk ws2 (fun hk => ?_))
    refine mj_aload_n dX13_next_269 0 rfl ?_
    refine t_getI dX13_next_270 F_X13_394 qf_950_7 ?_
    refine mj_bipush (v := 15) dX13_next_273 (by decide) ?_
    refine mj_icmp_le 436 dX13_next_275 (by decide) (fun z => t_posK hk z (fun hk => ?_)) (fun z => t_negK hk z (fun hk => ?_))
    · exact B_X13_next_436 _ _ hk
    · refine mj_aload_n dX13_next_278 0 rfl ?_
      refine mj_iconst (v := 1) dX13_next_279 (by decide) ?_
      refine mj_aload_n dX13_next_280 0 rfl ?_
      refine t_getI dX13_next_281 F_X13_391 qf_950_6 ?_
      refine t_bndK hk (fun r3 er3 hk => ?_)
      refine t_callVvE dX13_next_284 M_X13_fail (C_X13_fail _ _ _ _ er3) ML_X13_411 IM_X13_fail SE_X13_fail qc_950 rfl (As := [.int 1, .int (s2.1 950 6)]) rfl rfl (Nat.le_of_ble_eq_true rfl) (Nat.le_of_ble_eq_true rfl) (Nat.le_of_ble_eq_true rfl) (Nat.le_of_ble_eq_true rfl) ?_
      refine mj_goto 436 dX13_next_287 (by decide) ?_
      exact B_X13_next_436 _ _ hk
  · refine mj_aload_n dX13_next_190 0 rfl ?_
    refine mj_aload_n dX13_next_191 0 rfl ?_
    refine t_getI dX13_next_192 F_X13_378 qf_950_4 ?_
    refine mj_aload_n dX13_next_195 0 rfl ?_
    refine t_getI dX13_next_196 F_X13_391 qf_950_6 ?_
    refine mj_isub dX13_next_199 ?_
    refine mj_bipush (v := 15) dX13_next_200 (by decide) ?_
    refine mj_icmp_ge 231 dX13_next_202 (by decide) (fun z => t_posK hk z (fun hk => ?_)) (fun z => t_negK hk z (fun hk => ?_))
    · refine mj_aload_n dX13_next_231 0 rfl ?_
      refine t_getJ dX13_next_232 F_X13_415 qf_950_8 ?_
      exact B_X13_next_235 _ _ _ (fun y0 hx => Hb176 y0 hx) hk
    · refine mj_ldc2 dX13_next_205 K_X13_419 ?_
      refine mj_aload_n dX13_next_208 0 rfl ?_
      refine t_getJ dX13_next_209 F_X13_415 qf_950_8 ?_
      refine mj_lmul dX13_next_212 ?_
      refine mj_aload_n dX13_next_213 0 rfl ?_
      refine t_getR 951 dX13_next_214 F_X13_7 qr_950_0 ?_
      refine mj_aload_n dX13_next_217 0 rfl ?_
      refine t_getI dX13_next_218 F_X13_378 qf_950_4 ?_
      refine t_chkK hk (fun c3 hk => ?_)
      refine t_iald dX13_next_221 qa_951 (t_ixv c3) ?_
      refine mj_i2l (v := (s.1 951 ((s.1 950 4).toNatClampNeg)).toInt64) dX13_next_222 rfl ?_
      refine mj_ladd dX13_next_223 ?_
      refine mj_ldc2 dX13_next_224 K_X13_421 ?_
      refine mj_lsub dX13_next_227 ?_
      refine mj_goto 235 dX13_next_228 (by decide) ?_
      exact B_X13_next_235 _ _ _ (fun y0 hx => Hb176 y0 hx) hk
noncomputable def b_X13_next_176 (x : t_S) : Option ((t_S) ⊕ (t_S)) := k_X13_next_176 x
set_option maxRecDepth 4000 in
set_option maxHeartbeats 1000000 in
theorem LH_X13_next_176 {D : va_G} {cy : Nat → ClassId} {ad : Nat → Nat} {bs : Nat} {X : State → Heap → Prop} : ∀ (n : Nat) (y0 : t_S) (Q : t_S → Prop) (hk : t_hk (t_loop (b_X13_next_176) n y0) Q), mj_G D cy ad bs X cX13_next 2 yX13_next.cls none yX13_next.name 5 0 0 1065 (t_P (fun v s' => v = none ∧ Q (s'))) 176 [(0, .ref 950)] [] (t_m y0) 1065 0 0 := by
  intro n
  induction n with
  | zero => intro y0 Q hk; obtain ⟨r, hr, _⟩ := hk; cases hr
  | succ n ih =>
    intro y0 Q hk
    exact B_X13_next_176 y0 (fun y => t_lq (b_X13_next_176) n Q y) (fun y0' hy => ih y0' Q hy) (t_lp hk)
noncomputable def k_X13_next_418 (s : t_S) : Option (t_S) :=
 t_let (t_setI s 950 4 ((s.1 950 4) + (1 : Int32))) (fun s1 =>
 k_X13_next_436 s1)
set_option maxRecDepth 4000 in
set_option maxHeartbeats 1000000 in
theorem B_X13_next_418 {D : va_G} {cy : Nat → ClassId} {ad : Nat → Nat} {bs : Nat} {X : State → Heap → Prop} (s : t_S) (Q : t_S → Prop) (hk : t_hk (k_X13_next_418 s) Q) : mj_G D cy ad bs X cX13_next 2 yX13_next.cls none yX13_next.name 5 0 0 1065 (t_P (fun v s' => v = none ∧ Q (s'))) 418 [(0, .ref 950)] [] (t_m s) 1065 0 0 := by
  refine mj_aload_n dX13_next_418 0 rfl ?_
  refine mj_dup dX13_next_419 rfl ?_
  refine t_getI dX13_next_420 F_X13_378 qf_950_4 ?_
  refine mj_iconst (v := 1) dX13_next_423 (by decide) ?_
  refine mj_iadd dX13_next_424 ?_
  refine t_putIK dX13_next_425 F_X13_378 qf_950_4 rfl (fun s1 ws1 => t_letE hk ws1 (fun hk => ?_))
  refine mj_goto 436 dX13_next_428 (by decide) ?_
  exact B_X13_next_436 _ _ hk
noncomputable def k_X13_next_409 (s : t_S) : Option (t_S) :=
 (f_X13_fail (1 : Int32) (s.1 950 6) s).bind (fun r1 =>
 k_X13_next_418 r1)
set_option maxRecDepth 4000 in
set_option maxHeartbeats 1000000 in
theorem B_X13_next_409 {D : va_G} {cy : Nat → ClassId} {ad : Nat → Nat} {bs : Nat} {X : State → Heap → Prop} (s : t_S) (Q : t_S → Prop) (hk : t_hk (k_X13_next_409 s) Q) : mj_G D cy ad bs X cX13_next 2 yX13_next.cls none yX13_next.name 5 0 0 1065 (t_P (fun v s' => v = none ∧ Q (s'))) 409 [(0, .ref 950)] [] (t_m s) 1065 0 0 := by
  refine mj_aload_n dX13_next_409 0 rfl ?_
  refine mj_iconst (v := 1) dX13_next_410 (by decide) ?_
  refine mj_aload_n dX13_next_411 0 rfl ?_
  refine t_getI dX13_next_412 F_X13_391 qf_950_6 ?_
  refine t_bndK hk (fun r1 er1 hk => ?_)
  refine t_callVvE dX13_next_415 M_X13_fail (C_X13_fail _ _ _ _ er1) ML_X13_411 IM_X13_fail SE_X13_fail qc_950 rfl (As := [.int 1, .int (s.1 950 6)]) rfl rfl (Nat.le_of_ble_eq_true rfl) (Nat.le_of_ble_eq_true rfl) (Nat.le_of_ble_eq_true rfl) (Nat.le_of_ble_eq_true rfl) ?_
  exact B_X13_next_418 _ _ hk
noncomputable def k_X13_next_367 (s : t_S) : Option (t_S) :=
 t_let (t_setI s 950 7 (((s.1 950 4) - (s.1 950 6)) - (1 : Int32))) (fun s1 =>
 t_let (t_setI s1 950 5 (3 : Int32)) (fun s2 =>
 if (40 : Int32) < (s2.1 950 7) then (k_X13_next_409 s2)
 else ((f_X13_peek (s2.1 950 4) s2).bind (fun r1 =>
 if r1 = (34 : Int32) then (k_X13_next_418 s2)
 else (k_X13_next_409 s2)))))
set_option maxRecDepth 4000 in
set_option maxHeartbeats 1000000 in
theorem B_X13_next_367 {D : va_G} {cy : Nat → ClassId} {ad : Nat → Nat} {bs : Nat} {X : State → Heap → Prop} (s : t_S) (Q : t_S → Prop) (hk : t_hk (k_X13_next_367 s) Q) : mj_G D cy ad bs X cX13_next 2 yX13_next.cls none yX13_next.name 5 0 0 1065 (t_P (fun v s' => v = none ∧ Q (s'))) 367 [(0, .ref 950)] [] (t_m s) 1065 0 0 := by
  refine mj_aload_n dX13_next_367 0 rfl ?_
  refine mj_aload_n dX13_next_368 0 rfl ?_
  refine t_getI dX13_next_369 F_X13_378 qf_950_4 ?_
  refine mj_aload_n dX13_next_372 0 rfl ?_
  refine t_getI dX13_next_373 F_X13_391 qf_950_6 ?_
  refine mj_isub dX13_next_376 ?_
  refine mj_iconst (v := 1) dX13_next_377 (by decide) ?_
  refine mj_isub dX13_next_378 ?_
  refine t_putIK dX13_next_379 F_X13_394 qf_950_7 rfl (fun s1 ws1 => t_letE hk ws1 (fun hk => ?_))
  refine mj_aload_n dX13_next_382 0 rfl ?_
  refine mj_iconst (v := 3) dX13_next_383 (by decide) ?_
  refine t_putIK dX13_next_384 F_X13_385 qf_950_5 rfl (fun s2 ws2 => t_letE hk ws2 (fun hk => ?_))
  refine mj_aload_n dX13_next_387 0 rfl ?_
  refine t_getI dX13_next_388 F_X13_394 qf_950_7 ?_
  refine mj_bipush (v := 40) dX13_next_391 (by decide) ?_
  refine mj_icmp_gt 409 dX13_next_393 (by decide) (fun z => t_posK hk z (fun hk => ?_)) (fun z => t_negK hk z (fun hk => ?_))
  · exact B_X13_next_409 _ _ hk
  · refine mj_aload_n dX13_next_396 0 rfl ?_
    refine mj_aload_n dX13_next_397 0 rfl ?_
    refine t_getI dX13_next_398 F_X13_378 qf_950_4 ?_
    refine t_bndK hk (fun r1 er1 hk => ?_)
    refine t_callViP dX13_next_401 M_X13_peek (C_X13_peek _ _ _ er1) ML_X13_381 IM_X13_peek SE_X13_peek qc_950 rfl (As := [.int (s2.1 950 4)]) rfl rfl (Nat.le_of_ble_eq_true rfl) (Nat.le_of_ble_eq_true rfl) (Nat.le_of_ble_eq_true rfl) (Nat.le_of_ble_eq_true rfl) ?_
    refine mj_bipush (v := 34) dX13_next_404 (by decide) ?_
    refine mj_icmp_eq 418 dX13_next_406 (by decide) (fun z => t_posK hk z (fun hk => ?_)) (fun z => t_negK hk z (fun hk => ?_))
    · exact B_X13_next_418 _ _ hk
    · exact B_X13_next_409 _ _ hk
noncomputable def k_X13_next_306 (s : t_S) : Option ((t_S) ⊕ (t_S)) :=
 (f_X13_peek (s.1 950 4) s).bind (fun r1 =>
 if (f_X13_in r1.toInt64 (32 : Int64) (126 : Int64) s) = (0 : Int32) then ((k_X13_next_367 s).map Sum.inr)
 else ((f_X13_peek (s.1 950 4) s).bind (fun r3 =>
 if r3 = (34 : Int32) then ((k_X13_next_367 s).map Sum.inr)
 else (if (41 : Int32) < ((s.1 950 4) - (s.1 950 6)) then ((k_X13_next_367 s).map Sum.inr)
 else (t_let (t_setI s 950 4 ((s.1 950 4) + (1 : Int32))) (fun s1 =>
 some (.inl s1)))))))
set_option maxRecDepth 4000 in
set_option maxHeartbeats 1000000 in
theorem B_X13_next_306 {D : va_G} {cy : Nat → ClassId} {ad : Nat → Nat} {bs : Nat} {X : State → Heap → Prop} (s : t_S) (Q : (t_S) ⊕ (t_S) → Prop) (Hb306 : ∀ (y0 : t_S), Q (.inl y0) → mj_G D cy ad bs X cX13_next 2 yX13_next.cls none yX13_next.name 5 0 0 1065 (t_P (fun v s' => v = none ∧ Q (.inr (s')))) 306 [(0, .ref 950)] [] (t_m y0) 1065 0 0) (hk : t_hk (k_X13_next_306 s) Q) : mj_G D cy ad bs X cX13_next 2 yX13_next.cls none yX13_next.name 5 0 0 1065 (t_P (fun v s' => v = none ∧ Q (.inr (s')))) 306 [(0, .ref 950)] [] (t_m s) 1065 0 0 := by
  refine mj_aload_n dX13_next_306 0 rfl ?_
  refine mj_aload_n dX13_next_307 0 rfl ?_
  refine t_getI dX13_next_308 F_X13_378 qf_950_4 ?_
  refine t_bndK hk (fun r1 er1 hk => ?_)
  refine t_callViP dX13_next_311 M_X13_peek (C_X13_peek _ _ _ er1) ML_X13_381 IM_X13_peek SE_X13_peek qc_950 rfl (As := [.int (s.1 950 4)]) rfl rfl (Nat.le_of_ble_eq_true rfl) (Nat.le_of_ble_eq_true rfl) (Nat.le_of_ble_eq_true rfl) (Nat.le_of_ble_eq_true rfl) ?_
  refine mj_i2l (v := r1.toInt64) dX13_next_314 rfl ?_
  refine mj_ldc2 dX13_next_315 K_X13_423 ?_
  refine mj_ldc2 dX13_next_318 K_X13_425 ?_
  refine t_callSiP dX13_next_321 M_X13_in (C_X13_in _ _ _ _) ML_X13_371 SM_X13_in (As := [.long r1.toInt64, .long 32, .long 126]) rfl rfl (Nat.le_of_ble_eq_true rfl) (Nat.le_of_ble_eq_true rfl) (Nat.le_of_ble_eq_true rfl) (Nat.le_of_ble_eq_true rfl) ?_
  refine mj_if_eq 367 dX13_next_324 (by decide) (fun z => t_posK hk z (fun hk => ?_)) (fun z => t_negK hk z (fun hk => ?_))
  · refine t_mapK hk (fun hk => ?_)
    exact B_X13_next_367 _ _ hk
  · refine mj_aload_n dX13_next_327 0 rfl ?_
    refine mj_aload_n dX13_next_328 0 rfl ?_
    refine t_getI dX13_next_329 F_X13_378 qf_950_4 ?_
    refine t_bndK hk (fun r3 er3 hk => ?_)
    refine t_callViP dX13_next_332 M_X13_peek (C_X13_peek _ _ _ er3) ML_X13_381 IM_X13_peek SE_X13_peek qc_950 rfl (As := [.int (s.1 950 4)]) rfl rfl (Nat.le_of_ble_eq_true rfl) (Nat.le_of_ble_eq_true rfl) (Nat.le_of_ble_eq_true rfl) (Nat.le_of_ble_eq_true rfl) ?_
    refine mj_bipush (v := 34) dX13_next_335 (by decide) ?_
    refine mj_icmp_eq 367 dX13_next_337 (by decide) (fun z => t_posK hk z (fun hk => ?_)) (fun z => t_negK hk z (fun hk => ?_))
    · refine t_mapK hk (fun hk => ?_)
      exact B_X13_next_367 _ _ hk
    · refine mj_aload_n dX13_next_340 0 rfl ?_
      refine t_getI dX13_next_341 F_X13_378 qf_950_4 ?_
      refine mj_aload_n dX13_next_344 0 rfl ?_
      refine t_getI dX13_next_345 F_X13_391 qf_950_6 ?_
      refine mj_isub dX13_next_348 ?_
      refine mj_bipush (v := 41) dX13_next_349 (by decide) ?_
      refine mj_icmp_gt 367 dX13_next_351 (by decide) (fun z => t_posK hk z (fun hk => ?_)) (fun z => t_negK hk z (fun hk => ?_))
      · refine t_mapK hk (fun hk => ?_)
        exact B_X13_next_367 _ _ hk
      · refine mj_aload_n dX13_next_354 0 rfl ?_
        refine mj_dup dX13_next_355 rfl ?_
        refine t_getI dX13_next_356 F_X13_378 qf_950_4 ?_
        refine mj_iconst (v := 1) dX13_next_359 (by decide) ?_
        refine mj_iadd dX13_next_360 ?_
        refine t_putIK dX13_next_361 F_X13_378 qf_950_4 rfl (fun s1 ws1 => t_letE hk ws1 (fun hk => ?_))
        refine mj_goto 306 dX13_next_364 (by decide) ?_
        exact t_somK hk (fun hf => Hb306 s1 hf)
noncomputable def b_X13_next_306 (x : t_S) : Option ((t_S) ⊕ (t_S)) := k_X13_next_306 x
set_option maxRecDepth 4000 in
set_option maxHeartbeats 1000000 in
theorem LH_X13_next_306 {D : va_G} {cy : Nat → ClassId} {ad : Nat → Nat} {bs : Nat} {X : State → Heap → Prop} : ∀ (n : Nat) (y0 : t_S) (Q : t_S → Prop) (hk : t_hk (t_loop (b_X13_next_306) n y0) Q), mj_G D cy ad bs X cX13_next 2 yX13_next.cls none yX13_next.name 5 0 0 1065 (t_P (fun v s' => v = none ∧ Q (s'))) 306 [(0, .ref 950)] [] (t_m y0) 1065 0 0 := by
  intro n
  induction n with
  | zero => intro y0 Q hk; obtain ⟨r, hr, _⟩ := hk; cases hr
  | succ n ih =>
    intro y0 Q hk
    exact B_X13_next_306 y0 (fun y => t_lq (b_X13_next_306) n Q y) (fun y0' hy => ih y0' Q hy) (t_lp hk)
noncomputable def k_X13_next_104 (s : t_S) : Option ((t_S) ⊕ (t_S)) :=
 t_let (t_setI s 950 4 ((s.1 950 4) + (1 : Int32))) (fun s1 =>
 some (.inl s1))
set_option maxRecDepth 4000 in
set_option maxHeartbeats 1000000 in
theorem B_X13_next_104 {D : va_G} {cy : Nat → ClassId} {ad : Nat → Nat} {bs : Nat} {X : State → Heap → Prop} (s : t_S) (Q : (t_S) ⊕ (t_S) → Prop) (Hb63 : ∀ (y0 : t_S), Q (.inl y0) → mj_G D cy ad bs X cX13_next 2 yX13_next.cls none yX13_next.name 5 0 0 1065 (t_P (fun v s' => v = none ∧ Q (.inr (s')))) 63 [(0, .ref 950)] [] (t_m y0) 1065 0 0) (hk : t_hk (k_X13_next_104 s) Q) : mj_G D cy ad bs X cX13_next 2 yX13_next.cls none yX13_next.name 5 0 0 1065 (t_P (fun v s' => v = none ∧ Q (.inr (s')))) 104 [(0, .ref 950)] [] (t_m s) 1065 0 0 := by
  refine mj_aload_n dX13_next_104 0 rfl ?_
  refine mj_dup dX13_next_105 rfl ?_
  refine t_getI dX13_next_106 F_X13_378 qf_950_4 ?_
  refine mj_iconst (v := 1) dX13_next_109 (by decide) ?_
  refine mj_iadd dX13_next_110 ?_
  refine t_putIK dX13_next_111 F_X13_378 qf_950_4 rfl (fun s1 ws1 => t_letE hk ws1 (fun hk => ?_))
  refine mj_goto 63 dX13_next_114 (by decide) ?_
  exact t_somK hk (fun hf => Hb63 s1 hf)
noncomputable def k_X13_next_63 (s : t_S) : Option ((t_S) ⊕ (t_S)) :=
 (f_X13_peek (s.1 950 4) s).bind (fun r1 =>
 if (f_X13_isLetter r1 s) = (0 : Int32) then ((f_X13_peek (s.1 950 4) s).bind (fun r3 =>
 if (f_X13_isFigure r3 s) = (0 : Int32) then ((f_X13_peek (s.1 950 4) s).bind (fun r5 =>
 if r5 = (95 : Int32) then (k_X13_next_104 s)
 else ((t_let (t_setI s 950 7 ((s.1 950 4) - (s.1 950 6))) (fun s1 =>
 t_let (t_setI s1 950 5 (1 : Int32)) (fun s2 =>
 (f_X13_reserved s2).bind (fun r6 =>
 t_let (t_setI s2 950 10 r6) (fun s3 =>
 if (s3.1 950 7) ≤ (12 : Int32) then (k_X13_next_436 s3)
 else ((f_X13_fail (1 : Int32) (s3.1 950 6) s3).bind (fun r7 =>
 k_X13_next_436 r7))))))).map Sum.inr)))
 else (k_X13_next_104 s)))
 else (k_X13_next_104 s))
set_option maxRecDepth 4000 in
set_option maxHeartbeats 1000000 in
theorem B_X13_next_63 {D : va_G} {cy : Nat → ClassId} {ad : Nat → Nat} {bs : Nat} {X : State → Heap → Prop} (s : t_S) (Q : (t_S) ⊕ (t_S) → Prop) (Hb63 : ∀ (y0 : t_S), Q (.inl y0) → mj_G D cy ad bs X cX13_next 2 yX13_next.cls none yX13_next.name 5 0 0 1065 (t_P (fun v s' => v = none ∧ Q (.inr (s')))) 63 [(0, .ref 950)] [] (t_m y0) 1065 0 0) (hk : t_hk (k_X13_next_63 s) Q) : mj_G D cy ad bs X cX13_next 2 yX13_next.cls none yX13_next.name 5 0 0 1065 (t_P (fun v s' => v = none ∧ Q (.inr (s')))) 63 [(0, .ref 950)] [] (t_m s) 1065 0 0 := by
  refine mj_aload_n dX13_next_63 0 rfl ?_
  refine mj_aload_n dX13_next_64 0 rfl ?_
  refine t_getI dX13_next_65 F_X13_378 qf_950_4 ?_
  refine t_bndK hk (fun r1 er1 hk => ?_)
  refine t_callViP dX13_next_68 M_X13_peek (C_X13_peek _ _ _ er1) ML_X13_381 IM_X13_peek SE_X13_peek qc_950 rfl (As := [.int (s.1 950 4)]) rfl rfl (Nat.le_of_ble_eq_true rfl) (Nat.le_of_ble_eq_true rfl) (Nat.le_of_ble_eq_true rfl) (Nat.le_of_ble_eq_true rfl) ?_
  refine t_callSiP dX13_next_71 M_X13_isLetter (C_X13_isLetter _ _) ML_X13_400 SM_X13_isLetter (As := [.int r1]) rfl rfl (Nat.le_of_ble_eq_true rfl) (Nat.le_of_ble_eq_true rfl) (Nat.le_of_ble_eq_true rfl) (Nat.le_of_ble_eq_true rfl) ?_
  refine mj_if_ne 104 dX13_next_74 (by decide) (fun z => t_negK hk z (fun hk => ?_)) (fun z => t_posK hk z (fun hk => ?_))
  · exact B_X13_next_104 _ _ (fun y0 hx => Hb63 y0 hx) hk
  · refine mj_aload_n dX13_next_77 0 rfl ?_
    refine mj_aload_n dX13_next_78 0 rfl ?_
    refine t_getI dX13_next_79 F_X13_378 qf_950_4 ?_
    refine t_bndK hk (fun r3 er3 hk => ?_)
    refine t_callViP dX13_next_82 M_X13_peek (C_X13_peek _ _ _ er3) ML_X13_381 IM_X13_peek SE_X13_peek qc_950 rfl (As := [.int (s.1 950 4)]) rfl rfl (Nat.le_of_ble_eq_true rfl) (Nat.le_of_ble_eq_true rfl) (Nat.le_of_ble_eq_true rfl) (Nat.le_of_ble_eq_true rfl) ?_
    refine t_callSiP dX13_next_85 M_X13_isFigure (C_X13_isFigure _ _) ML_X13_404 SM_X13_isFigure (As := [.int r3]) rfl rfl (Nat.le_of_ble_eq_true rfl) (Nat.le_of_ble_eq_true rfl) (Nat.le_of_ble_eq_true rfl) (Nat.le_of_ble_eq_true rfl) ?_
    refine mj_if_ne 104 dX13_next_88 (by decide) (fun z => t_negK hk z (fun hk => ?_)) (fun z => t_posK hk z (fun hk => ?_))
    · exact B_X13_next_104 _ _ (fun y0 hx => Hb63 y0 hx) hk
    · refine mj_aload_n dX13_next_91 0 rfl ?_
      refine mj_aload_n dX13_next_92 0 rfl ?_
      refine t_getI dX13_next_93 F_X13_378 qf_950_4 ?_
      refine t_bndK hk (fun r5 er5 hk => ?_)
      refine t_callViP dX13_next_96 M_X13_peek (C_X13_peek _ _ _ er5) ML_X13_381 IM_X13_peek SE_X13_peek qc_950 rfl (As := [.int (s.1 950 4)]) rfl rfl (Nat.le_of_ble_eq_true rfl) (Nat.le_of_ble_eq_true rfl) (Nat.le_of_ble_eq_true rfl) (Nat.le_of_ble_eq_true rfl) ?_
      refine mj_bipush (v := 95) dX13_next_99 (by decide) ?_
      refine mj_icmp_ne 117 dX13_next_101 (by decide) (fun z => t_negK hk z (fun hk => ?_)) (fun z => t_posK hk z (fun hk => ?_))
      · refine t_mapK hk (fun hk => ?_)
        refine mj_aload_n dX13_next_117 0 rfl ?_
        refine mj_aload_n dX13_next_118 0 rfl ?_
        refine t_getI dX13_next_119 F_X13_378 qf_950_4 ?_
        refine mj_aload_n dX13_next_122 0 rfl ?_
        refine t_getI dX13_next_123 F_X13_391 qf_950_6 ?_
        refine mj_isub dX13_next_126 ?_
        refine t_putIK dX13_next_127 F_X13_394 qf_950_7 rfl (fun s1 ws1 => t_letE hk ws1 (fun hk => ?_))
        refine mj_aload_n dX13_next_130 0 rfl ?_
        refine mj_iconst (v := 1) dX13_next_131 (by decide) ?_
        refine t_putIK dX13_next_132 F_X13_385 qf_950_5 rfl (fun s2 ws2 => t_letE hk ws2 (fun hk => ?_))
        refine mj_aload_n dX13_next_135 0 rfl ?_
        refine mj_aload_n dX13_next_136 0 rfl ?_
        refine t_bndK hk (fun r6 er6 hk => ?_)
        refine t_callViP dX13_next_137 M_X13_reserved (C_X13_reserved _ _ er6) ML_X13_407 IM_X13_reserved SE_X13_reserved qc_950 rfl (As := []) rfl rfl (Nat.le_of_ble_eq_true rfl) (Nat.le_of_ble_eq_true rfl) (Nat.le_of_ble_eq_true rfl) (Nat.le_of_ble_eq_true rfl) ?_
        refine t_putIK dX13_next_140 F_X13_397 qf_950_10 rfl (fun s3 ws3 => t_letE hk ws3 (fun hk => ?_))
        refine mj_aload_n dX13_next_143 0 rfl ?_
        refine t_getI dX13_next_144 F_X13_394 qf_950_7 ?_
        refine mj_bipush (v := 12) dX13_next_147 (by decide) ?_
        refine mj_icmp_le 436 dX13_next_149 (by decide) (fun z => t_posK hk z (fun hk => ?_)) (fun z => t_negK hk z (fun hk => ?_))
        · exact B_X13_next_436 _ _ hk
        · refine mj_aload_n dX13_next_152 0 rfl ?_
          refine mj_iconst (v := 1) dX13_next_153 (by decide) ?_
          refine mj_aload_n dX13_next_154 0 rfl ?_
          refine t_getI dX13_next_155 F_X13_391 qf_950_6 ?_
          refine t_bndK hk (fun r7 er7 hk => ?_)
          refine t_callVvE dX13_next_158 M_X13_fail (C_X13_fail _ _ _ _ er7) ML_X13_411 IM_X13_fail SE_X13_fail qc_950 rfl (As := [.int 1, .int (s3.1 950 6)]) rfl rfl (Nat.le_of_ble_eq_true rfl) (Nat.le_of_ble_eq_true rfl) (Nat.le_of_ble_eq_true rfl) (Nat.le_of_ble_eq_true rfl) ?_
          refine mj_goto 436 dX13_next_161 (by decide) ?_
          exact B_X13_next_436 _ _ hk
      · exact B_X13_next_104 _ _ (fun y0 hx => Hb63 y0 hx) hk
noncomputable def b_X13_next_63 (x : t_S) : Option ((t_S) ⊕ (t_S)) := k_X13_next_63 x
set_option maxRecDepth 4000 in
set_option maxHeartbeats 1000000 in
theorem LH_X13_next_63 {D : va_G} {cy : Nat → ClassId} {ad : Nat → Nat} {bs : Nat} {X : State → Heap → Prop} : ∀ (n : Nat) (y0 : t_S) (Q : t_S → Prop) (hk : t_hk (t_loop (b_X13_next_63) n y0) Q), mj_G D cy ad bs X cX13_next 2 yX13_next.cls none yX13_next.name 5 0 0 1065 (t_P (fun v s' => v = none ∧ Q (s'))) 63 [(0, .ref 950)] [] (t_m y0) 1065 0 0 := by
  intro n
  induction n with
  | zero => intro y0 Q hk; obtain ⟨r, hr, _⟩ := hk; cases hr
  | succ n ih =>
    intro y0 Q hk
    exact B_X13_next_63 y0 (fun y => t_lq (b_X13_next_63) n Q y) (fun y0' hy => ih y0' Q hy) (t_lp hk)
noncomputable def f_X13_next (s : t_S) : Option (t_S) :=
 if (s.1 950 2) = (0 : Int32) then ((f_X13_skip s).bind (fun r1 =>
 t_let (t_setI r1 950 6 (r1.1 950 4)) (fun s1 =>
 t_let (t_setI s1 950 7 (0 : Int32)) (fun s2 =>
 t_let (t_setI s2 950 10 (-1 : Int32)) (fun s3 =>
 (f_X13_peek (s3.1 950 4) s3).bind (fun r2 =>
 if (0 : Int32) ≤ r2 then (if (f_X13_isLetter r2 s3) = (0 : Int32) then (if (f_X13_isFigure r2 s3) = (0 : Int32) then (if r2 = (34 : Int32) then (t_let (t_setI s3 950 4 ((s3.1 950 4) + (1 : Int32))) (fun s4 =>
 t_loop (b_X13_next_306) t_N s4))
 else ((f_X13_readSign r2 s3).bind (fun r5 =>
 k_X13_next_436 r5)))
 else (t_let (t_setJ s3 950 8 (0 : Int64)) (fun s5 =>
 t_loop (b_X13_next_176) t_N s5)))
 else (t_loop (b_X13_next_63) t_N s3))
 else (t_let (t_setI s3 950 5 (0 : Int32)) (fun s6 =>
 k_X13_next_436 s6))))))))
 else (t_let (t_setI s 950 5 (0 : Int32)) (fun s7 =>
 some (s7)))
set_option maxRecDepth 4000 in
set_option maxHeartbeats 1000000 in
theorem C_X13_next (s : t_S) (r : t_S) (hr : f_X13_next s = some r) : t_C yX13_next cX13_next 2 none 5 [.ref 950] s (fun v s' => v = none ∧ s' = r) := by
  refine t_C.imp (P := fun v s' => v = none ∧ (fun q => q = r) (s')) (t_C.of (by decide +kernel) (Nat.le_of_ble_eq_true rfl) ?_) (fun v s' hp => hp)
  intro D cy ad bs X
  have hk : t_hk (f_X13_next s) (fun q => q = r) := ⟨r, hr, rfl⟩
  show mj_G D cy ad bs X cX13_next 2 yX13_next.cls none yX13_next.name 5 0 0 1065 (t_P (fun v s' => v = none ∧ (fun q => q = r) (s'))) 0 [(0, .ref 950)] [] (t_m s) 1065 0 0
  refine mj_aload_n dX13_next_0 0 rfl ?_
  refine t_getI dX13_next_1 F_X13_375 qf_950_2 ?_
  refine mj_if_eq 13 dX13_next_4 (by decide) (fun z => t_posK hk z (fun hk => ?_)) (fun z => t_negK hk z (fun hk => ?_))
  · refine mj_aload_n dX13_next_13 0 rfl ?_
    refine t_bndK hk (fun r1 er1 hk => ?_)
    refine t_callVvE dX13_next_14 M_X13_skip (C_X13_skip _ _ er1) ML_X13_388 IM_X13_skip SE_X13_skip qc_950 rfl (As := []) rfl rfl (Nat.le_of_ble_eq_true rfl) (Nat.le_of_ble_eq_true rfl) (Nat.le_of_ble_eq_true rfl) (Nat.le_of_ble_eq_true rfl) ?_
    refine mj_aload_n dX13_next_17 0 rfl ?_
    refine mj_aload_n dX13_next_18 0 rfl ?_
    refine t_getI dX13_next_19 F_X13_378 qf_950_4 ?_
    refine t_putIK dX13_next_22 F_X13_391 qf_950_6 rfl (fun s1 ws1 => t_letE hk ws1 (fun hk => ?_))
    refine mj_aload_n dX13_next_25 0 rfl ?_
    refine mj_iconst (v := 0) dX13_next_26 (by decide) ?_
    refine t_putIK dX13_next_27 F_X13_394 qf_950_7 rfl (fun s2 ws2 => t_letE hk ws2 (fun hk => ?_))
    refine mj_aload_n dX13_next_30 0 rfl ?_
    refine mj_iconst (v := (-1)) dX13_next_31 (by decide) ?_
    refine t_putIK dX13_next_32 F_X13_397 qf_950_10 rfl (fun s3 ws3 => t_letE hk ws3 (fun hk => ?_))
    refine mj_aload_n dX13_next_35 0 rfl ?_
    refine mj_aload_n dX13_next_36 0 rfl ?_
    refine t_getI dX13_next_37 F_X13_378 qf_950_4 ?_
    refine t_bndK hk (fun r2 er2 hk => ?_)
    refine t_callViP dX13_next_40 M_X13_peek (C_X13_peek _ _ _ er2) ML_X13_381 IM_X13_peek SE_X13_peek qc_950 rfl (As := [.int (s3.1 950 4)]) rfl rfl (Nat.le_of_ble_eq_true rfl) (Nat.le_of_ble_eq_true rfl) (Nat.le_of_ble_eq_true rfl) (Nat.le_of_ble_eq_true rfl) ?_
    refine mj_istore_n 1 (lv2 := [(1, .int r2), (0, .ref 950)]) dX13_next_43 rfl (by decide) rfl ?_
    refine mj_iload_n dX13_next_44 0 rfl ?_
    refine mj_if_ge 56 dX13_next_45 (by decide) (fun z => t_posK hk z (fun hk => ?_)) (fun z => t_negK hk z (fun hk => ?_))
    · refine mj_iload_n dX13_next_56 0 rfl ?_
      refine t_callSiP dX13_next_57 M_X13_isLetter (C_X13_isLetter _ _) ML_X13_400 SM_X13_isLetter (As := [.int r2]) rfl rfl (Nat.le_of_ble_eq_true rfl) (Nat.le_of_ble_eq_true rfl) (Nat.le_of_ble_eq_true rfl) (Nat.le_of_ble_eq_true rfl) ?_
      refine mj_if_eq 164 dX13_next_60 (by decide) (fun z => t_posK hk z (fun hk => ?_)) (fun z => t_negK hk z (fun hk => ?_))
      · refine mj_iload_n dX13_next_164 0 rfl ?_
        refine t_callSiP dX13_next_165 M_X13_isFigure (C_X13_isFigure _ _) ML_X13_404 SM_X13_isFigure (As := [.int r2]) rfl rfl (Nat.le_of_ble_eq_true rfl) (Nat.le_of_ble_eq_true rfl) (Nat.le_of_ble_eq_true rfl) (Nat.le_of_ble_eq_true rfl) ?_
        refine mj_if_eq 290 dX13_next_168 (by decide) (fun z => t_posK hk z (fun hk => ?_)) (fun z => t_negK hk z (fun hk => ?_))
        · refine mj_iload_n dX13_next_290 0 rfl ?_
          refine mj_bipush (v := 34) dX13_next_291 (by decide) ?_
          refine mj_icmp_ne 431 dX13_next_293 (by decide) (fun z => t_negK hk z (fun hk => ?_)) (fun z => t_posK hk z (fun hk => ?_))
          · refine mj_aload_n dX13_next_431 1 rfl ?_
            refine mj_iload_n dX13_next_432 0 rfl ?_
            refine t_bndK hk (fun r5 er5 hk => ?_)
            refine t_callVvE dX13_next_433 M_X13_readSign (C_X13_readSign _ _ _ er5) ML_X13_427 IM_X13_readSign SE_X13_readSign qc_950 rfl (As := [.int r2]) rfl rfl (Nat.le_of_ble_eq_true rfl) (Nat.le_of_ble_eq_true rfl) (Nat.le_of_ble_eq_true rfl) (Nat.le_of_ble_eq_true rfl) ?_
            refine mj_sublv [(0, .ref 950)] [1] rfl ?_
            exact B_X13_next_436 _ _ hk
          · refine mj_aload_n dX13_next_296 1 rfl ?_
            refine mj_dup dX13_next_297 rfl ?_
            refine t_getI dX13_next_298 F_X13_378 qf_950_4 ?_
            refine mj_iconst (v := 1) dX13_next_301 (by decide) ?_
            refine mj_iadd dX13_next_302 ?_
            refine t_putIK dX13_next_303 F_X13_378 qf_950_4 rfl (fun s4 ws4 => t_letE hk ws4 (fun hk => ?_))
            refine mj_sublv [(0, .ref 950)] [1] rfl ?_
            exact LH_X13_next_306 _ s4 _ hk
        · refine mj_aload_n dX13_next_171 1 rfl ?_
          refine mj_lconst (v := 0) dX13_next_172 (by decide) ?_
          refine t_putJK dX13_next_173 F_X13_415 qf_950_8 rfl (fun s5 ws5 => t_letE hk ws5 (fun hk => ?_))
          refine mj_sublv [(0, .ref 950)] [1] rfl ?_
          exact LH_X13_next_176 _ s5 _ hk
      · refine mj_sublv [(0, .ref 950)] [1] rfl ?_
        exact LH_X13_next_63 _ s3 _ hk
    · refine mj_aload_n dX13_next_48 1 rfl ?_
      refine mj_iconst (v := 0) dX13_next_49 (by decide) ?_
      refine t_putIK dX13_next_50 F_X13_385 qf_950_5 rfl (fun s6 ws6 => t_letE hk ws6 (fun hk => ?_))
      refine mj_goto 436 dX13_next_53 (by decide) ?_
      refine mj_sublv [(0, .ref 950)] [1] rfl ?_
      exact B_X13_next_436 _ _ hk
  · refine mj_aload_n dX13_next_7 0 rfl ?_
    refine mj_iconst (v := 0) dX13_next_8 (by decide) ?_
    refine t_putIK dX13_next_9 F_X13_385 qf_950_5 rfl (fun s7 ws7 => t_letE hk ws7 (fun hk => ?_))
    exact t_somK hk (fun hf => t_vret dX13_next_12 rfl ⟨rfl, hf⟩ (Nat.le_of_ble_eq_true rfl) (Nat.le_of_ble_eq_true rfl))

theorem dX13_addLocal_0 : decode cX13_addLocal 0 = .ok (.aload_n 0, 1) := by decide +kernel
theorem dX13_addLocal_1 : decode cX13_addLocal 1 = .ok (.invokevirtual 535, 3) := by decide +kernel
theorem dX13_addLocal_12 : decode cX13_addLocal 12 = .ok (.aload_n 0, 1) := by decide +kernel
theorem dX13_addLocal_13 : decode cX13_addLocal 13 = .ok (.iload_n 1, 1) := by decide +kernel
theorem dX13_addLocal_14 : decode cX13_addLocal 14 = .ok (.iload_n 2, 1) := by decide +kernel
theorem dX13_addLocal_15 : decode cX13_addLocal 15 = .ok (.invokevirtual 727, 3) := by decide +kernel
theorem dX13_addLocal_18 : decode cX13_addLocal 18 = .ok (.ifCond .eq 12, 3) := by decide +kernel
theorem dX13_addLocal_21 : decode cX13_addLocal 21 = .ok (.aload_n 0, 1) := by decide +kernel
theorem dX13_addLocal_22 : decode cX13_addLocal 22 = .ok (.iconst 3, 1) := by decide +kernel
theorem dX13_addLocal_23 : decode cX13_addLocal 23 = .ok (.aload_n 0, 1) := by decide +kernel
theorem dX13_addLocal_24 : decode cX13_addLocal 24 = .ok (.getfield 391, 3) := by decide +kernel
theorem dX13_addLocal_27 : decode cX13_addLocal 27 = .ok (.invokevirtual 411, 3) := by decide +kernel
theorem dX13_addLocal_30 : decode cX13_addLocal 30 = .ok (.aload_n 0, 1) := by decide +kernel
theorem dX13_addLocal_31 : decode cX13_addLocal 31 = .ok (.getfield 120, 3) := by decide +kernel
theorem dX13_addLocal_34 : decode cX13_addLocal 34 = .ok (.iload_n 1, 1) := by decide +kernel
theorem dX13_addLocal_35 : decode cX13_addLocal 35 = .ok (.iaload, 1) := by decide +kernel
theorem dX13_addLocal_36 : decode cX13_addLocal 36 = .ok (.bipush 8, 2) := by decide +kernel
theorem dX13_addLocal_38 : decode cX13_addLocal 38 = .ok (.if_icmp .ne 12, 3) := by decide +kernel
theorem dX13_addLocal_4 : decode cX13_addLocal 4 = .ok (.istore_n 2, 1) := by decide +kernel
theorem dX13_addLocal_41 : decode cX13_addLocal 41 = .ok (.aload_n 0, 1) := by decide +kernel
theorem dX13_addLocal_42 : decode cX13_addLocal 42 = .ok (.iconst 5, 1) := by decide +kernel
theorem dX13_addLocal_43 : decode cX13_addLocal 43 = .ok (.aload_n 0, 1) := by decide +kernel
theorem dX13_addLocal_44 : decode cX13_addLocal 44 = .ok (.getfield 391, 3) := by decide +kernel
theorem dX13_addLocal_47 : decode cX13_addLocal 47 = .ok (.invokevirtual 411, 3) := by decide +kernel
theorem dX13_addLocal_5 : decode cX13_addLocal 5 = .ok (.aload_n 0, 1) := by decide +kernel
theorem dX13_addLocal_50 : decode cX13_addLocal 50 = .ok (.aload_n 0, 1) := by decide +kernel
theorem dX13_addLocal_51 : decode cX13_addLocal 51 = .ok (.getfield 375, 3) := by decide +kernel
theorem dX13_addLocal_54 : decode cX13_addLocal 54 = .ok (.ifCond .ne 30, 3) := by decide +kernel
theorem dX13_addLocal_57 : decode cX13_addLocal 57 = .ok (.aload_n 0, 1) := by decide +kernel
theorem dX13_addLocal_58 : decode cX13_addLocal 58 = .ok (.getfield 114, 3) := by decide +kernel
theorem dX13_addLocal_6 : decode cX13_addLocal 6 = .ok (.getfield 375, 3) := by decide +kernel
theorem dX13_addLocal_61 : decode cX13_addLocal 61 = .ok (.bipush 8, 2) := by decide +kernel
theorem dX13_addLocal_63 : decode cX13_addLocal 63 = .ok (.iload_n 1, 1) := by decide +kernel
theorem dX13_addLocal_64 : decode cX13_addLocal 64 = .ok (.imul, 1) := by decide +kernel
theorem dX13_addLocal_65 : decode cX13_addLocal 65 = .ok (.aload_n 0, 1) := by decide +kernel
theorem dX13_addLocal_66 : decode cX13_addLocal 66 = .ok (.getfield 120, 3) := by decide +kernel
theorem dX13_addLocal_69 : decode cX13_addLocal 69 = .ok (.iload_n 1, 1) := by decide +kernel
theorem dX13_addLocal_70 : decode cX13_addLocal 70 = .ok (.iaload, 1) := by decide +kernel
theorem dX13_addLocal_71 : decode cX13_addLocal 71 = .ok (.iadd, 1) := by decide +kernel
theorem dX13_addLocal_72 : decode cX13_addLocal 72 = .ok (.iload_n 2, 1) := by decide +kernel
theorem dX13_addLocal_73 : decode cX13_addLocal 73 = .ok (.iastore, 1) := by decide +kernel
theorem dX13_addLocal_74 : decode cX13_addLocal 74 = .ok (.aload_n 0, 1) := by decide +kernel
theorem dX13_addLocal_75 : decode cX13_addLocal 75 = .ok (.getfield 120, 3) := by decide +kernel
theorem dX13_addLocal_78 : decode cX13_addLocal 78 = .ok (.iload_n 1, 1) := by decide +kernel
theorem dX13_addLocal_79 : decode cX13_addLocal 79 = .ok (.dup2, 1) := by decide +kernel
theorem dX13_addLocal_80 : decode cX13_addLocal 80 = .ok (.iaload, 1) := by decide +kernel
theorem dX13_addLocal_81 : decode cX13_addLocal 81 = .ok (.iconst 1, 1) := by decide +kernel
theorem dX13_addLocal_82 : decode cX13_addLocal 82 = .ok (.iadd, 1) := by decide +kernel
theorem dX13_addLocal_83 : decode cX13_addLocal 83 = .ok (.iastore, 1) := by decide +kernel
theorem dX13_addLocal_84 : decode cX13_addLocal 84 = .ok (.aload_n 0, 1) := by decide +kernel
theorem dX13_addLocal_85 : decode cX13_addLocal 85 = .ok (.invokevirtual 452, 3) := by decide +kernel
theorem dX13_addLocal_88 : decode cX13_addLocal 88 = .ok (.return_, 1) := by decide +kernel
theorem dX13_addLocal_9 : decode cX13_addLocal 9 = .ok (.ifCond .ne 21, 3) := by decide +kernel
noncomputable def k_X13_addLocal_84 (s : t_S) : Option (t_S) :=
 (f_X13_next s).bind (fun r1 =>
 some (r1))
set_option maxRecDepth 4000 in
set_option maxHeartbeats 1000000 in
theorem B_X13_addLocal_84 {D : va_G} {cy : Nat → ClassId} {ad : Nat → Nat} {bs : Nat} {X : State → Heap → Prop} (s : t_S) (Q : t_S → Prop) (hk : t_hk (k_X13_addLocal_84 s) Q) : mj_G D cy ad bs X cX13_addLocal 3 yX13_addLocal.cls none yX13_addLocal.name 6 0 0 1065 (t_P (fun v s' => v = none ∧ Q (s'))) 84 [(0, .ref 950)] [] (t_m s) 1065 0 0 := by
  refine mj_aload_n dX13_addLocal_84 0 rfl ?_
  refine t_bndK hk (fun r1 er1 hk => ?_)
  refine t_callVvE dX13_addLocal_85 M_X13_next (C_X13_next _ _ er1) ML_X13_452 IM_X13_next SE_X13_next qc_950 rfl (As := []) rfl rfl (Nat.le_of_ble_eq_true rfl) (Nat.le_of_ble_eq_true rfl) (Nat.le_of_ble_eq_true rfl) (Nat.le_of_ble_eq_true rfl) ?_
  exact t_somK hk (fun hf => t_vret dX13_addLocal_88 rfl ⟨rfl, hf⟩ (Nat.le_of_ble_eq_true rfl) (Nat.le_of_ble_eq_true rfl))
noncomputable def k_X13_addLocal_50 (l1 : Int32) (l2 : Int32) (s : t_S) : Option (t_S) :=
 if (s.1 950 2) = (0 : Int32) then (if t_ix l1 40 = true then
  if t_ix (((8 : Int32) * l1) + (s.1 986 (l1.toNatClampNeg))) 320 = true then
  t_let (t_setI s 984 ((((8 : Int32) * l1) + (s.1 986 (l1.toNatClampNeg))).toNatClampNeg) l2) (fun s1 =>
 t_let (t_setI s1 986 (l1.toNatClampNeg) ((s1.1 986 (l1.toNatClampNeg)) + (1 : Int32))) (fun s2 =>
 k_X13_addLocal_84 s2))
else none
else none)
 else (k_X13_addLocal_84 s)
set_option maxRecDepth 4000 in
set_option maxHeartbeats 1000000 in
theorem B_X13_addLocal_50 {D : va_G} {cy : Nat → ClassId} {ad : Nat → Nat} {bs : Nat} {X : State → Heap → Prop} (l1 : Int32) (l2 : Int32) (s : t_S) (Q : t_S → Prop) (hk : t_hk (k_X13_addLocal_50 l1 l2 s) Q) : mj_G D cy ad bs X cX13_addLocal 3 yX13_addLocal.cls none yX13_addLocal.name 6 0 0 1065 (t_P (fun v s' => v = none ∧ Q (s'))) 50 [(0, .ref 950), (1, .int l1), (2, .int l2)] [] (t_m s) 1065 0 0 := by
  refine mj_aload_n dX13_addLocal_50 0 rfl ?_
  refine t_getI dX13_addLocal_51 F_X13_375 qf_950_2 ?_
  refine mj_if_ne 84 dX13_addLocal_54 (by decide) (fun z => t_negK hk z (fun hk => ?_)) (fun z => t_posK hk z (fun hk => ?_))
  · refine mj_sublv [(0, .ref 950)] [0] rfl ?_
    exact B_X13_addLocal_84 _ _ hk
  · refine mj_aload_n dX13_addLocal_57 0 rfl ?_
    refine t_getR 984 dX13_addLocal_58 F_X13_114 qr_950_60 ?_
    refine mj_bipush (v := 8) dX13_addLocal_61 (by decide) ?_
    refine mj_iload_n dX13_addLocal_63 1 rfl ?_
    refine mj_imul dX13_addLocal_64 ?_
    refine mj_aload_n dX13_addLocal_65 0 rfl ?_
    refine t_getR 986 dX13_addLocal_66 F_X13_120 qr_950_62 ?_
    refine mj_iload_n dX13_addLocal_69 1 rfl ?_
    refine t_chkK hk (fun c0 hk => ?_)
    refine t_iald dX13_addLocal_70 qa_986 (t_ixv c0) ?_
    refine mj_iadd dX13_addLocal_71 ?_
    refine mj_iload_n dX13_addLocal_72 2 rfl ?_
    refine t_chkK hk (fun c1 hk => ?_)
    refine t_iastK dX13_addLocal_73 qa_984 (t_ixv c1) (fun s1 ws1 => t_letE hk ws1 (fun hk => ?_))
    refine mj_aload_n dX13_addLocal_74 0 rfl ?_
    refine t_getR 986 dX13_addLocal_75 F_X13_120 qr_950_62 ?_
    refine mj_iload_n dX13_addLocal_78 1 rfl ?_
    refine mj_dup2 dX13_addLocal_79 rfl rfl ?_
    refine t_iald dX13_addLocal_80 qa_986 (t_ixv c0) ?_
    refine mj_iconst (v := 1) dX13_addLocal_81 (by decide) ?_
    refine mj_iadd dX13_addLocal_82 ?_
    refine t_iastK dX13_addLocal_83 qa_986 (t_ixv c0) (fun s2 ws2 => t_letE hk ws2 (fun hk => ?_))
    refine mj_sublv [(0, .ref 950)] [0] rfl ?_
    exact B_X13_addLocal_84 _ _ hk
noncomputable def k_X13_addLocal_30 (l1 : Int32) (l2 : Int32) (s : t_S) : Option (t_S) :=
 if t_ix l1 40 = true then
  if (s.1 986 (l1.toNatClampNeg)) = (8 : Int32) then ((f_X13_fail (5 : Int32) (s.1 950 6) s).bind (fun r2 =>
 k_X13_addLocal_50 l1 l2 r2))
 else (k_X13_addLocal_50 l1 l2 s)
else none
set_option maxRecDepth 4000 in
set_option maxHeartbeats 1000000 in
theorem B_X13_addLocal_30 {D : va_G} {cy : Nat → ClassId} {ad : Nat → Nat} {bs : Nat} {X : State → Heap → Prop} (l1 : Int32) (l2 : Int32) (s : t_S) (Q : t_S → Prop) (hk : t_hk (k_X13_addLocal_30 l1 l2 s) Q) : mj_G D cy ad bs X cX13_addLocal 3 yX13_addLocal.cls none yX13_addLocal.name 6 0 0 1065 (t_P (fun v s' => v = none ∧ Q (s'))) 30 [(0, .ref 950), (1, .int l1), (2, .int l2)] [] (t_m s) 1065 0 0 := by
  refine mj_aload_n dX13_addLocal_30 0 rfl ?_
  refine t_getR 986 dX13_addLocal_31 F_X13_120 qr_950_62 ?_
  refine mj_iload_n dX13_addLocal_34 1 rfl ?_
  refine t_chkK hk (fun c0 hk => ?_)
  refine t_iald dX13_addLocal_35 qa_986 (t_ixv c0) ?_
  refine mj_bipush (v := 8) dX13_addLocal_36 (by decide) ?_
  refine mj_icmp_ne 50 dX13_addLocal_38 (by decide) (fun z => t_negK hk z (fun hk => ?_)) (fun z => t_posK hk z (fun hk => ?_))
  · exact B_X13_addLocal_50 _ _ _ _ hk
  · refine mj_aload_n dX13_addLocal_41 0 rfl ?_
    refine mj_iconst (v := 5) dX13_addLocal_42 (by decide) ?_
    refine mj_aload_n dX13_addLocal_43 0 rfl ?_
    refine t_getI dX13_addLocal_44 F_X13_391 qf_950_6 ?_
    refine t_bndK hk (fun r2 er2 hk => ?_)
    refine t_callVvE dX13_addLocal_47 M_X13_fail (C_X13_fail _ _ _ _ er2) ML_X13_411 IM_X13_fail SE_X13_fail qc_950 rfl (As := [.int 5, .int (s.1 950 6)]) rfl rfl (Nat.le_of_ble_eq_true rfl) (Nat.le_of_ble_eq_true rfl) (Nat.le_of_ble_eq_true rfl) (Nat.le_of_ble_eq_true rfl) ?_
    exact B_X13_addLocal_50 _ _ _ _ hk
noncomputable def f_X13_addLocal (x1 : Int32) (s : t_S) : Option (t_S) :=
 (f_X13_freeName s).bind (fun r1 =>
 if (r1.2.1 950 2) = (0 : Int32) then ((f_X13_isLocal x1 r1.1 r1.2).bind (fun r2 =>
 if r2 = (0 : Int32) then (k_X13_addLocal_30 x1 r1.1 r1.2)
 else ((f_X13_fail (3 : Int32) (r1.2.1 950 6) r1.2).bind (fun r3 =>
 k_X13_addLocal_30 x1 r1.1 r3))))
 else (k_X13_addLocal_30 x1 r1.1 r1.2))
set_option maxRecDepth 4000 in
set_option maxHeartbeats 1000000 in
theorem C_X13_addLocal (x1 : Int32) (s : t_S) (r : t_S) (hr : f_X13_addLocal x1 s = some r) : t_C yX13_addLocal cX13_addLocal 3 none 6 [.ref 950, .int x1] s (fun v s' => v = none ∧ s' = r) := by
  refine t_C.imp (P := fun v s' => v = none ∧ (fun q => q = r) (s')) (t_C.of (by decide +kernel) (Nat.le_of_ble_eq_true rfl) ?_) (fun v s' hp => hp)
  intro D cy ad bs X
  have hk : t_hk (f_X13_addLocal x1 s) (fun q => q = r) := ⟨r, hr, rfl⟩
  show mj_G D cy ad bs X cX13_addLocal 3 yX13_addLocal.cls none yX13_addLocal.name 6 0 0 1065 (t_P (fun v s' => v = none ∧ (fun q => q = r) (s'))) 0 [(0, .ref 950), (1, .int x1)] [] (t_m s) 1065 0 0
  refine mj_aload_n dX13_addLocal_0 0 rfl ?_
  refine t_bndK hk (fun r1 er1 hk => ?_)
  refine t_callViE dX13_addLocal_1 M_X13_freeName (C_X13_freeName _ _ er1) ML_X13_535 IM_X13_freeName SE_X13_freeName qc_950 rfl (As := []) rfl rfl (Nat.le_of_ble_eq_true rfl) (Nat.le_of_ble_eq_true rfl) (Nat.le_of_ble_eq_true rfl) (Nat.le_of_ble_eq_true rfl) ?_
  refine mj_istore_n 2 (lv2 := [(2, .int r1.1), (0, .ref 950), (1, .int x1)]) dX13_addLocal_4 rfl (by decide) rfl ?_
  refine mj_aload_n dX13_addLocal_5 1 rfl ?_
  refine t_getI dX13_addLocal_6 F_X13_375 qf_950_2 ?_
  refine mj_if_ne 30 dX13_addLocal_9 (by decide) (fun z => t_negK hk z (fun hk => ?_)) (fun z => t_posK hk z (fun hk => ?_))
  · refine mj_sublv [(0, .ref 950), (1, .int x1), (2, .int r1.1)] [1, 2, 0] rfl ?_
    exact B_X13_addLocal_30 _ _ _ _ hk
  · refine mj_aload_n dX13_addLocal_12 1 rfl ?_
    refine mj_iload_n dX13_addLocal_13 2 rfl ?_
    refine mj_iload_n dX13_addLocal_14 0 rfl ?_
    refine t_bndK hk (fun r2 er2 hk => ?_)
    refine t_callViP dX13_addLocal_15 M_X13_isLocal (C_X13_isLocal _ _ _ _ er2) ML_X13_727 IM_X13_isLocal SE_X13_isLocal qc_950 rfl (As := [.int x1, .int r1.1]) rfl rfl (Nat.le_of_ble_eq_true rfl) (Nat.le_of_ble_eq_true rfl) (Nat.le_of_ble_eq_true rfl) (Nat.le_of_ble_eq_true rfl) ?_
    refine mj_if_eq 30 dX13_addLocal_18 (by decide) (fun z => t_posK hk z (fun hk => ?_)) (fun z => t_negK hk z (fun hk => ?_))
    · refine mj_sublv [(0, .ref 950), (1, .int x1), (2, .int r1.1)] [1, 2, 0] rfl ?_
      exact B_X13_addLocal_30 _ _ _ _ hk
    · refine mj_aload_n dX13_addLocal_21 1 rfl ?_
      refine mj_iconst (v := 3) dX13_addLocal_22 (by decide) ?_
      refine mj_aload_n dX13_addLocal_23 1 rfl ?_
      refine t_getI dX13_addLocal_24 F_X13_391 qf_950_6 ?_
      refine t_bndK hk (fun r3 er3 hk => ?_)
      refine t_callVvE dX13_addLocal_27 M_X13_fail (C_X13_fail _ _ _ _ er3) ML_X13_411 IM_X13_fail SE_X13_fail qc_950 rfl (As := [.int 3, .int (r1.2.1 950 6)]) rfl rfl (Nat.le_of_ble_eq_true rfl) (Nat.le_of_ble_eq_true rfl) (Nat.le_of_ble_eq_true rfl) (Nat.le_of_ble_eq_true rfl) ?_
      refine mj_sublv [(0, .ref 950), (1, .int x1), (2, .int r1.1)] [1, 2, 0] rfl ?_
      exact B_X13_addLocal_30 _ _ _ _ hk

theorem dX13_find_0 : decode cX13_find 0 = .ok (.iconst 0, 1) := by decide +kernel
theorem dX13_find_1 : decode cX13_find 1 = .ok (.istore 5, 2) := by decide +kernel
theorem dX13_find_10 : decode cX13_find 10 = .ok (.iload_n 2, 1) := by decide +kernel
theorem dX13_find_11 : decode cX13_find 11 = .ok (.iload 5, 2) := by decide +kernel
theorem dX13_find_13 : decode cX13_find 13 = .ok (.iadd, 1) := by decide +kernel
theorem dX13_find_14 : decode cX13_find 14 = .ok (.iaload, 1) := by decide +kernel
theorem dX13_find_15 : decode cX13_find 15 = .ok (.iload 4, 2) := by decide +kernel
theorem dX13_find_17 : decode cX13_find 17 = .ok (.if_icmp .ne 6, 3) := by decide +kernel
theorem dX13_find_20 : decode cX13_find 20 = .ok (.iload 5, 2) := by decide +kernel
theorem dX13_find_22 : decode cX13_find 22 = .ok (.ireturn, 1) := by decide +kernel
theorem dX13_find_23 : decode cX13_find 23 = .ok (.iinc 5 1, 3) := by decide +kernel
theorem dX13_find_26 : decode cX13_find 26 = .ok (.goto (-23), 3) := by decide +kernel
theorem dX13_find_29 : decode cX13_find 29 = .ok (.iconst (-1), 1) := by decide +kernel
theorem dX13_find_3 : decode cX13_find 3 = .ok (.iload 5, 2) := by decide +kernel
theorem dX13_find_30 : decode cX13_find 30 = .ok (.ireturn, 1) := by decide +kernel
theorem dX13_find_5 : decode cX13_find 5 = .ok (.iload_n 3, 1) := by decide +kernel
theorem dX13_find_6 : decode cX13_find 6 = .ok (.if_icmp .ge 23, 3) := by decide +kernel
theorem dX13_find_9 : decode cX13_find 9 = .ok (.aload_n 1, 1) := by decide +kernel
noncomputable def k_X13_find_3 (l1 : Nat) (l2 : Int32) (l3 : Int32) (l4 : Int32) (l5 : Int32) (s : t_S) : Option ((Nat × Int32 × Int32 × Int32 × Int32) ⊕ (Int32)) :=
 if l3 ≤ l5 then ((some (-1 : Int32)).map Sum.inr)
 else (if t_oka l1 1 (t_ln l1) = true then
  if t_ix (l2 + l5) (t_ln l1) = true then
  if (s.1 l1 ((l2 + l5).toNatClampNeg)) = l4 then ((some (l5)).map Sum.inr)
 else (some (.inl (l1, l2, l3, l4, (l5 + 1))))
else none
else none)
set_option maxRecDepth 4000 in
set_option maxHeartbeats 1000000 in
theorem B_X13_find_3 {D : va_G} {cy : Nat → ClassId} {ad : Nat → Nat} {bs : Nat} {X : State → Heap → Prop} (l1 : Nat) (l2 : Int32) (l3 : Int32) (l4 : Int32) (l5 : Int32) (s : t_S) (Q : (Nat × Int32 × Int32 × Int32 × Int32) ⊕ (Int32) → Prop) (Hb3 : ∀ (y0 : Nat) (y1 : Int32) (y2 : Int32) (y3 : Int32) (y4 : Int32), Q (.inl (y0, y1, y2, y3, y4)) → mj_G D cy ad bs X cX13_find 6 yX13_find.cls (some .int) yX13_find.name 0 0 0 1065 (t_P (fun v s' => s' = s ∧ ∃ x, v = some (.int x) ∧ Q (.inr (x)))) 3 [(1, .ref (y0)), (2, .int (y1)), (3, .int (y2)), (4, .int (y3)), (5, .int (y4))] [] (t_m s) 1065 0 0) (hk : t_hk (k_X13_find_3 l1 l2 l3 l4 l5 s) Q) : mj_G D cy ad bs X cX13_find 6 yX13_find.cls (some .int) yX13_find.name 0 0 0 1065 (t_P (fun v s' => s' = s ∧ ∃ x, v = some (.int x) ∧ Q (.inr (x)))) 3 [(1, .ref l1), (2, .int l2), (3, .int l3), (4, .int l4), (5, .int l5)] [] (t_m s) 1065 0 0 := by
  refine mj_iload dX13_find_3 4 rfl ?_
  refine mj_iload_n dX13_find_5 2 rfl ?_
  refine mj_icmp_ge 29 dX13_find_6 (by decide) (fun z => t_posK hk z (fun hk => ?_)) (fun z => t_negK hk z (fun hk => ?_))
  · refine t_mapK hk (fun hk => ?_)
    refine mj_iconst (v := (-1)) dX13_find_29 (by decide) ?_
    exact t_somK hk (fun hf => t_iret dX13_find_30 rfl rfl ⟨rfl, _, rfl, hf⟩ (Nat.le_of_ble_eq_true rfl) (Nat.le_of_ble_eq_true rfl))
  · refine mj_aload_n dX13_find_9 0 rfl ?_
    refine mj_iload_n dX13_find_10 1 rfl ?_
    refine mj_iload dX13_find_11 4 rfl ?_
    refine mj_iadd dX13_find_13 ?_
    refine t_chkK hk (fun c0 hk => ?_)
    refine t_chkK hk (fun c1 hk => ?_)
    refine t_iald dX13_find_14 c0 (t_ixv c1) ?_
    refine mj_iload dX13_find_15 3 rfl ?_
    refine mj_icmp_ne 23 dX13_find_17 (by decide) (fun z => t_negK hk z (fun hk => ?_)) (fun z => t_posK hk z (fun hk => ?_))
    · refine mj_iinc (k := 4) (v := (l5 + 1)) (lv2 := [(5, .int (l5 + 1)), (1, .ref l1), (2, .int l2), (3, .int l3), (4, .int l4)]) dX13_find_23 rfl rfl (by decide) rfl ?_
      refine mj_goto 3 dX13_find_26 (by decide) ?_
      refine mj_sublv [(1, .ref l1), (2, .int l2), (3, .int l3), (4, .int l4), (5, .int (l5 + 1))] [1, 2, 3, 4, 0] rfl ?_
      exact t_somK hk (fun hf => Hb3 l1 l2 l3 l4 (l5 + 1) hf)
    · refine t_mapK hk (fun hk => ?_)
      refine mj_iload dX13_find_20 4 rfl ?_
      exact t_somK hk (fun hf => t_iret dX13_find_22 rfl rfl ⟨rfl, _, rfl, hf⟩ (Nat.le_of_ble_eq_true rfl) (Nat.le_of_ble_eq_true rfl))
noncomputable def b_X13_find_3 (s : t_S) (x : Nat × Int32 × Int32 × Int32 × Int32) : Option ((Nat × Int32 × Int32 × Int32 × Int32) ⊕ (Int32)) := k_X13_find_3 x.1 x.2.1 x.2.2.1 x.2.2.2.1 x.2.2.2.2 s
set_option maxRecDepth 4000 in
set_option maxHeartbeats 1000000 in
theorem LH_X13_find_3 {D : va_G} {cy : Nat → ClassId} {ad : Nat → Nat} {bs : Nat} {X : State → Heap → Prop} (s : t_S) : ∀ (n : Nat) (y0 : Nat) (y1 : Int32) (y2 : Int32) (y3 : Int32) (y4 : Int32) (Q : Int32 → Prop) (hk : t_hk (t_loop (b_X13_find_3 s) n (y0, y1, y2, y3, y4)) Q), mj_G D cy ad bs X cX13_find 6 yX13_find.cls (some .int) yX13_find.name 0 0 0 1065 (t_P (fun v s' => s' = s ∧ ∃ x, v = some (.int x) ∧ Q (x))) 3 [(1, .ref (y0)), (2, .int (y1)), (3, .int (y2)), (4, .int (y3)), (5, .int (y4))] [] (t_m s) 1065 0 0 := by
  intro n
  induction n with
  | zero => intro y0 y1 y2 y3 y4 Q hk; obtain ⟨r, hr, _⟩ := hk; cases hr
  | succ n ih =>
    intro y0 y1 y2 y3 y4 Q hk
    exact B_X13_find_3 y0 y1 y2 y3 y4 s (fun y => t_lq (b_X13_find_3 s) n Q y) (fun y0' y1' y2' y3' y4' hy => ih y0' y1' y2' y3' y4' Q hy) (t_lp hk)
noncomputable def f_X13_find (x1 : Nat) (x2 : Int32) (x3 : Int32) (x4 : Int32) (s : t_S) : Option (Int32) :=
 t_loop (b_X13_find_3 s) t_N (x1, x2, x3, x4, 0)
set_option maxRecDepth 4000 in
set_option maxHeartbeats 1000000 in
theorem C_X13_find (x1 : Nat) (x2 : Int32) (x3 : Int32) (x4 : Int32) (s : t_S) (r : Int32) (hr : f_X13_find x1 x2 x3 x4 s = some r) : t_C yX13_find cX13_find 6 (some .int) 0 [.ref 950, .ref x1, .int x2, .int x3, .int x4] s (fun v s' => v = some (.int r) ∧ s' = s) := by
  refine t_C.imp (P := fun v s' => s' = s ∧ ∃ x, v = some (.int x) ∧ (fun q => q = r) (x)) (t_C.of (by decide +kernel) (Nat.le_of_ble_eq_true rfl) ?_) (fun v s' hp => by obtain ⟨rfl, x, rfl, rfl⟩ := hp; exact ⟨rfl, rfl⟩)
  intro D cy ad bs X
  have hk : t_hk (f_X13_find x1 x2 x3 x4 s) (fun q => q = r) := ⟨r, hr, rfl⟩
  show mj_G D cy ad bs X cX13_find 6 yX13_find.cls (some .int) yX13_find.name 0 0 0 1065 (t_P (fun v s' => s' = s ∧ ∃ x, v = some (.int x) ∧ (fun q => q = r) (x))) 0 [(0, .ref 950), (1, .ref x1), (2, .int x2), (3, .int x3), (4, .int x4)] [] (t_m s) 1065 0 0
  refine mj_iconst (v := 0) dX13_find_0 (by decide) ?_
  refine mj_istore (lv2 := [(5, .int 0), (0, .ref 950), (1, .ref x1), (2, .int x2), (3, .int x3), (4, .int x4)]) dX13_find_1 (by decide) rfl ?_
  refine mj_sublv [(1, .ref x1), (2, .int x2), (3, .int x3), (4, .int x4), (5, .int 0)] [2, 3, 4, 5, 0] rfl ?_
  exact LH_X13_find_3 _ _ x1 x2 x3 x4 0 _ hk

theorem dX13_meant_0 : decode cX13_meant 0 = .ok (.iload_n 1, 1) := by decide +kernel
theorem dX13_meant_1 : decode cX13_meant 1 = .ok (.istore_n 2, 1) := by decide +kernel
theorem dX13_meant_10 : decode cX13_meant 10 = .ok (.if_icmp .ne 32, 3) := by decide +kernel
theorem dX13_meant_13 : decode cX13_meant 13 = .ok (.aload_n 0, 1) := by decide +kernel
theorem dX13_meant_14 : decode cX13_meant 14 = .ok (.getfield 57, 3) := by decide +kernel
theorem dX13_meant_17 : decode cX13_meant 17 = .ok (.aload_n 0, 1) := by decide +kernel
theorem dX13_meant_18 : decode cX13_meant 18 = .ok (.aload_n 0, 1) := by decide +kernel
theorem dX13_meant_19 : decode cX13_meant 19 = .ok (.getfield 54, 3) := by decide +kernel
theorem dX13_meant_2 : decode cX13_meant 2 = .ok (.aload_n 0, 1) := by decide +kernel
theorem dX13_meant_22 : decode cX13_meant 22 = .ok (.iconst 0, 1) := by decide +kernel
theorem dX13_meant_23 : decode cX13_meant 23 = .ok (.aload_n 0, 1) := by decide +kernel
theorem dX13_meant_24 : decode cX13_meant 24 = .ok (.getfield 624, 3) := by decide +kernel
theorem dX13_meant_27 : decode cX13_meant 27 = .ok (.aload_n 0, 1) := by decide +kernel
theorem dX13_meant_28 : decode cX13_meant 28 = .ok (.getfield 32, 3) := by decide +kernel
theorem dX13_meant_3 : decode cX13_meant 3 = .ok (.getfield 26, 3) := by decide +kernel
theorem dX13_meant_31 : decode cX13_meant 31 = .ok (.iload_n 2, 1) := by decide +kernel
theorem dX13_meant_32 : decode cX13_meant 32 = .ok (.laload, 1) := by decide +kernel
theorem dX13_meant_33 : decode cX13_meant 33 = .ok (.l2i, 1) := by decide +kernel
theorem dX13_meant_34 : decode cX13_meant 34 = .ok (.invokevirtual 788, 3) := by decide +kernel
theorem dX13_meant_37 : decode cX13_meant 37 = .ok (.iaload, 1) := by decide +kernel
theorem dX13_meant_38 : decode cX13_meant 38 = .ok (.istore_n 2, 1) := by decide +kernel
theorem dX13_meant_39 : decode cX13_meant 39 = .ok (.goto (-37), 3) := by decide +kernel
theorem dX13_meant_42 : decode cX13_meant 42 = .ok (.iload_n 2, 1) := by decide +kernel
theorem dX13_meant_43 : decode cX13_meant 43 = .ok (.ireturn, 1) := by decide +kernel
theorem dX13_meant_6 : decode cX13_meant 6 = .ok (.iload_n 2, 1) := by decide +kernel
theorem dX13_meant_7 : decode cX13_meant 7 = .ok (.iaload, 1) := by decide +kernel
theorem dX13_meant_8 : decode cX13_meant 8 = .ok (.bipush 8, 2) := by decide +kernel
noncomputable def k_X13_meant_2 (l2 : Int32) (s : t_S) : Option ((Int32) ⊕ (Int32)) :=
 if t_ix l2 13000 = true then
  if (s.1 955 (l2.toNatClampNeg)) = (8 : Int32) then ((f_X13_find 964 (0 : Int32) (s.1 950 40) ((s.2.1 957 (l2.toNatClampNeg)).toInt32) s).bind (fun r2 =>
 if t_ix r2 60 = true then
  some (.inl (s.1 965 (r2.toNatClampNeg)))
else none))
 else ((some (l2)).map Sum.inr)
else none
set_option maxRecDepth 4000 in
set_option maxHeartbeats 1000000 in
theorem B_X13_meant_2 {D : va_G} {cy : Nat → ClassId} {ad : Nat → Nat} {bs : Nat} {X : State → Heap → Prop} (l2 : Int32) (s : t_S) (Q : (Int32) ⊕ (Int32) → Prop) (Hb2 : ∀ (y0 : Int32), Q (.inl y0) → mj_G D cy ad bs X cX13_meant 3 yX13_meant.cls (some .int) yX13_meant.name 1 0 0 1065 (t_P (fun v s' => s' = s ∧ ∃ x, v = some (.int x) ∧ Q (.inr (x)))) 2 [(0, .ref 950), (2, .int (y0))] [] (t_m s) 1065 0 0) (hk : t_hk (k_X13_meant_2 l2 s) Q) : mj_G D cy ad bs X cX13_meant 3 yX13_meant.cls (some .int) yX13_meant.name 1 0 0 1065 (t_P (fun v s' => s' = s ∧ ∃ x, v = some (.int x) ∧ Q (.inr (x)))) 2 [(0, .ref 950), (2, .int l2)] [] (t_m s) 1065 0 0 := by
  refine mj_aload_n dX13_meant_2 0 rfl ?_
  refine t_getR 955 dX13_meant_3 F_X13_26 qr_950_17 ?_
  refine mj_iload_n dX13_meant_6 1 rfl ?_
  refine t_chkK hk (fun c0 hk => ?_)
  refine t_iald dX13_meant_7 qa_955 (t_ixv c0) ?_
  refine mj_bipush (v := 8) dX13_meant_8 (by decide) ?_
  refine mj_icmp_ne 42 dX13_meant_10 (by decide) (fun z => t_negK hk z (fun hk => ?_)) (fun z => t_posK hk z (fun hk => ?_))
  · refine t_mapK hk (fun hk => ?_)
    refine mj_iload_n dX13_meant_42 1 rfl ?_
    exact t_somK hk (fun hf => t_iret dX13_meant_43 rfl rfl ⟨rfl, _, rfl, hf⟩ (Nat.le_of_ble_eq_true rfl) (Nat.le_of_ble_eq_true rfl))
  · refine mj_aload_n dX13_meant_13 0 rfl ?_
    refine t_getR 965 dX13_meant_14 F_X13_57 qr_950_38 ?_
    refine mj_aload_n dX13_meant_17 0 rfl ?_
    refine mj_aload_n dX13_meant_18 0 rfl ?_
    refine t_getR 964 dX13_meant_19 F_X13_54 qr_950_37 ?_
    refine mj_iconst (v := 0) dX13_meant_22 (by decide) ?_
    refine mj_aload_n dX13_meant_23 0 rfl ?_
    refine t_getI dX13_meant_24 F_X13_624 qf_950_40 ?_
    refine mj_aload_n dX13_meant_27 0 rfl ?_
    refine t_getR 957 dX13_meant_28 F_X13_32 qr_950_19 ?_
    refine mj_iload_n dX13_meant_31 1 rfl ?_
    refine t_lald dX13_meant_32 qa_957 (t_ixv c0) ?_
    refine mj_l2i (v := (s.2.1 957 (l2.toNatClampNeg)).toInt32) dX13_meant_33 rfl ?_
    refine t_bndK hk (fun r2 er2 hk => ?_)
    refine t_callViP dX13_meant_34 M_X13_find (C_X13_find _ _ _ _ _ _ er2) ML_X13_788 IM_X13_find SE_X13_find qc_950 rfl (As := [.ref 964, .int 0, .int (s.1 950 40), .int ((s.2.1 957 (l2.toNatClampNeg)).toInt32)]) rfl rfl (Nat.le_of_ble_eq_true rfl) (Nat.le_of_ble_eq_true rfl) (Nat.le_of_ble_eq_true rfl) (Nat.le_of_ble_eq_true rfl) ?_
    refine t_chkK hk (fun c2 hk => ?_)
    refine t_iald dX13_meant_37 qa_965 (t_ixv c2) ?_
    refine mj_istore_n 2 (lv2 := [(2, .int (s.1 965 (r2.toNatClampNeg))), (0, .ref 950)]) dX13_meant_38 rfl (by decide) rfl ?_
    refine mj_goto 2 dX13_meant_39 (by decide) ?_
    refine mj_sublv [(0, .ref 950), (2, .int (s.1 965 (r2.toNatClampNeg)))] [1, 0] rfl ?_
    exact t_somK hk (fun hf => Hb2 (s.1 965 (r2.toNatClampNeg)) hf)
noncomputable def b_X13_meant_2 (s : t_S) (x : Int32) : Option ((Int32) ⊕ (Int32)) := k_X13_meant_2 x s
set_option maxRecDepth 4000 in
set_option maxHeartbeats 1000000 in
theorem LH_X13_meant_2 {D : va_G} {cy : Nat → ClassId} {ad : Nat → Nat} {bs : Nat} {X : State → Heap → Prop} (s : t_S) : ∀ (n : Nat) (y0 : Int32) (Q : Int32 → Prop) (hk : t_hk (t_loop (b_X13_meant_2 s) n y0) Q), mj_G D cy ad bs X cX13_meant 3 yX13_meant.cls (some .int) yX13_meant.name 1 0 0 1065 (t_P (fun v s' => s' = s ∧ ∃ x, v = some (.int x) ∧ Q (x))) 2 [(0, .ref 950), (2, .int (y0))] [] (t_m s) 1065 0 0 := by
  intro n
  induction n with
  | zero => intro y0 Q hk; obtain ⟨r, hr, _⟩ := hk; cases hr
  | succ n ih =>
    intro y0 Q hk
    exact B_X13_meant_2 y0 s (fun y => t_lq (b_X13_meant_2 s) n Q y) (fun y0' hy => ih y0' Q hy) (t_lp hk)
noncomputable def f_X13_meant (x1 : Int32) (s : t_S) : Option (Int32) :=
 t_loop (b_X13_meant_2 s) t_N x1
set_option maxRecDepth 4000 in
set_option maxHeartbeats 1000000 in
theorem C_X13_meant (x1 : Int32) (s : t_S) (r : Int32) (hr : f_X13_meant x1 s = some r) : t_C yX13_meant cX13_meant 3 (some .int) 1 [.ref 950, .int x1] s (fun v s' => v = some (.int r) ∧ s' = s) := by
  refine t_C.imp (P := fun v s' => s' = s ∧ ∃ x, v = some (.int x) ∧ (fun q => q = r) (x)) (t_C.of (by decide +kernel) (Nat.le_of_ble_eq_true rfl) ?_) (fun v s' hp => by obtain ⟨rfl, x, rfl, rfl⟩ := hp; exact ⟨rfl, rfl⟩)
  intro D cy ad bs X
  have hk : t_hk (f_X13_meant x1 s) (fun q => q = r) := ⟨r, hr, rfl⟩
  show mj_G D cy ad bs X cX13_meant 3 yX13_meant.cls (some .int) yX13_meant.name 1 0 0 1065 (t_P (fun v s' => s' = s ∧ ∃ x, v = some (.int x) ∧ (fun q => q = r) (x))) 0 [(0, .ref 950), (1, .int x1)] [] (t_m s) 1065 0 0
  refine mj_iload_n dX13_meant_0 1 rfl ?_
  refine mj_istore_n 2 (lv2 := [(2, .int x1), (0, .ref 950), (1, .int x1)]) dX13_meant_1 rfl (by decide) rfl ?_
  refine mj_sublv [(0, .ref 950), (2, .int x1)] [1, 0] rfl ?_
  exact LH_X13_meant_2 _ _ x1 _ hk

theorem dX13_addPair_0 : decode cX13_addPair 0 = .ok (.aload_n 0, 1) := by decide +kernel
theorem dX13_addPair_1 : decode cX13_addPair 1 = .ok (.getfield 203, 3) := by decide +kernel
theorem dX13_addPair_10 : decode cX13_addPair 10 = .ok (.i2l, 1) := by decide +kernel
theorem dX13_addPair_11 : decode cX13_addPair 11 = .ok (.aload_n 0, 1) := by decide +kernel
theorem dX13_addPair_12 : decode cX13_addPair 12 = .ok (.getfield 1078, 3) := by decide +kernel
theorem dX13_addPair_15 : decode cX13_addPair 15 = .ok (.i2l, 1) := by decide +kernel
theorem dX13_addPair_16 : decode cX13_addPair 16 = .ok (.lmul, 1) := by decide +kernel
theorem dX13_addPair_17 : decode cX13_addPair 17 = .ok (.aload_n 0, 1) := by decide +kernel
theorem dX13_addPair_18 : decode cX13_addPair 18 = .ok (.getfield 203, 3) := by decide +kernel
theorem dX13_addPair_21 : decode cX13_addPair 21 = .ok (.aload_n 0, 1) := by decide +kernel
theorem dX13_addPair_22 : decode cX13_addPair 22 = .ok (.iload_n 2, 1) := by decide +kernel
theorem dX13_addPair_23 : decode cX13_addPair 23 = .ok (.invokevirtual 1036, 3) := by decide +kernel
theorem dX13_addPair_26 : decode cX13_addPair 26 = .ok (.iaload, 1) := by decide +kernel
theorem dX13_addPair_27 : decode cX13_addPair 27 = .ok (.i2l, 1) := by decide +kernel
theorem dX13_addPair_28 : decode cX13_addPair 28 = .ok (.ladd, 1) := by decide +kernel
theorem dX13_addPair_29 : decode cX13_addPair 29 = .ok (.lstore_n 3, 1) := by decide +kernel
theorem dX13_addPair_30 : decode cX13_addPair 30 = .ok (.aload_n 0, 1) := by decide +kernel
theorem dX13_addPair_31 : decode cX13_addPair 31 = .ok (.getfield 210, 3) := by decide +kernel
theorem dX13_addPair_34 : decode cX13_addPair 34 = .ok (.lload_n 3, 1) := by decide +kernel
theorem dX13_addPair_35 : decode cX13_addPair 35 = .ok (.ldc2_w 878, 3) := by decide +kernel
theorem dX13_addPair_38 : decode cX13_addPair 38 = .ok (.ldiv, 1) := by decide +kernel
theorem dX13_addPair_39 : decode cX13_addPair 39 = .ok (.l2i, 1) := by decide +kernel
theorem dX13_addPair_4 : decode cX13_addPair 4 = .ok (.aload_n 0, 1) := by decide +kernel
theorem dX13_addPair_40 : decode cX13_addPair 40 = .ok (.dup2, 1) := by decide +kernel
theorem dX13_addPair_41 : decode cX13_addPair 41 = .ok (.laload, 1) := by decide +kernel
theorem dX13_addPair_42 : decode cX13_addPair 42 = .ok (.lconst 1, 1) := by decide +kernel
theorem dX13_addPair_43 : decode cX13_addPair 43 = .ok (.lload_n 3, 1) := by decide +kernel
theorem dX13_addPair_44 : decode cX13_addPair 44 = .ok (.ldc2_w 878, 3) := by decide +kernel
theorem dX13_addPair_47 : decode cX13_addPair 47 = .ok (.lrem, 1) := by decide +kernel
theorem dX13_addPair_48 : decode cX13_addPair 48 = .ok (.l2i, 1) := by decide +kernel
theorem dX13_addPair_49 : decode cX13_addPair 49 = .ok (.lshl, 1) := by decide +kernel
theorem dX13_addPair_5 : decode cX13_addPair 5 = .ok (.iload_n 1, 1) := by decide +kernel
theorem dX13_addPair_50 : decode cX13_addPair 50 = .ok (.lor, 1) := by decide +kernel
theorem dX13_addPair_51 : decode cX13_addPair 51 = .ok (.lastore, 1) := by decide +kernel
theorem dX13_addPair_52 : decode cX13_addPair 52 = .ok (.return_, 1) := by decide +kernel
theorem dX13_addPair_6 : decode cX13_addPair 6 = .ok (.invokevirtual 1036, 3) := by decide +kernel
theorem dX13_addPair_9 : decode cX13_addPair 9 = .ok (.iaload, 1) := by decide +kernel
noncomputable def f_X13_addPair (x1 : Int32) (x2 : Int32) (s : t_S) : Option (t_S) :=
 (f_X13_meant x1 s).bind (fun r1 =>
 if t_ix r1 13000 = true then
  (f_X13_meant x2 s).bind (fun r3 =>
 if t_ix r3 13000 = true then
  if t_ix ((((((s.1 1013 (r1.toNatClampNeg)).toInt64) * ((s.1 950 114).toInt64)) + ((s.1 1013 (r3.toNatClampNeg)).toInt64)) / (64 : Int64)).toInt32) 150200 = true then
  t_let (t_setJ s 1015 (((((((s.1 1013 (r1.toNatClampNeg)).toInt64) * ((s.1 950 114).toInt64)) + ((s.1 1013 (r3.toNatClampNeg)).toInt64)) / (64 : Int64)).toInt32).toNatClampNeg) ((s.2.1 1015 (((((((s.1 1013 (r1.toNatClampNeg)).toInt64) * ((s.1 950 114).toInt64)) + ((s.1 1013 (r3.toNatClampNeg)).toInt64)) / (64 : Int64)).toInt32).toNatClampNeg)) ||| ((1 : Int64) <<< (((((((s.1 1013 (r1.toNatClampNeg)).toInt64) * ((s.1 950 114).toInt64)) + ((s.1 1013 (r3.toNatClampNeg)).toInt64)) - ((((s.1 1013 (r1.toNatClampNeg)).toInt64) * ((s.1 950 114).toInt64)) + ((s.1 1013 (r3.toNatClampNeg)).toInt64)) / (64 : Int64) * (64 : Int64)).toInt32).toInt64 &&& 63)))) (fun s1 =>
 some (s1))
else none
else none)
else none)
set_option maxRecDepth 4000 in
set_option maxHeartbeats 1000000 in
theorem C_X13_addPair (x1 : Int32) (x2 : Int32) (s : t_S) (r : t_S) (hr : f_X13_addPair x1 x2 s = some r) : t_C yX13_addPair cX13_addPair 5 none 2 [.ref 950, .int x1, .int x2] s (fun v s' => v = none ∧ s' = r) := by
  refine t_C.imp (P := fun v s' => v = none ∧ (fun q => q = r) (s')) (t_C.of (by decide +kernel) (Nat.le_of_ble_eq_true rfl) ?_) (fun v s' hp => hp)
  intro D cy ad bs X
  have hk : t_hk (f_X13_addPair x1 x2 s) (fun q => q = r) := ⟨r, hr, rfl⟩
  show mj_G D cy ad bs X cX13_addPair 5 yX13_addPair.cls none yX13_addPair.name 2 0 0 1065 (t_P (fun v s' => v = none ∧ (fun q => q = r) (s'))) 0 [(0, .ref 950), (1, .int x1), (2, .int x2)] [] (t_m s) 1065 0 0
  refine mj_aload_n dX13_addPair_0 0 rfl ?_
  refine t_getR 1013 dX13_addPair_1 F_X13_203 qr_950_110 ?_
  refine mj_aload_n dX13_addPair_4 0 rfl ?_
  refine mj_iload_n dX13_addPair_5 1 rfl ?_
  refine t_bndK hk (fun r1 er1 hk => ?_)
  refine t_callViP dX13_addPair_6 M_X13_meant (C_X13_meant _ _ _ er1) ML_X13_1036 IM_X13_meant SE_X13_meant qc_950 rfl (As := [.int x1]) rfl rfl (Nat.le_of_ble_eq_true rfl) (Nat.le_of_ble_eq_true rfl) (Nat.le_of_ble_eq_true rfl) (Nat.le_of_ble_eq_true rfl) ?_
  refine t_chkK hk (fun c1 hk => ?_)
  refine t_iald dX13_addPair_9 qa_1013 (t_ixv c1) ?_
  refine mj_i2l (v := (s.1 1013 (r1.toNatClampNeg)).toInt64) dX13_addPair_10 rfl ?_
  refine mj_aload_n dX13_addPair_11 0 rfl ?_
  refine t_getI dX13_addPair_12 F_X13_1078 qf_950_114 ?_
  refine mj_i2l (v := (s.1 950 114).toInt64) dX13_addPair_15 rfl ?_
  refine mj_lmul dX13_addPair_16 ?_
  refine mj_aload_n dX13_addPair_17 0 rfl ?_
  refine t_getR 1013 dX13_addPair_18 F_X13_203 qr_950_110 ?_
  refine mj_aload_n dX13_addPair_21 0 rfl ?_
  refine mj_iload_n dX13_addPair_22 2 rfl ?_
  refine t_bndK hk (fun r3 er3 hk => ?_)
  refine t_callViP dX13_addPair_23 M_X13_meant (C_X13_meant _ _ _ er3) ML_X13_1036 IM_X13_meant SE_X13_meant qc_950 rfl (As := [.int x2]) rfl rfl (Nat.le_of_ble_eq_true rfl) (Nat.le_of_ble_eq_true rfl) (Nat.le_of_ble_eq_true rfl) (Nat.le_of_ble_eq_true rfl) ?_
  refine t_chkK hk (fun c3 hk => ?_)
  refine t_iald dX13_addPair_26 qa_1013 (t_ixv c3) ?_
  refine mj_i2l (v := (s.1 1013 (r3.toNatClampNeg)).toInt64) dX13_addPair_27 rfl ?_
  refine mj_ladd dX13_addPair_28 ?_
  refine mj_lstore_n 3 (lv2 := [(3, .long ((((s.1 1013 (r1.toNatClampNeg)).toInt64) * ((s.1 950 114).toInt64)) + ((s.1 1013 (r3.toNatClampNeg)).toInt64))), (0, .ref 950), (1, .int x1), (2, .int x2)]) dX13_addPair_29 rfl (by decide) rfl ?_
  refine mj_aload_n dX13_addPair_30 1 rfl ?_
  refine t_getR 1015 dX13_addPair_31 F_X13_210 qr_950_112 ?_
  refine mj_lload_n dX13_addPair_34 0 rfl ?_
  refine mj_ldc2 dX13_addPair_35 K_X13_878 ?_
  refine mj_ldiv dX13_addPair_38 (by decide) ?_
  refine mj_l2i (v := (((((s.1 1013 (r1.toNatClampNeg)).toInt64) * ((s.1 950 114).toInt64)) + ((s.1 1013 (r3.toNatClampNeg)).toInt64)) / (64 : Int64)).toInt32) dX13_addPair_39 rfl ?_
  refine mj_dup2 dX13_addPair_40 rfl rfl ?_
  refine t_chkK hk (fun c4 hk => ?_)
  refine t_lald dX13_addPair_41 qa_1015 (t_ixv c4) ?_
  refine mj_lconst (v := 1) dX13_addPair_42 (by decide) ?_
  refine mj_lload_n dX13_addPair_43 0 rfl ?_
  refine mj_ldc2 dX13_addPair_44 K_X13_878 ?_
  refine mj_lrem dX13_addPair_47 (by decide) ?_
  refine mj_l2i (v := (((((s.1 1013 (r1.toNatClampNeg)).toInt64) * ((s.1 950 114).toInt64)) + ((s.1 1013 (r3.toNatClampNeg)).toInt64)) - ((((s.1 1013 (r1.toNatClampNeg)).toInt64) * ((s.1 950 114).toInt64)) + ((s.1 1013 (r3.toNatClampNeg)).toInt64)) / (64 : Int64) * (64 : Int64)).toInt32) dX13_addPair_48 rfl ?_
  refine mj_lshl dX13_addPair_49 rfl ?_
  refine mj_lor dX13_addPair_50 ?_
  refine t_lastK dX13_addPair_51 qa_1015 (t_ixv c4) (fun s1 ws1 => t_letE hk ws1 (fun hk => ?_))
  exact t_somK hk (fun hf => t_vret dX13_addPair_52 rfl ⟨rfl, hf⟩ (Nat.le_of_ble_eq_true rfl) (Nat.le_of_ble_eq_true rfl))

