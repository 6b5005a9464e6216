/-! Methods as functions, 14: X7_lookAtAll, X7_look, X7_nextOf -/
theorem dX7_lookAtAll_0 : decode cX7_lookAtAll 0 = .ok (.iconst 0, 1) := by decide +kernel
theorem dX7_lookAtAll_1 : decode cX7_lookAtAll 1 = .ok (.istore 6, 2) := by decide +kernel
theorem dX7_lookAtAll_11 : decode cX7_lookAtAll 11 = .ok (.sipush 400, 3) := by decide +kernel
theorem dX7_lookAtAll_14 : decode cX7_lookAtAll 14 = .ok (.if_icmp .ge 47, 3) := by decide +kernel
theorem dX7_lookAtAll_17 : decode cX7_lookAtAll 17 = .ok (.iload 7, 2) := by decide +kernel
theorem dX7_lookAtAll_19 : decode cX7_lookAtAll 19 = .ok (.ifCond .lt 42, 3) := by decide +kernel
theorem dX7_lookAtAll_22 : decode cX7_lookAtAll 22 = .ok (.iload 6, 2) := by decide +kernel
theorem dX7_lookAtAll_24 : decode cX7_lookAtAll 24 = .ok (.ifCond .ne 37, 3) := by decide +kernel
theorem dX7_lookAtAll_27 : decode cX7_lookAtAll 27 = .ok (.aload_n 0, 1) := by decide +kernel
theorem dX7_lookAtAll_28 : decode cX7_lookAtAll 28 = .ok (.aload_n 1, 1) := by decide +kernel
theorem dX7_lookAtAll_29 : decode cX7_lookAtAll 29 = .ok (.iload 7, 2) := by decide +kernel
theorem dX7_lookAtAll_3 : decode cX7_lookAtAll 3 = .ok (.iload_n 2, 1) := by decide +kernel
theorem dX7_lookAtAll_31 : decode cX7_lookAtAll 31 = .ok (.iload_n 3, 1) := by decide +kernel
theorem dX7_lookAtAll_32 : decode cX7_lookAtAll 32 = .ok (.iload 4, 2) := by decide +kernel
theorem dX7_lookAtAll_34 : decode cX7_lookAtAll 34 = .ok (.iload 5, 2) := by decide +kernel
theorem dX7_lookAtAll_36 : decode cX7_lookAtAll 36 = .ok (.invokevirtual 362, 3) := by decide +kernel
theorem dX7_lookAtAll_39 : decode cX7_lookAtAll 39 = .ok (.istore 6, 2) := by decide +kernel
theorem dX7_lookAtAll_4 : decode cX7_lookAtAll 4 = .ok (.istore 7, 2) := by decide +kernel
theorem dX7_lookAtAll_41 : decode cX7_lookAtAll 41 = .ok (.aload_n 0, 1) := by decide +kernel
theorem dX7_lookAtAll_42 : decode cX7_lookAtAll 42 = .ok (.getfield 31, 3) := by decide +kernel
theorem dX7_lookAtAll_45 : decode cX7_lookAtAll 45 = .ok (.getfield 179, 3) := by decide +kernel
theorem dX7_lookAtAll_48 : decode cX7_lookAtAll 48 = .ok (.iload 7, 2) := by decide +kernel
theorem dX7_lookAtAll_50 : decode cX7_lookAtAll 50 = .ok (.aaload, 1) := by decide +kernel
theorem dX7_lookAtAll_51 : decode cX7_lookAtAll 51 = .ok (.iconst 1, 1) := by decide +kernel
theorem dX7_lookAtAll_52 : decode cX7_lookAtAll 52 = .ok (.iaload, 1) := by decide +kernel
theorem dX7_lookAtAll_53 : decode cX7_lookAtAll 53 = .ok (.istore 7, 2) := by decide +kernel
theorem dX7_lookAtAll_55 : decode cX7_lookAtAll 55 = .ok (.iinc 8 1, 3) := by decide +kernel
theorem dX7_lookAtAll_58 : decode cX7_lookAtAll 58 = .ok (.goto (-49), 3) := by decide +kernel
theorem dX7_lookAtAll_6 : decode cX7_lookAtAll 6 = .ok (.iconst 0, 1) := by decide +kernel
theorem dX7_lookAtAll_61 : decode cX7_lookAtAll 61 = .ok (.iload 6, 2) := by decide +kernel
theorem dX7_lookAtAll_63 : decode cX7_lookAtAll 63 = .ok (.ireturn, 1) := by decide +kernel
theorem dX7_lookAtAll_7 : decode cX7_lookAtAll 7 = .ok (.istore 8, 2) := by decide +kernel
theorem dX7_lookAtAll_9 : decode cX7_lookAtAll 9 = .ok (.iload 8, 2) := by decide +kernel
theorem dX7_lookAt_0 : decode cX7_lookAt 0 = .ok (.aload_n 0, 1) := by decide +kernel
theorem dX7_lookAt_1 : decode cX7_lookAt 1 = .ok (.getfield 31, 3) := by decide +kernel
theorem dX7_lookAt_100 : decode cX7_lookAt 100 = .ok (.iconst 0, 1) := by decide +kernel
theorem dX7_lookAt_101 : decode cX7_lookAt 101 = .ok (.iaload, 1) := by decide +kernel
theorem dX7_lookAt_102 : decode cX7_lookAt 102 = .ok (.lookupswitch 267 #[(11, 52), (12, 205), (13, 240), (23, 42)], 42) := by decide +kernel
theorem dX7_lookAt_11 : decode cX7_lookAt 11 = .ok (.aload_n 0, 1) := by decide +kernel
theorem dX7_lookAt_12 : decode cX7_lookAt 12 = .ok (.getfield 23, 3) := by decide +kernel
theorem dX7_lookAt_144 : decode cX7_lookAt 144 = .ok (.aload_n 0, 1) := by decide +kernel
theorem dX7_lookAt_145 : decode cX7_lookAt 145 = .ok (.aload_n 1, 1) := by decide +kernel
theorem dX7_lookAt_146 : decode cX7_lookAt 146 = .ok (.aload 6, 2) := by decide +kernel
theorem dX7_lookAt_148 : decode cX7_lookAt 148 = .ok (.iload 5, 2) := by decide +kernel
theorem dX7_lookAt_15 : decode cX7_lookAt 15 = .ok (.iload_n 3, 1) := by decide +kernel
theorem dX7_lookAt_150 : decode cX7_lookAt 150 = .ok (.invokevirtual 368, 3) := by decide +kernel
theorem dX7_lookAt_153 : decode cX7_lookAt 153 = .ok (.ireturn, 1) := by decide +kernel
theorem dX7_lookAt_154 : decode cX7_lookAt 154 = .ok (.aload 6, 2) := by decide +kernel
theorem dX7_lookAt_156 : decode cX7_lookAt 156 = .ok (.bipush 6, 2) := by decide +kernel
theorem dX7_lookAt_158 : decode cX7_lookAt 158 = .ok (.iaload, 1) := by decide +kernel
theorem dX7_lookAt_159 : decode cX7_lookAt 159 = .ok (.istore 8, 2) := by decide +kernel
theorem dX7_lookAt_16 : decode cX7_lookAt 16 = .ok (.putfield 161, 3) := by decide +kernel
theorem dX7_lookAt_161 : decode cX7_lookAt 161 = .ok (.aload_n 1, 1) := by decide +kernel
theorem dX7_lookAt_162 : decode cX7_lookAt 162 = .ok (.getfield 203, 3) := by decide +kernel
theorem dX7_lookAt_165 : decode cX7_lookAt 165 = .ok (.iload 8, 2) := by decide +kernel
theorem dX7_lookAt_167 : decode cX7_lookAt 167 = .ok (.iaload, 1) := by decide +kernel
theorem dX7_lookAt_168 : decode cX7_lookAt 168 = .ok (.ifCond .ne 5, 3) := by decide +kernel
theorem dX7_lookAt_171 : decode cX7_lookAt 171 = .ok (.iconst 0, 1) := by decide +kernel
theorem dX7_lookAt_172 : decode cX7_lookAt 172 = .ok (.ireturn, 1) := by decide +kernel
theorem dX7_lookAt_173 : decode cX7_lookAt 173 = .ok (.aload 6, 2) := by decide +kernel
theorem dX7_lookAt_175 : decode cX7_lookAt 175 = .ok (.bipush 10, 2) := by decide +kernel
theorem dX7_lookAt_177 : decode cX7_lookAt 177 = .ok (.iaload, 1) := by decide +kernel
theorem dX7_lookAt_178 : decode cX7_lookAt 178 = .ok (.ifCond .lt 49, 3) := by decide +kernel
theorem dX7_lookAt_181 : decode cX7_lookAt 181 = .ok (.aload_n 0, 1) := by decide +kernel
theorem dX7_lookAt_182 : decode cX7_lookAt 182 = .ok (.getfield 23, 3) := by decide +kernel
theorem dX7_lookAt_185 : decode cX7_lookAt 185 = .ok (.aload 6, 2) := by decide +kernel
theorem dX7_lookAt_187 : decode cX7_lookAt 187 = .ok (.bipush 10, 2) := by decide +kernel
theorem dX7_lookAt_189 : decode cX7_lookAt 189 = .ok (.iaload, 1) := by decide +kernel
theorem dX7_lookAt_19 : decode cX7_lookAt 19 = .ok (.aload_n 0, 1) := by decide +kernel
theorem dX7_lookAt_190 : decode cX7_lookAt 190 = .ok (.invokevirtual 124, 3) := by decide +kernel
theorem dX7_lookAt_193 : decode cX7_lookAt 193 = .ok (.ifCond .eq 5, 3) := by decide +kernel
theorem dX7_lookAt_196 : decode cX7_lookAt 196 = .ok (.iconst 2, 1) := by decide +kernel
theorem dX7_lookAt_197 : decode cX7_lookAt 197 = .ok (.ireturn, 1) := by decide +kernel
theorem dX7_lookAt_198 : decode cX7_lookAt 198 = .ok (.aload_n 0, 1) := by decide +kernel
theorem dX7_lookAt_199 : decode cX7_lookAt 199 = .ok (.iconst (-1), 1) := by decide +kernel
theorem dX7_lookAt_20 : decode cX7_lookAt 20 = .ok (.getfield 23, 3) := by decide +kernel
theorem dX7_lookAt_200 : decode cX7_lookAt 200 = .ok (.aload_n 1, 1) := by decide +kernel
theorem dX7_lookAt_201 : decode cX7_lookAt 201 = .ok (.iload 8, 2) := by decide +kernel
theorem dX7_lookAt_203 : decode cX7_lookAt 203 = .ok (.invokevirtual 371, 3) := by decide +kernel
theorem dX7_lookAt_206 : decode cX7_lookAt 206 = .ok (.invokevirtual 374, 3) := by decide +kernel
theorem dX7_lookAt_209 : decode cX7_lookAt 209 = .ok (.istore 7, 2) := by decide +kernel
theorem dX7_lookAt_211 : decode cX7_lookAt 211 = .ok (.iload 7, 2) := by decide +kernel
theorem dX7_lookAt_213 : decode cX7_lookAt 213 = .ok (.iconst 1, 1) := by decide +kernel
theorem dX7_lookAt_214 : decode cX7_lookAt 214 = .ok (.if_icmp .eq 6, 3) := by decide +kernel
theorem dX7_lookAt_217 : decode cX7_lookAt 217 = .ok (.iload 7, 2) := by decide +kernel
theorem dX7_lookAt_219 : decode cX7_lookAt 219 = .ok (.ireturn, 1) := by decide +kernel
theorem dX7_lookAt_220 : decode cX7_lookAt 220 = .ok (.aload_n 0, 1) := by decide +kernel
theorem dX7_lookAt_221 : decode cX7_lookAt 221 = .ok (.getfield 23, 3) := by decide +kernel
theorem dX7_lookAt_224 : decode cX7_lookAt 224 = .ok (.invokevirtual 116, 3) := by decide +kernel
theorem dX7_lookAt_227 : decode cX7_lookAt 227 = .ok (.aload_n 0, 1) := by decide +kernel
theorem dX7_lookAt_228 : decode cX7_lookAt 228 = .ok (.getfield 23, 3) := by decide +kernel
theorem dX7_lookAt_23 : decode cX7_lookAt 23 = .ok (.invokevirtual 116, 3) := by decide +kernel
theorem dX7_lookAt_231 : decode cX7_lookAt 231 = .ok (.aload_n 0, 1) := by decide +kernel
theorem dX7_lookAt_232 : decode cX7_lookAt 232 = .ok (.getfield 15, 3) := by decide +kernel
theorem dX7_lookAt_235 : decode cX7_lookAt 235 = .ok (.getfield 377, 3) := by decide +kernel
theorem dX7_lookAt_238 : decode cX7_lookAt 238 = .ok (.aload_n 1, 1) := by decide +kernel
theorem dX7_lookAt_239 : decode cX7_lookAt 239 = .ok (.iload 8, 2) := by decide +kernel
theorem dX7_lookAt_241 : decode cX7_lookAt 241 = .ok (.iconst 0, 1) := by decide +kernel
theorem dX7_lookAt_242 : decode cX7_lookAt 242 = .ok (.invokevirtual 380, 3) := by decide +kernel
theorem dX7_lookAt_245 : decode cX7_lookAt 245 = .ok (.bipush 120, 2) := by decide +kernel
theorem dX7_lookAt_247 : decode cX7_lookAt 247 = .ok (.imul, 1) := by decide +kernel
theorem dX7_lookAt_248 : decode cX7_lookAt 248 = .ok (.invokevirtual 383, 3) := by decide +kernel
theorem dX7_lookAt_251 : decode cX7_lookAt 251 = .ok (.aload_n 0, 1) := by decide +kernel
theorem dX7_lookAt_252 : decode cX7_lookAt 252 = .ok (.getfield 23, 3) := by decide +kernel
theorem dX7_lookAt_255 : decode cX7_lookAt 255 = .ok (.aload 6, 2) := by decide +kernel
theorem dX7_lookAt_257 : decode cX7_lookAt 257 = .ok (.bipush 9, 2) := by decide +kernel
theorem dX7_lookAt_259 : decode cX7_lookAt 259 = .ok (.iaload, 1) := by decide +kernel
theorem dX7_lookAt_26 : decode cX7_lookAt 26 = .ok (.aload 6, 2) := by decide +kernel
theorem dX7_lookAt_260 : decode cX7_lookAt 260 = .ok (.invokevirtual 124, 3) := by decide +kernel
theorem dX7_lookAt_263 : decode cX7_lookAt 263 = .ok (.ifCond .eq 5, 3) := by decide +kernel
theorem dX7_lookAt_266 : decode cX7_lookAt 266 = .ok (.iconst 2, 1) := by decide +kernel
theorem dX7_lookAt_267 : decode cX7_lookAt 267 = .ok (.ireturn, 1) := by decide +kernel
theorem dX7_lookAt_268 : decode cX7_lookAt 268 = .ok (.aload_n 0, 1) := by decide +kernel
theorem dX7_lookAt_269 : decode cX7_lookAt 269 = .ok (.getfield 27, 3) := by decide +kernel
theorem dX7_lookAt_272 : decode cX7_lookAt 272 = .ok (.aload 6, 2) := by decide +kernel
theorem dX7_lookAt_274 : decode cX7_lookAt 274 = .ok (.bipush 8, 2) := by decide +kernel
theorem dX7_lookAt_276 : decode cX7_lookAt 276 = .ok (.iaload, 1) := by decide +kernel
theorem dX7_lookAt_277 : decode cX7_lookAt 277 = .ok (.aload_n 0, 1) := by decide +kernel
theorem dX7_lookAt_278 : decode cX7_lookAt 278 = .ok (.getfield 23, 3) := by decide +kernel
theorem dX7_lookAt_28 : decode cX7_lookAt 28 = .ok (.bipush 11, 2) := by decide +kernel
theorem dX7_lookAt_281 : decode cX7_lookAt 281 = .ok (.getfield 130, 3) := by decide +kernel
theorem dX7_lookAt_284 : decode cX7_lookAt 284 = .ok (.aload_n 0, 1) := by decide +kernel
theorem dX7_lookAt_285 : decode cX7_lookAt 285 = .ok (.getfield 23, 3) := by decide +kernel
theorem dX7_lookAt_288 : decode cX7_lookAt 288 = .ok (.invokevirtual 134, 3) := by decide +kernel
theorem dX7_lookAt_291 : decode cX7_lookAt 291 = .ok (.invokevirtual 387, 3) := by decide +kernel
theorem dX7_lookAt_294 : decode cX7_lookAt 294 = .ok (.ifCond .eq 7, 3) := by decide +kernel
theorem dX7_lookAt_297 : decode cX7_lookAt 297 = .ok (.iconst 1, 1) := by decide +kernel
theorem dX7_lookAt_298 : decode cX7_lookAt 298 = .ok (.goto 4, 3) := by decide +kernel
theorem dX7_lookAt_30 : decode cX7_lookAt 30 = .ok (.iaload, 1) := by decide +kernel
theorem dX7_lookAt_301 : decode cX7_lookAt 301 = .ok (.iconst 0, 1) := by decide +kernel
theorem dX7_lookAt_302 : decode cX7_lookAt 302 = .ok (.istore 7, 2) := by decide +kernel
theorem dX7_lookAt_304 : decode cX7_lookAt 304 = .ok (.goto 68, 3) := by decide +kernel
theorem dX7_lookAt_307 : decode cX7_lookAt 307 = .ok (.aload_n 1, 1) := by decide +kernel
theorem dX7_lookAt_308 : decode cX7_lookAt 308 = .ok (.getfield 249, 3) := by decide +kernel
theorem dX7_lookAt_31 : decode cX7_lookAt 31 = .ok (.ifCond .lt 64, 3) := by decide +kernel
theorem dX7_lookAt_311 : decode cX7_lookAt 311 = .ok (.aload 6, 2) := by decide +kernel
theorem dX7_lookAt_313 : decode cX7_lookAt 313 = .ok (.bipush 6, 2) := by decide +kernel
theorem dX7_lookAt_315 : decode cX7_lookAt 315 = .ok (.iaload, 1) := by decide +kernel
theorem dX7_lookAt_316 : decode cX7_lookAt 316 = .ok (.laload, 1) := by decide +kernel
theorem dX7_lookAt_317 : decode cX7_lookAt 317 = .ok (.lstore 9, 2) := by decide +kernel
theorem dX7_lookAt_319 : decode cX7_lookAt 319 = .ok (.lload 9, 2) := by decide +kernel
theorem dX7_lookAt_321 : decode cX7_lookAt 321 = .ok (.lconst 0, 1) := by decide +kernel
theorem dX7_lookAt_322 : decode cX7_lookAt 322 = .ok (.lcmp, 1) := by decide +kernel
theorem dX7_lookAt_323 : decode cX7_lookAt 323 = .ok (.ifCond .lt 49, 3) := by decide +kernel
theorem dX7_lookAt_326 : decode cX7_lookAt 326 = .ok (.lload 9, 2) := by decide +kernel
theorem dX7_lookAt_328 : decode cX7_lookAt 328 = .ok (.aload_n 0, 1) := by decide +kernel
theorem dX7_lookAt_329 : decode cX7_lookAt 329 = .ok (.getfield 46, 3) := by decide +kernel
theorem dX7_lookAt_332 : decode cX7_lookAt 332 = .ok (.lcmp, 1) := by decide +kernel
theorem dX7_lookAt_333 : decode cX7_lookAt 333 = .ok (.ifCond .gt 39, 3) := by decide +kernel
theorem dX7_lookAt_336 : decode cX7_lookAt 336 = .ok (.iconst 1, 1) := by decide +kernel
theorem dX7_lookAt_337 : decode cX7_lookAt 337 = .ok (.istore 7, 2) := by decide +kernel
theorem dX7_lookAt_339 : decode cX7_lookAt 339 = .ok (.goto 33, 3) := by decide +kernel
theorem dX7_lookAt_34 : decode cX7_lookAt 34 = .ok (.aload_n 0, 1) := by decide +kernel
theorem dX7_lookAt_342 : decode cX7_lookAt 342 = .ok (.aload_n 0, 1) := by decide +kernel
theorem dX7_lookAt_343 : decode cX7_lookAt 343 = .ok (.getfield 23, 3) := by decide +kernel
theorem dX7_lookAt_346 : decode cX7_lookAt 346 = .ok (.aload 6, 2) := by decide +kernel
theorem dX7_lookAt_348 : decode cX7_lookAt 348 = .ok (.iconst 5, 1) := by decide +kernel
theorem dX7_lookAt_349 : decode cX7_lookAt 349 = .ok (.iaload, 1) := by decide +kernel
theorem dX7_lookAt_35 : decode cX7_lookAt 35 = .ok (.getfield 23, 3) := by decide +kernel
theorem dX7_lookAt_350 : decode cX7_lookAt 350 = .ok (.invokevirtual 124, 3) := by decide +kernel
theorem dX7_lookAt_353 : decode cX7_lookAt 353 = .ok (.ifCond .eq 5, 3) := by decide +kernel
theorem dX7_lookAt_356 : decode cX7_lookAt 356 = .ok (.iconst 2, 1) := by decide +kernel
theorem dX7_lookAt_357 : decode cX7_lookAt 357 = .ok (.ireturn, 1) := by decide +kernel
theorem dX7_lookAt_358 : decode cX7_lookAt 358 = .ok (.aload_n 0, 1) := by decide +kernel
theorem dX7_lookAt_359 : decode cX7_lookAt 359 = .ok (.iconst 2, 1) := by decide +kernel
theorem dX7_lookAt_360 : decode cX7_lookAt 360 = .ok (.iconst (-1), 1) := by decide +kernel
theorem dX7_lookAt_361 : decode cX7_lookAt 361 = .ok (.invokevirtual 374, 3) := by decide +kernel
theorem dX7_lookAt_364 : decode cX7_lookAt 364 = .ok (.istore 7, 2) := by decide +kernel
theorem dX7_lookAt_366 : decode cX7_lookAt 366 = .ok (.goto 6, 3) := by decide +kernel
theorem dX7_lookAt_369 : decode cX7_lookAt 369 = .ok (.iconst 1, 1) := by decide +kernel
theorem dX7_lookAt_370 : decode cX7_lookAt 370 = .ok (.istore 7, 2) := by decide +kernel
theorem dX7_lookAt_372 : decode cX7_lookAt 372 = .ok (.iload 7, 2) := by decide +kernel
theorem dX7_lookAt_374 : decode cX7_lookAt 374 = .ok (.iconst 1, 1) := by decide +kernel
theorem dX7_lookAt_375 : decode cX7_lookAt 375 = .ok (.if_icmp .ne 19, 3) := by decide +kernel
theorem dX7_lookAt_378 : decode cX7_lookAt 378 = .ok (.aload_n 0, 1) := by decide +kernel
theorem dX7_lookAt_379 : decode cX7_lookAt 379 = .ok (.iload_n 2, 1) := by decide +kernel
theorem dX7_lookAt_38 : decode cX7_lookAt 38 = .ok (.aload 6, 2) := by decide +kernel
theorem dX7_lookAt_380 : decode cX7_lookAt 380 = .ok (.putfield 393, 3) := by decide +kernel
theorem dX7_lookAt_383 : decode cX7_lookAt 383 = .ok (.aload_n 0, 1) := by decide +kernel
theorem dX7_lookAt_384 : decode cX7_lookAt 384 = .ok (.iload 4, 2) := by decide +kernel
theorem dX7_lookAt_386 : decode cX7_lookAt 386 = .ok (.putfield 396, 3) := by decide +kernel
theorem dX7_lookAt_389 : decode cX7_lookAt 389 = .ok (.aload_n 0, 1) := by decide +kernel
theorem dX7_lookAt_390 : decode cX7_lookAt 390 = .ok (.iload_n 3, 1) := by decide +kernel
theorem dX7_lookAt_391 : decode cX7_lookAt 391 = .ok (.putfield 399, 3) := by decide +kernel
theorem dX7_lookAt_394 : decode cX7_lookAt 394 = .ok (.iload 7, 2) := by decide +kernel
theorem dX7_lookAt_396 : decode cX7_lookAt 396 = .ok (.ireturn, 1) := by decide +kernel
theorem dX7_lookAt_4 : decode cX7_lookAt 4 = .ok (.getfield 179, 3) := by decide +kernel
theorem dX7_lookAt_40 : decode cX7_lookAt 40 = .ok (.bipush 11, 2) := by decide +kernel
theorem dX7_lookAt_42 : decode cX7_lookAt 42 = .ok (.iaload, 1) := by decide +kernel
theorem dX7_lookAt_43 : decode cX7_lookAt 43 = .ok (.invokevirtual 124, 3) := by decide +kernel
theorem dX7_lookAt_46 : decode cX7_lookAt 46 = .ok (.ifCond .eq 5, 3) := by decide +kernel
theorem dX7_lookAt_49 : decode cX7_lookAt 49 = .ok (.iconst 2, 1) := by decide +kernel
theorem dX7_lookAt_50 : decode cX7_lookAt 50 = .ok (.ireturn, 1) := by decide +kernel
theorem dX7_lookAt_51 : decode cX7_lookAt 51 = .ok (.aload_n 0, 1) := by decide +kernel
theorem dX7_lookAt_52 : decode cX7_lookAt 52 = .ok (.getfield 23, 3) := by decide +kernel
theorem dX7_lookAt_55 : decode cX7_lookAt 55 = .ok (.invokevirtual 302, 3) := by decide +kernel
theorem dX7_lookAt_58 : decode cX7_lookAt 58 = .ok (.invokestatic 306, 3) := by decide +kernel
theorem dX7_lookAt_61 : decode cX7_lookAt 61 = .ok (.iconst 1, 1) := by decide +kernel
theorem dX7_lookAt_62 : decode cX7_lookAt 62 = .ok (.if_icmp .eq 9, 3) := by decide +kernel
theorem dX7_lookAt_65 : decode cX7_lookAt 65 = .ok (.aload_n 0, 1) := by decide +kernel
theorem dX7_lookAt_66 : decode cX7_lookAt 66 = .ok (.iconst 1, 1) := by decide +kernel
theorem dX7_lookAt_67 : decode cX7_lookAt 67 = .ok (.invokevirtual 365, 3) := by decide +kernel
theorem dX7_lookAt_7 : decode cX7_lookAt 7 = .ok (.iload_n 2, 1) := by decide +kernel
theorem dX7_lookAt_70 : decode cX7_lookAt 70 = .ok (.ireturn, 1) := by decide +kernel
theorem dX7_lookAt_71 : decode cX7_lookAt 71 = .ok (.aload_n 0, 1) := by decide +kernel
theorem dX7_lookAt_72 : decode cX7_lookAt 72 = .ok (.getfield 23, 3) := by decide +kernel
theorem dX7_lookAt_75 : decode cX7_lookAt 75 = .ok (.invokevirtual 302, 3) := by decide +kernel
theorem dX7_lookAt_78 : decode cX7_lookAt 78 = .ok (.invokestatic 309, 3) := by decide +kernel
theorem dX7_lookAt_8 : decode cX7_lookAt 8 = .ok (.aaload, 1) := by decide +kernel
theorem dX7_lookAt_81 : decode cX7_lookAt 81 = .ok (.lconst 0, 1) := by decide +kernel
theorem dX7_lookAt_82 : decode cX7_lookAt 82 = .ok (.lcmp, 1) := by decide +kernel
theorem dX7_lookAt_83 : decode cX7_lookAt 83 = .ok (.ifCond .ne 5, 3) := by decide +kernel
theorem dX7_lookAt_86 : decode cX7_lookAt 86 = .ok (.iconst 0, 1) := by decide +kernel
theorem dX7_lookAt_87 : decode cX7_lookAt 87 = .ok (.ireturn, 1) := by decide +kernel
theorem dX7_lookAt_88 : decode cX7_lookAt 88 = .ok (.aload_n 0, 1) := by decide +kernel
theorem dX7_lookAt_89 : decode cX7_lookAt 89 = .ok (.getfield 23, 3) := by decide +kernel
theorem dX7_lookAt_9 : decode cX7_lookAt 9 = .ok (.astore 6, 2) := by decide +kernel
theorem dX7_lookAt_92 : decode cX7_lookAt 92 = .ok (.invokevirtual 116, 3) := by decide +kernel
theorem dX7_lookAt_95 : decode cX7_lookAt 95 = .ok (.iconst 0, 1) := by decide +kernel
theorem dX7_lookAt_96 : decode cX7_lookAt 96 = .ok (.istore 7, 2) := by decide +kernel
theorem dX7_lookAt_98 : decode cX7_lookAt 98 = .ok (.aload 6, 2) := by decide +kernel
theorem dX7_lookInStep_0 : decode cX7_lookInStep 0 = .ok (.aload_n 0, 1) := by decide +kernel
theorem dX7_lookInStep_1 : decode cX7_lookInStep 1 = .ok (.getfield 23, 3) := by decide +kernel
theorem dX7_lookInStep_10 : decode cX7_lookInStep 10 = .ok (.ifCond .eq 5, 3) := by decide +kernel
theorem dX7_lookInStep_13 : decode cX7_lookInStep 13 = .ok (.iconst 2, 1) := by decide +kernel
theorem dX7_lookInStep_14 : decode cX7_lookInStep 14 = .ok (.ireturn, 1) := by decide +kernel
theorem dX7_lookInStep_15 : decode cX7_lookInStep 15 = .ok (.iload_n 3, 1) := by decide +kernel
theorem dX7_lookInStep_16 : decode cX7_lookInStep 16 = .ok (.iconst 4, 1) := by decide +kernel
theorem dX7_lookInStep_17 : decode cX7_lookInStep 17 = .ok (.if_icmp .lt 10, 3) := by decide +kernel
theorem dX7_lookInStep_20 : decode cX7_lookInStep 20 = .ok (.aload_n 0, 1) := by decide +kernel
theorem dX7_lookInStep_21 : decode cX7_lookInStep 21 = .ok (.bipush 7, 2) := by decide +kernel
theorem dX7_lookInStep_23 : decode cX7_lookInStep 23 = .ok (.invokevirtual 365, 3) := by decide +kernel
theorem dX7_lookInStep_26 : decode cX7_lookInStep 26 = .ok (.ireturn, 1) := by decide +kernel
theorem dX7_lookInStep_27 : decode cX7_lookInStep 27 = .ok (.sipush 576, 3) := by decide +kernel
theorem dX7_lookInStep_30 : decode cX7_lookInStep 30 = .ok (.iload_n 3, 1) := by decide +kernel
theorem dX7_lookInStep_31 : decode cX7_lookInStep 31 = .ok (.bipush 8, 2) := by decide +kernel
theorem dX7_lookInStep_33 : decode cX7_lookInStep 33 = .ok (.imul, 1) := by decide +kernel
theorem dX7_lookInStep_34 : decode cX7_lookInStep 34 = .ok (.iadd, 1) := by decide +kernel
theorem dX7_lookInStep_35 : decode cX7_lookInStep 35 = .ok (.istore 4, 2) := by decide +kernel
theorem dX7_lookInStep_37 : decode cX7_lookInStep 37 = .ok (.aload_n 0, 1) := by decide +kernel
theorem dX7_lookInStep_38 : decode cX7_lookInStep 38 = .ok (.iload 4, 2) := by decide +kernel
theorem dX7_lookInStep_4 : decode cX7_lookInStep 4 = .ok (.aload_n 2, 1) := by decide +kernel
theorem dX7_lookInStep_40 : decode cX7_lookInStep 40 = .ok (.iconst 0, 1) := by decide +kernel
theorem dX7_lookInStep_41 : decode cX7_lookInStep 41 = .ok (.invokevirtual 319, 3) := by decide +kernel
theorem dX7_lookInStep_44 : decode cX7_lookInStep 44 = .ok (.aload_n 2, 1) := by decide +kernel
theorem dX7_lookInStep_45 : decode cX7_lookInStep 45 = .ok (.bipush 6, 2) := by decide +kernel
theorem dX7_lookInStep_47 : decode cX7_lookInStep 47 = .ok (.iaload, 1) := by decide +kernel
theorem dX7_lookInStep_48 : decode cX7_lookInStep 48 = .ok (.istore 5, 2) := by decide +kernel
theorem dX7_lookInStep_5 : decode cX7_lookInStep 5 = .ok (.iconst 5, 1) := by decide +kernel
theorem dX7_lookInStep_50 : decode cX7_lookInStep 50 = .ok (.aload_n 0, 1) := by decide +kernel
theorem dX7_lookInStep_51 : decode cX7_lookInStep 51 = .ok (.aload_n 1, 1) := by decide +kernel
theorem dX7_lookInStep_52 : decode cX7_lookInStep 52 = .ok (.aload_n 0, 1) := by decide +kernel
theorem dX7_lookInStep_53 : decode cX7_lookInStep 53 = .ok (.getfield 31, 3) := by decide +kernel
theorem dX7_lookInStep_56 : decode cX7_lookInStep 56 = .ok (.getfield 85, 3) := by decide +kernel
theorem dX7_lookInStep_59 : decode cX7_lookInStep 59 = .ok (.iload 5, 2) := by decide +kernel
theorem dX7_lookInStep_6 : decode cX7_lookInStep 6 = .ok (.iaload, 1) := by decide +kernel
theorem dX7_lookInStep_61 : decode cX7_lookInStep 61 = .ok (.iaload, 1) := by decide +kernel
theorem dX7_lookInStep_62 : decode cX7_lookInStep 62 = .ok (.iload 4, 2) := by decide +kernel
theorem dX7_lookInStep_64 : decode cX7_lookInStep 64 = .ok (.iload 5, 2) := by decide +kernel
theorem dX7_lookInStep_66 : decode cX7_lookInStep 66 = .ok (.iload_n 3, 1) := by decide +kernel
theorem dX7_lookInStep_67 : decode cX7_lookInStep 67 = .ok (.iconst 1, 1) := by decide +kernel
theorem dX7_lookInStep_68 : decode cX7_lookInStep 68 = .ok (.iadd, 1) := by decide +kernel
theorem dX7_lookInStep_69 : decode cX7_lookInStep 69 = .ok (.invokevirtual 358, 3) := by decide +kernel
theorem dX7_lookInStep_7 : decode cX7_lookInStep 7 = .ok (.invokevirtual 124, 3) := by decide +kernel
theorem dX7_lookInStep_72 : decode cX7_lookInStep 72 = .ok (.ireturn, 1) := by decide +kernel
abbrev RT_X7_lookAt : Type := (Nat → Int32 → Int32 → Int32 → Int32 → t_S → Option (Int32 × t_S)) × (Nat → Int32 → Int32 → Int32 → Int32 → t_S → Option (Int32 × t_S)) × (Nat → Nat → Int32 → t_S → Option (Int32 × t_S))
def RH_X7_lookAt (rc : RT_X7_lookAt) (k : Nat) : Prop := (∀ (x1 : Nat) (x2 : Int32) (x3 : Int32) (x4 : Int32) (x5 : Int32) (s : t_S) (r : Int32 × t_S), rc.1 x1 x2 x3 x4 x5 s = some r → t_C yX7_lookAt cX7_lookAt 11 (some .int) (406 + k) [.ref 864, .ref x1, .int x2, .int x3, .int x4, .int x5] s (fun v s' => v = some (.int r.1) ∧ s' = r.2)) ∧ (∀ (x1 : Nat) (x2 : Int32) (x3 : Int32) (x4 : Int32) (x5 : Int32) (s : t_S) (r : Int32 × t_S), rc.2.1 x1 x2 x3 x4 x5 s = some r → t_C yX7_lookAtAll cX7_lookAtAll 9 (some .int) (406 + k) [.ref 864, .ref x1, .int x2, .int x3, .int x4, .int x5] s (fun v s' => v = some (.int r.1) ∧ s' = r.2)) ∧ (∀ (x1 : Nat) (x2 : Nat) (x3 : Int32) (s : t_S) (r : Int32 × t_S), rc.2.2 x1 x2 x3 s = some r → t_C yX7_lookInStep cX7_lookInStep 6 (some .int) (406 + k) [.ref 864, .ref x1, .ref x2, .int x3] s (fun v s' => v = some (.int r.1) ∧ s' = r.2))
noncomputable def k_X7_lookAt_372 (rc : RT_X7_lookAt) (l2 : Int32) (l3 : Int32) (l4 : Int32) (l7 : Int32) (s : t_S) : Option (Int32 × t_S) :=
 if l7 = (1 : Int32) then (t_let (t_setI s 864 9 l2) (fun s1 =>
 t_let (t_setI s1 864 10 l4) (fun s2 =>
 t_let (t_setI s2 864 11 l3) (fun s3 =>
 some (l7, s3)))))
 else (some (l7, s))
set_option maxRecDepth 4000 in
set_option maxHeartbeats 1000000 in
theorem B_X7_lookAt_372 {D : va_G} {cy : Nat → ClassId} {ad : Nat → Nat} {bs : Nat} {X : State → Heap → Prop} (rc : RT_X7_lookAt) {k : Nat} (H : RH_X7_lookAt rc k) (l2 : Int32) (l3 : Int32) (l4 : Int32) (l7 : Int32) (s : t_S) (Q : Int32 × t_S → Prop) (hk : t_hk (k_X7_lookAt_372 rc l2 l3 l4 l7 s) Q) : mj_G D cy ad bs X cX7_lookAt 11 yX7_lookAt.cls (some .int) yX7_lookAt.name (406 + (k + 1)) 0 0 1065 (t_P (fun v s' => ∃ x, v = some (.int x) ∧ Q ((x, s')))) 372 [(0, .ref 864), (2, .int l2), (3, .int l3), (4, .int l4), (7, .int l7)] [] (t_m s) 1065 0 0 := by
  refine mj_iload dX7_lookAt_372 4 rfl ?_
  refine mj_iconst (v := 1) dX7_lookAt_374 (by decide) ?_
  refine mj_icmp_ne 394 dX7_lookAt_375 (by decide) (fun z => t_negK hk z (fun hk => ?_)) (fun z => t_posK hk z (fun hk => ?_))
  · refine mj_iload dX7_lookAt_394 4 rfl ?_
    exact t_somK hk (fun hf => t_iret dX7_lookAt_396 rfl rfl ⟨_, rfl, hf⟩ (Nat.le_of_ble_eq_true rfl) (Nat.le_of_ble_eq_true rfl))
  · refine mj_aload_n dX7_lookAt_378 0 rfl ?_
    refine mj_iload_n dX7_lookAt_379 1 rfl ?_
    refine t_putIK dX7_lookAt_380 F_X7_393 qf_864_9 rfl (fun s1 ws1 => t_letE hk ws1 (fun hk => ?_))
    refine mj_aload_n dX7_lookAt_383 0 rfl ?_
    refine mj_iload dX7_lookAt_384 3 rfl ?_
    refine t_putIK dX7_lookAt_386 F_X7_396 qf_864_10 rfl (fun s2 ws2 => t_letE hk ws2 (fun hk => ?_))
    refine mj_aload_n dX7_lookAt_389 0 rfl ?_
    refine mj_iload_n dX7_lookAt_390 2 rfl ?_
    refine t_putIK dX7_lookAt_391 F_X7_399 qf_864_11 rfl (fun s3 ws3 => t_letE hk ws3 (fun hk => ?_))
    refine mj_iload dX7_lookAt_394 4 rfl ?_
    exact t_somK hk (fun hf => t_iret dX7_lookAt_396 rfl rfl ⟨_, rfl, hf⟩ (Nat.le_of_ble_eq_true rfl) (Nat.le_of_ble_eq_true rfl))
noncomputable def k_X7_lookAt_302 (rc : RT_X7_lookAt) (l2 : Int32) (l3 : Int32) (l4 : Int32) (k0 : Int32) (s : t_S) : Option (Int32 × t_S) :=
 k_X7_lookAt_372 rc l2 l3 l4 k0 s
set_option maxRecDepth 4000 in
set_option maxHeartbeats 1000000 in
theorem B_X7_lookAt_302 {D : va_G} {cy : Nat → ClassId} {ad : Nat → Nat} {bs : Nat} {X : State → Heap → Prop} (rc : RT_X7_lookAt) {k : Nat} (H : RH_X7_lookAt rc k) (l2 : Int32) (l3 : Int32) (l4 : Int32) (k0 : Int32) (s : t_S) (Q : Int32 × t_S → Prop) (hk : t_hk (k_X7_lookAt_302 rc l2 l3 l4 k0 s) Q) : mj_G D cy ad bs X cX7_lookAt 11 yX7_lookAt.cls (some .int) yX7_lookAt.name (406 + (k + 1)) 0 0 1065 (t_P (fun v s' => ∃ x, v = some (.int x) ∧ Q ((x, s')))) 302 [(0, .ref 864), (2, .int l2), (3, .int l3), (4, .int l4)] [.int k0] (t_m s) 1065 0 0 := by
  refine mj_istore (lv2 := [(7, .int k0), (0, .ref 864), (2, .int l2), (3, .int l3), (4, .int l4)]) dX7_lookAt_302 (by decide) rfl ?_
  refine mj_goto 372 dX7_lookAt_304 (by decide) ?_
  refine mj_sublv [(0, .ref 864), (2, .int l2), (3, .int l3), (4, .int l4), (7, .int k0)] [1, 2, 3, 4, 0] rfl ?_
  exact B_X7_lookAt_372 rc H _ _ _ _ _ _ hk
noncomputable def k_X7_lookAt_227 (rc : RT_X7_lookAt) (l1 : Nat) (l2 : Int32) (l3 : Int32) (l4 : Int32) (l6 : Nat) (l8 : Int32) (s : t_S) : Option (Int32 × t_S) :=
 if t_isP l1 = true then
  (f_X4_queueSlot l1 l8 (0 : Int32) s).bind (fun r2 =>
 (f_X0_pushFrom 13 (r2 * (120 : Int32)) s).bind (fun r3 =>
 if t_oka l6 1 (t_ln l6) = true then
  if t_ix (9 : Int32) (t_ln l6) = true then
  (f_X0_work (r3.1 l6 ((9 : Int32).toNatClampNeg)) r3).bind (fun r6 =>
 if r6.1 = (0 : Int32) then (if t_ix (8 : Int32) (t_ln l6) = true then
  (f_X0_topAt r6.2).bind (fun r8 =>
 (f_X10_meets (r6.2.1 l6 ((8 : Int32).toNatClampNeg)) 338 r8 r6.2).bind (fun r9 =>
 if r9.1 = (0 : Int32) then (k_X7_lookAt_302 rc l2 l3 l4 0 r9.2)
 else (k_X7_lookAt_302 rc l2 l3 l4 1 r9.2)))
else none)
 else (some ((2 : Int32), r6.2)))
else none
else none))
else none
set_option maxRecDepth 4000 in
set_option maxHeartbeats 1000000 in
theorem B_X7_lookAt_227 {D : va_G} {cy : Nat → ClassId} {ad : Nat → Nat} {bs : Nat} {X : State → Heap → Prop} (rc : RT_X7_lookAt) {k : Nat} (H : RH_X7_lookAt rc k) (l1 : Nat) (l2 : Int32) (l3 : Int32) (l4 : Int32) (l6 : Nat) (l8 : Int32) (s : t_S) (Q : Int32 × t_S → Prop) (hk : t_hk (k_X7_lookAt_227 rc l1 l2 l3 l4 l6 l8 s) Q) : mj_G D cy ad bs X cX7_lookAt 11 yX7_lookAt.cls (some .int) yX7_lookAt.name (406 + (k + 1)) 0 0 1065 (t_P (fun v s' => ∃ x, v = some (.int x) ∧ Q ((x, s')))) 227 [(0, .ref 864), (1, .ref l1), (2, .int l2), (3, .int l3), (4, .int l4), (6, .ref l6), (8, .int l8)] [] (t_m s) 1065 0 0 := by
  refine mj_aload_n dX7_lookAt_227 0 rfl ?_
  refine t_getR 334 dX7_lookAt_228 F_X7_23 qr_864_2 ?_
  refine mj_aload_n dX7_lookAt_231 0 rfl ?_
  refine t_getR 12 dX7_lookAt_232 F_X7_15 qr_864_0 ?_
  refine t_getR 13 dX7_lookAt_235 F_X7_377 qr_12_0 ?_
  refine mj_aload_n dX7_lookAt_238 1 rfl ?_
  refine mj_iload dX7_lookAt_239 6 rfl ?_
  refine mj_iconst (v := 0) dX7_lookAt_241 (by decide) ?_
  refine t_chkK hk (fun c0 hk => ?_)
  refine t_bndK hk (fun r2 er2 hk => ?_)
  refine t_callViP dX7_lookAt_242 M_X4_queueSlot (C_X4_queueSlot _ _ _ _ _ er2) ML_X7_380 IM_X4_queueSlot SE_X4_queueSlot (t_pc c0) rfl (As := [.int l8, .int 0]) rfl rfl (by omega) (Nat.le_of_ble_eq_true rfl) (Nat.le_of_ble_eq_true rfl) (Nat.le_of_ble_eq_true rfl) ?_
  refine mj_bipush (v := 120) dX7_lookAt_245 (by decide) ?_
  refine mj_imul dX7_lookAt_247 ?_
  refine t_bndK hk (fun r3 er3 hk => ?_)
  refine t_callVvE dX7_lookAt_248 M_X0_pushFrom (C_X0_pushFrom _ _ _ _ er3) ML_X7_383 IM_X0_pushFrom SE_X0_pushFrom qc_334 rfl (As := [.ref 13, .int (r2 * (120 : Int32))]) rfl rfl (by omega) (Nat.le_of_ble_eq_true rfl) (Nat.le_of_ble_eq_true rfl) (Nat.le_of_ble_eq_true rfl) ?_
  refine mj_aload_n dX7_lookAt_251 0 rfl ?_
  refine t_getR 334 dX7_lookAt_252 F_X7_23 qr_864_2 ?_
  refine mj_aload dX7_lookAt_255 5 rfl ?_
  refine mj_bipush (v := 9) dX7_lookAt_257 (by decide) ?_
  refine t_chkK hk (fun c3 hk => ?_)
  refine t_chkK hk (fun c4 hk => ?_)
  refine t_iald dX7_lookAt_259 c3 (t_ixv c4) ?_
  refine t_bndK hk (fun r6 er6 hk => ?_)
  refine t_callViE dX7_lookAt_260 M_X0_work (C_X0_work _ _ _ er6) ML_X7_124 IM_X0_work SE_X0_work qc_334 rfl (As := [.int (r3.1 l6 ((9 : Int32).toNatClampNeg))]) rfl rfl (by omega) (Nat.le_of_ble_eq_true rfl) (Nat.le_of_ble_eq_true rfl) (Nat.le_of_ble_eq_true rfl) ?_
  refine mj_if_eq 268 dX7_lookAt_263 (by decide) (fun z => t_posK hk z (fun hk => ?_)) (fun z => t_negK hk z (fun hk => ?_))
  · refine mj_aload_n dX7_lookAt_268 0 rfl ?_
    refine t_getR 353 dX7_lookAt_269 F_X7_27 qr_864_3 ?_
    refine mj_aload dX7_lookAt_272 5 rfl ?_
    refine mj_bipush (v := 8) dX7_lookAt_274 (by decide) ?_
    refine t_chkK hk (fun c6 hk => ?_)
    refine t_iald dX7_lookAt_276 c3 (t_ixv c6) ?_
    refine mj_aload_n dX7_lookAt_277 0 rfl ?_
    refine t_getR 334 dX7_lookAt_278 F_X7_23 qr_864_2 ?_
    refine t_getR 338 dX7_lookAt_281 F_X7_130 qr_334_5 ?_
    refine mj_aload_n dX7_lookAt_284 0 rfl ?_
    refine t_getR 334 dX7_lookAt_285 F_X7_23 qr_864_2 ?_
    refine t_bndK hk (fun r8 er8 hk => ?_)
    refine t_callViP dX7_lookAt_288 M_X0_topAt (C_X0_topAt _ _ er8) ML_X7_134 IM_X0_topAt SE_X0_topAt qc_334 rfl (As := []) rfl rfl (by omega) (Nat.le_of_ble_eq_true rfl) (Nat.le_of_ble_eq_true rfl) (Nat.le_of_ble_eq_true rfl) ?_
    refine t_bndK hk (fun r9 er9 hk => ?_)
    refine t_callViE dX7_lookAt_291 M_X10_meets (C_X10_meets _ _ _ _ _ er9) ML_X7_387 IM_X10_meets SE_X10_meets qc_353 rfl (As := [.int (r6.2.1 l6 ((8 : Int32).toNatClampNeg)), .ref 338, .int r8]) rfl rfl (by omega) (Nat.le_of_ble_eq_true rfl) (Nat.le_of_ble_eq_true rfl) (Nat.le_of_ble_eq_true rfl) ?_
    refine mj_if_eq 301 dX7_lookAt_294 (by decide) (fun z => t_posK hk z (fun hk => ?_)) (fun z => t_negK hk z (fun hk => ?_))
    · refine mj_iconst (v := 0) dX7_lookAt_301 (by decide) ?_
      refine mj_sublv [(0, .ref 864), (2, .int l2), (3, .int l3), (4, .int l4)] [0, 2, 3, 4] rfl ?_
      exact B_X7_lookAt_302 rc H _ _ _ _ _ _ hk
    · refine mj_iconst (v := 1) dX7_lookAt_297 (by decide) ?_
      refine mj_goto 302 dX7_lookAt_298 (by decide) ?_
      refine mj_sublv [(0, .ref 864), (2, .int l2), (3, .int l3), (4, .int l4)] [0, 2, 3, 4] rfl ?_
      exact B_X7_lookAt_302 rc H _ _ _ _ _ _ hk
  · refine mj_iconst (v := 2) dX7_lookAt_266 (by decide) ?_
    exact t_somK hk (fun hf => t_iret dX7_lookAt_267 rfl rfl ⟨_, rfl, hf⟩ (Nat.le_of_ble_eq_true rfl) (Nat.le_of_ble_eq_true rfl))
noncomputable def k_X7_lookAt_95 (rc : RT_X7_lookAt) (l1 : Nat) (l2 : Int32) (l3 : Int32) (l4 : Int32) (l5 : Int32) (l6 : Nat) (s : t_S) : Option (Int32 × t_S) :=
 if t_oka l6 1 (t_ln l6) = true then
  if t_ix (0 : Int32) (t_ln l6) = true then
  if (s.1 l6 ((0 : Int32).toNatClampNeg)).toInt = 11 then (if t_ix (6 : Int32) (t_ln l6) = true then
  if t_isP l1 = true then
  if t_ix (s.1 l6 ((6 : Int32).toNatClampNeg)) 6 = true then
  if (s.1 (l1 + 7) ((s.1 l6 ((6 : Int32).toNatClampNeg)).toNatClampNeg)) = (0 : Int32) then (some ((0 : Int32), s))
 else (if t_ix (10 : Int32) (t_ln l6) = true then
  if (s.1 l6 ((10 : Int32).toNatClampNeg)) < (0 : Int32) then (k_X7_lookAt_227 rc l1 l2 l3 l4 l6 (s.1 l6 ((6 : Int32).toNatClampNeg)) s)
 else ((f_X0_work (s.1 l6 ((10 : Int32).toNatClampNeg)) s).bind (fun r7 =>
 if r7.1 = (0 : Int32) then ((f_X4_sender l1 (s.1 l6 ((6 : Int32).toNatClampNeg)) r7.2).bind (fun r8 =>
 (f_X7_lookAtPart (-1 : Int32) r8 r7.2).bind (fun r9 =>
 if r9.1 = (1 : Int32) then ((f_X0_clear r9.2).bind (fun r10 =>
 k_X7_lookAt_227 rc l1 l2 l3 l4 l6 (s.1 l6 ((6 : Int32).toNatClampNeg)) r10))
 else (some (r9.1, r9.2)))))
 else (some ((2 : Int32), r7.2))))
else none)
else none
else none
else none)
 else if (s.1 l6 ((0 : Int32).toNatClampNeg)).toInt = 12 then (if t_isP l1 = true then
  if t_ix (6 : Int32) (t_ln l6) = true then
  if t_ix (s.1 l6 ((6 : Int32).toNatClampNeg)) 4 = true then
  if (lg_cmp (s.2.1 (l1 + 9) ((s.1 l6 ((6 : Int32).toNatClampNeg)).toNatClampNeg)) (0 : Int64)) < (0 : Int32) then (k_X7_lookAt_372 rc l2 l3 l4 0 s)
 else (if (0 : Int32) < (lg_cmp (s.2.1 (l1 + 9) ((s.1 l6 ((6 : Int32).toNatClampNeg)).toNatClampNeg)) (s.2.1 864 7)) then (k_X7_lookAt_372 rc l2 l3 l4 0 s)
 else (k_X7_lookAt_372 rc l2 l3 l4 1 s))
else none
else none
else none)
 else if (s.1 l6 ((0 : Int32).toNatClampNeg)).toInt = 13 then (if t_ix (5 : Int32) (t_ln l6) = true then
  (f_X0_work (s.1 l6 ((5 : Int32).toNatClampNeg)) s).bind (fun r15 =>
 if r15.1 = (0 : Int32) then ((f_X7_lookAtPart (2 : Int32) (-1 : Int32) r15.2).bind (fun r16 =>
 k_X7_lookAt_372 rc l2 l3 l4 r16.1 r16.2))
 else (some ((2 : Int32), r15.2)))
else none)
 else if (s.1 l6 ((0 : Int32).toNatClampNeg)).toInt = 23 then ((rc.2.2 l1 l6 l5 s).bind (fun r17 =>
 some (r17.1, r17.2)))
 else (k_X7_lookAt_372 rc l2 l3 l4 1 s)
else none
else none
set_option maxRecDepth 4000 in
set_option maxHeartbeats 1000000 in
theorem B_X7_lookAt_95 {D : va_G} {cy : Nat → ClassId} {ad : Nat → Nat} {bs : Nat} {X : State → Heap → Prop} (rc : RT_X7_lookAt) {k : Nat} (H : RH_X7_lookAt rc k) (l1 : Nat) (l2 : Int32) (l3 : Int32) (l4 : Int32) (l5 : Int32) (l6 : Nat) (s : t_S) (Q : Int32 × t_S → Prop) (hk : t_hk (k_X7_lookAt_95 rc l1 l2 l3 l4 l5 l6 s) Q) : mj_G D cy ad bs X cX7_lookAt 11 yX7_lookAt.cls (some .int) yX7_lookAt.name (406 + (k + 1)) 0 0 1065 (t_P (fun v s' => ∃ x, v = some (.int x) ∧ Q ((x, s')))) 95 [(0, .ref 864), (1, .ref l1), (2, .int l2), (3, .int l3), (4, .int l4), (5, .int l5), (6, .ref l6)] [] (t_m s) 1065 0 0 := by
  refine mj_iconst (v := 0) dX7_lookAt_95 (by decide) ?_
  refine mj_istore (lv2 := [(7, .int 0), (0, .ref 864), (1, .ref l1), (2, .int l2), (3, .int l3), (4, .int l4), (5, .int l5), (6, .ref l6)]) dX7_lookAt_96 (by decide) rfl ?_
  refine mj_aload dX7_lookAt_98 7 rfl ?_
  refine mj_iconst (v := 0) dX7_lookAt_100 (by decide) ?_
  refine t_chkK hk (fun c0 hk => ?_)
  refine t_chkK hk (fun c1 hk => ?_)
  refine t_iald dX7_lookAt_101 c0 (t_ixv c1) ?_
  by_cases h0 : (s.1 l6 ((0 : Int32).toNatClampNeg)).toInt = 11
  · replace hk := t_pos hk h0
    refine mj_lookup 154 dX7_lookAt_102 (by decide) (by rw [h0] <;> rfl) (by decide) ?_
    refine mj_aload dX7_lookAt_154 7 rfl ?_
    refine mj_bipush (v := 6) dX7_lookAt_156 (by decide) ?_
    refine t_chkK hk (fun c2 hk => ?_)
    refine t_iald dX7_lookAt_158 c0 (t_ixv c2) ?_
    refine mj_istore (lv2 := [(8, .int (s.1 l6 ((6 : Int32).toNatClampNeg))), (7, .int 0), (0, .ref 864), (1, .ref l1), (2, .int l2), (3, .int l3), (4, .int l4), (5, .int l5), (6, .ref l6)]) dX7_lookAt_159 (by decide) rfl ?_
    refine mj_aload_n dX7_lookAt_161 3 rfl ?_
    refine t_chkK hk (fun c3 hk => ?_)
    refine t_getR (l1 + 7) dX7_lookAt_162 F_X7_203 (t_pr14 c3) ?_
    refine mj_iload dX7_lookAt_165 0 rfl ?_
    refine t_chkK hk (fun c4 hk => ?_)
    refine t_iald dX7_lookAt_167 (t_pa14 c3) (t_ixv c4) ?_
    refine mj_if_ne 173 dX7_lookAt_168 (by decide) (fun z => t_negK hk z (fun hk => ?_)) (fun z => t_posK hk z (fun hk => ?_))
    · refine mj_aload dX7_lookAt_173 8 rfl ?_
      refine mj_bipush (v := 10) dX7_lookAt_175 (by decide) ?_
      refine t_chkK hk (fun c5 hk => ?_)
      refine t_iald dX7_lookAt_177 c0 (t_ixv c5) ?_
      refine mj_if_lt 227 dX7_lookAt_178 (by decide) (fun z => t_posK hk z (fun hk => ?_)) (fun z => t_negK hk z (fun hk => ?_))
      · refine mj_sublv [(0, .ref 864), (1, .ref l1), (2, .int l2), (3, .int l3), (4, .int l4), (6, .ref l6), (8, .int (s.1 l6 ((6 : Int32).toNatClampNeg)))] [2, 3, 4, 5, 6, 8, 0] rfl ?_
        exact B_X7_lookAt_227 rc H _ _ _ _ _ _ _ _ hk
      · refine mj_aload_n dX7_lookAt_181 2 rfl ?_
        refine t_getR 334 dX7_lookAt_182 F_X7_23 qr_864_2 ?_
        refine mj_aload dX7_lookAt_185 8 rfl ?_
        refine mj_bipush (v := 10) dX7_lookAt_187 (by decide) ?_
        refine t_iald dX7_lookAt_189 c0 (t_ixv c5) ?_
        refine t_bndK hk (fun r7 er7 hk => ?_)
        refine t_callViE dX7_lookAt_190 M_X0_work (C_X0_work _ _ _ er7) ML_X7_124 IM_X0_work SE_X0_work qc_334 rfl (As := [.int (s.1 l6 ((10 : Int32).toNatClampNeg))]) rfl rfl (by omega) (Nat.le_of_ble_eq_true rfl) (Nat.le_of_ble_eq_true rfl) (Nat.le_of_ble_eq_true rfl) ?_
        refine mj_if_eq 198 dX7_lookAt_193 (by decide) (fun z => t_posK hk z (fun hk => ?_)) (fun z => t_negK hk z (fun hk => ?_))
        · refine mj_aload_n dX7_lookAt_198 2 rfl ?_
          refine mj_iconst (v := (-1)) dX7_lookAt_199 (by decide) ?_
          refine mj_aload_n dX7_lookAt_200 3 rfl ?_
          refine mj_iload dX7_lookAt_201 0 rfl ?_
          refine t_bndK hk (fun r8 er8 hk => ?_)
          refine t_callViP dX7_lookAt_203 M_X4_sender (C_X4_sender _ _ _ _ er8) ML_X7_371 IM_X4_sender SE_X4_sender (t_pc c3) rfl (As := [.int (s.1 l6 ((6 : Int32).toNatClampNeg))]) rfl rfl (by omega) (Nat.le_of_ble_eq_true rfl) (Nat.le_of_ble_eq_true rfl) (Nat.le_of_ble_eq_true rfl) ?_
          refine t_bndK hk (fun r9 er9 hk => ?_)
          refine t_callViE dX7_lookAt_206 M_X7_lookAtPart (C_X7_lookAtPart _ _ _ _ er9) ML_X7_374 IM_X7_lookAtPart SE_X7_lookAtPart qc_864 rfl (As := [.int (-1), .int r8]) rfl rfl (by omega) (Nat.le_of_ble_eq_true rfl) (Nat.le_of_ble_eq_true rfl) (Nat.le_of_ble_eq_true rfl) ?_
          refine mj_istore (lv2 := [(7, .int r9.1), (8, .int (s.1 l6 ((6 : Int32).toNatClampNeg))), (0, .ref 864), (1, .ref l1), (2, .int l2), (3, .int l3), (4, .int l4), (5, .int l5), (6, .ref l6)]) dX7_lookAt_209 (by decide) rfl ?_
          refine mj_iload dX7_lookAt_211 0 rfl ?_
          refine mj_iconst (v := 1) dX7_lookAt_213 (by decide) ?_
          refine mj_icmp_eq 220 dX7_lookAt_214 (by decide) (fun z => t_posK hk z (fun hk => ?_)) (fun z => t_negK hk z (fun hk => ?_))
          · refine mj_aload_n dX7_lookAt_220 2 rfl ?_
            refine t_getR 334 dX7_lookAt_221 F_X7_23 qr_864_2 ?_
            refine t_bndK hk (fun r10 er10 hk => ?_)
            refine t_callVvE dX7_lookAt_224 M_X0_clear (C_X0_clear _ _ er10) ML_X7_116 IM_X0_clear SE_X0_clear qc_334 rfl (As := []) rfl rfl (by omega) (Nat.le_of_ble_eq_true rfl) (Nat.le_of_ble_eq_true rfl) (Nat.le_of_ble_eq_true rfl) ?_
            refine mj_sublv [(0, .ref 864), (1, .ref l1), (2, .int l2), (3, .int l3), (4, .int l4), (6, .ref l6), (8, .int (s.1 l6 ((6 : Int32).toNatClampNeg)))] [2, 3, 4, 5, 6, 8, 1] rfl ?_
            exact B_X7_lookAt_227 rc H _ _ _ _ _ _ _ _ hk
          · refine mj_iload dX7_lookAt_217 0 rfl ?_
            exact t_somK hk (fun hf => t_iret dX7_lookAt_219 rfl rfl ⟨_, rfl, hf⟩ (Nat.le_of_ble_eq_true rfl) (Nat.le_of_ble_eq_true rfl))
        · refine mj_iconst (v := 2) dX7_lookAt_196 (by decide) ?_
          exact t_somK hk (fun hf => t_iret dX7_lookAt_197 rfl rfl ⟨_, rfl, hf⟩ (Nat.le_of_ble_eq_true rfl) (Nat.le_of_ble_eq_true rfl))
    · refine mj_iconst (v := 0) dX7_lookAt_171 (by decide) ?_
      exact t_somK hk (fun hf => t_iret dX7_lookAt_172 rfl rfl ⟨_, rfl, hf⟩ (Nat.le_of_ble_eq_true rfl) (Nat.le_of_ble_eq_true rfl))
  replace hk := t_neg hk h0
  by_cases h1 : (s.1 l6 ((0 : Int32).toNatClampNeg)).toInt = 12
  · replace hk := t_pos hk h1
    refine mj_lookup 307 dX7_lookAt_102 (by decide) (by rw [h1] <;> rfl) (by decide) ?_
    refine mj_aload_n dX7_lookAt_307 2 rfl ?_
    refine t_chkK hk (fun c10 hk => ?_)
    refine t_getR (l1 + 9) dX7_lookAt_308 F_X7_249 (t_pr16 c10) ?_
    refine mj_aload dX7_lookAt_311 7 rfl ?_
    refine mj_bipush (v := 6) dX7_lookAt_313 (by decide) ?_
    refine t_chkK hk (fun c11 hk => ?_)
    refine t_iald dX7_lookAt_315 c0 (t_ixv c11) ?_
    refine t_chkK hk (fun c12 hk => ?_)
    refine t_lald dX7_lookAt_316 (t_pa16 c10) (t_ixv c12) ?_
    refine mj_lstore (lv2 := [(9, .long (s.2.1 (l1 + 9) ((s.1 l6 ((6 : Int32).toNatClampNeg)).toNatClampNeg))), (7, .int 0), (0, .ref 864), (1, .ref l1), (2, .int l2), (3, .int l3), (4, .int l4), (5, .int l5), (6, .ref l6)]) dX7_lookAt_317 (by decide) rfl ?_
    refine mj_lload dX7_lookAt_319 0 rfl ?_
    refine mj_lconst (v := 0) dX7_lookAt_321 (by decide) ?_
    refine mj_lcmp dX7_lookAt_322 ?_
    refine mj_if_lt 372 dX7_lookAt_323 (by decide) (fun z => t_posK hk z (fun hk => ?_)) (fun z => t_negK hk z (fun hk => ?_))
    · refine mj_sublv [(0, .ref 864), (2, .int l2), (3, .int l3), (4, .int l4), (7, .int 0)] [2, 4, 5, 6, 1] rfl ?_
      exact B_X7_lookAt_372 rc H _ _ _ _ _ _ hk
    · refine mj_lload dX7_lookAt_326 0 rfl ?_
      refine mj_aload_n dX7_lookAt_328 2 rfl ?_
      refine t_getJ dX7_lookAt_329 F_X7_46 qf_864_7 ?_
      refine mj_lcmp dX7_lookAt_332 ?_
      refine mj_if_gt 372 dX7_lookAt_333 (by decide) (fun z => t_posK hk z (fun hk => ?_)) (fun z => t_negK hk z (fun hk => ?_))
      · refine mj_sublv [(0, .ref 864), (2, .int l2), (3, .int l3), (4, .int l4), (7, .int 0)] [2, 4, 5, 6, 1] rfl ?_
        exact B_X7_lookAt_372 rc H _ _ _ _ _ _ hk
      · refine mj_iconst (v := 1) dX7_lookAt_336 (by decide) ?_
        refine mj_istore (lv2 := [(7, .int 1), (9, .long (s.2.1 (l1 + 9) ((s.1 l6 ((6 : Int32).toNatClampNeg)).toNatClampNeg))), (0, .ref 864), (1, .ref l1), (2, .int l2), (3, .int l3), (4, .int l4), (5, .int l5), (6, .ref l6)]) dX7_lookAt_337 (by decide) rfl ?_
        refine mj_goto 372 dX7_lookAt_339 (by decide) ?_
        refine mj_sublv [(0, .ref 864), (2, .int l2), (3, .int l3), (4, .int l4), (7, .int 1)] [2, 4, 5, 6, 0] rfl ?_
        exact B_X7_lookAt_372 rc H _ _ _ _ _ _ hk
  replace hk := t_neg hk h1
  by_cases h2 : (s.1 l6 ((0 : Int32).toNatClampNeg)).toInt = 13
  · replace hk := t_pos hk h2
    refine mj_lookup 342 dX7_lookAt_102 (by decide) (by rw [h2] <;> rfl) (by decide) ?_
    refine mj_aload_n dX7_lookAt_342 1 rfl ?_
    refine t_getR 334 dX7_lookAt_343 F_X7_23 qr_864_2 ?_
    refine mj_aload dX7_lookAt_346 7 rfl ?_
    refine mj_iconst (v := 5) dX7_lookAt_348 (by decide) ?_
    refine t_chkK hk (fun c13 hk => ?_)
    refine t_iald dX7_lookAt_349 c0 (t_ixv c13) ?_
    refine t_bndK hk (fun r15 er15 hk => ?_)
    refine t_callViE dX7_lookAt_350 M_X0_work (C_X0_work _ _ _ er15) ML_X7_124 IM_X0_work SE_X0_work qc_334 rfl (As := [.int (s.1 l6 ((5 : Int32).toNatClampNeg))]) rfl rfl (by omega) (Nat.le_of_ble_eq_true rfl) (Nat.le_of_ble_eq_true rfl) (Nat.le_of_ble_eq_true rfl) ?_
    refine mj_if_eq 358 dX7_lookAt_353 (by decide) (fun z => t_posK hk z (fun hk => ?_)) (fun z => t_negK hk z (fun hk => ?_))
    · refine mj_aload_n dX7_lookAt_358 1 rfl ?_
      refine mj_iconst (v := 2) dX7_lookAt_359 (by decide) ?_
      refine mj_iconst (v := (-1)) dX7_lookAt_360 (by decide) ?_
      refine t_bndK hk (fun r16 er16 hk => ?_)
      refine t_callViE dX7_lookAt_361 M_X7_lookAtPart (C_X7_lookAtPart _ _ _ _ er16) ML_X7_374 IM_X7_lookAtPart SE_X7_lookAtPart qc_864 rfl (As := [.int 2, .int (-1)]) rfl rfl (by omega) (Nat.le_of_ble_eq_true rfl) (Nat.le_of_ble_eq_true rfl) (Nat.le_of_ble_eq_true rfl) ?_
      refine mj_istore (lv2 := [(7, .int r16.1), (0, .ref 864), (1, .ref l1), (2, .int l2), (3, .int l3), (4, .int l4), (5, .int l5), (6, .ref l6)]) dX7_lookAt_364 (by decide) rfl ?_
      refine mj_goto 372 dX7_lookAt_366 (by decide) ?_
      refine mj_sublv [(0, .ref 864), (2, .int l2), (3, .int l3), (4, .int l4), (7, .int r16.1)] [1, 3, 4, 5, 0] rfl ?_
      exact B_X7_lookAt_372 rc H _ _ _ _ _ _ hk
    · refine mj_iconst (v := 2) dX7_lookAt_356 (by decide) ?_
      exact t_somK hk (fun hf => t_iret dX7_lookAt_357 rfl rfl ⟨_, rfl, hf⟩ (Nat.le_of_ble_eq_true rfl) (Nat.le_of_ble_eq_true rfl))
  replace hk := t_neg hk h2
  by_cases h3 : (s.1 l6 ((0 : Int32).toNatClampNeg)).toInt = 23
  · replace hk := t_pos hk h3
    refine mj_lookup 144 dX7_lookAt_102 (by decide) (by rw [h3] <;> rfl) (by decide) ?_
    refine mj_aload_n dX7_lookAt_144 1 rfl ?_
    refine mj_aload_n dX7_lookAt_145 2 rfl ?_
    refine mj_aload dX7_lookAt_146 7 rfl ?_
    refine mj_iload dX7_lookAt_148 6 rfl ?_
    refine t_bndK hk (fun r17 er17 hk => ?_)
    refine t_callViE dX7_lookAt_150 M_X7_lookInStep (H.2.2 _ _ _ _ _ er17) ML_X7_368 IM_X7_lookInStep SE_X7_lookInStep qc_864 rfl (As := [.ref l1, .ref l6, .int l5]) rfl rfl (by omega) (Nat.le_of_ble_eq_true rfl) (Nat.le_of_ble_eq_true rfl) (Nat.le_of_ble_eq_true rfl) ?_
    exact t_somK hk (fun hf => t_iret dX7_lookAt_153 rfl rfl ⟨_, rfl, hf⟩ (Nat.le_of_ble_eq_true rfl) (Nat.le_of_ble_eq_true rfl))
  replace hk := t_neg hk h3
  refine mj_lookup 369 dX7_lookAt_102 (by decide) (t_lk0 _ (And.intro h0 (And.intro h1 (And.intro h2 (And.intro h3 trivial))))) (by decide) ?_
  refine mj_iconst (v := 1) dX7_lookAt_369 (by decide) ?_
  refine mj_istore (lv2 := [(7, .int 1), (0, .ref 864), (1, .ref l1), (2, .int l2), (3, .int l3), (4, .int l4), (5, .int l5), (6, .ref l6)]) dX7_lookAt_370 (by decide) rfl ?_
  refine mj_sublv [(0, .ref 864), (2, .int l2), (3, .int l3), (4, .int l4), (7, .int 1)] [1, 3, 4, 5, 0] rfl ?_
  exact B_X7_lookAt_372 rc H _ _ _ _ _ _ hk
noncomputable def m_X7_lookAt (rc : RT_X7_lookAt) (x1 : Nat) (x2 : Int32) (x3 : Int32) (x4 : Int32) (x5 : Int32) (s : t_S) : Option (Int32 × t_S) :=
 if t_ix x2 400 = true then
  t_let (t_setI s 334 18 x3) (fun s1 =>
 (f_X0_clear s1).bind (fun r2 =>
 if (r2.1 (445 + 1 * (x2.toNatClampNeg)) ((11 : Int32).toNatClampNeg)) < (0 : Int32) then (k_X7_lookAt_95 rc x1 x2 x3 x4 x5 (445 + 1 * (x2.toNatClampNeg)) r2)
 else ((f_X0_work (r2.1 (445 + 1 * (x2.toNatClampNeg)) ((11 : Int32).toNatClampNeg)) r2).bind (fun r3 =>
 if r3.1 = (0 : Int32) then ((f_X0_top r3.2).bind (fun r4 =>
 if (f_X8_kind r4 r3.2) = (1 : Int32) then ((f_X0_top r3.2).bind (fun r6 =>
 if (lg_cmp (f_X8_told r6 r3.2) (0 : Int64)) = (0 : Int32) then (some ((0 : Int32), r3.2))
 else ((f_X0_clear r3.2).bind (fun r8 =>
 k_X7_lookAt_95 rc x1 x2 x3 x4 x5 (445 + 1 * (x2.toNatClampNeg)) r8))))
 else ((f_X7_wrong (1 : Int32) r3.2).bind (fun r9 =>
 some (r9.1, r9.2)))))
 else (some ((2 : Int32), r3.2))))))
else none
set_option maxRecDepth 4000 in
set_option maxHeartbeats 1000000 in
theorem E_X7_lookAt (rc : RT_X7_lookAt) {k : Nat} (H : RH_X7_lookAt rc k) (x1 : Nat) (x2 : Int32) (x3 : Int32) (x4 : Int32) (x5 : Int32) (s : t_S) (r : Int32 × t_S) (hr : m_X7_lookAt rc x1 x2 x3 x4 x5 s = some r) : t_C yX7_lookAt cX7_lookAt 11 (some .int) (406 + (k + 1)) [.ref 864, .ref x1, .int x2, .int x3, .int x4, .int x5] s (fun v s' => v = some (.int r.1) ∧ s' = r.2) := by
  refine t_C.imp (P := fun v s' => ∃ x, v = some (.int x) ∧ (fun q => q = r) ((x, s'))) (t_C.of (by decide +kernel) (Nat.le_of_ble_eq_true rfl) ?_) (fun v s' hp => by obtain ⟨x, rfl, rfl⟩ := hp; exact ⟨rfl, rfl⟩)
  intro D cy ad bs X
  have hk : t_hk (m_X7_lookAt rc x1 x2 x3 x4 x5 s) (fun q => q = r) := ⟨r, hr, rfl⟩
  show mj_G D cy ad bs X cX7_lookAt 11 yX7_lookAt.cls (some .int) yX7_lookAt.name (406 + (k + 1)) 0 0 1065 (t_P (fun v s' => ∃ x, v = some (.int x) ∧ (fun q => q = r) ((x, s')))) 0 [(0, .ref 864), (1, .ref x1), (2, .int x2), (3, .int x3), (4, .int x4), (5, .int x5)] [] (t_m s) 1065 0 0
  refine mj_aload_n dX7_lookAt_0 0 rfl ?_
  refine t_getR 428 dX7_lookAt_1 F_X7_31 qr_864_4 ?_
  refine t_getR 444 dX7_lookAt_4 F_X7_179 qr_428_17 ?_
  refine mj_iload_n dX7_lookAt_7 2 rfl ?_
  refine t_chkK hk (fun c0 hk => ?_)
  refine t_aaldI dX7_lookAt_8 qq_444 (t_ixv c0) ?_
  refine mj_astore (lv2 := [(6, .ref (445 + 1 * (x2.toNatClampNeg))), (0, .ref 864), (1, .ref x1), (2, .int x2), (3, .int x3), (4, .int x4), (5, .int x5)]) dX7_lookAt_9 (by decide) rfl ?_
  refine mj_aload_n dX7_lookAt_11 1 rfl ?_
  refine t_getR 334 dX7_lookAt_12 F_X7_23 qr_864_2 ?_
  refine mj_iload_n dX7_lookAt_15 4 rfl ?_
  refine t_putIK dX7_lookAt_16 F_X7_161 qf_334_18 rfl (fun s1 ws1 => t_letE hk ws1 (fun hk => ?_))
  refine mj_aload_n dX7_lookAt_19 1 rfl ?_
  refine t_getR 334 dX7_lookAt_20 F_X7_23 qr_864_2 ?_
  refine t_bndK hk (fun r2 er2 hk => ?_)
  refine t_callVvE dX7_lookAt_23 M_X0_clear (C_X0_clear _ _ er2) ML_X7_116 IM_X0_clear SE_X0_clear qc_334 rfl (As := []) rfl rfl (by omega) (Nat.le_of_ble_eq_true rfl) (Nat.le_of_ble_eq_true rfl) (Nat.le_of_ble_eq_true rfl) ?_
  refine mj_aload dX7_lookAt_26 0 rfl ?_
  refine mj_bipush (v := 11) dX7_lookAt_28 (by decide) ?_
  refine t_iald dX7_lookAt_30 (t_row445 (t_ixn c0)) (by unfold vp_in; decide) ?_
  refine mj_if_lt 95 dX7_lookAt_31 (by decide) (fun z => t_posK hk z (fun hk => ?_)) (fun z => t_negK hk z (fun hk => ?_))
  · refine mj_sublv [(0, .ref 864), (1, .ref x1), (2, .int x2), (3, .int x3), (4, .int x4), (5, .int x5), (6, .ref (445 + 1 * (x2.toNatClampNeg)))] [1, 2, 3, 4, 5, 6, 0] rfl ?_
    exact B_X7_lookAt_95 rc H _ _ _ _ _ _ _ _ hk
  · refine mj_aload_n dX7_lookAt_34 1 rfl ?_
    refine t_getR 334 dX7_lookAt_35 F_X7_23 qr_864_2 ?_
    refine mj_aload dX7_lookAt_38 0 rfl ?_
    refine mj_bipush (v := 11) dX7_lookAt_40 (by decide) ?_
    refine t_iald dX7_lookAt_42 (t_row445 (t_ixn c0)) (by unfold vp_in; decide) ?_
    refine t_bndK hk (fun r3 er3 hk => ?_)
    refine t_callViE dX7_lookAt_43 M_X0_work (C_X0_work _ _ _ er3) ML_X7_124 IM_X0_work SE_X0_work qc_334 rfl (As := [.int (r2.1 (445 + 1 * (x2.toNatClampNeg)) ((11 : Int32).toNatClampNeg))]) rfl rfl (by omega) (Nat.le_of_ble_eq_true rfl) (Nat.le_of_ble_eq_true rfl) (Nat.le_of_ble_eq_true rfl) ?_
    refine mj_if_eq 51 dX7_lookAt_46 (by decide) (fun z => t_posK hk z (fun hk => ?_)) (fun z => t_negK hk z (fun hk => ?_))
    · refine mj_aload_n dX7_lookAt_51 1 rfl ?_
      refine t_getR 334 dX7_lookAt_52 F_X7_23 qr_864_2 ?_
      refine t_bndK hk (fun r4 er4 hk => ?_)
      refine t_callVlP dX7_lookAt_55 M_X0_top (C_X0_top _ _ er4) ML_X7_302 IM_X0_top SE_X0_top qc_334 rfl (As := []) rfl rfl (by omega) (Nat.le_of_ble_eq_true rfl) (Nat.le_of_ble_eq_true rfl) (Nat.le_of_ble_eq_true rfl) ?_
      refine t_callSiP dX7_lookAt_58 M_X8_kind (C_X8_kind _ _) ML_X7_306 SM_X8_kind (As := [.long r4]) rfl rfl (by omega) (Nat.le_of_ble_eq_true rfl) (Nat.le_of_ble_eq_true rfl) (Nat.le_of_ble_eq_true rfl) ?_
      refine mj_iconst (v := 1) dX7_lookAt_61 (by decide) ?_
      refine mj_icmp_eq 71 dX7_lookAt_62 (by decide) (fun z => t_posK hk z (fun hk => ?_)) (fun z => t_negK hk z (fun hk => ?_))
      · refine mj_aload_n dX7_lookAt_71 1 rfl ?_
        refine t_getR 334 dX7_lookAt_72 F_X7_23 qr_864_2 ?_
        refine t_bndK hk (fun r6 er6 hk => ?_)
        refine t_callVlP dX7_lookAt_75 M_X0_top (C_X0_top _ _ er6) ML_X7_302 IM_X0_top SE_X0_top qc_334 rfl (As := []) rfl rfl (by omega) (Nat.le_of_ble_eq_true rfl) (Nat.le_of_ble_eq_true rfl) (Nat.le_of_ble_eq_true rfl) ?_
        refine t_callSlP dX7_lookAt_78 M_X8_told (C_X8_told _ _) ML_X7_309 SM_X8_told (As := [.long r6]) rfl rfl (by omega) (Nat.le_of_ble_eq_true rfl) (Nat.le_of_ble_eq_true rfl) (Nat.le_of_ble_eq_true rfl) ?_
        refine mj_lconst (v := 0) dX7_lookAt_81 (by decide) ?_
        refine mj_lcmp dX7_lookAt_82 ?_
        refine mj_if_ne 88 dX7_lookAt_83 (by decide) (fun z => t_negK hk z (fun hk => ?_)) (fun z => t_posK hk z (fun hk => ?_))
        · refine mj_aload_n dX7_lookAt_88 1 rfl ?_
          refine t_getR 334 dX7_lookAt_89 F_X7_23 qr_864_2 ?_
          refine t_bndK hk (fun r8 er8 hk => ?_)
          refine t_callVvE dX7_lookAt_92 M_X0_clear (C_X0_clear _ _ er8) ML_X7_116 IM_X0_clear SE_X0_clear qc_334 rfl (As := []) rfl rfl (by omega) (Nat.le_of_ble_eq_true rfl) (Nat.le_of_ble_eq_true rfl) (Nat.le_of_ble_eq_true rfl) ?_
          refine mj_sublv [(0, .ref 864), (1, .ref x1), (2, .int x2), (3, .int x3), (4, .int x4), (5, .int x5), (6, .ref (445 + 1 * (x2.toNatClampNeg)))] [1, 2, 3, 4, 5, 6, 0] rfl ?_
          exact B_X7_lookAt_95 rc H _ _ _ _ _ _ _ _ hk
        · refine mj_iconst (v := 0) dX7_lookAt_86 (by decide) ?_
          exact t_somK hk (fun hf => t_iret dX7_lookAt_87 rfl rfl ⟨_, rfl, hf⟩ (Nat.le_of_ble_eq_true rfl) (Nat.le_of_ble_eq_true rfl))
      · refine mj_aload_n dX7_lookAt_65 1 rfl ?_
        refine mj_iconst (v := 1) dX7_lookAt_66 (by decide) ?_
        refine t_bndK hk (fun r9 er9 hk => ?_)
        refine t_callViE dX7_lookAt_67 M_X7_wrong (C_X7_wrong _ _ _ er9) ML_X7_365 IM_X7_wrong SE_X7_wrong qc_864 rfl (As := [.int 1]) rfl rfl (by omega) (Nat.le_of_ble_eq_true rfl) (Nat.le_of_ble_eq_true rfl) (Nat.le_of_ble_eq_true rfl) ?_
        exact t_somK hk (fun hf => t_iret dX7_lookAt_70 rfl rfl ⟨_, rfl, hf⟩ (Nat.le_of_ble_eq_true rfl) (Nat.le_of_ble_eq_true rfl))
    · refine mj_iconst (v := 2) dX7_lookAt_49 (by decide) ?_
      exact t_somK hk (fun hf => t_iret dX7_lookAt_50 rfl rfl ⟨_, rfl, hf⟩ (Nat.le_of_ble_eq_true rfl) (Nat.le_of_ble_eq_true rfl))
noncomputable def k_X7_lookAtAll_9 (rc : RT_X7_lookAt) (l1 : Nat) (l3 : Int32) (l4 : Int32) (l5 : Int32) (l6 : Int32) (l7 : Int32) (l8 : Int32) (s : t_S) : Option ((Nat × Int32 × Int32 × Int32 × Int32 × Int32 × Int32 × t_S) ⊕ (Int32 × t_S)) :=
 if (400 : Int32) ≤ l8 then ((some (l6, s)).map Sum.inr)
 else (if l7 < (0 : Int32) then ((some (l6, s)).map Sum.inr)
 else (if l6 = (0 : Int32) then ((rc.1 l1 l7 l3 l4 l5 s).bind (fun r1 =>
 if t_ix l7 400 = true then
  some (.inl (l1, l3, l4, l5, r1.1, (r1.2.1 (445 + 1 * (l7.toNatClampNeg)) ((1 : Int32).toNatClampNeg)), (l8 + 1), r1.2))
else none))
 else ((some (l6, s)).map Sum.inr)))
set_option maxRecDepth 4000 in
set_option maxHeartbeats 1000000 in
theorem B_X7_lookAtAll_9 {D : va_G} {cy : Nat → ClassId} {ad : Nat → Nat} {bs : Nat} {X : State → Heap → Prop} (rc : RT_X7_lookAt) {k : Nat} (H : RH_X7_lookAt rc k) (l1 : Nat) (l3 : Int32) (l4 : Int32) (l5 : Int32) (l6 : Int32) (l7 : Int32) (l8 : Int32) (s : t_S) (Q : (Nat × Int32 × Int32 × Int32 × Int32 × Int32 × Int32 × t_S) ⊕ (Int32 × t_S) → Prop) (Hb9 : ∀ (y0 : Nat) (y1 : Int32) (y2 : Int32) (y3 : Int32) (y4 : Int32) (y5 : Int32) (y6 : Int32) (y7 : t_S), Q (.inl (y0, y1, y2, y3, y4, y5, y6, y7)) → mj_G D cy ad bs X cX7_lookAtAll 9 yX7_lookAtAll.cls (some .int) yX7_lookAtAll.name (406 + (k + 1)) 0 0 1065 (t_P (fun v s' => ∃ x, v = some (.int x) ∧ Q (.inr ((x, s'))))) 9 [(0, .ref 864), (1, .ref (y0)), (3, .int (y1)), (4, .int (y2)), (5, .int (y3)), (6, .int (y4)), (7, .int (y5)), (8, .int (y6))] [] (t_m y7) 1065 0 0) (hk : t_hk (k_X7_lookAtAll_9 rc l1 l3 l4 l5 l6 l7 l8 s) Q) : mj_G D cy ad bs X cX7_lookAtAll 9 yX7_lookAtAll.cls (some .int) yX7_lookAtAll.name (406 + (k + 1)) 0 0 1065 (t_P (fun v s' => ∃ x, v = some (.int x) ∧ Q (.inr ((x, s'))))) 9 [(0, .ref 864), (1, .ref l1), (3, .int l3), (4, .int l4), (5, .int l5), (6, .int l6), (7, .int l7), (8, .int l8)] [] (t_m s) 1065 0 0 := by
  refine mj_iload dX7_lookAtAll_9 7 rfl ?_
  refine mj_sipush (v := 400) dX7_lookAtAll_11 (by decide) ?_
  refine mj_icmp_ge 61 dX7_lookAtAll_14 (by decide) (fun z => t_posK hk z (fun hk => ?_)) (fun z => t_negK hk z (fun hk => ?_))
  · refine t_mapK hk (fun hk => ?_)
    refine mj_iload dX7_lookAtAll_61 5 rfl ?_
    exact t_somK hk (fun hf => t_iret dX7_lookAtAll_63 rfl rfl ⟨_, rfl, hf⟩ (Nat.le_of_ble_eq_true rfl) (Nat.le_of_ble_eq_true rfl))
  · refine mj_iload dX7_lookAtAll_17 6 rfl ?_
    refine mj_if_lt 61 dX7_lookAtAll_19 (by decide) (fun z => t_posK hk z (fun hk => ?_)) (fun z => t_negK hk z (fun hk => ?_))
    · refine t_mapK hk (fun hk => ?_)
      refine mj_iload dX7_lookAtAll_61 5 rfl ?_
      exact t_somK hk (fun hf => t_iret dX7_lookAtAll_63 rfl rfl ⟨_, rfl, hf⟩ (Nat.le_of_ble_eq_true rfl) (Nat.le_of_ble_eq_true rfl))
    · refine mj_iload dX7_lookAtAll_22 5 rfl ?_
      refine mj_if_ne 61 dX7_lookAtAll_24 (by decide) (fun z => t_negK hk z (fun hk => ?_)) (fun z => t_posK hk z (fun hk => ?_))
      · refine t_mapK hk (fun hk => ?_)
        refine mj_iload dX7_lookAtAll_61 5 rfl ?_
        exact t_somK hk (fun hf => t_iret dX7_lookAtAll_63 rfl rfl ⟨_, rfl, hf⟩ (Nat.le_of_ble_eq_true rfl) (Nat.le_of_ble_eq_true rfl))
      · refine mj_aload_n dX7_lookAtAll_27 0 rfl ?_
        refine mj_aload_n dX7_lookAtAll_28 1 rfl ?_
        refine mj_iload dX7_lookAtAll_29 6 rfl ?_
        refine mj_iload_n dX7_lookAtAll_31 2 rfl ?_
        refine mj_iload dX7_lookAtAll_32 3 rfl ?_
        refine mj_iload dX7_lookAtAll_34 4 rfl ?_
        refine t_bndK hk (fun r1 er1 hk => ?_)
        refine t_callViE dX7_lookAtAll_36 M_X7_lookAt (H.1 _ _ _ _ _ _ _ er1) ML_X7_362 IM_X7_lookAt SE_X7_lookAt qc_864 rfl (As := [.ref l1, .int l7, .int l3, .int l4, .int l5]) rfl rfl (by omega) (Nat.le_of_ble_eq_true rfl) (Nat.le_of_ble_eq_true rfl) (Nat.le_of_ble_eq_true rfl) ?_
        refine mj_istore (lv2 := [(6, .int r1.1), (0, .ref 864), (1, .ref l1), (3, .int l3), (4, .int l4), (5, .int l5), (7, .int l7), (8, .int l8)]) dX7_lookAtAll_39 (by decide) rfl ?_
        refine mj_aload_n dX7_lookAtAll_41 1 rfl ?_
        refine t_getR 428 dX7_lookAtAll_42 F_X7_31 qr_864_4 ?_
        refine t_getR 444 dX7_lookAtAll_45 F_X7_179 qr_428_17 ?_
        refine mj_iload dX7_lookAtAll_48 6 rfl ?_
        refine t_chkK hk (fun c1 hk => ?_)
        refine t_aaldI dX7_lookAtAll_50 qq_444 (t_ixv c1) ?_
        refine mj_iconst (v := 1) dX7_lookAtAll_51 (by decide) ?_
        refine t_iald dX7_lookAtAll_52 (t_row445 (t_ixn c1)) (by unfold vp_in; decide) ?_
        refine mj_istore (lv2 := [(7, .int (r1.2.1 (445 + 1 * (l7.toNatClampNeg)) ((1 : Int32).toNatClampNeg))), (6, .int r1.1), (0, .ref 864), (1, .ref l1), (3, .int l3), (4, .int l4), (5, .int l5), (8, .int l8)]) dX7_lookAtAll_53 (by decide) rfl ?_
        refine mj_iinc (k := 7) (v := (l8 + 1)) (lv2 := [(8, .int (l8 + 1)), (7, .int (r1.2.1 (445 + 1 * (l7.toNatClampNeg)) ((1 : Int32).toNatClampNeg))), (6, .int r1.1), (0, .ref 864), (1, .ref l1), (3, .int l3), (4, .int l4), (5, .int l5)]) dX7_lookAtAll_55 rfl rfl (by decide) rfl ?_
        refine mj_goto 9 dX7_lookAtAll_58 (by decide) ?_
        refine mj_sublv [(0, .ref 864), (1, .ref l1), (3, .int l3), (4, .int l4), (5, .int l5), (6, .int r1.1), (7, .int (r1.2.1 (445 + 1 * (l7.toNatClampNeg)) ((1 : Int32).toNatClampNeg))), (8, .int (l8 + 1))] [3, 4, 5, 6, 7, 2, 1, 0] rfl ?_
        exact t_somK hk (fun hf => Hb9 l1 l3 l4 l5 r1.1 (r1.2.1 (445 + 1 * (l7.toNatClampNeg)) ((1 : Int32).toNatClampNeg)) (l8 + 1) r1.2 hf)
noncomputable def b_X7_lookAtAll_9 (rc : RT_X7_lookAt) (x : Nat × Int32 × Int32 × Int32 × Int32 × Int32 × Int32 × t_S) : Option ((Nat × Int32 × Int32 × Int32 × Int32 × Int32 × Int32 × t_S) ⊕ (Int32 × t_S)) := k_X7_lookAtAll_9 rc x.1 x.2.1 x.2.2.1 x.2.2.2.1 x.2.2.2.2.1 x.2.2.2.2.2.1 x.2.2.2.2.2.2.1 x.2.2.2.2.2.2.2
set_option maxRecDepth 4000 in
set_option maxHeartbeats 1000000 in
theorem LH_X7_lookAtAll_9 {D : va_G} {cy : Nat → ClassId} {ad : Nat → Nat} {bs : Nat} {X : State → Heap → Prop} (rc : RT_X7_lookAt) {k : Nat} (H : RH_X7_lookAt rc k) : ∀ (n : Nat) (y0 : Nat) (y1 : Int32) (y2 : Int32) (y3 : Int32) (y4 : Int32) (y5 : Int32) (y6 : Int32) (y7 : t_S) (Q : Int32 × t_S → Prop) (hk : t_hk (t_loop (b_X7_lookAtAll_9 rc) n (y0, y1, y2, y3, y4, y5, y6, y7)) Q), mj_G D cy ad bs X cX7_lookAtAll 9 yX7_lookAtAll.cls (some .int) yX7_lookAtAll.name (406 + (k + 1)) 0 0 1065 (t_P (fun v s' => ∃ x, v = some (.int x) ∧ Q ((x, s')))) 9 [(0, .ref 864), (1, .ref (y0)), (3, .int (y1)), (4, .int (y2)), (5, .int (y3)), (6, .int (y4)), (7, .int (y5)), (8, .int (y6))] [] (t_m y7) 1065 0 0 := by
  intro n
  induction n with
  | zero => intro y0 y1 y2 y3 y4 y5 y6 y7 Q hk; obtain ⟨r, hr, _⟩ := hk; cases hr
  | succ n ih =>
    intro y0 y1 y2 y3 y4 y5 y6 y7 Q hk
    exact B_X7_lookAtAll_9 rc H y0 y1 y2 y3 y4 y5 y6 y7 (fun y => t_lq (b_X7_lookAtAll_9 rc) n Q y) (fun y0' y1' y2' y3' y4' y5' y6' y7' hy => ih y0' y1' y2' y3' y4' y5' y6' y7' Q hy) (t_lp hk)
noncomputable def m_X7_lookAtAll (rc : RT_X7_lookAt) (x1 : Nat) (x2 : Int32) (x3 : Int32) (x4 : Int32) (x5 : Int32) (s : t_S) : Option (Int32 × t_S) :=
 t_loop (b_X7_lookAtAll_9 rc) t_N (x1, x3, x4, x5, 0, x2, 0, s)
set_option maxRecDepth 4000 in
set_option maxHeartbeats 1000000 in
theorem E_X7_lookAtAll (rc : RT_X7_lookAt) {k : Nat} (H : RH_X7_lookAt rc k) (x1 : Nat) (x2 : Int32) (x3 : Int32) (x4 : Int32) (x5 : Int32) (s : t_S) (r : Int32 × t_S) (hr : m_X7_lookAtAll rc x1 x2 x3 x4 x5 s = some r) : t_C yX7_lookAtAll cX7_lookAtAll 9 (some .int) (406 + (k + 1)) [.ref 864, .ref x1, .int x2, .int x3, .int x4, .int x5] s (fun v s' => v = some (.int r.1) ∧ s' = r.2) := by
  refine t_C.imp (P := fun v s' => ∃ x, v = some (.int x) ∧ (fun q => q = r) ((x, s'))) (t_C.of (by decide +kernel) (Nat.le_of_ble_eq_true rfl) ?_) (fun v s' hp => by obtain ⟨x, rfl, rfl⟩ := hp; exact ⟨rfl, rfl⟩)
  intro D cy ad bs X
  have hk : t_hk (m_X7_lookAtAll rc x1 x2 x3 x4 x5 s) (fun q => q = r) := ⟨r, hr, rfl⟩
  show mj_G D cy ad bs X cX7_lookAtAll 9 yX7_lookAtAll.cls (some .int) yX7_lookAtAll.name (406 + (k + 1)) 0 0 1065 (t_P (fun v s' => ∃ x, v = some (.int x) ∧ (fun q => q = r) ((x, s')))) 0 [(0, .ref 864), (1, .ref x1), (2, .int x2), (3, .int x3), (4, .int x4), (5, .int x5)] [] (t_m s) 1065 0 0
  refine mj_iconst (v := 0) dX7_lookAtAll_0 (by decide) ?_
  refine mj_istore (lv2 := [(6, .int 0), (0, .ref 864), (1, .ref x1), (2, .int x2), (3, .int x3), (4, .int x4), (5, .int x5)]) dX7_lookAtAll_1 (by decide) rfl ?_
  refine mj_iload_n dX7_lookAtAll_3 3 rfl ?_
  refine mj_istore (lv2 := [(7, .int x2), (6, .int 0), (0, .ref 864), (1, .ref x1), (2, .int x2), (3, .int x3), (4, .int x4), (5, .int x5)]) dX7_lookAtAll_4 (by decide) rfl ?_
  refine mj_iconst (v := 0) dX7_lookAtAll_6 (by decide) ?_
  refine mj_istore (lv2 := [(8, .int 0), (7, .int x2), (6, .int 0), (0, .ref 864), (1, .ref x1), (2, .int x2), (3, .int x3), (4, .int x4), (5, .int x5)]) dX7_lookAtAll_7 (by decide) rfl ?_
  refine mj_sublv [(0, .ref 864), (1, .ref x1), (3, .int x3), (4, .int x4), (5, .int x5), (6, .int 0), (7, .int x2), (8, .int 0)] [3, 4, 6, 7, 8, 2, 1, 0] rfl ?_
  exact LH_X7_lookAtAll_9 rc H _ x1 x3 x4 x5 0 x2 0 s _ hk
noncomputable def m_X7_lookInStep (rc : RT_X7_lookAt) (x1 : Nat) (x2 : Nat) (x3 : Int32) (s : t_S) : Option (Int32 × t_S) :=
 if t_oka x2 1 (t_ln x2) = true then
  if t_ix (5 : Int32) (t_ln x2) = true then
  (f_X0_work (s.1 x2 ((5 : Int32).toNatClampNeg)) s).bind (fun r3 =>
 if r3.1 = (0 : Int32) then (if x3 < (4 : Int32) then ((f_X7_putArguments ((576 : Int32) + (x3 * (8 : Int32))) (0 : Int32) r3.2).bind (fun r4 =>
 if t_ix (6 : Int32) (t_ln x2) = true then
  if t_ix (r4.1 x2 ((6 : Int32).toNatClampNeg)) 40 = true then
  (rc.2.1 x1 (r4.1 441 ((r4.1 x2 ((6 : Int32).toNatClampNeg)).toNatClampNeg)) ((576 : Int32) + (x3 * (8 : Int32))) (r4.1 x2 ((6 : Int32).toNatClampNeg)) (x3 + (1 : Int32)) r4).bind (fun r7 =>
 some (r7.1, r7.2))
else none
else none))
 else ((f_X7_wrong (7 : Int32) r3.2).bind (fun r8 =>
 some (r8.1, r8.2))))
 else (some ((2 : Int32), r3.2)))
else none
else none
set_option maxRecDepth 4000 in
set_option maxHeartbeats 1000000 in
theorem E_X7_lookInStep (rc : RT_X7_lookAt) {k : Nat} (H : RH_X7_lookAt rc k) (x1 : Nat) (x2 : Nat) (x3 : Int32) (s : t_S) (r : Int32 × t_S) (hr : m_X7_lookInStep rc x1 x2 x3 s = some r) : t_C yX7_lookInStep cX7_lookInStep 6 (some .int) (406 + (k + 1)) [.ref 864, .ref x1, .ref x2, .int x3] s (fun v s' => v = some (.int r.1) ∧ s' = r.2) := by
  refine t_C.imp (P := fun v s' => ∃ x, v = some (.int x) ∧ (fun q => q = r) ((x, s'))) (t_C.of (by decide +kernel) (Nat.le_of_ble_eq_true rfl) ?_) (fun v s' hp => by obtain ⟨x, rfl, rfl⟩ := hp; exact ⟨rfl, rfl⟩)
  intro D cy ad bs X
  have hk : t_hk (m_X7_lookInStep rc x1 x2 x3 s) (fun q => q = r) := ⟨r, hr, rfl⟩
  show mj_G D cy ad bs X cX7_lookInStep 6 yX7_lookInStep.cls (some .int) yX7_lookInStep.name (406 + (k + 1)) 0 0 1065 (t_P (fun v s' => ∃ x, v = some (.int x) ∧ (fun q => q = r) ((x, s')))) 0 [(0, .ref 864), (1, .ref x1), (2, .ref x2), (3, .int x3)] [] (t_m s) 1065 0 0
  refine mj_aload_n dX7_lookInStep_0 0 rfl ?_
  refine t_getR 334 dX7_lookInStep_1 F_X7_23 qr_864_2 ?_
  refine mj_aload_n dX7_lookInStep_4 2 rfl ?_
  refine mj_iconst (v := 5) dX7_lookInStep_5 (by decide) ?_
  refine t_chkK hk (fun c0 hk => ?_)
  refine t_chkK hk (fun c1 hk => ?_)
  refine t_iald dX7_lookInStep_6 c0 (t_ixv c1) ?_
  refine t_bndK hk (fun r3 er3 hk => ?_)
  refine t_callViE dX7_lookInStep_7 M_X0_work (C_X0_work _ _ _ er3) ML_X7_124 IM_X0_work SE_X0_work qc_334 rfl (As := [.int (s.1 x2 ((5 : Int32).toNatClampNeg))]) rfl rfl (by omega) (Nat.le_of_ble_eq_true rfl) (Nat.le_of_ble_eq_true rfl) (Nat.le_of_ble_eq_true rfl) ?_
  refine mj_if_eq 15 dX7_lookInStep_10 (by decide) (fun z => t_posK hk z (fun hk => ?_)) (fun z => t_negK hk z (fun hk => ?_))
  · refine mj_iload_n dX7_lookInStep_15 3 rfl ?_
    refine mj_iconst (v := 4) dX7_lookInStep_16 (by decide) ?_
    refine mj_icmp_lt 27 dX7_lookInStep_17 (by decide) (fun z => t_posK hk z (fun hk => ?_)) (fun z => t_negK hk z (fun hk => ?_))
    · refine mj_sipush (v := 576) dX7_lookInStep_27 (by decide) ?_
      refine mj_iload_n dX7_lookInStep_30 3 rfl ?_
      refine mj_bipush (v := 8) dX7_lookInStep_31 (by decide) ?_
      refine mj_imul dX7_lookInStep_33 ?_
      refine mj_iadd dX7_lookInStep_34 ?_
      refine mj_istore (lv2 := [(4, .int ((576 : Int32) + (x3 * (8 : Int32)))), (0, .ref 864), (1, .ref x1), (2, .ref x2), (3, .int x3)]) dX7_lookInStep_35 (by decide) rfl ?_
      refine mj_aload_n dX7_lookInStep_37 1 rfl ?_
      refine mj_iload dX7_lookInStep_38 0 rfl ?_
      refine mj_iconst (v := 0) dX7_lookInStep_40 (by decide) ?_
      refine t_bndK hk (fun r4 er4 hk => ?_)
      refine t_callVvE dX7_lookInStep_41 M_X7_putArguments (C_X7_putArguments _ _ _ _ er4) ML_X7_319 IM_X7_putArguments SE_X7_putArguments qc_864 rfl (As := [.int ((576 : Int32) + (x3 * (8 : Int32))), .int 0]) rfl rfl (by omega) (Nat.le_of_ble_eq_true rfl) (Nat.le_of_ble_eq_true rfl) (Nat.le_of_ble_eq_true rfl) ?_
      refine mj_aload_n dX7_lookInStep_44 3 rfl ?_
      refine mj_bipush (v := 6) dX7_lookInStep_45 (by decide) ?_
      refine t_chkK hk (fun c4 hk => ?_)
      refine t_iald dX7_lookInStep_47 c0 (t_ixv c4) ?_
      refine mj_istore (lv2 := [(5, .int (r4.1 x2 ((6 : Int32).toNatClampNeg))), (4, .int ((576 : Int32) + (x3 * (8 : Int32)))), (0, .ref 864), (1, .ref x1), (2, .ref x2), (3, .int x3)]) dX7_lookInStep_48 (by decide) rfl ?_
      refine mj_aload_n dX7_lookInStep_50 2 rfl ?_
      refine mj_aload_n dX7_lookInStep_51 3 rfl ?_
      refine mj_aload_n dX7_lookInStep_52 2 rfl ?_
      refine t_getR 428 dX7_lookInStep_53 F_X7_31 qr_864_4 ?_
      refine t_getR 441 dX7_lookInStep_56 F_X7_85 qr_428_14 ?_
      refine mj_iload dX7_lookInStep_59 0 rfl ?_
      refine t_chkK hk (fun c5 hk => ?_)
      refine t_iald dX7_lookInStep_61 qa_441 (t_ixv c5) ?_
      refine mj_iload dX7_lookInStep_62 1 rfl ?_
      refine mj_iload dX7_lookInStep_64 0 rfl ?_
      refine mj_iload_n dX7_lookInStep_66 5 rfl ?_
      refine mj_iconst (v := 1) dX7_lookInStep_67 (by decide) ?_
      refine mj_iadd dX7_lookInStep_68 ?_
      refine t_bndK hk (fun r7 er7 hk => ?_)
      refine t_callViE dX7_lookInStep_69 M_X7_lookAtAll (H.2.1 _ _ _ _ _ _ _ er7) ML_X7_358 IM_X7_lookAtAll SE_X7_lookAtAll qc_864 rfl (As := [.ref x1, .int (r4.1 441 ((r4.1 x2 ((6 : Int32).toNatClampNeg)).toNatClampNeg)), .int ((576 : Int32) + (x3 * (8 : Int32))), .int (r4.1 x2 ((6 : Int32).toNatClampNeg)), .int (x3 + (1 : Int32))]) rfl rfl (by omega) (Nat.le_of_ble_eq_true rfl) (Nat.le_of_ble_eq_true rfl) (Nat.le_of_ble_eq_true rfl) ?_
      exact t_somK hk (fun hf => t_iret dX7_lookInStep_72 rfl rfl ⟨_, rfl, hf⟩ (Nat.le_of_ble_eq_true rfl) (Nat.le_of_ble_eq_true rfl))
    · refine mj_aload_n dX7_lookInStep_20 0 rfl ?_
      refine mj_bipush (v := 7) dX7_lookInStep_21 (by decide) ?_
      refine t_bndK hk (fun r8 er8 hk => ?_)
      refine t_callViE dX7_lookInStep_23 M_X7_wrong (C_X7_wrong _ _ _ er8) ML_X7_365 IM_X7_wrong SE_X7_wrong qc_864 rfl (As := [.int 7]) rfl rfl (by omega) (Nat.le_of_ble_eq_true rfl) (Nat.le_of_ble_eq_true rfl) (Nat.le_of_ble_eq_true rfl) ?_
      exact t_somK hk (fun hf => t_iret dX7_lookInStep_26 rfl rfl ⟨_, rfl, hf⟩ (Nat.le_of_ble_eq_true rfl) (Nat.le_of_ble_eq_true rfl))
  · refine mj_iconst (v := 2) dX7_lookInStep_13 (by decide) ?_
    exact t_somK hk (fun hf => t_iret dX7_lookInStep_14 rfl rfl ⟨_, rfl, hf⟩ (Nat.le_of_ble_eq_true rfl) (Nat.le_of_ble_eq_true rfl))
/-- so many calls deep -/
noncomputable def R_X7_lookAt : Nat → RT_X7_lookAt
  | 0 => ⟨fun _ _ _ _ _ _ => none, fun _ _ _ _ _ _ => none, fun _ _ _ _ => none⟩
  | k + 1 => ⟨fun x1 x2 x3 x4 x5 s => m_X7_lookAt (R_X7_lookAt k) x1 x2 x3 x4 x5 s, fun x1 x2 x3 x4 x5 s => m_X7_lookAtAll (R_X7_lookAt k) x1 x2 x3 x4 x5 s, fun x1 x2 x3 s => m_X7_lookInStep (R_X7_lookAt k) x1 x2 x3 s⟩
theorem RR_X7_lookAt : ∀ k : Nat, RH_X7_lookAt (R_X7_lookAt k) k := by
  intro k
  induction k with
  | zero => exact ⟨fun _ _ _ _ _ _ _ h => (by cases h), fun _ _ _ _ _ _ _ h => (by cases h), fun _ _ _ _ _ h => (by cases h)⟩
  | succ k ih => exact ⟨fun x1 x2 x3 x4 x5 s r h => E_X7_lookAt (R_X7_lookAt k) ih x1 x2 x3 x4 x5 s r h, fun x1 x2 x3 x4 x5 s r h => E_X7_lookAtAll (R_X7_lookAt k) ih x1 x2 x3 x4 x5 s r h, fun x1 x2 x3 s r h => E_X7_lookInStep (R_X7_lookAt k) ih x1 x2 x3 s r h⟩
noncomputable def f_X7_lookAt (x1 : Nat) (x2 : Int32) (x3 : Int32) (x4 : Int32) (x5 : Int32) (s : t_S) : Option (Int32 × t_S) := (R_X7_lookAt 100).1 x1 x2 x3 x4 x5 s
theorem C_X7_lookAt (x1 : Nat) (x2 : Int32) (x3 : Int32) (x4 : Int32) (x5 : Int32) (s : t_S) (r : Int32 × t_S) (hr : f_X7_lookAt x1 x2 x3 x4 x5 s = some r) : t_C yX7_lookAt cX7_lookAt 11 (some .int) 506 [.ref 864, .ref x1, .int x2, .int x3, .int x4, .int x5] s (fun v s' => v = some (.int r.1) ∧ s' = r.2) := (RR_X7_lookAt 100).1 x1 x2 x3 x4 x5 s r hr
noncomputable def f_X7_lookAtAll (x1 : Nat) (x2 : Int32) (x3 : Int32) (x4 : Int32) (x5 : Int32) (s : t_S) : Option (Int32 × t_S) := (R_X7_lookAt 100).2.1 x1 x2 x3 x4 x5 s
theorem C_X7_lookAtAll (x1 : Nat) (x2 : Int32) (x3 : Int32) (x4 : Int32) (x5 : Int32) (s : t_S) (r : Int32 × t_S) (hr : f_X7_lookAtAll x1 x2 x3 x4 x5 s = some r) : t_C yX7_lookAtAll cX7_lookAtAll 9 (some .int) 506 [.ref 864, .ref x1, .int x2, .int x3, .int x4, .int x5] s (fun v s' => v = some (.int r.1) ∧ s' = r.2) := (RR_X7_lookAt 100).2.1 x1 x2 x3 x4 x5 s r hr
noncomputable def f_X7_lookInStep (x1 : Nat) (x2 : Nat) (x3 : Int32) (s : t_S) : Option (Int32 × t_S) := (R_X7_lookAt 100).2.2 x1 x2 x3 s
theorem C_X7_lookInStep (x1 : Nat) (x2 : Nat) (x3 : Int32) (s : t_S) (r : Int32 × t_S) (hr : f_X7_lookInStep x1 x2 x3 s = some r) : t_C yX7_lookInStep cX7_lookInStep 6 (some .int) 506 [.ref 864, .ref x1, .ref x2, .int x3] s (fun v s' => v = some (.int r.1) ∧ s' = r.2) := (RR_X7_lookAt 100).2.2 x1 x2 x3 s r hr

theorem dX7_look_0 : decode cX7_look 0 = .ok (.aload_n 0, 1) := by decide +kernel
theorem dX7_look_1 : decode cX7_look 1 = .ok (.getfield 31, 3) := by decide +kernel
theorem dX7_look_10 : decode cX7_look 10 = .ok (.aload_n 1, 1) := by decide +kernel
theorem dX7_look_102 : decode cX7_look 102 = .ok (.istore 5, 2) := by decide +kernel
theorem dX7_look_104 : decode cX7_look 104 = .ok (.iinc 6 (-1), 3) := by decide +kernel
theorem dX7_look_107 : decode cX7_look 107 = .ok (.goto (-48), 3) := by decide +kernel
theorem dX7_look_11 : decode cX7_look 11 = .ok (.invokevirtual 158, 3) := by decide +kernel
theorem dX7_look_110 : decode cX7_look 110 = .ok (.iload 5, 2) := by decide +kernel
theorem dX7_look_112 : decode cX7_look 112 = .ok (.ireturn, 1) := by decide +kernel
theorem dX7_look_14 : decode cX7_look 14 = .ok (.istore 4, 2) := by decide +kernel
theorem dX7_look_16 : decode cX7_look 16 = .ok (.aload_n 3, 1) := by decide +kernel
theorem dX7_look_17 : decode cX7_look 17 = .ok (.iconst 0, 1) := by decide +kernel
theorem dX7_look_18 : decode cX7_look 18 = .ok (.iaload, 1) := by decide +kernel
theorem dX7_look_19 : decode cX7_look 19 = .ok (.bipush 10, 2) := by decide +kernel
theorem dX7_look_21 : decode cX7_look 21 = .ok (.if_icmp .ne 18, 3) := by decide +kernel
theorem dX7_look_24 : decode cX7_look 24 = .ok (.aload_n 0, 1) := by decide +kernel
theorem dX7_look_25 : decode cX7_look 25 = .ok (.aload_n 1, 1) := by decide +kernel
theorem dX7_look_26 : decode cX7_look 26 = .ok (.aload_n 3, 1) := by decide +kernel
theorem dX7_look_27 : decode cX7_look 27 = .ok (.iconst 3, 1) := by decide +kernel
theorem dX7_look_28 : decode cX7_look 28 = .ok (.iaload, 1) := by decide +kernel
theorem dX7_look_29 : decode cX7_look 29 = .ok (.iload 4, 2) := by decide +kernel
theorem dX7_look_31 : decode cX7_look 31 = .ok (.iconst (-1), 1) := by decide +kernel
theorem dX7_look_32 : decode cX7_look 32 = .ok (.iconst 0, 1) := by decide +kernel
theorem dX7_look_33 : decode cX7_look 33 = .ok (.invokevirtual 358, 3) := by decide +kernel
theorem dX7_look_36 : decode cX7_look 36 = .ok (.goto 13, 3) := by decide +kernel
theorem dX7_look_39 : decode cX7_look 39 = .ok (.aload_n 0, 1) := by decide +kernel
theorem dX7_look_4 : decode cX7_look 4 = .ok (.getfield 179, 3) := by decide +kernel
theorem dX7_look_40 : decode cX7_look 40 = .ok (.aload_n 1, 1) := by decide +kernel
theorem dX7_look_41 : decode cX7_look 41 = .ok (.iload_n 2, 1) := by decide +kernel
theorem dX7_look_42 : decode cX7_look 42 = .ok (.iload 4, 2) := by decide +kernel
theorem dX7_look_44 : decode cX7_look 44 = .ok (.iconst (-1), 1) := by decide +kernel
theorem dX7_look_45 : decode cX7_look 45 = .ok (.iconst 0, 1) := by decide +kernel
theorem dX7_look_46 : decode cX7_look 46 = .ok (.invokevirtual 362, 3) := by decide +kernel
theorem dX7_look_49 : decode cX7_look 49 = .ok (.istore 5, 2) := by decide +kernel
theorem dX7_look_51 : decode cX7_look 51 = .ok (.aload_n 1, 1) := by decide +kernel
theorem dX7_look_52 : decode cX7_look 52 = .ok (.getfield 246, 3) := by decide +kernel
theorem dX7_look_55 : decode cX7_look 55 = .ok (.iconst 1, 1) := by decide +kernel
theorem dX7_look_56 : decode cX7_look 56 = .ok (.isub, 1) := by decide +kernel
theorem dX7_look_57 : decode cX7_look 57 = .ok (.istore 6, 2) := by decide +kernel
theorem dX7_look_59 : decode cX7_look 59 = .ok (.iload 6, 2) := by decide +kernel
theorem dX7_look_61 : decode cX7_look 61 = .ok (.ifCond .lt 49, 3) := by decide +kernel
theorem dX7_look_64 : decode cX7_look 64 = .ok (.iload 5, 2) := by decide +kernel
theorem dX7_look_66 : decode cX7_look 66 = .ok (.ifCond .ne 44, 3) := by decide +kernel
theorem dX7_look_69 : decode cX7_look 69 = .ok (.aload_n 1, 1) := by decide +kernel
theorem dX7_look_7 : decode cX7_look 7 = .ok (.iload_n 2, 1) := by decide +kernel
theorem dX7_look_70 : decode cX7_look 70 = .ok (.getfield 355, 3) := by decide +kernel
theorem dX7_look_73 : decode cX7_look 73 = .ok (.iload 6, 2) := by decide +kernel
theorem dX7_look_75 : decode cX7_look 75 = .ok (.iaload, 1) := by decide +kernel
theorem dX7_look_76 : decode cX7_look 76 = .ok (.istore 7, 2) := by decide +kernel
theorem dX7_look_78 : decode cX7_look 78 = .ok (.aload_n 0, 1) := by decide +kernel
theorem dX7_look_79 : decode cX7_look 79 = .ok (.aload_n 1, 1) := by decide +kernel
theorem dX7_look_8 : decode cX7_look 8 = .ok (.aaload, 1) := by decide +kernel
theorem dX7_look_80 : decode cX7_look 80 = .ok (.aload_n 0, 1) := by decide +kernel
theorem dX7_look_81 : decode cX7_look 81 = .ok (.getfield 31, 3) := by decide +kernel
theorem dX7_look_84 : decode cX7_look 84 = .ok (.getfield 85, 3) := by decide +kernel
theorem dX7_look_87 : decode cX7_look 87 = .ok (.iload 7, 2) := by decide +kernel
theorem dX7_look_89 : decode cX7_look 89 = .ok (.iaload, 1) := by decide +kernel
theorem dX7_look_9 : decode cX7_look 9 = .ok (.astore_n 3, 1) := by decide +kernel
theorem dX7_look_90 : decode cX7_look 90 = .ok (.aload_n 1, 1) := by decide +kernel
theorem dX7_look_91 : decode cX7_look 91 = .ok (.iload 6, 2) := by decide +kernel
theorem dX7_look_93 : decode cX7_look 93 = .ok (.invokevirtual 352, 3) := by decide +kernel
theorem dX7_look_96 : decode cX7_look 96 = .ok (.iload 7, 2) := by decide +kernel
theorem dX7_look_98 : decode cX7_look 98 = .ok (.iconst 1, 1) := by decide +kernel
theorem dX7_look_99 : decode cX7_look 99 = .ok (.invokevirtual 358, 3) := by decide +kernel
noncomputable def k_X7_look_59 (l1 : Nat) (l5 : Int32) (l6 : Int32) (s : t_S) : Option ((Nat × Int32 × Int32 × t_S) ⊕ (Int32 × t_S)) :=
 if l6 < (0 : Int32) then ((some (l5, s)).map Sum.inr)
 else (if l5 = (0 : Int32) then (if t_isP l1 = true then
  if t_ix l6 4 = true then
  if t_ix (s.1 (l1 + 4) (l6.toNatClampNeg)) 40 = true then
  (f_X4_usualSlot l1 l6 s).bind (fun r4 =>
 (f_X7_lookAtAll l1 (s.1 441 ((s.1 (l1 + 4) (l6.toNatClampNeg)).toNatClampNeg)) r4 (s.1 (l1 + 4) (l6.toNatClampNeg)) (1 : Int32) s).bind (fun r5 =>
 some (.inl (l1, r5.1, (l6 + (-1)), r5.2))))
else none
else none
else none)
 else ((some (l5, s)).map Sum.inr))
set_option maxRecDepth 4000 in
set_option maxHeartbeats 1000000 in
theorem B_X7_look_59 {D : va_G} {cy : Nat → ClassId} {ad : Nat → Nat} {bs : Nat} {X : State → Heap → Prop} (l1 : Nat) (l5 : Int32) (l6 : Int32) (s : t_S) (Q : (Nat × Int32 × Int32 × t_S) ⊕ (Int32 × t_S) → Prop) (Hb59 : ∀ (y0 : Nat) (y1 : Int32) (y2 : Int32) (y3 : t_S), Q (.inl (y0, y1, y2, y3)) → mj_G D cy ad bs X cX7_look 8 yX7_look.cls (some .int) yX7_look.name 507 0 0 1065 (t_P (fun v s' => ∃ x, v = some (.int x) ∧ Q (.inr ((x, s'))))) 59 [(0, .ref 864), (1, .ref (y0)), (5, .int (y1)), (6, .int (y2))] [] (t_m y3) 1065 0 0) (hk : t_hk (k_X7_look_59 l1 l5 l6 s) Q) : mj_G D cy ad bs X cX7_look 8 yX7_look.cls (some .int) yX7_look.name 507 0 0 1065 (t_P (fun v s' => ∃ x, v = some (.int x) ∧ Q (.inr ((x, s'))))) 59 [(0, .ref 864), (1, .ref l1), (5, .int l5), (6, .int l6)] [] (t_m s) 1065 0 0 := by
  refine mj_iload dX7_look_59 3 rfl ?_
  refine mj_if_lt 110 dX7_look_61 (by decide) (fun z => t_posK hk z (fun hk => ?_)) (fun z => t_negK hk z (fun hk => ?_))
  · refine t_mapK hk (fun hk => ?_)
    refine mj_iload dX7_look_110 2 rfl ?_
    exact t_somK hk (fun hf => t_iret dX7_look_112 rfl rfl ⟨_, rfl, hf⟩ (Nat.le_of_ble_eq_true rfl) (Nat.le_of_ble_eq_true rfl))
  · refine mj_iload dX7_look_64 2 rfl ?_
    refine mj_if_ne 110 dX7_look_66 (by decide) (fun z => t_negK hk z (fun hk => ?_)) (fun z => t_posK hk z (fun hk => ?_))
    · refine t_mapK hk (fun hk => ?_)
      refine mj_iload dX7_look_110 2 rfl ?_
      exact t_somK hk (fun hf => t_iret dX7_look_112 rfl rfl ⟨_, rfl, hf⟩ (Nat.le_of_ble_eq_true rfl) (Nat.le_of_ble_eq_true rfl))
    · refine mj_aload_n dX7_look_69 1 rfl ?_
      refine t_chkK hk (fun c0 hk => ?_)
      refine t_getR (l1 + 4) dX7_look_70 F_X7_355 (t_pr11 c0) ?_
      refine mj_iload dX7_look_73 3 rfl ?_
      refine t_chkK hk (fun c1 hk => ?_)
      refine t_iald dX7_look_75 (t_pa11 c0) (t_ixv c1) ?_
      refine mj_istore (lv2 := [(7, .int (s.1 (l1 + 4) (l6.toNatClampNeg))), (0, .ref 864), (1, .ref l1), (5, .int l5), (6, .int l6)]) dX7_look_76 (by decide) rfl ?_
      refine mj_aload_n dX7_look_78 1 rfl ?_
      refine mj_aload_n dX7_look_79 2 rfl ?_
      refine mj_aload_n dX7_look_80 1 rfl ?_
      refine t_getR 428 dX7_look_81 F_X7_31 qr_864_4 ?_
      refine t_getR 441 dX7_look_84 F_X7_85 qr_428_14 ?_
      refine mj_iload dX7_look_87 0 rfl ?_
      refine t_chkK hk (fun c2 hk => ?_)
      refine t_iald dX7_look_89 qa_441 (t_ixv c2) ?_
      refine mj_aload_n dX7_look_90 2 rfl ?_
      refine mj_iload dX7_look_91 4 rfl ?_
      refine t_bndK hk (fun r4 er4 hk => ?_)
      refine t_callViP dX7_look_93 M_X4_usualSlot (C_X4_usualSlot _ _ _ _ er4) ML_X7_352 IM_X4_usualSlot SE_X4_usualSlot (t_pc c0) rfl (As := [.int l6]) rfl rfl (Nat.le_of_ble_eq_true rfl) (Nat.le_of_ble_eq_true rfl) (Nat.le_of_ble_eq_true rfl) (Nat.le_of_ble_eq_true rfl) ?_
      refine mj_iload dX7_look_96 0 rfl ?_
      refine mj_iconst (v := 1) dX7_look_98 (by decide) ?_
      refine t_bndK hk (fun r5 er5 hk => ?_)
      refine t_callViE dX7_look_99 M_X7_lookAtAll (C_X7_lookAtAll _ _ _ _ _ _ _ er5) ML_X7_358 IM_X7_lookAtAll SE_X7_lookAtAll qc_864 rfl (As := [.ref l1, .int (s.1 441 ((s.1 (l1 + 4) (l6.toNatClampNeg)).toNatClampNeg)), .int r4, .int (s.1 (l1 + 4) (l6.toNatClampNeg)), .int 1]) rfl rfl (Nat.le_of_ble_eq_true rfl) (Nat.le_of_ble_eq_true rfl) (Nat.le_of_ble_eq_true rfl) (Nat.le_of_ble_eq_true rfl) ?_
      refine mj_istore (lv2 := [(5, .int r5.1), (7, .int (s.1 (l1 + 4) (l6.toNatClampNeg))), (0, .ref 864), (1, .ref l1), (6, .int l6)]) dX7_look_102 (by decide) rfl ?_
      refine mj_iinc (k := 4) (v := (l6 + (-1))) (lv2 := [(6, .int (l6 + (-1))), (5, .int r5.1), (7, .int (s.1 (l1 + 4) (l6.toNatClampNeg))), (0, .ref 864), (1, .ref l1)]) dX7_look_104 rfl rfl (by decide) rfl ?_
      refine mj_goto 59 dX7_look_107 (by decide) ?_
      refine mj_sublv [(0, .ref 864), (1, .ref l1), (5, .int r5.1), (6, .int (l6 + (-1)))] [3, 4, 1, 0] rfl ?_
      exact t_somK hk (fun hf => Hb59 l1 r5.1 (l6 + (-1)) r5.2 hf)
noncomputable def b_X7_look_59 (x : Nat × Int32 × Int32 × t_S) : Option ((Nat × Int32 × Int32 × t_S) ⊕ (Int32 × t_S)) := k_X7_look_59 x.1 x.2.1 x.2.2.1 x.2.2.2
set_option maxRecDepth 4000 in
set_option maxHeartbeats 1000000 in
theorem LH_X7_look_59 {D : va_G} {cy : Nat → ClassId} {ad : Nat → Nat} {bs : Nat} {X : State → Heap → Prop} : ∀ (n : Nat) (y0 : Nat) (y1 : Int32) (y2 : Int32) (y3 : t_S) (Q : Int32 × t_S → Prop) (hk : t_hk (t_loop (b_X7_look_59) n (y0, y1, y2, y3)) Q), mj_G D cy ad bs X cX7_look 8 yX7_look.cls (some .int) yX7_look.name 507 0 0 1065 (t_P (fun v s' => ∃ x, v = some (.int x) ∧ Q ((x, s')))) 59 [(0, .ref 864), (1, .ref (y0)), (5, .int (y1)), (6, .int (y2))] [] (t_m y3) 1065 0 0 := by
  intro n
  induction n with
  | zero => intro y0 y1 y2 y3 Q hk; obtain ⟨r, hr, _⟩ := hk; cases hr
  | succ n ih =>
    intro y0 y1 y2 y3 Q hk
    exact B_X7_look_59 y0 y1 y2 y3 (fun y => t_lq (b_X7_look_59) n Q y) (fun y0' y1' y2' y3' hy => ih y0' y1' y2' y3' Q hy) (t_lp hk)
noncomputable def k_X7_look_49 (l1 : Nat) (k0 : Int32) (s : t_S) : Option (Int32 × t_S) :=
 if t_isP l1 = true then
  t_loop (b_X7_look_59) t_N (l1, k0, ((s.1 l1 10) - (1 : Int32)), s)
else none
set_option maxRecDepth 4000 in
set_option maxHeartbeats 1000000 in
theorem B_X7_look_49 {D : va_G} {cy : Nat → ClassId} {ad : Nat → Nat} {bs : Nat} {X : State → Heap → Prop} (l1 : Nat) (k0 : Int32) (s : t_S) (Q : Int32 × t_S → Prop) (hk : t_hk (k_X7_look_49 l1 k0 s) Q) : mj_G D cy ad bs X cX7_look 8 yX7_look.cls (some .int) yX7_look.name 507 0 0 1065 (t_P (fun v s' => ∃ x, v = some (.int x) ∧ Q ((x, s')))) 49 [(0, .ref 864), (1, .ref l1)] [.int k0] (t_m s) 1065 0 0 := by
  refine mj_istore (lv2 := [(5, .int k0), (0, .ref 864), (1, .ref l1)]) dX7_look_49 (by decide) rfl ?_
  refine mj_aload_n dX7_look_51 2 rfl ?_
  refine t_chkK hk (fun c0 hk => ?_)
  refine t_getI dX7_look_52 F_X7_246 (t_pf10 c0) ?_
  refine mj_iconst (v := 1) dX7_look_55 (by decide) ?_
  refine mj_isub dX7_look_56 ?_
  refine mj_istore (lv2 := [(6, .int ((s.1 l1 10) - (1 : Int32))), (5, .int k0), (0, .ref 864), (1, .ref l1)]) dX7_look_57 (by decide) rfl ?_
  refine mj_sublv [(0, .ref 864), (1, .ref l1), (5, .int k0), (6, .int ((s.1 l1 10) - (1 : Int32)))] [2, 3, 1, 0] rfl ?_
  exact LH_X7_look_59 _ l1 k0 ((s.1 l1 10) - (1 : Int32)) s _ hk
noncomputable def f_X7_look (x1 : Nat) (x2 : Int32) (s : t_S) : Option (Int32 × t_S) :=
 if t_ix x2 400 = true then
  if t_isP x1 = true then
  (f_X4_topSlot x1 s).bind (fun r3 =>
 if (s.1 (445 + 1 * (x2.toNatClampNeg)) ((0 : Int32).toNatClampNeg)) = (10 : Int32) then ((f_X7_lookAtAll x1 (s.1 (445 + 1 * (x2.toNatClampNeg)) ((3 : Int32).toNatClampNeg)) r3 (-1 : Int32) (0 : Int32) s).bind (fun r5 =>
 k_X7_look_49 x1 r5.1 r5.2))
 else ((f_X7_lookAt x1 x2 r3 (-1 : Int32) (0 : Int32) s).bind (fun r4 =>
 k_X7_look_49 x1 r4.1 r4.2)))
else none
else none
set_option maxRecDepth 4000 in
set_option maxHeartbeats 1000000 in
theorem C_X7_look (x1 : Nat) (x2 : Int32) (s : t_S) (r : Int32 × t_S) (hr : f_X7_look x1 x2 s = some r) : t_C yX7_look cX7_look 8 (some .int) 507 [.ref 864, .ref x1, .int x2] s (fun v s' => v = some (.int r.1) ∧ s' = r.2) := by
  refine t_C.imp (P := fun v s' => ∃ x, v = some (.int x) ∧ (fun q => q = r) ((x, s'))) (t_C.of (by decide +kernel) (Nat.le_of_ble_eq_true rfl) ?_) (fun v s' hp => by obtain ⟨x, rfl, rfl⟩ := hp; exact ⟨rfl, rfl⟩)
  intro D cy ad bs X
  have hk : t_hk (f_X7_look x1 x2 s) (fun q => q = r) := ⟨r, hr, rfl⟩
  show mj_G D cy ad bs X cX7_look 8 yX7_look.cls (some .int) yX7_look.name 507 0 0 1065 (t_P (fun v s' => ∃ x, v = some (.int x) ∧ (fun q => q = r) ((x, s')))) 0 [(0, .ref 864), (1, .ref x1), (2, .int x2)] [] (t_m s) 1065 0 0
  refine mj_aload_n dX7_look_0 0 rfl ?_
  refine t_getR 428 dX7_look_1 F_X7_31 qr_864_4 ?_
  refine t_getR 444 dX7_look_4 F_X7_179 qr_428_17 ?_
  refine mj_iload_n dX7_look_7 2 rfl ?_
  refine t_chkK hk (fun c0 hk => ?_)
  refine t_aaldI dX7_look_8 qq_444 (t_ixv c0) ?_
  refine mj_astore_n 3 (lv2 := [(3, .ref (445 + 1 * (x2.toNatClampNeg))), (0, .ref 864), (1, .ref x1), (2, .int x2)]) dX7_look_9 rfl (by decide) rfl ?_
  refine mj_aload_n dX7_look_10 2 rfl ?_
  refine t_chkK hk (fun c1 hk => ?_)
  refine t_bndK hk (fun r3 er3 hk => ?_)
  refine t_callViP dX7_look_11 M_X4_topSlot (C_X4_topSlot _ _ _ er3) ML_X7_158 IM_X4_topSlot SE_X4_topSlot (t_pc c1) rfl (As := []) rfl rfl (Nat.le_of_ble_eq_true rfl) (Nat.le_of_ble_eq_true rfl) (Nat.le_of_ble_eq_true rfl) (Nat.le_of_ble_eq_true rfl) ?_
  refine mj_istore (lv2 := [(4, .int r3), (3, .ref (445 + 1 * (x2.toNatClampNeg))), (0, .ref 864), (1, .ref x1), (2, .int x2)]) dX7_look_14 (by decide) rfl ?_
  refine mj_aload_n dX7_look_16 1 rfl ?_
  refine mj_iconst (v := 0) dX7_look_17 (by decide) ?_
  refine t_iald dX7_look_18 (t_row445 (t_ixn c0)) (by unfold vp_in; decide) ?_
  refine mj_bipush (v := 10) dX7_look_19 (by decide) ?_
  refine mj_icmp_ne 39 dX7_look_21 (by decide) (fun z => t_negK hk z (fun hk => ?_)) (fun z => t_posK hk z (fun hk => ?_))
  · refine mj_aload_n dX7_look_39 2 rfl ?_
    refine mj_aload_n dX7_look_40 3 rfl ?_
    refine mj_iload_n dX7_look_41 4 rfl ?_
    refine mj_iload dX7_look_42 0 rfl ?_
    refine mj_iconst (v := (-1)) dX7_look_44 (by decide) ?_
    refine mj_iconst (v := 0) dX7_look_45 (by decide) ?_
    refine t_bndK hk (fun r4 er4 hk => ?_)
    refine t_callViE dX7_look_46 M_X7_lookAt (C_X7_lookAt _ _ _ _ _ _ _ er4) ML_X7_362 IM_X7_lookAt SE_X7_lookAt qc_864 rfl (As := [.ref x1, .int x2, .int r3, .int (-1), .int 0]) rfl rfl (Nat.le_of_ble_eq_true rfl) (Nat.le_of_ble_eq_true rfl) (Nat.le_of_ble_eq_true rfl) (Nat.le_of_ble_eq_true rfl) ?_
    refine mj_sublv [(0, .ref 864), (1, .ref x1)] [2, 3] rfl ?_
    exact B_X7_look_49 _ _ _ _ hk
  · refine mj_aload_n dX7_look_24 2 rfl ?_
    refine mj_aload_n dX7_look_25 3 rfl ?_
    refine mj_aload_n dX7_look_26 1 rfl ?_
    refine mj_iconst (v := 3) dX7_look_27 (by decide) ?_
    refine t_iald dX7_look_28 (t_row445 (t_ixn c0)) (by unfold vp_in; decide) ?_
    refine mj_iload dX7_look_29 0 rfl ?_
    refine mj_iconst (v := (-1)) dX7_look_31 (by decide) ?_
    refine mj_iconst (v := 0) dX7_look_32 (by decide) ?_
    refine t_bndK hk (fun r5 er5 hk => ?_)
    refine t_callViE dX7_look_33 M_X7_lookAtAll (C_X7_lookAtAll _ _ _ _ _ _ _ er5) ML_X7_358 IM_X7_lookAtAll SE_X7_lookAtAll qc_864 rfl (As := [.ref x1, .int (s.1 (445 + 1 * (x2.toNatClampNeg)) ((3 : Int32).toNatClampNeg)), .int r3, .int (-1), .int 0]) rfl rfl (Nat.le_of_ble_eq_true rfl) (Nat.le_of_ble_eq_true rfl) (Nat.le_of_ble_eq_true rfl) (Nat.le_of_ble_eq_true rfl) ?_
    refine mj_goto 49 dX7_look_36 (by decide) ?_
    refine mj_sublv [(0, .ref 864), (1, .ref x1)] [2, 3] rfl ?_
    exact B_X7_look_49 _ _ _ _ hk

theorem dX7_nextOf_0 : decode cX7_nextOf 0 = .ok (.aload_n 0, 1) := by decide +kernel
theorem dX7_nextOf_1 : decode cX7_nextOf 1 = .ok (.getfield 191, 3) := by decide +kernel
theorem dX7_nextOf_11 : decode cX7_nextOf 11 = .ok (.aload_n 0, 1) := by decide +kernel
theorem dX7_nextOf_12 : decode cX7_nextOf 12 = .ok (.getfield 191, 3) := by decide +kernel
theorem dX7_nextOf_15 : decode cX7_nextOf 15 = .ok (.iconst 1, 1) := by decide +kernel
theorem dX7_nextOf_16 : decode cX7_nextOf 16 = .ok (.isub, 1) := by decide +kernel
theorem dX7_nextOf_17 : decode cX7_nextOf 17 = .ok (.iaload, 1) := by decide +kernel
theorem dX7_nextOf_18 : decode cX7_nextOf 18 = .ok (.goto 4, 3) := by decide +kernel
theorem dX7_nextOf_21 : decode cX7_nextOf 21 = .ok (.iconst (-1), 1) := by decide +kernel
theorem dX7_nextOf_22 : decode cX7_nextOf 22 = .ok (.ireturn, 1) := by decide +kernel
theorem dX7_nextOf_4 : decode cX7_nextOf 4 = .ok (.ifCond .le 17, 3) := by decide +kernel
theorem dX7_nextOf_7 : decode cX7_nextOf 7 = .ok (.aload_n 0, 1) := by decide +kernel
theorem dX7_nextOf_8 : decode cX7_nextOf 8 = .ok (.getfield 194, 3) := by decide +kernel
noncomputable def f_X7_nextOf (x1 : Nat) (s : t_S) : Option (Int32) :=
 if t_isP x1 = true then
  if (s.1 x1 6) ≤ (0 : Int32) then (some (-1 : Int32))
 else (if t_ix ((s.1 x1 6) - (1 : Int32)) 8 = true then
  some (s.1 (x1 + 2) (((s.1 x1 6) - (1 : Int32)).toNatClampNeg))
else none)
else none
set_option maxRecDepth 4000 in
set_option maxHeartbeats 1000000 in
theorem C_X7_nextOf (x1 : Nat) (s : t_S) (r : Int32) (hr : f_X7_nextOf x1 s = some r) : t_C yX7_nextOf cX7_nextOf 1 (some .int) 0 [.ref x1] s (fun v s' => v = some (.int r) ∧ s' = s) := by
  refine t_C.imp (P := fun v s' => s' = s ∧ ∃ x, v = some (.int x) ∧ (fun q => q = r) (x)) (t_C.of (by decide +kernel) (Nat.le_of_ble_eq_true rfl) ?_) (fun v s' hp => by obtain ⟨rfl, x, rfl, rfl⟩ := hp; exact ⟨rfl, rfl⟩)
  intro D cy ad bs X
  have hk : t_hk (f_X7_nextOf x1 s) (fun q => q = r) := ⟨r, hr, rfl⟩
  show mj_G D cy ad bs X cX7_nextOf 1 yX7_nextOf.cls (some .int) yX7_nextOf.name 0 0 0 1065 (t_P (fun v s' => s' = s ∧ ∃ x, v = some (.int x) ∧ (fun q => q = r) (x))) 0 [(0, .ref x1)] [] (t_m s) 1065 0 0
  refine mj_aload_n dX7_nextOf_0 0 rfl ?_
  refine t_chkK hk (fun c0 hk => ?_)
  refine t_getI dX7_nextOf_1 F_X7_191 (t_pf6 c0) ?_
  refine mj_if_le 21 dX7_nextOf_4 (by decide) (fun z => t_posK hk z (fun hk => ?_)) (fun z => t_negK hk z (fun hk => ?_))
  · refine mj_iconst (v := (-1)) dX7_nextOf_21 (by decide) ?_
    exact t_somK hk (fun hf => t_iret dX7_nextOf_22 rfl rfl ⟨rfl, _, rfl, hf⟩ (Nat.le_of_ble_eq_true rfl) (Nat.le_of_ble_eq_true rfl))
  · refine mj_aload_n dX7_nextOf_7 0 rfl ?_
    refine t_getR (x1 + 2) dX7_nextOf_8 F_X7_194 (t_pr8 c0) ?_
    refine mj_aload_n dX7_nextOf_11 0 rfl ?_
    refine t_getI dX7_nextOf_12 F_X7_191 (t_pf6 c0) ?_
    refine mj_iconst (v := 1) dX7_nextOf_15 (by decide) ?_
    refine mj_isub dX7_nextOf_16 ?_
    refine t_chkK hk (fun c1 hk => ?_)
    refine t_iald dX7_nextOf_17 (t_pa8 c0) (t_ixv c1) ?_
    refine mj_goto 22 dX7_nextOf_18 (by decide) ?_
    exact t_somK hk (fun hf => t_iret dX7_nextOf_22 rfl rfl ⟨rfl, _, rfl, hf⟩ (Nat.le_of_ble_eq_true rfl) (Nat.le_of_ble_eq_true rfl))

