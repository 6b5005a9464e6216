theorem dX13_init_0 : decode cX13_init 0 = .ok (.aload_n 0, 1) := by decide +kernel
theorem dX13_init_1 : decode cX13_init 1 = .ok (.invokespecial 1, 3) := by decide +kernel
theorem dX13_init_4 : decode cX13_init 4 = .ok (.aload_n 0, 1) := by decide +kernel
theorem dX13_init_5 : decode cX13_init 5 = .ok (.sipush 12000, 3) := by decide +kernel
theorem dX13_init_8 : decode cX13_init 8 = .ok (.newarray .int, 2) := by decide +kernel
theorem dX13_init_10 : decode cX13_init 10 = .ok (.putfield 7, 3) := by decide +kernel
theorem dX13_init_13 : decode cX13_init 13 = .ok (.aload_n 0, 1) := by decide +kernel
theorem dX13_init_14 : decode cX13_init 14 = .ok (.iconst (-1), 1) := by decide +kernel
theorem dX13_init_15 : decode cX13_init 15 = .ok (.putfield 13, 3) := by decide +kernel
theorem dX13_init_18 : decode cX13_init 18 = .ok (.aload_n 0, 1) := by decide +kernel
theorem dX13_init_19 : decode cX13_init 19 = .ok (.sipush 8200, 3) := by decide +kernel
theorem dX13_init_22 : decode cX13_init 22 = .ok (.newarray .int, 2) := by decide +kernel
theorem dX13_init_24 : decode cX13_init 24 = .ok (.putfield 17, 3) := by decide +kernel
theorem dX13_init_27 : decode cX13_init 27 = .ok (.aload_n 0, 1) := by decide +kernel
theorem dX13_init_28 : decode cX13_init 28 = .ok (.sipush 8200, 3) := by decide +kernel
theorem dX13_init_31 : decode cX13_init 31 = .ok (.newarray .int, 2) := by decide +kernel
theorem dX13_init_33 : decode cX13_init 33 = .ok (.putfield 20, 3) := by decide +kernel
theorem dX13_init_36 : decode cX13_init 36 = .ok (.aload_n 0, 1) := by decide +kernel
theorem dX13_init_37 : decode cX13_init 37 = .ok (.sipush 24300, 3) := by decide +kernel
theorem dX13_init_40 : decode cX13_init 40 = .ok (.newarray .int, 2) := by decide +kernel
theorem dX13_init_42 : decode cX13_init 42 = .ok (.putfield 23, 3) := by decide +kernel
theorem dX13_init_45 : decode cX13_init 45 = .ok (.aload_n 0, 1) := by decide +kernel
theorem dX13_init_46 : decode cX13_init 46 = .ok (.sipush 13000, 3) := by decide +kernel
theorem dX13_init_49 : decode cX13_init 49 = .ok (.newarray .int, 2) := by decide +kernel
theorem dX13_init_51 : decode cX13_init 51 = .ok (.putfield 26, 3) := by decide +kernel
theorem dX13_init_54 : decode cX13_init 54 = .ok (.aload_n 0, 1) := by decide +kernel
theorem dX13_init_55 : decode cX13_init 55 = .ok (.sipush 13000, 3) := by decide +kernel
theorem dX13_init_58 : decode cX13_init 58 = .ok (.newarray .int, 2) := by decide +kernel
theorem dX13_init_60 : decode cX13_init 60 = .ok (.putfield 29, 3) := by decide +kernel
theorem dX13_init_63 : decode cX13_init 63 = .ok (.aload_n 0, 1) := by decide +kernel
theorem dX13_init_64 : decode cX13_init 64 = .ok (.sipush 13000, 3) := by decide +kernel
theorem dX13_init_67 : decode cX13_init 67 = .ok (.newarray .long, 2) := by decide +kernel
theorem dX13_init_69 : decode cX13_init 69 = .ok (.putfield 32, 3) := by decide +kernel
theorem dX13_init_72 : decode cX13_init 72 = .ok (.aload_n 0, 1) := by decide +kernel
theorem dX13_init_73 : decode cX13_init 73 = .ok (.sipush 13000, 3) := by decide +kernel
theorem dX13_init_76 : decode cX13_init 76 = .ok (.newarray .long, 2) := by decide +kernel
theorem dX13_init_78 : decode cX13_init 78 = .ok (.putfield 36, 3) := by decide +kernel
theorem dX13_init_81 : decode cX13_init 81 = .ok (.aload_n 0, 1) := by decide +kernel
theorem dX13_init_82 : decode cX13_init 82 = .ok (.sipush 13000, 3) := by decide +kernel
theorem dX13_init_85 : decode cX13_init 85 = .ok (.newarray .int, 2) := by decide +kernel
theorem dX13_init_87 : decode cX13_init 87 = .ok (.putfield 39, 3) := by decide +kernel
theorem dX13_init_90 : decode cX13_init 90 = .ok (.aload_n 0, 1) := by decide +kernel
theorem dX13_init_91 : decode cX13_init 91 = .ok (.sipush 13000, 3) := by decide +kernel
theorem dX13_init_94 : decode cX13_init 94 = .ok (.newarray .int, 2) := by decide +kernel
theorem dX13_init_96 : decode cX13_init 96 = .ok (.putfield 42, 3) := by decide +kernel
theorem dX13_init_99 : decode cX13_init 99 = .ok (.aload_n 0, 1) := by decide +kernel
theorem dX13_init_100 : decode cX13_init 100 = .ok (.sipush 13000, 3) := by decide +kernel
theorem dX13_init_103 : decode cX13_init 103 = .ok (.newarray .int, 2) := by decide +kernel
theorem dX13_init_105 : decode cX13_init 105 = .ok (.putfield 45, 3) := by decide +kernel
theorem dX13_init_108 : decode cX13_init 108 = .ok (.aload_n 0, 1) := by decide +kernel
theorem dX13_init_109 : decode cX13_init 109 = .ok (.sipush 13000, 3) := by decide +kernel
theorem dX13_init_112 : decode cX13_init 112 = .ok (.newarray .int, 2) := by decide +kernel
theorem dX13_init_114 : decode cX13_init 114 = .ok (.putfield 48, 3) := by decide +kernel
theorem dX13_init_117 : decode cX13_init 117 = .ok (.aload_n 0, 1) := by decide +kernel
theorem dX13_init_118 : decode cX13_init 118 = .ok (.sipush 24300, 3) := by decide +kernel
theorem dX13_init_121 : decode cX13_init 121 = .ok (.newarray .int, 2) := by decide +kernel
theorem dX13_init_123 : decode cX13_init 123 = .ok (.putfield 51, 3) := by decide +kernel
theorem dX13_init_126 : decode cX13_init 126 = .ok (.aload_n 0, 1) := by decide +kernel
theorem dX13_init_127 : decode cX13_init 127 = .ok (.bipush 60, 2) := by decide +kernel
theorem dX13_init_129 : decode cX13_init 129 = .ok (.newarray .int, 2) := by decide +kernel
theorem dX13_init_131 : decode cX13_init 131 = .ok (.putfield 54, 3) := by decide +kernel
theorem dX13_init_134 : decode cX13_init 134 = .ok (.aload_n 0, 1) := by decide +kernel
theorem dX13_init_135 : decode cX13_init 135 = .ok (.bipush 60, 2) := by decide +kernel
theorem dX13_init_137 : decode cX13_init 137 = .ok (.newarray .int, 2) := by decide +kernel
theorem dX13_init_139 : decode cX13_init 139 = .ok (.putfield 57, 3) := by decide +kernel
theorem dX13_init_142 : decode cX13_init 142 = .ok (.aload_n 0, 1) := by decide +kernel
theorem dX13_init_143 : decode cX13_init 143 = .ok (.bipush 60, 2) := by decide +kernel
theorem dX13_init_145 : decode cX13_init 145 = .ok (.newarray .int, 2) := by decide +kernel
theorem dX13_init_147 : decode cX13_init 147 = .ok (.putfield 60, 3) := by decide +kernel
theorem dX13_init_150 : decode cX13_init 150 = .ok (.aload_n 0, 1) := by decide +kernel
theorem dX13_init_151 : decode cX13_init 151 = .ok (.bipush 60, 2) := by decide +kernel
theorem dX13_init_153 : decode cX13_init 153 = .ok (.newarray .int, 2) := by decide +kernel
theorem dX13_init_155 : decode cX13_init 155 = .ok (.putfield 63, 3) := by decide +kernel
theorem dX13_init_158 : decode cX13_init 158 = .ok (.aload_n 0, 1) := by decide +kernel
theorem dX13_init_159 : decode cX13_init 159 = .ok (.bipush 60, 2) := by decide +kernel
theorem dX13_init_161 : decode cX13_init 161 = .ok (.newarray .int, 2) := by decide +kernel
theorem dX13_init_163 : decode cX13_init 163 = .ok (.putfield 66, 3) := by decide +kernel
theorem dX13_init_166 : decode cX13_init 166 = .ok (.aload_n 0, 1) := by decide +kernel
theorem dX13_init_167 : decode cX13_init 167 = .ok (.bipush 60, 2) := by decide +kernel
theorem dX13_init_169 : decode cX13_init 169 = .ok (.newarray .int, 2) := by decide +kernel
theorem dX13_init_171 : decode cX13_init 171 = .ok (.putfield 69, 3) := by decide +kernel
theorem dX13_init_174 : decode cX13_init 174 = .ok (.aload_n 0, 1) := by decide +kernel
theorem dX13_init_175 : decode cX13_init 175 = .ok (.bipush 8, 2) := by decide +kernel
theorem dX13_init_177 : decode cX13_init 177 = .ok (.newarray .int, 2) := by decide +kernel
theorem dX13_init_179 : decode cX13_init 179 = .ok (.putfield 72, 3) := by decide +kernel
theorem dX13_init_182 : decode cX13_init 182 = .ok (.aload_n 0, 1) := by decide +kernel
theorem dX13_init_183 : decode cX13_init 183 = .ok (.bipush 48, 2) := by decide +kernel
theorem dX13_init_185 : decode cX13_init 185 = .ok (.newarray .int, 2) := by decide +kernel
theorem dX13_init_187 : decode cX13_init 187 = .ok (.putfield 75, 3) := by decide +kernel
theorem dX13_init_190 : decode cX13_init 190 = .ok (.aload_n 0, 1) := by decide +kernel
theorem dX13_init_191 : decode cX13_init 191 = .ok (.bipush 8, 2) := by decide +kernel
theorem dX13_init_193 : decode cX13_init 193 = .ok (.newarray .int, 2) := by decide +kernel
theorem dX13_init_195 : decode cX13_init 195 = .ok (.putfield 78, 3) := by decide +kernel
theorem dX13_init_198 : decode cX13_init 198 = .ok (.aload_n 0, 1) := by decide +kernel
theorem dX13_init_199 : decode cX13_init 199 = .ok (.bipush 32, 2) := by decide +kernel
theorem dX13_init_201 : decode cX13_init 201 = .ok (.newarray .int, 2) := by decide +kernel
theorem dX13_init_203 : decode cX13_init 203 = .ok (.putfield 81, 3) := by decide +kernel
theorem dX13_init_206 : decode cX13_init 206 = .ok (.aload_n 0, 1) := by decide +kernel
theorem dX13_init_207 : decode cX13_init 207 = .ok (.bipush 8, 2) := by decide +kernel
theorem dX13_init_209 : decode cX13_init 209 = .ok (.newarray .int, 2) := by decide +kernel
theorem dX13_init_211 : decode cX13_init 211 = .ok (.putfield 84, 3) := by decide +kernel
theorem dX13_init_214 : decode cX13_init 214 = .ok (.aload_n 0, 1) := by decide +kernel
theorem dX13_init_215 : decode cX13_init 215 = .ok (.bipush 64, 2) := by decide +kernel
theorem dX13_init_217 : decode cX13_init 217 = .ok (.newarray .int, 2) := by decide +kernel
theorem dX13_init_219 : decode cX13_init 219 = .ok (.putfield 87, 3) := by decide +kernel
theorem dX13_init_222 : decode cX13_init 222 = .ok (.aload_n 0, 1) := by decide +kernel
theorem dX13_init_223 : decode cX13_init 223 = .ok (.bipush 64, 2) := by decide +kernel
theorem dX13_init_225 : decode cX13_init 225 = .ok (.newarray .int, 2) := by decide +kernel
theorem dX13_init_227 : decode cX13_init 227 = .ok (.putfield 90, 3) := by decide +kernel
theorem dX13_init_230 : decode cX13_init 230 = .ok (.aload_n 0, 1) := by decide +kernel
theorem dX13_init_231 : decode cX13_init 231 = .ok (.bipush 64, 2) := by decide +kernel
theorem dX13_init_233 : decode cX13_init 233 = .ok (.newarray .int, 2) := by decide +kernel
theorem dX13_init_235 : decode cX13_init 235 = .ok (.putfield 93, 3) := by decide +kernel
theorem dX13_init_238 : decode cX13_init 238 = .ok (.aload_n 0, 1) := by decide +kernel
theorem dX13_init_239 : decode cX13_init 239 = .ok (.bipush 64, 2) := by decide +kernel
theorem dX13_init_241 : decode cX13_init 241 = .ok (.newarray .int, 2) := by decide +kernel
theorem dX13_init_243 : decode cX13_init 243 = .ok (.putfield 96, 3) := by decide +kernel
theorem dX13_init_246 : decode cX13_init 246 = .ok (.aload_n 0, 1) := by decide +kernel
theorem dX13_init_247 : decode cX13_init 247 = .ok (.bipush 8, 2) := by decide +kernel
theorem dX13_init_249 : decode cX13_init 249 = .ok (.newarray .int, 2) := by decide +kernel
theorem dX13_init_251 : decode cX13_init 251 = .ok (.putfield 99, 3) := by decide +kernel
theorem dX13_init_254 : decode cX13_init 254 = .ok (.aload_n 0, 1) := by decide +kernel
theorem dX13_init_255 : decode cX13_init 255 = .ok (.bipush 40, 2) := by decide +kernel
theorem dX13_init_257 : decode cX13_init 257 = .ok (.newarray .int, 2) := by decide +kernel
theorem dX13_init_259 : decode cX13_init 259 = .ok (.putfield 102, 3) := by decide +kernel
theorem dX13_init_262 : decode cX13_init 262 = .ok (.aload_n 0, 1) := by decide +kernel
theorem dX13_init_263 : decode cX13_init 263 = .ok (.bipush 40, 2) := by decide +kernel
theorem dX13_init_265 : decode cX13_init 265 = .ok (.newarray .int, 2) := by decide +kernel
theorem dX13_init_267 : decode cX13_init 267 = .ok (.putfield 105, 3) := by decide +kernel
theorem dX13_init_270 : decode cX13_init 270 = .ok (.aload_n 0, 1) := by decide +kernel
theorem dX13_init_271 : decode cX13_init 271 = .ok (.bipush 40, 2) := by decide +kernel
theorem dX13_init_273 : decode cX13_init 273 = .ok (.newarray .int, 2) := by decide +kernel
theorem dX13_init_275 : decode cX13_init 275 = .ok (.putfield 108, 3) := by decide +kernel
theorem dX13_init_278 : decode cX13_init 278 = .ok (.aload_n 0, 1) := by decide +kernel
theorem dX13_init_279 : decode cX13_init 279 = .ok (.bipush 40, 2) := by decide +kernel
theorem dX13_init_281 : decode cX13_init 281 = .ok (.newarray .int, 2) := by decide +kernel
theorem dX13_init_283 : decode cX13_init 283 = .ok (.putfield 111, 3) := by decide +kernel
theorem dX13_init_286 : decode cX13_init 286 = .ok (.aload_n 0, 1) := by decide +kernel
theorem dX13_init_287 : decode cX13_init 287 = .ok (.sipush 320, 3) := by decide +kernel
theorem dX13_init_290 : decode cX13_init 290 = .ok (.newarray .int, 2) := by decide +kernel
theorem dX13_init_292 : decode cX13_init 292 = .ok (.putfield 114, 3) := by decide +kernel
theorem dX13_init_295 : decode cX13_init 295 = .ok (.aload_n 0, 1) := by decide +kernel
theorem dX13_init_296 : decode cX13_init 296 = .ok (.bipush 40, 2) := by decide +kernel
theorem dX13_init_298 : decode cX13_init 298 = .ok (.newarray .int, 2) := by decide +kernel
theorem dX13_init_300 : decode cX13_init 300 = .ok (.putfield 117, 3) := by decide +kernel
theorem dX13_init_303 : decode cX13_init 303 = .ok (.aload_n 0, 1) := by decide +kernel
theorem dX13_init_304 : decode cX13_init 304 = .ok (.bipush 40, 2) := by decide +kernel
theorem dX13_init_306 : decode cX13_init 306 = .ok (.newarray .int, 2) := by decide +kernel
theorem dX13_init_308 : decode cX13_init 308 = .ok (.putfield 120, 3) := by decide +kernel
theorem dX13_init_311 : decode cX13_init 311 = .ok (.aload_n 0, 1) := by decide +kernel
theorem dX13_init_312 : decode cX13_init 312 = .ok (.bipush 40, 2) := by decide +kernel
theorem dX13_init_314 : decode cX13_init 314 = .ok (.newarray .int, 2) := by decide +kernel
theorem dX13_init_316 : decode cX13_init 316 = .ok (.putfield 123, 3) := by decide +kernel
theorem dX13_init_319 : decode cX13_init 319 = .ok (.aload_n 0, 1) := by decide +kernel
theorem dX13_init_320 : decode cX13_init 320 = .ok (.sipush 401, 3) := by decide +kernel
theorem dX13_init_323 : decode cX13_init 323 = .ok (.newarray .int, 2) := by decide +kernel
theorem dX13_init_325 : decode cX13_init 325 = .ok (.putfield 126, 3) := by decide +kernel
theorem dX13_init_328 : decode cX13_init 328 = .ok (.aload_n 0, 1) := by decide +kernel
theorem dX13_init_329 : decode cX13_init 329 = .ok (.sipush 401, 3) := by decide +kernel
theorem dX13_init_332 : decode cX13_init 332 = .ok (.newarray .int, 2) := by decide +kernel
theorem dX13_init_334 : decode cX13_init 334 = .ok (.putfield 129, 3) := by decide +kernel
theorem dX13_init_337 : decode cX13_init 337 = .ok (.aload_n 0, 1) := by decide +kernel
theorem dX13_init_338 : decode cX13_init 338 = .ok (.sipush 401, 3) := by decide +kernel
theorem dX13_init_341 : decode cX13_init 341 = .ok (.newarray .int, 2) := by decide +kernel
theorem dX13_init_343 : decode cX13_init 343 = .ok (.putfield 132, 3) := by decide +kernel
theorem dX13_init_346 : decode cX13_init 346 = .ok (.aload_n 0, 1) := by decide +kernel
theorem dX13_init_347 : decode cX13_init 347 = .ok (.sipush 401, 3) := by decide +kernel
theorem dX13_init_350 : decode cX13_init 350 = .ok (.newarray .int, 2) := by decide +kernel
theorem dX13_init_352 : decode cX13_init 352 = .ok (.putfield 135, 3) := by decide +kernel
theorem dX13_init_355 : decode cX13_init 355 = .ok (.aload_n 0, 1) := by decide +kernel
theorem dX13_init_356 : decode cX13_init 356 = .ok (.sipush 401, 3) := by decide +kernel
theorem dX13_init_359 : decode cX13_init 359 = .ok (.newarray .int, 2) := by decide +kernel
theorem dX13_init_361 : decode cX13_init 361 = .ok (.putfield 138, 3) := by decide +kernel
theorem dX13_init_364 : decode cX13_init 364 = .ok (.aload_n 0, 1) := by decide +kernel
theorem dX13_init_365 : decode cX13_init 365 = .ok (.sipush 401, 3) := by decide +kernel
theorem dX13_init_368 : decode cX13_init 368 = .ok (.newarray .int, 2) := by decide +kernel
theorem dX13_init_370 : decode cX13_init 370 = .ok (.putfield 141, 3) := by decide +kernel
theorem dX13_init_373 : decode cX13_init 373 = .ok (.aload_n 0, 1) := by decide +kernel
theorem dX13_init_374 : decode cX13_init 374 = .ok (.sipush 401, 3) := by decide +kernel
theorem dX13_init_377 : decode cX13_init 377 = .ok (.newarray .int, 2) := by decide +kernel
theorem dX13_init_379 : decode cX13_init 379 = .ok (.putfield 144, 3) := by decide +kernel
theorem dX13_init_382 : decode cX13_init 382 = .ok (.aload_n 0, 1) := by decide +kernel
theorem dX13_init_383 : decode cX13_init 383 = .ok (.sipush 401, 3) := by decide +kernel
theorem dX13_init_386 : decode cX13_init 386 = .ok (.newarray .int, 2) := by decide +kernel
theorem dX13_init_388 : decode cX13_init 388 = .ok (.putfield 147, 3) := by decide +kernel
theorem dX13_init_391 : decode cX13_init 391 = .ok (.aload_n 0, 1) := by decide +kernel
theorem dX13_init_392 : decode cX13_init 392 = .ok (.sipush 401, 3) := by decide +kernel
theorem dX13_init_395 : decode cX13_init 395 = .ok (.newarray .int, 2) := by decide +kernel
theorem dX13_init_397 : decode cX13_init 397 = .ok (.putfield 150, 3) := by decide +kernel
theorem dX13_init_400 : decode cX13_init 400 = .ok (.aload_n 0, 1) := by decide +kernel
theorem dX13_init_401 : decode cX13_init 401 = .ok (.sipush 401, 3) := by decide +kernel
theorem dX13_init_404 : decode cX13_init 404 = .ok (.newarray .int, 2) := by decide +kernel
theorem dX13_init_406 : decode cX13_init 406 = .ok (.putfield 153, 3) := by decide +kernel
theorem dX13_init_409 : decode cX13_init 409 = .ok (.aload_n 0, 1) := by decide +kernel
theorem dX13_init_410 : decode cX13_init 410 = .ok (.sipush 401, 3) := by decide +kernel
theorem dX13_init_413 : decode cX13_init 413 = .ok (.newarray .int, 2) := by decide +kernel
theorem dX13_init_415 : decode cX13_init 415 = .ok (.putfield 156, 3) := by decide +kernel
theorem dX13_init_418 : decode cX13_init 418 = .ok (.aload_n 0, 1) := by decide +kernel
theorem dX13_init_419 : decode cX13_init 419 = .ok (.sipush 401, 3) := by decide +kernel
theorem dX13_init_422 : decode cX13_init 422 = .ok (.newarray .int, 2) := by decide +kernel
theorem dX13_init_424 : decode cX13_init 424 = .ok (.putfield 159, 3) := by decide +kernel
theorem dX13_init_427 : decode cX13_init 427 = .ok (.aload_n 0, 1) := by decide +kernel
theorem dX13_init_428 : decode cX13_init 428 = .ok (.sipush 401, 3) := by decide +kernel
theorem dX13_init_431 : decode cX13_init 431 = .ok (.newarray .int, 2) := by decide +kernel
theorem dX13_init_433 : decode cX13_init 433 = .ok (.putfield 162, 3) := by decide +kernel
theorem dX13_init_436 : decode cX13_init 436 = .ok (.aload_n 0, 1) := by decide +kernel
theorem dX13_init_437 : decode cX13_init 437 = .ok (.sipush 401, 3) := by decide +kernel
theorem dX13_init_440 : decode cX13_init 440 = .ok (.newarray .int, 2) := by decide +kernel
theorem dX13_init_442 : decode cX13_init 442 = .ok (.putfield 165, 3) := by decide +kernel
theorem dX13_init_445 : decode cX13_init 445 = .ok (.aload_n 0, 1) := by decide +kernel
theorem dX13_init_446 : decode cX13_init 446 = .ok (.sipush 401, 3) := by decide +kernel
theorem dX13_init_449 : decode cX13_init 449 = .ok (.newarray .int, 2) := by decide +kernel
theorem dX13_init_451 : decode cX13_init 451 = .ok (.putfield 168, 3) := by decide +kernel
theorem dX13_init_454 : decode cX13_init 454 = .ok (.aload_n 0, 1) := by decide +kernel
theorem dX13_init_455 : decode cX13_init 455 = .ok (.sipush 13000, 3) := by decide +kernel
theorem dX13_init_458 : decode cX13_init 458 = .ok (.newarray .int, 2) := by decide +kernel
theorem dX13_init_460 : decode cX13_init 460 = .ok (.putfield 171, 3) := by decide +kernel
theorem dX13_init_463 : decode cX13_init 463 = .ok (.aload_n 0, 1) := by decide +kernel
theorem dX13_init_464 : decode cX13_init 464 = .ok (.sipush 13000, 3) := by decide +kernel
theorem dX13_init_467 : decode cX13_init 467 = .ok (.newarray .boolean, 2) := by decide +kernel
theorem dX13_init_469 : decode cX13_init 469 = .ok (.putfield 174, 3) := by decide +kernel
theorem dX13_init_472 : decode cX13_init 472 = .ok (.aload_n 0, 1) := by decide +kernel
theorem dX13_init_473 : decode cX13_init 473 = .ok (.bipush 60, 2) := by decide +kernel
theorem dX13_init_475 : decode cX13_init 475 = .ok (.newarray .int, 2) := by decide +kernel
theorem dX13_init_477 : decode cX13_init 477 = .ok (.putfield 178, 3) := by decide +kernel
theorem dX13_init_480 : decode cX13_init 480 = .ok (.aload_n 0, 1) := by decide +kernel
theorem dX13_init_481 : decode cX13_init 481 = .ok (.ldc 181, 2) := by decide +kernel
theorem dX13_init_483 : decode cX13_init 483 = .ok (.newarray .long, 2) := by decide +kernel
theorem dX13_init_485 : decode cX13_init 485 = .ok (.putfield 182, 3) := by decide +kernel
theorem dX13_init_488 : decode cX13_init 488 = .ok (.aload_n 0, 1) := by decide +kernel
theorem dX13_init_489 : decode cX13_init 489 = .ok (.sipush 8600, 3) := by decide +kernel
theorem dX13_init_492 : decode cX13_init 492 = .ok (.newarray .long, 2) := by decide +kernel
theorem dX13_init_494 : decode cX13_init 494 = .ok (.putfield 185, 3) := by decide +kernel
theorem dX13_init_497 : decode cX13_init 497 = .ok (.aload_n 0, 1) := by decide +kernel
theorem dX13_init_498 : decode cX13_init 498 = .ok (.sipush 13000, 3) := by decide +kernel
theorem dX13_init_501 : decode cX13_init 501 = .ok (.newarray .int, 2) := by decide +kernel
theorem dX13_init_503 : decode cX13_init 503 = .ok (.putfield 188, 3) := by decide +kernel
theorem dX13_init_506 : decode cX13_init 506 = .ok (.aload_n 0, 1) := by decide +kernel
theorem dX13_init_507 : decode cX13_init 507 = .ok (.bipush 20, 2) := by decide +kernel
theorem dX13_init_509 : decode cX13_init 509 = .ok (.newarray .int, 2) := by decide +kernel
theorem dX13_init_511 : decode cX13_init 511 = .ok (.putfield 191, 3) := by decide +kernel
theorem dX13_init_514 : decode cX13_init 514 = .ok (.aload_n 0, 1) := by decide +kernel
theorem dX13_init_515 : decode cX13_init 515 = .ok (.sipush 20000, 3) := by decide +kernel
theorem dX13_init_518 : decode cX13_init 518 = .ok (.newarray .int, 2) := by decide +kernel
theorem dX13_init_520 : decode cX13_init 520 = .ok (.putfield 194, 3) := by decide +kernel
theorem dX13_init_523 : decode cX13_init 523 = .ok (.aload_n 0, 1) := by decide +kernel
theorem dX13_init_524 : decode cX13_init 524 = .ok (.sipush 13000, 3) := by decide +kernel
theorem dX13_init_527 : decode cX13_init 527 = .ok (.newarray .long, 2) := by decide +kernel
theorem dX13_init_529 : decode cX13_init 529 = .ok (.putfield 197, 3) := by decide +kernel
theorem dX13_init_532 : decode cX13_init 532 = .ok (.aload_n 0, 1) := by decide +kernel
theorem dX13_init_533 : decode cX13_init 533 = .ok (.sipush 13000, 3) := by decide +kernel
theorem dX13_init_536 : decode cX13_init 536 = .ok (.newarray .boolean, 2) := by decide +kernel
theorem dX13_init_538 : decode cX13_init 538 = .ok (.putfield 200, 3) := by decide +kernel
theorem dX13_init_541 : decode cX13_init 541 = .ok (.aload_n 0, 1) := by decide +kernel
theorem dX13_init_542 : decode cX13_init 542 = .ok (.sipush 13000, 3) := by decide +kernel
theorem dX13_init_545 : decode cX13_init 545 = .ok (.newarray .int, 2) := by decide +kernel
theorem dX13_init_547 : decode cX13_init 547 = .ok (.putfield 203, 3) := by decide +kernel
theorem dX13_init_550 : decode cX13_init 550 = .ok (.aload_n 0, 1) := by decide +kernel
theorem dX13_init_551 : decode cX13_init 551 = .ok (.sipush 3100, 3) := by decide +kernel
theorem dX13_init_554 : decode cX13_init 554 = .ok (.newarray .int, 2) := by decide +kernel
theorem dX13_init_556 : decode cX13_init 556 = .ok (.putfield 206, 3) := by decide +kernel
theorem dX13_init_559 : decode cX13_init 559 = .ok (.aload_n 0, 1) := by decide +kernel
theorem dX13_init_560 : decode cX13_init 560 = .ok (.ldc 209, 2) := by decide +kernel
theorem dX13_init_562 : decode cX13_init 562 = .ok (.newarray .long, 2) := by decide +kernel
theorem dX13_init_564 : decode cX13_init 564 = .ok (.putfield 210, 3) := by decide +kernel
theorem dX13_init_567 : decode cX13_init 567 = .ok (.aload_n 0, 1) := by decide +kernel
theorem dX13_init_568 : decode cX13_init 568 = .ok (.ldc 209, 2) := by decide +kernel
theorem dX13_init_570 : decode cX13_init 570 = .ok (.newarray .long, 2) := by decide +kernel
theorem dX13_init_572 : decode cX13_init 572 = .ok (.putfield 213, 3) := by decide +kernel
theorem dX13_init_575 : decode cX13_init 575 = .ok (.aload_n 0, 1) := by decide +kernel
theorem dX13_init_576 : decode cX13_init 576 = .ok (.ldc 216, 2) := by decide +kernel
theorem dX13_init_578 : decode cX13_init 578 = .ok (.newarray .long, 2) := by decide +kernel
theorem dX13_init_580 : decode cX13_init 580 = .ok (.putfield 217, 3) := by decide +kernel
theorem dX13_init_583 : decode cX13_init 583 = .ok (.aload_n 0, 1) := by decide +kernel
theorem dX13_init_584 : decode cX13_init 584 = .ok (.ldc 216, 2) := by decide +kernel
theorem dX13_init_586 : decode cX13_init 586 = .ok (.newarray .boolean, 2) := by decide +kernel
theorem dX13_init_588 : decode cX13_init 588 = .ok (.putfield 220, 3) := by decide +kernel
theorem dX13_init_591 : decode cX13_init 591 = .ok (.aload_n 0, 1) := by decide +kernel
theorem dX13_init_592 : decode cX13_init 592 = .ok (.sipush 8421, 3) := by decide +kernel
theorem dX13_init_595 : decode cX13_init 595 = .ok (.newarray .long, 2) := by decide +kernel
theorem dX13_init_597 : decode cX13_init 597 = .ok (.putfield 223, 3) := by decide +kernel
theorem dX13_init_600 : decode cX13_init 600 = .ok (.aload_n 0, 1) := by decide +kernel
theorem dX13_init_601 : decode cX13_init 601 = .ok (.sipush 8600, 3) := by decide +kernel
theorem dX13_init_604 : decode cX13_init 604 = .ok (.newarray .boolean, 2) := by decide +kernel
theorem dX13_init_606 : decode cX13_init 606 = .ok (.putfield 226, 3) := by decide +kernel
theorem dX13_init_609 : decode cX13_init 609 = .ok (.aload_n 0, 1) := by decide +kernel
theorem dX13_init_610 : decode cX13_init 610 = .ok (.sipush 400, 3) := by decide +kernel
theorem dX13_init_613 : decode cX13_init 613 = .ok (.newarray .int, 2) := by decide +kernel
theorem dX13_init_615 : decode cX13_init 615 = .ok (.putfield 229, 3) := by decide +kernel
theorem dX13_init_618 : decode cX13_init 618 = .ok (.aload_n 0, 1) := by decide +kernel
theorem dX13_init_619 : decode cX13_init 619 = .ok (.sipush 400, 3) := by decide +kernel
theorem dX13_init_622 : decode cX13_init 622 = .ok (.newarray .int, 2) := by decide +kernel
theorem dX13_init_624 : decode cX13_init 624 = .ok (.putfield 232, 3) := by decide +kernel
theorem dX13_init_627 : decode cX13_init 627 = .ok (.aload_n 0, 1) := by decide +kernel
theorem dX13_init_628 : decode cX13_init 628 = .ok (.sipush 400, 3) := by decide +kernel
theorem dX13_init_631 : decode cX13_init 631 = .ok (.newarray .long, 2) := by decide +kernel
theorem dX13_init_633 : decode cX13_init 633 = .ok (.putfield 235, 3) := by decide +kernel
theorem dX13_init_636 : decode cX13_init 636 = .ok (.aload_n 0, 1) := by decide +kernel
theorem dX13_init_637 : decode cX13_init 637 = .ok (.sipush 8600, 3) := by decide +kernel
theorem dX13_init_640 : decode cX13_init 640 = .ok (.newarray .long, 2) := by decide +kernel
theorem dX13_init_642 : decode cX13_init 642 = .ok (.putfield 238, 3) := by decide +kernel
theorem dX13_init_645 : decode cX13_init 645 = .ok (.aload_n 0, 1) := by decide +kernel
theorem dX13_init_646 : decode cX13_init 646 = .ok (.bipush 20, 2) := by decide +kernel
theorem dX13_init_648 : decode cX13_init 648 = .ok (.newarray .int, 2) := by decide +kernel
theorem dX13_init_650 : decode cX13_init 650 = .ok (.putfield 241, 3) := by decide +kernel
theorem dX13_init_653 : decode cX13_init 653 = .ok (.aload_n 0, 1) := by decide +kernel
theorem dX13_init_654 : decode cX13_init 654 = .ok (.sipush 13000, 3) := by decide +kernel
theorem dX13_init_657 : decode cX13_init 657 = .ok (.newarray .int, 2) := by decide +kernel
theorem dX13_init_659 : decode cX13_init 659 = .ok (.putfield 244, 3) := by decide +kernel
theorem dX13_init_662 : decode cX13_init 662 = .ok (.aload_n 0, 1) := by decide +kernel
theorem dX13_init_663 : decode cX13_init 663 = .ok (.ldc 247, 2) := by decide +kernel
theorem dX13_init_665 : decode cX13_init 665 = .ok (.newarray .long, 2) := by decide +kernel
theorem dX13_init_667 : decode cX13_init 667 = .ok (.putfield 248, 3) := by decide +kernel
theorem dX13_init_670 : decode cX13_init 670 = .ok (.aload_n 0, 1) := by decide +kernel
theorem dX13_init_671 : decode cX13_init 671 = .ok (.ldc 251, 2) := by decide +kernel
theorem dX13_init_673 : decode cX13_init 673 = .ok (.newarray .int, 2) := by decide +kernel
theorem dX13_init_675 : decode cX13_init 675 = .ok (.putfield 252, 3) := by decide +kernel
theorem dX13_init_678 : decode cX13_init 678 = .ok (.aload_n 0, 1) := by decide +kernel
theorem dX13_init_679 : decode cX13_init 679 = .ok (.sipush 270, 3) := by decide +kernel
theorem dX13_init_682 : decode cX13_init 682 = .ok (.newarray .int, 2) := by decide +kernel
theorem dX13_init_684 : decode cX13_init 684 = .ok (.putfield 255, 3) := by decide +kernel
theorem dX13_init_687 : decode cX13_init 687 = .ok (.aload_n 0, 1) := by decide +kernel
theorem dX13_init_688 : decode cX13_init 688 = .ok (.bipush 60, 2) := by decide +kernel
theorem dX13_init_690 : decode cX13_init 690 = .ok (.newarray .int, 2) := by decide +kernel
theorem dX13_init_692 : decode cX13_init 692 = .ok (.putfield 258, 3) := by decide +kernel
theorem dX13_init_695 : decode cX13_init 695 = .ok (.aload_n 0, 1) := by decide +kernel
theorem dX13_init_696 : decode cX13_init 696 = .ok (.bipush 16, 2) := by decide +kernel
theorem dX13_init_698 : decode cX13_init 698 = .ok (.newarray .int, 2) := by decide +kernel
theorem dX13_init_700 : decode cX13_init 700 = .ok (.putfield 261, 3) := by decide +kernel
theorem dX13_init_703 : decode cX13_init 703 = .ok (.aload_n 0, 1) := by decide +kernel
theorem dX13_init_704 : decode cX13_init 704 = .ok (.bipush 16, 2) := by decide +kernel
theorem dX13_init_706 : decode cX13_init 706 = .ok (.newarray .int, 2) := by decide +kernel
theorem dX13_init_708 : decode cX13_init 708 = .ok (.putfield 264, 3) := by decide +kernel
theorem dX13_init_711 : decode cX13_init 711 = .ok (.aload_n 0, 1) := by decide +kernel
theorem dX13_init_712 : decode cX13_init 712 = .ok (.bipush 16, 2) := by decide +kernel
theorem dX13_init_714 : decode cX13_init 714 = .ok (.newarray .boolean, 2) := by decide +kernel
theorem dX13_init_716 : decode cX13_init 716 = .ok (.putfield 267, 3) := by decide +kernel
theorem dX13_init_719 : decode cX13_init 719 = .ok (.aload_n 0, 1) := by decide +kernel
theorem dX13_init_720 : decode cX13_init 720 = .ok (.sipush 130, 3) := by decide +kernel
theorem dX13_init_723 : decode cX13_init 723 = .ok (.newarray .int, 2) := by decide +kernel
theorem dX13_init_725 : decode cX13_init 725 = .ok (.putfield 270, 3) := by decide +kernel
theorem dX13_init_728 : decode cX13_init 728 = .ok (.aload_n 0, 1) := by decide +kernel
theorem dX13_init_729 : decode cX13_init 729 = .ok (.bipush 8, 2) := by decide +kernel
theorem dX13_init_731 : decode cX13_init 731 = .ok (.newarray .int, 2) := by decide +kernel
theorem dX13_init_733 : decode cX13_init 733 = .ok (.putfield 273, 3) := by decide +kernel
theorem dX13_init_736 : decode cX13_init 736 = .ok (.aload_n 0, 1) := by decide +kernel
theorem dX13_init_737 : decode cX13_init 737 = .ok (.bipush 8, 2) := by decide +kernel
theorem dX13_init_739 : decode cX13_init 739 = .ok (.newarray .int, 2) := by decide +kernel
theorem dX13_init_741 : decode cX13_init 741 = .ok (.putfield 276, 3) := by decide +kernel
theorem dX13_init_744 : decode cX13_init 744 = .ok (.aload_n 0, 1) := by decide +kernel
theorem dX13_init_745 : decode cX13_init 745 = .ok (.bipush 8, 2) := by decide +kernel
theorem dX13_init_747 : decode cX13_init 747 = .ok (.newarray .int, 2) := by decide +kernel
theorem dX13_init_749 : decode cX13_init 749 = .ok (.putfield 279, 3) := by decide +kernel
theorem dX13_init_752 : decode cX13_init 752 = .ok (.aload_n 0, 1) := by decide +kernel
theorem dX13_init_753 : decode cX13_init 753 = .ok (.bipush 8, 2) := by decide +kernel
theorem dX13_init_755 : decode cX13_init 755 = .ok (.newarray .int, 2) := by decide +kernel
theorem dX13_init_757 : decode cX13_init 757 = .ok (.putfield 282, 3) := by decide +kernel
theorem dX13_init_760 : decode cX13_init 760 = .ok (.aload_n 0, 1) := by decide +kernel
theorem dX13_init_761 : decode cX13_init 761 = .ok (.bipush 64, 2) := by decide +kernel
theorem dX13_init_763 : decode cX13_init 763 = .ok (.newarray .int, 2) := by decide +kernel
theorem dX13_init_765 : decode cX13_init 765 = .ok (.putfield 285, 3) := by decide +kernel
theorem dX13_init_768 : decode cX13_init 768 = .ok (.aload_n 0, 1) := by decide +kernel
theorem dX13_init_769 : decode cX13_init 769 = .ok (.bipush 64, 2) := by decide +kernel
theorem dX13_init_771 : decode cX13_init 771 = .ok (.newarray .int, 2) := by decide +kernel
theorem dX13_init_773 : decode cX13_init 773 = .ok (.putfield 288, 3) := by decide +kernel
theorem dX13_init_776 : decode cX13_init 776 = .ok (.aload_n 0, 1) := by decide +kernel
theorem dX13_init_777 : decode cX13_init 777 = .ok (.bipush 64, 2) := by decide +kernel
theorem dX13_init_779 : decode cX13_init 779 = .ok (.newarray .int, 2) := by decide +kernel
theorem dX13_init_781 : decode cX13_init 781 = .ok (.putfield 291, 3) := by decide +kernel
theorem dX13_init_784 : decode cX13_init 784 = .ok (.aload_n 0, 1) := by decide +kernel
theorem dX13_init_785 : decode cX13_init 785 = .ok (.bipush 8, 2) := by decide +kernel
theorem dX13_init_787 : decode cX13_init 787 = .ok (.newarray .int, 2) := by decide +kernel
theorem dX13_init_789 : decode cX13_init 789 = .ok (.putfield 294, 3) := by decide +kernel
theorem dX13_init_792 : decode cX13_init 792 = .ok (.aload_n 0, 1) := by decide +kernel
theorem dX13_init_793 : decode cX13_init 793 = .ok (.bipush 32, 2) := by decide +kernel
theorem dX13_init_795 : decode cX13_init 795 = .ok (.newarray .int, 2) := by decide +kernel
theorem dX13_init_797 : decode cX13_init 797 = .ok (.putfield 297, 3) := by decide +kernel
theorem dX13_init_800 : decode cX13_init 800 = .ok (.aload_n 0, 1) := by decide +kernel
theorem dX13_init_801 : decode cX13_init 801 = .ok (.bipush 8, 2) := by decide +kernel
theorem dX13_init_803 : decode cX13_init 803 = .ok (.newarray .int, 2) := by decide +kernel
theorem dX13_init_805 : decode cX13_init 805 = .ok (.putfield 300, 3) := by decide +kernel
theorem dX13_init_808 : decode cX13_init 808 = .ok (.aload_n 0, 1) := by decide +kernel
theorem dX13_init_809 : decode cX13_init 809 = .ok (.bipush 8, 2) := by decide +kernel
theorem dX13_init_811 : decode cX13_init 811 = .ok (.newarray .int, 2) := by decide +kernel
theorem dX13_init_813 : decode cX13_init 813 = .ok (.putfield 303, 3) := by decide +kernel
theorem dX13_init_816 : decode cX13_init 816 = .ok (.aload_n 0, 1) := by decide +kernel
theorem dX13_init_817 : decode cX13_init 817 = .ok (.bipush 48, 2) := by decide +kernel
theorem dX13_init_819 : decode cX13_init 819 = .ok (.newarray .int, 2) := by decide +kernel
theorem dX13_init_821 : decode cX13_init 821 = .ok (.putfield 306, 3) := by decide +kernel
theorem dX13_init_824 : decode cX13_init 824 = .ok (.aload_n 0, 1) := by decide +kernel
theorem dX13_init_825 : decode cX13_init 825 = .ok (.bipush 48, 2) := by decide +kernel
theorem dX13_init_827 : decode cX13_init 827 = .ok (.newarray .int, 2) := by decide +kernel
theorem dX13_init_829 : decode cX13_init 829 = .ok (.putfield 309, 3) := by decide +kernel
theorem dX13_init_832 : decode cX13_init 832 = .ok (.aload_n 0, 1) := by decide +kernel
theorem dX13_init_833 : decode cX13_init 833 = .ok (.sipush 384, 3) := by decide +kernel
theorem dX13_init_836 : decode cX13_init 836 = .ok (.newarray .int, 2) := by decide +kernel
theorem dX13_init_838 : decode cX13_init 838 = .ok (.putfield 312, 3) := by decide +kernel
theorem dX13_init_841 : decode cX13_init 841 = .ok (.aload_n 0, 1) := by decide +kernel
theorem dX13_init_842 : decode cX13_init 842 = .ok (.bipush 48, 2) := by decide +kernel
theorem dX13_init_844 : decode cX13_init 844 = .ok (.newarray .int, 2) := by decide +kernel
theorem dX13_init_846 : decode cX13_init 846 = .ok (.putfield 315, 3) := by decide +kernel
theorem dX13_init_849 : decode cX13_init 849 = .ok (.aload_n 0, 1) := by decide +kernel
theorem dX13_init_850 : decode cX13_init 850 = .ok (.bipush 48, 2) := by decide +kernel
theorem dX13_init_852 : decode cX13_init 852 = .ok (.newarray .int, 2) := by decide +kernel
theorem dX13_init_854 : decode cX13_init 854 = .ok (.putfield 318, 3) := by decide +kernel
theorem dX13_init_857 : decode cX13_init 857 = .ok (.aload_n 0, 1) := by decide +kernel
theorem dX13_init_858 : decode cX13_init 858 = .ok (.bipush 32, 2) := by decide +kernel
theorem dX13_init_860 : decode cX13_init 860 = .ok (.newarray .long, 2) := by decide +kernel
theorem dX13_init_862 : decode cX13_init 862 = .ok (.putfield 321, 3) := by decide +kernel
theorem dX13_init_865 : decode cX13_init 865 = .ok (.aload_n 0, 1) := by decide +kernel
theorem dX13_init_866 : decode cX13_init 866 = .ok (.sipush 300, 3) := by decide +kernel
theorem dX13_init_869 : decode cX13_init 869 = .ok (.newarray .int, 2) := by decide +kernel
theorem dX13_init_871 : decode cX13_init 871 = .ok (.putfield 324, 3) := by decide +kernel
theorem dX13_init_874 : decode cX13_init 874 = .ok (.aload_n 0, 1) := by decide +kernel
theorem dX13_init_875 : decode cX13_init 875 = .ok (.sipush 300, 3) := by decide +kernel
theorem dX13_init_878 : decode cX13_init 878 = .ok (.newarray .int, 2) := by decide +kernel
theorem dX13_init_880 : decode cX13_init 880 = .ok (.putfield 327, 3) := by decide +kernel
theorem dX13_init_883 : decode cX13_init 883 = .ok (.aload_n 0, 1) := by decide +kernel
theorem dX13_init_884 : decode cX13_init 884 = .ok (.sipush 300, 3) := by decide +kernel
theorem dX13_init_887 : decode cX13_init 887 = .ok (.newarray .int, 2) := by decide +kernel
theorem dX13_init_889 : decode cX13_init 889 = .ok (.putfield 330, 3) := by decide +kernel
theorem dX13_init_892 : decode cX13_init 892 = .ok (.aload_n 0, 1) := by decide +kernel
theorem dX13_init_893 : decode cX13_init 893 = .ok (.sipush 300, 3) := by decide +kernel
theorem dX13_init_896 : decode cX13_init 896 = .ok (.newarray .boolean, 2) := by decide +kernel
theorem dX13_init_898 : decode cX13_init 898 = .ok (.putfield 333, 3) := by decide +kernel
theorem dX13_init_901 : decode cX13_init 901 = .ok (.aload_n 0, 1) := by decide +kernel
theorem dX13_init_902 : decode cX13_init 902 = .ok (.bipush 64, 2) := by decide +kernel
theorem dX13_init_904 : decode cX13_init 904 = .ok (.newarray .boolean, 2) := by decide +kernel
theorem dX13_init_906 : decode cX13_init 906 = .ok (.putfield 336, 3) := by decide +kernel
theorem dX13_init_909 : decode cX13_init 909 = .ok (.aload_n 0, 1) := by decide +kernel
theorem dX13_init_910 : decode cX13_init 910 = .ok (.sipush 3100, 3) := by decide +kernel
theorem dX13_init_913 : decode cX13_init 913 = .ok (.newarray .long, 2) := by decide +kernel
theorem dX13_init_915 : decode cX13_init 915 = .ok (.putfield 339, 3) := by decide +kernel
theorem dX13_init_918 : decode cX13_init 918 = .ok (.aload_n 0, 1) := by decide +kernel
theorem dX13_init_919 : decode cX13_init 919 = .ok (.sipush 512, 3) := by decide +kernel
theorem dX13_init_922 : decode cX13_init 922 = .ok (.newarray .boolean, 2) := by decide +kernel
theorem dX13_init_924 : decode cX13_init 924 = .ok (.putfield 342, 3) := by decide +kernel
theorem dX13_init_927 : decode cX13_init 927 = .ok (.aload_n 0, 1) := by decide +kernel
theorem dX13_init_928 : decode cX13_init 928 = .ok (.sipush 256, 3) := by decide +kernel
theorem dX13_init_931 : decode cX13_init 931 = .ok (.newarray .int, 2) := by decide +kernel
theorem dX13_init_933 : decode cX13_init 933 = .ok (.putfield 345, 3) := by decide +kernel
theorem dX13_init_936 : decode cX13_init 936 = .ok (.aload_n 0, 1) := by decide +kernel
theorem dX13_init_937 : decode cX13_init 937 = .ok (.ldc_w 348, 3) := by decide +kernel
theorem dX13_init_940 : decode cX13_init 940 = .ok (.newarray .int, 2) := by decide +kernel
theorem dX13_init_942 : decode cX13_init 942 = .ok (.putfield 349, 3) := by decide +kernel
theorem dX13_init_945 : decode cX13_init 945 = .ok (.aload_n 0, 1) := by decide +kernel
theorem dX13_init_946 : decode cX13_init 946 = .ok (.ldc_w 352, 3) := by decide +kernel
theorem dX13_init_949 : decode cX13_init 949 = .ok (.newarray .int, 2) := by decide +kernel
theorem dX13_init_951 : decode cX13_init 951 = .ok (.putfield 353, 3) := by decide +kernel
theorem dX13_init_954 : decode cX13_init 954 = .ok (.aload_n 0, 1) := by decide +kernel
theorem dX13_init_955 : decode cX13_init 955 = .ok (.ldc_w 352, 3) := by decide +kernel
theorem dX13_init_958 : decode cX13_init 958 = .ok (.newarray .int, 2) := by decide +kernel
theorem dX13_init_960 : decode cX13_init 960 = .ok (.putfield 356, 3) := by decide +kernel
theorem dX13_init_963 : decode cX13_init 963 = .ok (.aload_n 0, 1) := by decide +kernel
theorem dX13_init_964 : decode cX13_init 964 = .ok (.ldc_w 352, 3) := by decide +kernel
theorem dX13_init_967 : decode cX13_init 967 = .ok (.newarray .int, 2) := by decide +kernel
theorem dX13_init_969 : decode cX13_init 969 = .ok (.putfield 359, 3) := by decide +kernel
theorem dX13_init_972 : decode cX13_init 972 = .ok (.aload_n 0, 1) := by decide +kernel
theorem dX13_init_973 : decode cX13_init 973 = .ok (.ldc_w 362, 3) := by decide +kernel
theorem dX13_init_976 : decode cX13_init 976 = .ok (.newarray .boolean, 2) := by decide +kernel
theorem dX13_init_978 : decode cX13_init 978 = .ok (.putfield 363, 3) := by decide +kernel
theorem dX13_init_981 : decode cX13_init 981 = .ok (.return_, 1) := by decide +kernel
/-- the fields of the other class: 0 a number, 1 a long, 2 its k-th array -/
def r_kl : List (Nat × Nat) := [(2, 0), (0, 0), (0, 0), (0, 0), (0, 0), (0, 0), (0, 0), (0, 0), (1, 0), (0, 0), (0, 0), (2, 1), (2, 2), (2, 3), (0, 0), (0, 0), (0, 0), (2, 4), (2, 5), (2, 6), (2, 7), (2, 8), (2, 9), (2, 10), (0, 0), (2, 11), (0, 0), (0, 0), (0, 0), (0, 0), (0, 0), (0, 0), (0, 0), (0, 0), (0, 0), (2, 12), (0, 0), (2, 13), (2, 14), (2, 15), (0, 0), (2, 16), (2, 17), (2, 18), (0, 0), (2, 19), (2, 20), (2, 21), (2, 22), (2, 23), (2, 24), (2, 25), (2, 26), (2, 27), (2, 28), (0, 0), (2, 29), (2, 30), (2, 31), (2, 32), (2, 33), (2, 34), (2, 35), (2, 36), (0, 0), (0, 0), (2, 37), (2, 38), (2, 39), (2, 40), (2, 41), (2, 42), (2, 43), (2, 44), (2, 45), (2, 46), (2, 47), (2, 48), (2, 49), (2, 50), (2, 51), (0, 0), (0, 0), (0, 0), (0, 0), (2, 52), (0, 0), (0, 0), (0, 0), (0, 0), (0, 0), (2, 53), (2, 54), (0, 0), (0, 0), (2, 55), (0, 0), (0, 0), (0, 0), (2, 56), (0, 0), (0, 0), (2, 57), (0, 0), (2, 58), (2, 59), (0, 0), (2, 60), (0, 0), (2, 61), (2, 62), (2, 63), (2, 64), (2, 65), (0, 0), (2, 66), (2, 67), (0, 0), (2, 68), (0, 0), (2, 69), (0, 0), (2, 70), (2, 71), (2, 72), (0, 0), (0, 0), (0, 0), (1, 0), (0, 0), (2, 73), (2, 74), (2, 75), (0, 0), (2, 76), (0, 0), (2, 77), (0, 0), (0, 0), (2, 78), (2, 79), (0, 0), (2, 80), (2, 81), (2, 82), (2, 83), (0, 0), (0, 0), (1, 0), (0, 0), (2, 84), (2, 85), (2, 86), (2, 87), (2, 88), (2, 89), (2, 90), (2, 91), (2, 92), (2, 93), (2, 94), (2, 95), (2, 96), (2, 97), (2, 98), (2, 99), (2, 100), (2, 101), (2, 102), (2, 103), (2, 104), (1, 0), (1, 0), (2, 105), (0, 0), (2, 106), (0, 0), (2, 107), (0, 0), (0, 0), (0, 0), (2, 108), (2, 109), (0, 0), (0, 0), (0, 0), (2, 110), (2, 111), (2, 112), (2, 113)]
/-- its arrays, by the order in which they are made: kind and length -/
def r_al : List (Nat × Nat) := [(1, 12000), (1, 8200), (1, 8200), (1, 24300), (1, 13000), (1, 13000), (2, 13000), (2, 13000), (1, 13000), (1, 13000), (1, 13000), (1, 13000), (1, 24300), (1, 60), (1, 60), (1, 60), (1, 60), (1, 60), (1, 60), (1, 8), (1, 48), (1, 8), (1, 32), (1, 8), (1, 64), (1, 64), (1, 64), (1, 64), (1, 8), (1, 40), (1, 40), (1, 40), (1, 40), (1, 320), (1, 40), (1, 40), (1, 40), (1, 401), (1, 401), (1, 401), (1, 401), (1, 401), (1, 401), (1, 401), (1, 401), (1, 401), (1, 401), (1, 401), (1, 401), (1, 401), (1, 401), (1, 401), (1, 13000), (3, 13000), (1, 60), (2, 626600), (2, 8600), (1, 13000), (1, 20), (1, 20000), (2, 13000), (3, 13000), (1, 13000), (1, 3100), (2, 150200), (2, 150200), (2, 273000), (3, 273000), (2, 8421), (3, 8600), (1, 400), (1, 400), (2, 400), (2, 8600), (1, 20), (1, 13000), (2, 370000), (1, 577000), (1, 270), (1, 60), (1, 16), (1, 16), (3, 16), (1, 130), (1, 8), (1, 8), (1, 8), (1, 8), (1, 64), (1, 64), (1, 64), (1, 8), (1, 32), (1, 8), (1, 8), (1, 48), (1, 48), (1, 384), (1, 48), (1, 48), (2, 32), (1, 300), (1, 300), (1, 300), (3, 300), (3, 64), (2, 3100), (3, 512), (1, 256), (1, 66000), (1, 65600), (1, 65600), (1, 65600), (3, 65536)]
def r_new (k : Nat) : va_E := if (r_al.getD k (0, 0)).1 = 2 then .inl (2, (r_al.getD k (0, 0)).2, .inr (.inl (fun _ => 0))) else .inl ((r_al.getD k (0, 0)).1, (r_al.getD k (0, 0)).2, .inl (fun _ => 0))
def r_val (n K : Nat) (zi : Nat → Int32) (zj : Nat → Int64) (k : Nat) (q : Nat × Nat) : Value := if q.1 = 2 then (if q.2 < K then .ref (n + q.2) else .null) else if q.1 = 1 then .long (zj k) else .int (zi k)
/-- its fields, K arrays made -/
def r_fs (n K : Nat) (zi : Nat → Int32) (zj : Nat → Int64) : List Value := (List.range 190).map (fun k => r_val n K zi zj k (r_kl.getD k (0, 0)))
theorem r_fs_len (n K : Nat) (zi : Nat → Int32) (zj : Nat → Int64) : (r_fs n K zi zj).length = 190 := by unfold r_fs; rw [List.length_map, List.length_range]
theorem r_fs_at {n K : Nat} {zi : Nat → Int32} {zj : Nat → Int64} {k : Nat} (hk : k < 190) : (r_fs n K zi zj)[k]? = some (r_val n K zi zj k (r_kl.getD k (0, 0))) := by
  unfold r_fs; rw [List.getElem?_map, List.getElem?_range hk]; rfl
theorem r_int {n K : Nat} {zi : Nat → Int32} {zj : Nat → Int64} {k : Nat} (hk : k < 190) (hq : (r_kl.getD k (0, 0)).1 = 0) : (r_fs n K zi zj)[k]? = some (.int (zi k)) := by
  rw [r_fs_at hk]; unfold r_val; rw [if_neg (by omega), if_neg (by omega)]
theorem r_long {n K : Nat} {zi : Nat → Int32} {zj : Nat → Int64} {k : Nat} (hk : k < 190) (hq : (r_kl.getD k (0, 0)).1 = 1) : (r_fs n K zi zj)[k]? = some (.long (zj k)) := by
  rw [r_fs_at hk]; unfold r_val; rw [if_neg (by omega), if_pos hq]
theorem r_ref {n K : Nat} {zi : Nat → Int32} {zj : Nat → Int64} {k q : Nat} (hk : k < 190) (hq : r_kl.getD k (0, 0) = (2, q)) (hK : q < K) : (r_fs n K zi zj)[k]? = some (.ref (n + q)) := by
  rw [r_fs_at hk, hq]; unfold r_val; rw [if_pos rfl, if_pos hK]
theorem r_ext {l1 l2 : List Value} (h1 : l1.length = 190) (h2 : l2.length = 190) (h : ∀ i, i < 190 → l1[i]? = l2[i]?) : l1 = l2 := by
  refine List.ext_getElem? (fun i => ?_)
  by_cases hi : i < 190
  · exact h i hi
  · rw [List.getElem?_eq_none (by omega), List.getElem?_eq_none (by omega)]
theorem r_setA {n K kf : Nat} {zi : Nat → Int32} {zj : Nat → Int64} (hkf : kf < 190) (hat : ∀ k, k < 190 → (r_kl.getD k (0, 0) = (2, K) ↔ k = kf)) : (r_fs n K zi zj).set kf (.ref (n + K)) = r_fs n (K + 1) zi zj := by
  refine r_ext (by rw [List.length_set, r_fs_len]) (r_fs_len _ _ _ _) (fun i hi => ?_)
  rw [List.getElem?_set, r_fs_at hi, r_fs_at hi]
  by_cases e : kf = i
  · subst e
    rw [if_pos rfl, if_pos (by rw [r_fs_len]; exact hi), (hat kf hi).mpr rfl]
    unfold r_val; rw [if_pos rfl, if_pos (Nat.lt_succ_self K)]
  · rw [if_neg e]
    have hne : r_kl.getD i (0, 0) ≠ (2, K) := fun z => e ((hat i hi).mp z).symm
    revert hne
    generalize r_kl.getD i (0, 0) = q
    intro hne
    obtain ⟨q1, q2⟩ := q
    unfold r_val
    by_cases h2 : q1 = 2
    · subst h2
      have h3 : q2 ≠ K := fun z => hne (by rw [z])
      rw [if_pos rfl, if_pos rfl]
      by_cases h4 : q2 < K
      · rw [if_pos h4, if_pos (Nat.lt_succ_of_lt h4)]
      · rw [if_neg h4, if_neg (fun z => h3 (Nat.le_antisymm (Nat.le_of_lt_succ z) (Nat.le_of_not_lt h4)))]
    · rw [if_neg h2, if_neg h2]
theorem r_setI {n K kf : Nat} {zi : Nat → Int32} {zj : Nat → Int64} {v : Int32} (hkf : kf < 190) (hq : (r_kl.getD kf (0, 0)).1 = 0) : (r_fs n K zi zj).set kf (.int v) = r_fs n K (va_up zi kf v) zj := by
  refine r_ext (by rw [List.length_set, r_fs_len]) (r_fs_len _ _ _ _) (fun i hi => ?_)
  rw [List.getElem?_set]
  by_cases e : kf = i
  · subst e
    rw [if_pos rfl, if_pos (by rw [r_fs_len]; exact hi), r_int hi hq, mj_up_eq]
  · rw [if_neg e, r_fs_at hi, r_fs_at hi]
    unfold r_val; rw [mj_up_ne _ _ (fun z => e z.symm)]
theorem r_setJ {n K kf : Nat} {zi : Nat → Int32} {zj : Nat → Int64} {v : Int64} (hkf : kf < 190) (hq : (r_kl.getD kf (0, 0)).1 = 1) : (r_fs n K zi zj).set kf (.long v) = r_fs n K zi (va_up zj kf v) := by
  refine r_ext (by rw [List.length_set, r_fs_len]) (r_fs_len _ _ _ _) (fun i hi => ?_)
  rw [List.getElem?_set]
  by_cases e : kf = i
  · subst e
    rw [if_pos rfl, if_pos (by rw [r_fs_len]; exact hi), r_long hi hq, mj_up_eq]
  · rw [if_neg e, r_fs_at hi, r_fs_at hi]
    unfold r_val; rw [mj_up_ne _ _ (fun z => e z.symm)]
theorem r_blank (n : Nat) (zi : Nat → Int32) (zj : Nat → Int64) : r_fs n 0 zi zj = r_fs 0 0 zi zj := by
  refine r_ext (r_fs_len _ _ _ _) (r_fs_len _ _ _ _) (fun i hi => ?_)
  rw [r_fs_at hi, r_fs_at hi]; unfold r_val
  by_cases h2 : (r_kl.getD i (0, 0)).1 = 2
  · rw [if_pos h2, if_pos h2, if_neg (Nat.not_lt_zero _), if_neg (Nat.not_lt_zero _)]
  · rw [if_neg h2, if_neg h2]
/-- K arrays made -/
def r_mid (h0 : mj_H) (a n K : Nat) (zi : Nat → Int32) (g : mj_H) : Prop := g a = .inr (13, r_fs n K zi (fun _ => 0)) ∧ (∀ k, k < K → g (n + k) = r_new k) ∧ ∀ j, j < n → j ≠ a → g j = h0 j
theorem r_mid.step {h0 g g1 g2 : mj_H} {a n K kf : Nat} {zi : Nat → Int32} (hm : r_mid h0 a n K zi g) (ha : a < n) (q1 : g1 (n + K) = r_new K) (o1 : ∀ j, j ≠ n + K → g1 j = g j) (q2 : g2 a = .inr (13, (r_fs n K zi (fun _ => 0)).set kf (.ref (n + K)))) (o2 : ∀ j, j ≠ a → g2 j = g1 j) (hkf : kf < 190) (hat : ∀ k, k < 190 → (r_kl.getD k (0, 0) = (2, K) ↔ k = kf)) : r_mid h0 a n (K + 1) zi g2 := by
  obtain ⟨m1, m2, m3⟩ := hm
  refine ⟨by rw [q2, r_setA hkf hat], fun k hk => ?_, fun j hj1 hj2 => ?_⟩
  · by_cases e : k = K
    · subst e; rw [o2 _ (by omega), q1]
    · rw [o2 _ (by omega), o1 _ (by omega)]; exact m2 k (by omega)
  · rw [o2 _ hj2, o1 _ (by omega)]; exact m3 j hj1 hj2
theorem r_mid.set {h0 g g2 : mj_H} {a n K kf : Nat} {zi : Nat → Int32} {v : Int32} (hm : r_mid h0 a n K zi g) (ha : a < n) (q2 : g2 a = .inr (13, (r_fs n K zi (fun _ => 0)).set kf (.int v))) (o2 : ∀ j, j ≠ a → g2 j = g j) (hkf : kf < 190) (hq : (r_kl.getD kf (0, 0)).1 = 0) : r_mid h0 a n K (va_up zi kf v) g2 := by
  obtain ⟨m1, m2, m3⟩ := hm
  refine ⟨by rw [q2, r_setI hkf hq], fun k hk => ?_, fun j hj1 hj2 => ?_⟩
  · rw [o2 _ (by omega)]; exact m2 k hk
  · rw [o2 _ hj2]; exact m3 j hj1 hj2
set_option maxRecDepth 10000 in
set_option maxHeartbeats 8000000 in
/-- the other constructor -/
theorem C_X13_init (a n : Nat) (h : mj_H) (ha : a < n) (hn : n + 114 < 1000000) (e0 : h a = .inr (13, r_fs 0 0 (fun _ => 0) (fun _ => 0))) : mj_C yX13_init cX13_init 1 none 1 114 3092828 [.ref a] h n (fun v h' => v = none ∧ r_mid h a n 114 (va_up (fun _ => 0) 3 (-1)) h') := by
  refine mj_C.of (by decide +kernel) (Nat.le_of_ble_eq_true rfl) ?_
  intro D cy ad bs X
  have m0 : r_mid h a n 0 (fun _ => 0) h := ⟨e0.trans (congrArg (fun z => (.inr (13, z) : va_E)) (r_blank n _ _).symm), fun k hk => absurd hk (Nat.not_lt_zero k), fun j hj1 hj2 => rfl⟩
  refine mj_aload_n dX13_init_0 0 rfl ?_
  refine mj_objInit dX13_init_1 ML_X13_1 OI_i OI_c (by decide) (Nat.le_of_ble_eq_true rfl) ?_
  refine mj_aload_n dX13_init_4 0 rfl ?_
  refine mj_sipush (v := 12000) dX13_init_5 (by decide) ?_
  refine mj_newIA (N := 12000) dX13_init_8 AC_int (by decide) (by decide) (Nat.le_of_ble_eq_true rfl) (by omega) (Nat.le_of_ble_eq_true rfl) (Nat.le_of_ble_eq_true rfl) (fun f1 p1 v1 => ?_)
  refine mj_putFA dX13_init_10 F_X13_7 (by omega) ((v1 _ (by omega)).trans m0.1) rfl (by rw [r_fs_len]; decide) rfl rfl (fun g1 q1 o1 => ?_)
  have m1 : r_mid h a n 1 (fun _ => 0) g1 := m0.step (g1 := f1) (K := 0) ha p1 v1 q1 o1 (by decide) (by decide +kernel)
  refine mj_aload_n dX13_init_13 0 rfl ?_
  refine mj_iconst (v := (-1)) dX13_init_14 (by decide) ?_
  refine mj_putA dX13_init_15 F_X13_13 (by omega) m1.1 rfl (by rw [r_fs_len]; decide) (fun g2 q2 o2 => ?_)
  have m2 : r_mid h a n 1 (va_up (fun _ => 0) 3 (-1)) g2 := m1.set ha q2 o2 (by decide) (by decide +kernel)
  refine mj_aload_n dX13_init_18 0 rfl ?_
  refine mj_sipush (v := 8200) dX13_init_19 (by decide) ?_
  refine mj_newIA (N := 8200) dX13_init_22 AC_int (by decide) (by decide) (Nat.le_of_ble_eq_true rfl) (by omega) (Nat.le_of_ble_eq_true rfl) (Nat.le_of_ble_eq_true rfl) (fun f3 p3 v3 => ?_)
  refine mj_putFA dX13_init_24 F_X13_17 (by omega) ((v3 _ (by omega)).trans m2.1) rfl (by rw [r_fs_len]; decide) rfl rfl (fun g3 q3 o3 => ?_)
  have m3 : r_mid h a n 2 (va_up (fun _ => 0) 3 (-1)) g3 := m2.step (g1 := f3) (K := 1) ha p3 v3 q3 o3 (by decide) (by decide +kernel)
  refine mj_aload_n dX13_init_27 0 rfl ?_
  refine mj_sipush (v := 8200) dX13_init_28 (by decide) ?_
  refine mj_newIA (N := 8200) dX13_init_31 AC_int (by decide) (by decide) (Nat.le_of_ble_eq_true rfl) (by omega) (Nat.le_of_ble_eq_true rfl) (Nat.le_of_ble_eq_true rfl) (fun f4 p4 v4 => ?_)
  refine mj_putFA dX13_init_33 F_X13_20 (by omega) ((v4 _ (by omega)).trans m3.1) rfl (by rw [r_fs_len]; decide) rfl rfl (fun g4 q4 o4 => ?_)
  have m4 : r_mid h a n 3 (va_up (fun _ => 0) 3 (-1)) g4 := m3.step (g1 := f4) (K := 2) ha p4 v4 q4 o4 (by decide) (by decide +kernel)
  refine mj_aload_n dX13_init_36 0 rfl ?_
  refine mj_sipush (v := 24300) dX13_init_37 (by decide) ?_
  refine mj_newIA (N := 24300) dX13_init_40 AC_int (by decide) (by decide) (Nat.le_of_ble_eq_true rfl) (by omega) (Nat.le_of_ble_eq_true rfl) (Nat.le_of_ble_eq_true rfl) (fun f5 p5 v5 => ?_)
  refine mj_putFA dX13_init_42 F_X13_23 (by omega) ((v5 _ (by omega)).trans m4.1) rfl (by rw [r_fs_len]; decide) rfl rfl (fun g5 q5 o5 => ?_)
  have m5 : r_mid h a n 4 (va_up (fun _ => 0) 3 (-1)) g5 := m4.step (g1 := f5) (K := 3) ha p5 v5 q5 o5 (by decide) (by decide +kernel)
  refine mj_aload_n dX13_init_45 0 rfl ?_
  refine mj_sipush (v := 13000) dX13_init_46 (by decide) ?_
  refine mj_newIA (N := 13000) dX13_init_49 AC_int (by decide) (by decide) (Nat.le_of_ble_eq_true rfl) (by omega) (Nat.le_of_ble_eq_true rfl) (Nat.le_of_ble_eq_true rfl) (fun f6 p6 v6 => ?_)
  refine mj_putFA dX13_init_51 F_X13_26 (by omega) ((v6 _ (by omega)).trans m5.1) rfl (by rw [r_fs_len]; decide) rfl rfl (fun g6 q6 o6 => ?_)
  have m6 : r_mid h a n 5 (va_up (fun _ => 0) 3 (-1)) g6 := m5.step (g1 := f6) (K := 4) ha p6 v6 q6 o6 (by decide) (by decide +kernel)
  refine mj_aload_n dX13_init_54 0 rfl ?_
  refine mj_sipush (v := 13000) dX13_init_55 (by decide) ?_
  refine mj_newIA (N := 13000) dX13_init_58 AC_int (by decide) (by decide) (Nat.le_of_ble_eq_true rfl) (by omega) (Nat.le_of_ble_eq_true rfl) (Nat.le_of_ble_eq_true rfl) (fun f7 p7 v7 => ?_)
  refine mj_putFA dX13_init_60 F_X13_29 (by omega) ((v7 _ (by omega)).trans m6.1) rfl (by rw [r_fs_len]; decide) rfl rfl (fun g7 q7 o7 => ?_)
  have m7 : r_mid h a n 6 (va_up (fun _ => 0) 3 (-1)) g7 := m6.step (g1 := f7) (K := 5) ha p7 v7 q7 o7 (by decide) (by decide +kernel)
  refine mj_aload_n dX13_init_63 0 rfl ?_
  refine mj_sipush (v := 13000) dX13_init_64 (by decide) ?_
  refine mj_newJA (N := 13000) dX13_init_67 AC_long (by decide) (by decide) (Nat.le_of_ble_eq_true rfl) (by omega) (Nat.le_of_ble_eq_true rfl) (Nat.le_of_ble_eq_true rfl) (fun f8 p8 v8 => ?_)
  refine mj_putFA dX13_init_69 F_X13_32 (by omega) ((v8 _ (by omega)).trans m7.1) rfl (by rw [r_fs_len]; decide) rfl rfl (fun g8 q8 o8 => ?_)
  have m8 : r_mid h a n 7 (va_up (fun _ => 0) 3 (-1)) g8 := m7.step (g1 := f8) (K := 6) ha p8 v8 q8 o8 (by decide) (by decide +kernel)
  refine mj_aload_n dX13_init_72 0 rfl ?_
  refine mj_sipush (v := 13000) dX13_init_73 (by decide) ?_
  refine mj_newJA (N := 13000) dX13_init_76 AC_long (by decide) (by decide) (Nat.le_of_ble_eq_true rfl) (by omega) (Nat.le_of_ble_eq_true rfl) (Nat.le_of_ble_eq_true rfl) (fun f9 p9 v9 => ?_)
  refine mj_putFA dX13_init_78 F_X13_36 (by omega) ((v9 _ (by omega)).trans m8.1) rfl (by rw [r_fs_len]; decide) rfl rfl (fun g9 q9 o9 => ?_)
  have m9 : r_mid h a n 8 (va_up (fun _ => 0) 3 (-1)) g9 := m8.step (g1 := f9) (K := 7) ha p9 v9 q9 o9 (by decide) (by decide +kernel)
  refine mj_aload_n dX13_init_81 0 rfl ?_
  refine mj_sipush (v := 13000) dX13_init_82 (by decide) ?_
  refine mj_newIA (N := 13000) dX13_init_85 AC_int (by decide) (by decide) (Nat.le_of_ble_eq_true rfl) (by omega) (Nat.le_of_ble_eq_true rfl) (Nat.le_of_ble_eq_true rfl) (fun f10 p10 v10 => ?_)
  refine mj_putFA dX13_init_87 F_X13_39 (by omega) ((v10 _ (by omega)).trans m9.1) rfl (by rw [r_fs_len]; decide) rfl rfl (fun g10 q10 o10 => ?_)
  have m10 : r_mid h a n 9 (va_up (fun _ => 0) 3 (-1)) g10 := m9.step (g1 := f10) (K := 8) ha p10 v10 q10 o10 (by decide) (by decide +kernel)
  refine mj_aload_n dX13_init_90 0 rfl ?_
  refine mj_sipush (v := 13000) dX13_init_91 (by decide) ?_
  refine mj_newIA (N := 13000) dX13_init_94 AC_int (by decide) (by decide) (Nat.le_of_ble_eq_true rfl) (by omega) (Nat.le_of_ble_eq_true rfl) (Nat.le_of_ble_eq_true rfl) (fun f11 p11 v11 => ?_)
  refine mj_putFA dX13_init_96 F_X13_42 (by omega) ((v11 _ (by omega)).trans m10.1) rfl (by rw [r_fs_len]; decide) rfl rfl (fun g11 q11 o11 => ?_)
  have m11 : r_mid h a n 10 (va_up (fun _ => 0) 3 (-1)) g11 := m10.step (g1 := f11) (K := 9) ha p11 v11 q11 o11 (by decide) (by decide +kernel)
  refine mj_aload_n dX13_init_99 0 rfl ?_
  refine mj_sipush (v := 13000) dX13_init_100 (by decide) ?_
  refine mj_newIA (N := 13000) dX13_init_103 AC_int (by decide) (by decide) (Nat.le_of_ble_eq_true rfl) (by omega) (Nat.le_of_ble_eq_true rfl) (Nat.le_of_ble_eq_true rfl) (fun f12 p12 v12 => ?_)
  refine mj_putFA dX13_init_105 F_X13_45 (by omega) ((v12 _ (by omega)).trans m11.1) rfl (by rw [r_fs_len]; decide) rfl rfl (fun g12 q12 o12 => ?_)
  have m12 : r_mid h a n 11 (va_up (fun _ => 0) 3 (-1)) g12 := m11.step (g1 := f12) (K := 10) ha p12 v12 q12 o12 (by decide) (by decide +kernel)
  refine mj_aload_n dX13_init_108 0 rfl ?_
  refine mj_sipush (v := 13000) dX13_init_109 (by decide) ?_
  refine mj_newIA (N := 13000) dX13_init_112 AC_int (by decide) (by decide) (Nat.le_of_ble_eq_true rfl) (by omega) (Nat.le_of_ble_eq_true rfl) (Nat.le_of_ble_eq_true rfl) (fun f13 p13 v13 => ?_)
  refine mj_putFA dX13_init_114 F_X13_48 (by omega) ((v13 _ (by omega)).trans m12.1) rfl (by rw [r_fs_len]; decide) rfl rfl (fun g13 q13 o13 => ?_)
  have m13 : r_mid h a n 12 (va_up (fun _ => 0) 3 (-1)) g13 := m12.step (g1 := f13) (K := 11) ha p13 v13 q13 o13 (by decide) (by decide +kernel)
  refine mj_aload_n dX13_init_117 0 rfl ?_
  refine mj_sipush (v := 24300) dX13_init_118 (by decide) ?_
  refine mj_newIA (N := 24300) dX13_init_121 AC_int (by decide) (by decide) (Nat.le_of_ble_eq_true rfl) (by omega) (Nat.le_of_ble_eq_true rfl) (Nat.le_of_ble_eq_true rfl) (fun f14 p14 v14 => ?_)
  refine mj_putFA dX13_init_123 F_X13_51 (by omega) ((v14 _ (by omega)).trans m13.1) rfl (by rw [r_fs_len]; decide) rfl rfl (fun g14 q14 o14 => ?_)
  have m14 : r_mid h a n 13 (va_up (fun _ => 0) 3 (-1)) g14 := m13.step (g1 := f14) (K := 12) ha p14 v14 q14 o14 (by decide) (by decide +kernel)
  refine mj_aload_n dX13_init_126 0 rfl ?_
  refine mj_bipush (v := 60) dX13_init_127 (by decide) ?_
  refine mj_newIA (N := 60) dX13_init_129 AC_int (by decide) (by decide) (Nat.le_of_ble_eq_true rfl) (by omega) (Nat.le_of_ble_eq_true rfl) (Nat.le_of_ble_eq_true rfl) (fun f15 p15 v15 => ?_)
  refine mj_putFA dX13_init_131 F_X13_54 (by omega) ((v15 _ (by omega)).trans m14.1) rfl (by rw [r_fs_len]; decide) rfl rfl (fun g15 q15 o15 => ?_)
  have m15 : r_mid h a n 14 (va_up (fun _ => 0) 3 (-1)) g15 := m14.step (g1 := f15) (K := 13) ha p15 v15 q15 o15 (by decide) (by decide +kernel)
  refine mj_aload_n dX13_init_134 0 rfl ?_
  refine mj_bipush (v := 60) dX13_init_135 (by decide) ?_
  refine mj_newIA (N := 60) dX13_init_137 AC_int (by decide) (by decide) (Nat.le_of_ble_eq_true rfl) (by omega) (Nat.le_of_ble_eq_true rfl) (Nat.le_of_ble_eq_true rfl) (fun f16 p16 v16 => ?_)
  refine mj_putFA dX13_init_139 F_X13_57 (by omega) ((v16 _ (by omega)).trans m15.1) rfl (by rw [r_fs_len]; decide) rfl rfl (fun g16 q16 o16 => ?_)
  have m16 : r_mid h a n 15 (va_up (fun _ => 0) 3 (-1)) g16 := m15.step (g1 := f16) (K := 14) ha p16 v16 q16 o16 (by decide) (by decide +kernel)
  refine mj_aload_n dX13_init_142 0 rfl ?_
  refine mj_bipush (v := 60) dX13_init_143 (by decide) ?_
  refine mj_newIA (N := 60) dX13_init_145 AC_int (by decide) (by decide) (Nat.le_of_ble_eq_true rfl) (by omega) (Nat.le_of_ble_eq_true rfl) (Nat.le_of_ble_eq_true rfl) (fun f17 p17 v17 => ?_)
  refine mj_putFA dX13_init_147 F_X13_60 (by omega) ((v17 _ (by omega)).trans m16.1) rfl (by rw [r_fs_len]; decide) rfl rfl (fun g17 q17 o17 => ?_)
  have m17 : r_mid h a n 16 (va_up (fun _ => 0) 3 (-1)) g17 := m16.step (g1 := f17) (K := 15) ha p17 v17 q17 o17 (by decide) (by decide +kernel)
  refine mj_aload_n dX13_init_150 0 rfl ?_
  refine mj_bipush (v := 60) dX13_init_151 (by decide) ?_
  refine mj_newIA (N := 60) dX13_init_153 AC_int (by decide) (by decide) (Nat.le_of_ble_eq_true rfl) (by omega) (Nat.le_of_ble_eq_true rfl) (Nat.le_of_ble_eq_true rfl) (fun f18 p18 v18 => ?_)
  refine mj_putFA dX13_init_155 F_X13_63 (by omega) ((v18 _ (by omega)).trans m17.1) rfl (by rw [r_fs_len]; decide) rfl rfl (fun g18 q18 o18 => ?_)
  have m18 : r_mid h a n 17 (va_up (fun _ => 0) 3 (-1)) g18 := m17.step (g1 := f18) (K := 16) ha p18 v18 q18 o18 (by decide) (by decide +kernel)
  refine mj_aload_n dX13_init_158 0 rfl ?_
  refine mj_bipush (v := 60) dX13_init_159 (by decide) ?_
  refine mj_newIA (N := 60) dX13_init_161 AC_int (by decide) (by decide) (Nat.le_of_ble_eq_true rfl) (by omega) (Nat.le_of_ble_eq_true rfl) (Nat.le_of_ble_eq_true rfl) (fun f19 p19 v19 => ?_)
  refine mj_putFA dX13_init_163 F_X13_66 (by omega) ((v19 _ (by omega)).trans m18.1) rfl (by rw [r_fs_len]; decide) rfl rfl (fun g19 q19 o19 => ?_)
  have m19 : r_mid h a n 18 (va_up (fun _ => 0) 3 (-1)) g19 := m18.step (g1 := f19) (K := 17) ha p19 v19 q19 o19 (by decide) (by decide +kernel)
  refine mj_aload_n dX13_init_166 0 rfl ?_
  refine mj_bipush (v := 60) dX13_init_167 (by decide) ?_
  refine mj_newIA (N := 60) dX13_init_169 AC_int (by decide) (by decide) (Nat.le_of_ble_eq_true rfl) (by omega) (Nat.le_of_ble_eq_true rfl) (Nat.le_of_ble_eq_true rfl) (fun f20 p20 v20 => ?_)
  refine mj_putFA dX13_init_171 F_X13_69 (by omega) ((v20 _ (by omega)).trans m19.1) rfl (by rw [r_fs_len]; decide) rfl rfl (fun g20 q20 o20 => ?_)
  have m20 : r_mid h a n 19 (va_up (fun _ => 0) 3 (-1)) g20 := m19.step (g1 := f20) (K := 18) ha p20 v20 q20 o20 (by decide) (by decide +kernel)
  refine mj_aload_n dX13_init_174 0 rfl ?_
  refine mj_bipush (v := 8) dX13_init_175 (by decide) ?_
  refine mj_newIA (N := 8) dX13_init_177 AC_int (by decide) (by decide) (Nat.le_of_ble_eq_true rfl) (by omega) (Nat.le_of_ble_eq_true rfl) (Nat.le_of_ble_eq_true rfl) (fun f21 p21 v21 => ?_)
  refine mj_putFA dX13_init_179 F_X13_72 (by omega) ((v21 _ (by omega)).trans m20.1) rfl (by rw [r_fs_len]; decide) rfl rfl (fun g21 q21 o21 => ?_)
  have m21 : r_mid h a n 20 (va_up (fun _ => 0) 3 (-1)) g21 := m20.step (g1 := f21) (K := 19) ha p21 v21 q21 o21 (by decide) (by decide +kernel)
  refine mj_aload_n dX13_init_182 0 rfl ?_
  refine mj_bipush (v := 48) dX13_init_183 (by decide) ?_
  refine mj_newIA (N := 48) dX13_init_185 AC_int (by decide) (by decide) (Nat.le_of_ble_eq_true rfl) (by omega) (Nat.le_of_ble_eq_true rfl) (Nat.le_of_ble_eq_true rfl) (fun f22 p22 v22 => ?_)
  refine mj_putFA dX13_init_187 F_X13_75 (by omega) ((v22 _ (by omega)).trans m21.1) rfl (by rw [r_fs_len]; decide) rfl rfl (fun g22 q22 o22 => ?_)
  have m22 : r_mid h a n 21 (va_up (fun _ => 0) 3 (-1)) g22 := m21.step (g1 := f22) (K := 20) ha p22 v22 q22 o22 (by decide) (by decide +kernel)
  refine mj_aload_n dX13_init_190 0 rfl ?_
  refine mj_bipush (v := 8) dX13_init_191 (by decide) ?_
  refine mj_newIA (N := 8) dX13_init_193 AC_int (by decide) (by decide) (Nat.le_of_ble_eq_true rfl) (by omega) (Nat.le_of_ble_eq_true rfl) (Nat.le_of_ble_eq_true rfl) (fun f23 p23 v23 => ?_)
  refine mj_putFA dX13_init_195 F_X13_78 (by omega) ((v23 _ (by omega)).trans m22.1) rfl (by rw [r_fs_len]; decide) rfl rfl (fun g23 q23 o23 => ?_)
  have m23 : r_mid h a n 22 (va_up (fun _ => 0) 3 (-1)) g23 := m22.step (g1 := f23) (K := 21) ha p23 v23 q23 o23 (by decide) (by decide +kernel)
  refine mj_aload_n dX13_init_198 0 rfl ?_
  refine mj_bipush (v := 32) dX13_init_199 (by decide) ?_
  refine mj_newIA (N := 32) dX13_init_201 AC_int (by decide) (by decide) (Nat.le_of_ble_eq_true rfl) (by omega) (Nat.le_of_ble_eq_true rfl) (Nat.le_of_ble_eq_true rfl) (fun f24 p24 v24 => ?_)
  refine mj_putFA dX13_init_203 F_X13_81 (by omega) ((v24 _ (by omega)).trans m23.1) rfl (by rw [r_fs_len]; decide) rfl rfl (fun g24 q24 o24 => ?_)
  have m24 : r_mid h a n 23 (va_up (fun _ => 0) 3 (-1)) g24 := m23.step (g1 := f24) (K := 22) ha p24 v24 q24 o24 (by decide) (by decide +kernel)
  refine mj_aload_n dX13_init_206 0 rfl ?_
  refine mj_bipush (v := 8) dX13_init_207 (by decide) ?_
  refine mj_newIA (N := 8) dX13_init_209 AC_int (by decide) (by decide) (Nat.le_of_ble_eq_true rfl) (by omega) (Nat.le_of_ble_eq_true rfl) (Nat.le_of_ble_eq_true rfl) (fun f25 p25 v25 => ?_)
  refine mj_putFA dX13_init_211 F_X13_84 (by omega) ((v25 _ (by omega)).trans m24.1) rfl (by rw [r_fs_len]; decide) rfl rfl (fun g25 q25 o25 => ?_)
  have m25 : r_mid h a n 24 (va_up (fun _ => 0) 3 (-1)) g25 := m24.step (g1 := f25) (K := 23) ha p25 v25 q25 o25 (by decide) (by decide +kernel)
  refine mj_aload_n dX13_init_214 0 rfl ?_
  refine mj_bipush (v := 64) dX13_init_215 (by decide) ?_
  refine mj_newIA (N := 64) dX13_init_217 AC_int (by decide) (by decide) (Nat.le_of_ble_eq_true rfl) (by omega) (Nat.le_of_ble_eq_true rfl) (Nat.le_of_ble_eq_true rfl) (fun f26 p26 v26 => ?_)
  refine mj_putFA dX13_init_219 F_X13_87 (by omega) ((v26 _ (by omega)).trans m25.1) rfl (by rw [r_fs_len]; decide) rfl rfl (fun g26 q26 o26 => ?_)
  have m26 : r_mid h a n 25 (va_up (fun _ => 0) 3 (-1)) g26 := m25.step (g1 := f26) (K := 24) ha p26 v26 q26 o26 (by decide) (by decide +kernel)
  refine mj_aload_n dX13_init_222 0 rfl ?_
  refine mj_bipush (v := 64) dX13_init_223 (by decide) ?_
  refine mj_newIA (N := 64) dX13_init_225 AC_int (by decide) (by decide) (Nat.le_of_ble_eq_true rfl) (by omega) (Nat.le_of_ble_eq_true rfl) (Nat.le_of_ble_eq_true rfl) (fun f27 p27 v27 => ?_)
  refine mj_putFA dX13_init_227 F_X13_90 (by omega) ((v27 _ (by omega)).trans m26.1) rfl (by rw [r_fs_len]; decide) rfl rfl (fun g27 q27 o27 => ?_)
  have m27 : r_mid h a n 26 (va_up (fun _ => 0) 3 (-1)) g27 := m26.step (g1 := f27) (K := 25) ha p27 v27 q27 o27 (by decide) (by decide +kernel)
  refine mj_aload_n dX13_init_230 0 rfl ?_
  refine mj_bipush (v := 64) dX13_init_231 (by decide) ?_
  refine mj_newIA (N := 64) dX13_init_233 AC_int (by decide) (by decide) (Nat.le_of_ble_eq_true rfl) (by omega) (Nat.le_of_ble_eq_true rfl) (Nat.le_of_ble_eq_true rfl) (fun f28 p28 v28 => ?_)
  refine mj_putFA dX13_init_235 F_X13_93 (by omega) ((v28 _ (by omega)).trans m27.1) rfl (by rw [r_fs_len]; decide) rfl rfl (fun g28 q28 o28 => ?_)
  have m28 : r_mid h a n 27 (va_up (fun _ => 0) 3 (-1)) g28 := m27.step (g1 := f28) (K := 26) ha p28 v28 q28 o28 (by decide) (by decide +kernel)
  refine mj_aload_n dX13_init_238 0 rfl ?_
  refine mj_bipush (v := 64) dX13_init_239 (by decide) ?_
  refine mj_newIA (N := 64) dX13_init_241 AC_int (by decide) (by decide) (Nat.le_of_ble_eq_true rfl) (by omega) (Nat.le_of_ble_eq_true rfl) (Nat.le_of_ble_eq_true rfl) (fun f29 p29 v29 => ?_)
  refine mj_putFA dX13_init_243 F_X13_96 (by omega) ((v29 _ (by omega)).trans m28.1) rfl (by rw [r_fs_len]; decide) rfl rfl (fun g29 q29 o29 => ?_)
  have m29 : r_mid h a n 28 (va_up (fun _ => 0) 3 (-1)) g29 := m28.step (g1 := f29) (K := 27) ha p29 v29 q29 o29 (by decide) (by decide +kernel)
  refine mj_aload_n dX13_init_246 0 rfl ?_
  refine mj_bipush (v := 8) dX13_init_247 (by decide) ?_
  refine mj_newIA (N := 8) dX13_init_249 AC_int (by decide) (by decide) (Nat.le_of_ble_eq_true rfl) (by omega) (Nat.le_of_ble_eq_true rfl) (Nat.le_of_ble_eq_true rfl) (fun f30 p30 v30 => ?_)
  refine mj_putFA dX13_init_251 F_X13_99 (by omega) ((v30 _ (by omega)).trans m29.1) rfl (by rw [r_fs_len]; decide) rfl rfl (fun g30 q30 o30 => ?_)
  have m30 : r_mid h a n 29 (va_up (fun _ => 0) 3 (-1)) g30 := m29.step (g1 := f30) (K := 28) ha p30 v30 q30 o30 (by decide) (by decide +kernel)
  refine mj_aload_n dX13_init_254 0 rfl ?_
  refine mj_bipush (v := 40) dX13_init_255 (by decide) ?_
  refine mj_newIA (N := 40) dX13_init_257 AC_int (by decide) (by decide) (Nat.le_of_ble_eq_true rfl) (by omega) (Nat.le_of_ble_eq_true rfl) (Nat.le_of_ble_eq_true rfl) (fun f31 p31 v31 => ?_)
  refine mj_putFA dX13_init_259 F_X13_102 (by omega) ((v31 _ (by omega)).trans m30.1) rfl (by rw [r_fs_len]; decide) rfl rfl (fun g31 q31 o31 => ?_)
  have m31 : r_mid h a n 30 (va_up (fun _ => 0) 3 (-1)) g31 := m30.step (g1 := f31) (K := 29) ha p31 v31 q31 o31 (by decide) (by decide +kernel)
  refine mj_aload_n dX13_init_262 0 rfl ?_
  refine mj_bipush (v := 40) dX13_init_263 (by decide) ?_
  refine mj_newIA (N := 40) dX13_init_265 AC_int (by decide) (by decide) (Nat.le_of_ble_eq_true rfl) (by omega) (Nat.le_of_ble_eq_true rfl) (Nat.le_of_ble_eq_true rfl) (fun f32 p32 v32 => ?_)
  refine mj_putFA dX13_init_267 F_X13_105 (by omega) ((v32 _ (by omega)).trans m31.1) rfl (by rw [r_fs_len]; decide) rfl rfl (fun g32 q32 o32 => ?_)
  have m32 : r_mid h a n 31 (va_up (fun _ => 0) 3 (-1)) g32 := m31.step (g1 := f32) (K := 30) ha p32 v32 q32 o32 (by decide) (by decide +kernel)
  refine mj_aload_n dX13_init_270 0 rfl ?_
  refine mj_bipush (v := 40) dX13_init_271 (by decide) ?_
  refine mj_newIA (N := 40) dX13_init_273 AC_int (by decide) (by decide) (Nat.le_of_ble_eq_true rfl) (by omega) (Nat.le_of_ble_eq_true rfl) (Nat.le_of_ble_eq_true rfl) (fun f33 p33 v33 => ?_)
  refine mj_putFA dX13_init_275 F_X13_108 (by omega) ((v33 _ (by omega)).trans m32.1) rfl (by rw [r_fs_len]; decide) rfl rfl (fun g33 q33 o33 => ?_)
  have m33 : r_mid h a n 32 (va_up (fun _ => 0) 3 (-1)) g33 := m32.step (g1 := f33) (K := 31) ha p33 v33 q33 o33 (by decide) (by decide +kernel)
  refine mj_aload_n dX13_init_278 0 rfl ?_
  refine mj_bipush (v := 40) dX13_init_279 (by decide) ?_
  refine mj_newIA (N := 40) dX13_init_281 AC_int (by decide) (by decide) (Nat.le_of_ble_eq_true rfl) (by omega) (Nat.le_of_ble_eq_true rfl) (Nat.le_of_ble_eq_true rfl) (fun f34 p34 v34 => ?_)
  refine mj_putFA dX13_init_283 F_X13_111 (by omega) ((v34 _ (by omega)).trans m33.1) rfl (by rw [r_fs_len]; decide) rfl rfl (fun g34 q34 o34 => ?_)
  have m34 : r_mid h a n 33 (va_up (fun _ => 0) 3 (-1)) g34 := m33.step (g1 := f34) (K := 32) ha p34 v34 q34 o34 (by decide) (by decide +kernel)
  refine mj_aload_n dX13_init_286 0 rfl ?_
  refine mj_sipush (v := 320) dX13_init_287 (by decide) ?_
  refine mj_newIA (N := 320) dX13_init_290 AC_int (by decide) (by decide) (Nat.le_of_ble_eq_true rfl) (by omega) (Nat.le_of_ble_eq_true rfl) (Nat.le_of_ble_eq_true rfl) (fun f35 p35 v35 => ?_)
  refine mj_putFA dX13_init_292 F_X13_114 (by omega) ((v35 _ (by omega)).trans m34.1) rfl (by rw [r_fs_len]; decide) rfl rfl (fun g35 q35 o35 => ?_)
  have m35 : r_mid h a n 34 (va_up (fun _ => 0) 3 (-1)) g35 := m34.step (g1 := f35) (K := 33) ha p35 v35 q35 o35 (by decide) (by decide +kernel)
  refine mj_aload_n dX13_init_295 0 rfl ?_
  refine mj_bipush (v := 40) dX13_init_296 (by decide) ?_
  refine mj_newIA (N := 40) dX13_init_298 AC_int (by decide) (by decide) (Nat.le_of_ble_eq_true rfl) (by omega) (Nat.le_of_ble_eq_true rfl) (Nat.le_of_ble_eq_true rfl) (fun f36 p36 v36 => ?_)
  refine mj_putFA dX13_init_300 F_X13_117 (by omega) ((v36 _ (by omega)).trans m35.1) rfl (by rw [r_fs_len]; decide) rfl rfl (fun g36 q36 o36 => ?_)
  have m36 : r_mid h a n 35 (va_up (fun _ => 0) 3 (-1)) g36 := m35.step (g1 := f36) (K := 34) ha p36 v36 q36 o36 (by decide) (by decide +kernel)
  refine mj_aload_n dX13_init_303 0 rfl ?_
  refine mj_bipush (v := 40) dX13_init_304 (by decide) ?_
  refine mj_newIA (N := 40) dX13_init_306 AC_int (by decide) (by decide) (Nat.le_of_ble_eq_true rfl) (by omega) (Nat.le_of_ble_eq_true rfl) (Nat.le_of_ble_eq_true rfl) (fun f37 p37 v37 => ?_)
  refine mj_putFA dX13_init_308 F_X13_120 (by omega) ((v37 _ (by omega)).trans m36.1) rfl (by rw [r_fs_len]; decide) rfl rfl (fun g37 q37 o37 => ?_)
  have m37 : r_mid h a n 36 (va_up (fun _ => 0) 3 (-1)) g37 := m36.step (g1 := f37) (K := 35) ha p37 v37 q37 o37 (by decide) (by decide +kernel)
  refine mj_aload_n dX13_init_311 0 rfl ?_
  refine mj_bipush (v := 40) dX13_init_312 (by decide) ?_
  refine mj_newIA (N := 40) dX13_init_314 AC_int (by decide) (by decide) (Nat.le_of_ble_eq_true rfl) (by omega) (Nat.le_of_ble_eq_true rfl) (Nat.le_of_ble_eq_true rfl) (fun f38 p38 v38 => ?_)
  refine mj_putFA dX13_init_316 F_X13_123 (by omega) ((v38 _ (by omega)).trans m37.1) rfl (by rw [r_fs_len]; decide) rfl rfl (fun g38 q38 o38 => ?_)
  have m38 : r_mid h a n 37 (va_up (fun _ => 0) 3 (-1)) g38 := m37.step (g1 := f38) (K := 36) ha p38 v38 q38 o38 (by decide) (by decide +kernel)
  refine mj_aload_n dX13_init_319 0 rfl ?_
  refine mj_sipush (v := 401) dX13_init_320 (by decide) ?_
  refine mj_newIA (N := 401) dX13_init_323 AC_int (by decide) (by decide) (Nat.le_of_ble_eq_true rfl) (by omega) (Nat.le_of_ble_eq_true rfl) (Nat.le_of_ble_eq_true rfl) (fun f39 p39 v39 => ?_)
  refine mj_putFA dX13_init_325 F_X13_126 (by omega) ((v39 _ (by omega)).trans m38.1) rfl (by rw [r_fs_len]; decide) rfl rfl (fun g39 q39 o39 => ?_)
  have m39 : r_mid h a n 38 (va_up (fun _ => 0) 3 (-1)) g39 := m38.step (g1 := f39) (K := 37) ha p39 v39 q39 o39 (by decide) (by decide +kernel)
  refine mj_aload_n dX13_init_328 0 rfl ?_
  refine mj_sipush (v := 401) dX13_init_329 (by decide) ?_
  refine mj_newIA (N := 401) dX13_init_332 AC_int (by decide) (by decide) (Nat.le_of_ble_eq_true rfl) (by omega) (Nat.le_of_ble_eq_true rfl) (Nat.le_of_ble_eq_true rfl) (fun f40 p40 v40 => ?_)
  refine mj_putFA dX13_init_334 F_X13_129 (by omega) ((v40 _ (by omega)).trans m39.1) rfl (by rw [r_fs_len]; decide) rfl rfl (fun g40 q40 o40 => ?_)
  have m40 : r_mid h a n 39 (va_up (fun _ => 0) 3 (-1)) g40 := m39.step (g1 := f40) (K := 38) ha p40 v40 q40 o40 (by decide) (by decide +kernel)
  refine mj_aload_n dX13_init_337 0 rfl ?_
  refine mj_sipush (v := 401) dX13_init_338 (by decide) ?_
  refine mj_newIA (N := 401) dX13_init_341 AC_int (by decide) (by decide) (Nat.le_of_ble_eq_true rfl) (by omega) (Nat.le_of_ble_eq_true rfl) (Nat.le_of_ble_eq_true rfl) (fun f41 p41 v41 => ?_)
  refine mj_putFA dX13_init_343 F_X13_132 (by omega) ((v41 _ (by omega)).trans m40.1) rfl (by rw [r_fs_len]; decide) rfl rfl (fun g41 q41 o41 => ?_)
  have m41 : r_mid h a n 40 (va_up (fun _ => 0) 3 (-1)) g41 := m40.step (g1 := f41) (K := 39) ha p41 v41 q41 o41 (by decide) (by decide +kernel)
  refine mj_aload_n dX13_init_346 0 rfl ?_
  refine mj_sipush (v := 401) dX13_init_347 (by decide) ?_
  refine mj_newIA (N := 401) dX13_init_350 AC_int (by decide) (by decide) (Nat.le_of_ble_eq_true rfl) (by omega) (Nat.le_of_ble_eq_true rfl) (Nat.le_of_ble_eq_true rfl) (fun f42 p42 v42 => ?_)
  refine mj_putFA dX13_init_352 F_X13_135 (by omega) ((v42 _ (by omega)).trans m41.1) rfl (by rw [r_fs_len]; decide) rfl rfl (fun g42 q42 o42 => ?_)
  have m42 : r_mid h a n 41 (va_up (fun _ => 0) 3 (-1)) g42 := m41.step (g1 := f42) (K := 40) ha p42 v42 q42 o42 (by decide) (by decide +kernel)
  refine mj_aload_n dX13_init_355 0 rfl ?_
  refine mj_sipush (v := 401) dX13_init_356 (by decide) ?_
  refine mj_newIA (N := 401) dX13_init_359 AC_int (by decide) (by decide) (Nat.le_of_ble_eq_true rfl) (by omega) (Nat.le_of_ble_eq_true rfl) (Nat.le_of_ble_eq_true rfl) (fun f43 p43 v43 => ?_)
  refine mj_putFA dX13_init_361 F_X13_138 (by omega) ((v43 _ (by omega)).trans m42.1) rfl (by rw [r_fs_len]; decide) rfl rfl (fun g43 q43 o43 => ?_)
  have m43 : r_mid h a n 42 (va_up (fun _ => 0) 3 (-1)) g43 := m42.step (g1 := f43) (K := 41) ha p43 v43 q43 o43 (by decide) (by decide +kernel)
  refine mj_aload_n dX13_init_364 0 rfl ?_
  refine mj_sipush (v := 401) dX13_init_365 (by decide) ?_
  refine mj_newIA (N := 401) dX13_init_368 AC_int (by decide) (by decide) (Nat.le_of_ble_eq_true rfl) (by omega) (Nat.le_of_ble_eq_true rfl) (Nat.le_of_ble_eq_true rfl) (fun f44 p44 v44 => ?_)
  refine mj_putFA dX13_init_370 F_X13_141 (by omega) ((v44 _ (by omega)).trans m43.1) rfl (by rw [r_fs_len]; decide) rfl rfl (fun g44 q44 o44 => ?_)
  have m44 : r_mid h a n 43 (va_up (fun _ => 0) 3 (-1)) g44 := m43.step (g1 := f44) (K := 42) ha p44 v44 q44 o44 (by decide) (by decide +kernel)
  refine mj_aload_n dX13_init_373 0 rfl ?_
  refine mj_sipush (v := 401) dX13_init_374 (by decide) ?_
  refine mj_newIA (N := 401) dX13_init_377 AC_int (by decide) (by decide) (Nat.le_of_ble_eq_true rfl) (by omega) (Nat.le_of_ble_eq_true rfl) (Nat.le_of_ble_eq_true rfl) (fun f45 p45 v45 => ?_)
  refine mj_putFA dX13_init_379 F_X13_144 (by omega) ((v45 _ (by omega)).trans m44.1) rfl (by rw [r_fs_len]; decide) rfl rfl (fun g45 q45 o45 => ?_)
  have m45 : r_mid h a n 44 (va_up (fun _ => 0) 3 (-1)) g45 := m44.step (g1 := f45) (K := 43) ha p45 v45 q45 o45 (by decide) (by decide +kernel)
  refine mj_aload_n dX13_init_382 0 rfl ?_
  refine mj_sipush (v := 401) dX13_init_383 (by decide) ?_
  refine mj_newIA (N := 401) dX13_init_386 AC_int (by decide) (by decide) (Nat.le_of_ble_eq_true rfl) (by omega) (Nat.le_of_ble_eq_true rfl) (Nat.le_of_ble_eq_true rfl) (fun f46 p46 v46 => ?_)
  refine mj_putFA dX13_init_388 F_X13_147 (by omega) ((v46 _ (by omega)).trans m45.1) rfl (by rw [r_fs_len]; decide) rfl rfl (fun g46 q46 o46 => ?_)
  have m46 : r_mid h a n 45 (va_up (fun _ => 0) 3 (-1)) g46 := m45.step (g1 := f46) (K := 44) ha p46 v46 q46 o46 (by decide) (by decide +kernel)
  refine mj_aload_n dX13_init_391 0 rfl ?_
  refine mj_sipush (v := 401) dX13_init_392 (by decide) ?_
  refine mj_newIA (N := 401) dX13_init_395 AC_int (by decide) (by decide) (Nat.le_of_ble_eq_true rfl) (by omega) (Nat.le_of_ble_eq_true rfl) (Nat.le_of_ble_eq_true rfl) (fun f47 p47 v47 => ?_)
  refine mj_putFA dX13_init_397 F_X13_150 (by omega) ((v47 _ (by omega)).trans m46.1) rfl (by rw [r_fs_len]; decide) rfl rfl (fun g47 q47 o47 => ?_)
  have m47 : r_mid h a n 46 (va_up (fun _ => 0) 3 (-1)) g47 := m46.step (g1 := f47) (K := 45) ha p47 v47 q47 o47 (by decide) (by decide +kernel)
  refine mj_aload_n dX13_init_400 0 rfl ?_
  refine mj_sipush (v := 401) dX13_init_401 (by decide) ?_
  refine mj_newIA (N := 401) dX13_init_404 AC_int (by decide) (by decide) (Nat.le_of_ble_eq_true rfl) (by omega) (Nat.le_of_ble_eq_true rfl) (Nat.le_of_ble_eq_true rfl) (fun f48 p48 v48 => ?_)
  refine mj_putFA dX13_init_406 F_X13_153 (by omega) ((v48 _ (by omega)).trans m47.1) rfl (by rw [r_fs_len]; decide) rfl rfl (fun g48 q48 o48 => ?_)
  have m48 : r_mid h a n 47 (va_up (fun _ => 0) 3 (-1)) g48 := m47.step (g1 := f48) (K := 46) ha p48 v48 q48 o48 (by decide) (by decide +kernel)
  refine mj_aload_n dX13_init_409 0 rfl ?_
  refine mj_sipush (v := 401) dX13_init_410 (by decide) ?_
  refine mj_newIA (N := 401) dX13_init_413 AC_int (by decide) (by decide) (Nat.le_of_ble_eq_true rfl) (by omega) (Nat.le_of_ble_eq_true rfl) (Nat.le_of_ble_eq_true rfl) (fun f49 p49 v49 => ?_)
  refine mj_putFA dX13_init_415 F_X13_156 (by omega) ((v49 _ (by omega)).trans m48.1) rfl (by rw [r_fs_len]; decide) rfl rfl (fun g49 q49 o49 => ?_)
  have m49 : r_mid h a n 48 (va_up (fun _ => 0) 3 (-1)) g49 := m48.step (g1 := f49) (K := 47) ha p49 v49 q49 o49 (by decide) (by decide +kernel)
  refine mj_aload_n dX13_init_418 0 rfl ?_
  refine mj_sipush (v := 401) dX13_init_419 (by decide) ?_
  refine mj_newIA (N := 401) dX13_init_422 AC_int (by decide) (by decide) (Nat.le_of_ble_eq_true rfl) (by omega) (Nat.le_of_ble_eq_true rfl) (Nat.le_of_ble_eq_true rfl) (fun f50 p50 v50 => ?_)
  refine mj_putFA dX13_init_424 F_X13_159 (by omega) ((v50 _ (by omega)).trans m49.1) rfl (by rw [r_fs_len]; decide) rfl rfl (fun g50 q50 o50 => ?_)
  have m50 : r_mid h a n 49 (va_up (fun _ => 0) 3 (-1)) g50 := m49.step (g1 := f50) (K := 48) ha p50 v50 q50 o50 (by decide) (by decide +kernel)
  refine mj_aload_n dX13_init_427 0 rfl ?_
  refine mj_sipush (v := 401) dX13_init_428 (by decide) ?_
  refine mj_newIA (N := 401) dX13_init_431 AC_int (by decide) (by decide) (Nat.le_of_ble_eq_true rfl) (by omega) (Nat.le_of_ble_eq_true rfl) (Nat.le_of_ble_eq_true rfl) (fun f51 p51 v51 => ?_)
  refine mj_putFA dX13_init_433 F_X13_162 (by omega) ((v51 _ (by omega)).trans m50.1) rfl (by rw [r_fs_len]; decide) rfl rfl (fun g51 q51 o51 => ?_)
  have m51 : r_mid h a n 50 (va_up (fun _ => 0) 3 (-1)) g51 := m50.step (g1 := f51) (K := 49) ha p51 v51 q51 o51 (by decide) (by decide +kernel)
  refine mj_aload_n dX13_init_436 0 rfl ?_
  refine mj_sipush (v := 401) dX13_init_437 (by decide) ?_
  refine mj_newIA (N := 401) dX13_init_440 AC_int (by decide) (by decide) (Nat.le_of_ble_eq_true rfl) (by omega) (Nat.le_of_ble_eq_true rfl) (Nat.le_of_ble_eq_true rfl) (fun f52 p52 v52 => ?_)
  refine mj_putFA dX13_init_442 F_X13_165 (by omega) ((v52 _ (by omega)).trans m51.1) rfl (by rw [r_fs_len]; decide) rfl rfl (fun g52 q52 o52 => ?_)
  have m52 : r_mid h a n 51 (va_up (fun _ => 0) 3 (-1)) g52 := m51.step (g1 := f52) (K := 50) ha p52 v52 q52 o52 (by decide) (by decide +kernel)
  refine mj_aload_n dX13_init_445 0 rfl ?_
  refine mj_sipush (v := 401) dX13_init_446 (by decide) ?_
  refine mj_newIA (N := 401) dX13_init_449 AC_int (by decide) (by decide) (Nat.le_of_ble_eq_true rfl) (by omega) (Nat.le_of_ble_eq_true rfl) (Nat.le_of_ble_eq_true rfl) (fun f53 p53 v53 => ?_)
  refine mj_putFA dX13_init_451 F_X13_168 (by omega) ((v53 _ (by omega)).trans m52.1) rfl (by rw [r_fs_len]; decide) rfl rfl (fun g53 q53 o53 => ?_)
  have m53 : r_mid h a n 52 (va_up (fun _ => 0) 3 (-1)) g53 := m52.step (g1 := f53) (K := 51) ha p53 v53 q53 o53 (by decide) (by decide +kernel)
  refine mj_aload_n dX13_init_454 0 rfl ?_
  refine mj_sipush (v := 13000) dX13_init_455 (by decide) ?_
  refine mj_newIA (N := 13000) dX13_init_458 AC_int (by decide) (by decide) (Nat.le_of_ble_eq_true rfl) (by omega) (Nat.le_of_ble_eq_true rfl) (Nat.le_of_ble_eq_true rfl) (fun f54 p54 v54 => ?_)
  refine mj_putFA dX13_init_460 F_X13_171 (by omega) ((v54 _ (by omega)).trans m53.1) rfl (by rw [r_fs_len]; decide) rfl rfl (fun g54 q54 o54 => ?_)
  have m54 : r_mid h a n 53 (va_up (fun _ => 0) 3 (-1)) g54 := m53.step (g1 := f54) (K := 52) ha p54 v54 q54 o54 (by decide) (by decide +kernel)
  refine mj_aload_n dX13_init_463 0 rfl ?_
  refine mj_sipush (v := 13000) dX13_init_464 (by decide) ?_
  refine mj_newZA (N := 13000) dX13_init_467 AC_boolean (by decide) (by decide) (Nat.le_of_ble_eq_true rfl) (by omega) (Nat.le_of_ble_eq_true rfl) (Nat.le_of_ble_eq_true rfl) (fun f55 p55 v55 => ?_)
  refine mj_putFA dX13_init_469 F_X13_174 (by omega) ((v55 _ (by omega)).trans m54.1) rfl (by rw [r_fs_len]; decide) rfl rfl (fun g55 q55 o55 => ?_)
  have m55 : r_mid h a n 54 (va_up (fun _ => 0) 3 (-1)) g55 := m54.step (g1 := f55) (K := 53) ha p55 v55 q55 o55 (by decide) (by decide +kernel)
  refine mj_aload_n dX13_init_472 0 rfl ?_
  refine mj_bipush (v := 60) dX13_init_473 (by decide) ?_
  refine mj_newIA (N := 60) dX13_init_475 AC_int (by decide) (by decide) (Nat.le_of_ble_eq_true rfl) (by omega) (Nat.le_of_ble_eq_true rfl) (Nat.le_of_ble_eq_true rfl) (fun f56 p56 v56 => ?_)
  refine mj_putFA dX13_init_477 F_X13_178 (by omega) ((v56 _ (by omega)).trans m55.1) rfl (by rw [r_fs_len]; decide) rfl rfl (fun g56 q56 o56 => ?_)
  have m56 : r_mid h a n 55 (va_up (fun _ => 0) 3 (-1)) g56 := m55.step (g1 := f56) (K := 54) ha p56 v56 q56 o56 (by decide) (by decide +kernel)
  refine mj_aload_n dX13_init_480 0 rfl ?_
  refine mj_ldc dX13_init_481 K_X13_181 ?_
  refine mj_newJA (N := 626600) dX13_init_483 AC_long (by decide) (by decide) (Nat.le_of_ble_eq_true rfl) (by omega) (Nat.le_of_ble_eq_true rfl) (Nat.le_of_ble_eq_true rfl) (fun f57 p57 v57 => ?_)
  refine mj_putFA dX13_init_485 F_X13_182 (by omega) ((v57 _ (by omega)).trans m56.1) rfl (by rw [r_fs_len]; decide) rfl rfl (fun g57 q57 o57 => ?_)
  have m57 : r_mid h a n 56 (va_up (fun _ => 0) 3 (-1)) g57 := m56.step (g1 := f57) (K := 55) ha p57 v57 q57 o57 (by decide) (by decide +kernel)
  refine mj_aload_n dX13_init_488 0 rfl ?_
  refine mj_sipush (v := 8600) dX13_init_489 (by decide) ?_
  refine mj_newJA (N := 8600) dX13_init_492 AC_long (by decide) (by decide) (Nat.le_of_ble_eq_true rfl) (by omega) (Nat.le_of_ble_eq_true rfl) (Nat.le_of_ble_eq_true rfl) (fun f58 p58 v58 => ?_)
  refine mj_putFA dX13_init_494 F_X13_185 (by omega) ((v58 _ (by omega)).trans m57.1) rfl (by rw [r_fs_len]; decide) rfl rfl (fun g58 q58 o58 => ?_)
  have m58 : r_mid h a n 57 (va_up (fun _ => 0) 3 (-1)) g58 := m57.step (g1 := f58) (K := 56) ha p58 v58 q58 o58 (by decide) (by decide +kernel)
  refine mj_aload_n dX13_init_497 0 rfl ?_
  refine mj_sipush (v := 13000) dX13_init_498 (by decide) ?_
  refine mj_newIA (N := 13000) dX13_init_501 AC_int (by decide) (by decide) (Nat.le_of_ble_eq_true rfl) (by omega) (Nat.le_of_ble_eq_true rfl) (Nat.le_of_ble_eq_true rfl) (fun f59 p59 v59 => ?_)
  refine mj_putFA dX13_init_503 F_X13_188 (by omega) ((v59 _ (by omega)).trans m58.1) rfl (by rw [r_fs_len]; decide) rfl rfl (fun g59 q59 o59 => ?_)
  have m59 : r_mid h a n 58 (va_up (fun _ => 0) 3 (-1)) g59 := m58.step (g1 := f59) (K := 57) ha p59 v59 q59 o59 (by decide) (by decide +kernel)
  refine mj_aload_n dX13_init_506 0 rfl ?_
  refine mj_bipush (v := 20) dX13_init_507 (by decide) ?_
  refine mj_newIA (N := 20) dX13_init_509 AC_int (by decide) (by decide) (Nat.le_of_ble_eq_true rfl) (by omega) (Nat.le_of_ble_eq_true rfl) (Nat.le_of_ble_eq_true rfl) (fun f60 p60 v60 => ?_)
  refine mj_putFA dX13_init_511 F_X13_191 (by omega) ((v60 _ (by omega)).trans m59.1) rfl (by rw [r_fs_len]; decide) rfl rfl (fun g60 q60 o60 => ?_)
  have m60 : r_mid h a n 59 (va_up (fun _ => 0) 3 (-1)) g60 := m59.step (g1 := f60) (K := 58) ha p60 v60 q60 o60 (by decide) (by decide +kernel)
  refine mj_aload_n dX13_init_514 0 rfl ?_
  refine mj_sipush (v := 20000) dX13_init_515 (by decide) ?_
  refine mj_newIA (N := 20000) dX13_init_518 AC_int (by decide) (by decide) (Nat.le_of_ble_eq_true rfl) (by omega) (Nat.le_of_ble_eq_true rfl) (Nat.le_of_ble_eq_true rfl) (fun f61 p61 v61 => ?_)
  refine mj_putFA dX13_init_520 F_X13_194 (by omega) ((v61 _ (by omega)).trans m60.1) rfl (by rw [r_fs_len]; decide) rfl rfl (fun g61 q61 o61 => ?_)
  have m61 : r_mid h a n 60 (va_up (fun _ => 0) 3 (-1)) g61 := m60.step (g1 := f61) (K := 59) ha p61 v61 q61 o61 (by decide) (by decide +kernel)
  refine mj_aload_n dX13_init_523 0 rfl ?_
  refine mj_sipush (v := 13000) dX13_init_524 (by decide) ?_
  refine mj_newJA (N := 13000) dX13_init_527 AC_long (by decide) (by decide) (Nat.le_of_ble_eq_true rfl) (by omega) (Nat.le_of_ble_eq_true rfl) (Nat.le_of_ble_eq_true rfl) (fun f62 p62 v62 => ?_)
  refine mj_putFA dX13_init_529 F_X13_197 (by omega) ((v62 _ (by omega)).trans m61.1) rfl (by rw [r_fs_len]; decide) rfl rfl (fun g62 q62 o62 => ?_)
  have m62 : r_mid h a n 61 (va_up (fun _ => 0) 3 (-1)) g62 := m61.step (g1 := f62) (K := 60) ha p62 v62 q62 o62 (by decide) (by decide +kernel)
  refine mj_aload_n dX13_init_532 0 rfl ?_
  refine mj_sipush (v := 13000) dX13_init_533 (by decide) ?_
  refine mj_newZA (N := 13000) dX13_init_536 AC_boolean (by decide) (by decide) (Nat.le_of_ble_eq_true rfl) (by omega) (Nat.le_of_ble_eq_true rfl) (Nat.le_of_ble_eq_true rfl) (fun f63 p63 v63 => ?_)
  refine mj_putFA dX13_init_538 F_X13_200 (by omega) ((v63 _ (by omega)).trans m62.1) rfl (by rw [r_fs_len]; decide) rfl rfl (fun g63 q63 o63 => ?_)
  have m63 : r_mid h a n 62 (va_up (fun _ => 0) 3 (-1)) g63 := m62.step (g1 := f63) (K := 61) ha p63 v63 q63 o63 (by decide) (by decide +kernel)
  refine mj_aload_n dX13_init_541 0 rfl ?_
  refine mj_sipush (v := 13000) dX13_init_542 (by decide) ?_
  refine mj_newIA (N := 13000) dX13_init_545 AC_int (by decide) (by decide) (Nat.le_of_ble_eq_true rfl) (by omega) (Nat.le_of_ble_eq_true rfl) (Nat.le_of_ble_eq_true rfl) (fun f64 p64 v64 => ?_)
  refine mj_putFA dX13_init_547 F_X13_203 (by omega) ((v64 _ (by omega)).trans m63.1) rfl (by rw [r_fs_len]; decide) rfl rfl (fun g64 q64 o64 => ?_)
  have m64 : r_mid h a n 63 (va_up (fun _ => 0) 3 (-1)) g64 := m63.step (g1 := f64) (K := 62) ha p64 v64 q64 o64 (by decide) (by decide +kernel)
  refine mj_aload_n dX13_init_550 0 rfl ?_
  refine mj_sipush (v := 3100) dX13_init_551 (by decide) ?_
  refine mj_newIA (N := 3100) dX13_init_554 AC_int (by decide) (by decide) (Nat.le_of_ble_eq_true rfl) (by omega) (Nat.le_of_ble_eq_true rfl) (Nat.le_of_ble_eq_true rfl) (fun f65 p65 v65 => ?_)
  refine mj_putFA dX13_init_556 F_X13_206 (by omega) ((v65 _ (by omega)).trans m64.1) rfl (by rw [r_fs_len]; decide) rfl rfl (fun g65 q65 o65 => ?_)
  have m65 : r_mid h a n 64 (va_up (fun _ => 0) 3 (-1)) g65 := m64.step (g1 := f65) (K := 63) ha p65 v65 q65 o65 (by decide) (by decide +kernel)
  refine mj_aload_n dX13_init_559 0 rfl ?_
  refine mj_ldc dX13_init_560 K_X13_209 ?_
  refine mj_newJA (N := 150200) dX13_init_562 AC_long (by decide) (by decide) (Nat.le_of_ble_eq_true rfl) (by omega) (Nat.le_of_ble_eq_true rfl) (Nat.le_of_ble_eq_true rfl) (fun f66 p66 v66 => ?_)
  refine mj_putFA dX13_init_564 F_X13_210 (by omega) ((v66 _ (by omega)).trans m65.1) rfl (by rw [r_fs_len]; decide) rfl rfl (fun g66 q66 o66 => ?_)
  have m66 : r_mid h a n 65 (va_up (fun _ => 0) 3 (-1)) g66 := m65.step (g1 := f66) (K := 64) ha p66 v66 q66 o66 (by decide) (by decide +kernel)
  refine mj_aload_n dX13_init_567 0 rfl ?_
  refine mj_ldc dX13_init_568 K_X13_209 ?_
  refine mj_newJA (N := 150200) dX13_init_570 AC_long (by decide) (by decide) (Nat.le_of_ble_eq_true rfl) (by omega) (Nat.le_of_ble_eq_true rfl) (Nat.le_of_ble_eq_true rfl) (fun f67 p67 v67 => ?_)
  refine mj_putFA dX13_init_572 F_X13_213 (by omega) ((v67 _ (by omega)).trans m66.1) rfl (by rw [r_fs_len]; decide) rfl rfl (fun g67 q67 o67 => ?_)
  have m67 : r_mid h a n 66 (va_up (fun _ => 0) 3 (-1)) g67 := m66.step (g1 := f67) (K := 65) ha p67 v67 q67 o67 (by decide) (by decide +kernel)
  refine mj_aload_n dX13_init_575 0 rfl ?_
  refine mj_ldc dX13_init_576 K_X13_216 ?_
  refine mj_newJA (N := 273000) dX13_init_578 AC_long (by decide) (by decide) (Nat.le_of_ble_eq_true rfl) (by omega) (Nat.le_of_ble_eq_true rfl) (Nat.le_of_ble_eq_true rfl) (fun f68 p68 v68 => ?_)
  refine mj_putFA dX13_init_580 F_X13_217 (by omega) ((v68 _ (by omega)).trans m67.1) rfl (by rw [r_fs_len]; decide) rfl rfl (fun g68 q68 o68 => ?_)
  have m68 : r_mid h a n 67 (va_up (fun _ => 0) 3 (-1)) g68 := m67.step (g1 := f68) (K := 66) ha p68 v68 q68 o68 (by decide) (by decide +kernel)
  refine mj_aload_n dX13_init_583 0 rfl ?_
  refine mj_ldc dX13_init_584 K_X13_216 ?_
  refine mj_newZA (N := 273000) dX13_init_586 AC_boolean (by decide) (by decide) (Nat.le_of_ble_eq_true rfl) (by omega) (Nat.le_of_ble_eq_true rfl) (Nat.le_of_ble_eq_true rfl) (fun f69 p69 v69 => ?_)
  refine mj_putFA dX13_init_588 F_X13_220 (by omega) ((v69 _ (by omega)).trans m68.1) rfl (by rw [r_fs_len]; decide) rfl rfl (fun g69 q69 o69 => ?_)
  have m69 : r_mid h a n 68 (va_up (fun _ => 0) 3 (-1)) g69 := m68.step (g1 := f69) (K := 67) ha p69 v69 q69 o69 (by decide) (by decide +kernel)
  refine mj_aload_n dX13_init_591 0 rfl ?_
  refine mj_sipush (v := 8421) dX13_init_592 (by decide) ?_
  refine mj_newJA (N := 8421) dX13_init_595 AC_long (by decide) (by decide) (Nat.le_of_ble_eq_true rfl) (by omega) (Nat.le_of_ble_eq_true rfl) (Nat.le_of_ble_eq_true rfl) (fun f70 p70 v70 => ?_)
  refine mj_putFA dX13_init_597 F_X13_223 (by omega) ((v70 _ (by omega)).trans m69.1) rfl (by rw [r_fs_len]; decide) rfl rfl (fun g70 q70 o70 => ?_)
  have m70 : r_mid h a n 69 (va_up (fun _ => 0) 3 (-1)) g70 := m69.step (g1 := f70) (K := 68) ha p70 v70 q70 o70 (by decide) (by decide +kernel)
  refine mj_aload_n dX13_init_600 0 rfl ?_
  refine mj_sipush (v := 8600) dX13_init_601 (by decide) ?_
  refine mj_newZA (N := 8600) dX13_init_604 AC_boolean (by decide) (by decide) (Nat.le_of_ble_eq_true rfl) (by omega) (Nat.le_of_ble_eq_true rfl) (Nat.le_of_ble_eq_true rfl) (fun f71 p71 v71 => ?_)
  refine mj_putFA dX13_init_606 F_X13_226 (by omega) ((v71 _ (by omega)).trans m70.1) rfl (by rw [r_fs_len]; decide) rfl rfl (fun g71 q71 o71 => ?_)
  have m71 : r_mid h a n 70 (va_up (fun _ => 0) 3 (-1)) g71 := m70.step (g1 := f71) (K := 69) ha p71 v71 q71 o71 (by decide) (by decide +kernel)
  refine mj_aload_n dX13_init_609 0 rfl ?_
  refine mj_sipush (v := 400) dX13_init_610 (by decide) ?_
  refine mj_newIA (N := 400) dX13_init_613 AC_int (by decide) (by decide) (Nat.le_of_ble_eq_true rfl) (by omega) (Nat.le_of_ble_eq_true rfl) (Nat.le_of_ble_eq_true rfl) (fun f72 p72 v72 => ?_)
  refine mj_putFA dX13_init_615 F_X13_229 (by omega) ((v72 _ (by omega)).trans m71.1) rfl (by rw [r_fs_len]; decide) rfl rfl (fun g72 q72 o72 => ?_)
  have m72 : r_mid h a n 71 (va_up (fun _ => 0) 3 (-1)) g72 := m71.step (g1 := f72) (K := 70) ha p72 v72 q72 o72 (by decide) (by decide +kernel)
  refine mj_aload_n dX13_init_618 0 rfl ?_
  refine mj_sipush (v := 400) dX13_init_619 (by decide) ?_
  refine mj_newIA (N := 400) dX13_init_622 AC_int (by decide) (by decide) (Nat.le_of_ble_eq_true rfl) (by omega) (Nat.le_of_ble_eq_true rfl) (Nat.le_of_ble_eq_true rfl) (fun f73 p73 v73 => ?_)
  refine mj_putFA dX13_init_624 F_X13_232 (by omega) ((v73 _ (by omega)).trans m72.1) rfl (by rw [r_fs_len]; decide) rfl rfl (fun g73 q73 o73 => ?_)
  have m73 : r_mid h a n 72 (va_up (fun _ => 0) 3 (-1)) g73 := m72.step (g1 := f73) (K := 71) ha p73 v73 q73 o73 (by decide) (by decide +kernel)
  refine mj_aload_n dX13_init_627 0 rfl ?_
  refine mj_sipush (v := 400) dX13_init_628 (by decide) ?_
  refine mj_newJA (N := 400) dX13_init_631 AC_long (by decide) (by decide) (Nat.le_of_ble_eq_true rfl) (by omega) (Nat.le_of_ble_eq_true rfl) (Nat.le_of_ble_eq_true rfl) (fun f74 p74 v74 => ?_)
  refine mj_putFA dX13_init_633 F_X13_235 (by omega) ((v74 _ (by omega)).trans m73.1) rfl (by rw [r_fs_len]; decide) rfl rfl (fun g74 q74 o74 => ?_)
  have m74 : r_mid h a n 73 (va_up (fun _ => 0) 3 (-1)) g74 := m73.step (g1 := f74) (K := 72) ha p74 v74 q74 o74 (by decide) (by decide +kernel)
  refine mj_aload_n dX13_init_636 0 rfl ?_
  refine mj_sipush (v := 8600) dX13_init_637 (by decide) ?_
  refine mj_newJA (N := 8600) dX13_init_640 AC_long (by decide) (by decide) (Nat.le_of_ble_eq_true rfl) (by omega) (Nat.le_of_ble_eq_true rfl) (Nat.le_of_ble_eq_true rfl) (fun f75 p75 v75 => ?_)
  refine mj_putFA dX13_init_642 F_X13_238 (by omega) ((v75 _ (by omega)).trans m74.1) rfl (by rw [r_fs_len]; decide) rfl rfl (fun g75 q75 o75 => ?_)
  have m75 : r_mid h a n 74 (va_up (fun _ => 0) 3 (-1)) g75 := m74.step (g1 := f75) (K := 73) ha p75 v75 q75 o75 (by decide) (by decide +kernel)
  refine mj_aload_n dX13_init_645 0 rfl ?_
  refine mj_bipush (v := 20) dX13_init_646 (by decide) ?_
  refine mj_newIA (N := 20) dX13_init_648 AC_int (by decide) (by decide) (Nat.le_of_ble_eq_true rfl) (by omega) (Nat.le_of_ble_eq_true rfl) (Nat.le_of_ble_eq_true rfl) (fun f76 p76 v76 => ?_)
  refine mj_putFA dX13_init_650 F_X13_241 (by omega) ((v76 _ (by omega)).trans m75.1) rfl (by rw [r_fs_len]; decide) rfl rfl (fun g76 q76 o76 => ?_)
  have m76 : r_mid h a n 75 (va_up (fun _ => 0) 3 (-1)) g76 := m75.step (g1 := f76) (K := 74) ha p76 v76 q76 o76 (by decide) (by decide +kernel)
  refine mj_aload_n dX13_init_653 0 rfl ?_
  refine mj_sipush (v := 13000) dX13_init_654 (by decide) ?_
  refine mj_newIA (N := 13000) dX13_init_657 AC_int (by decide) (by decide) (Nat.le_of_ble_eq_true rfl) (by omega) (Nat.le_of_ble_eq_true rfl) (Nat.le_of_ble_eq_true rfl) (fun f77 p77 v77 => ?_)
  refine mj_putFA dX13_init_659 F_X13_244 (by omega) ((v77 _ (by omega)).trans m76.1) rfl (by rw [r_fs_len]; decide) rfl rfl (fun g77 q77 o77 => ?_)
  have m77 : r_mid h a n 76 (va_up (fun _ => 0) 3 (-1)) g77 := m76.step (g1 := f77) (K := 75) ha p77 v77 q77 o77 (by decide) (by decide +kernel)
  refine mj_aload_n dX13_init_662 0 rfl ?_
  refine mj_ldc dX13_init_663 K_X13_247 ?_
  refine mj_newJA (N := 370000) dX13_init_665 AC_long (by decide) (by decide) (Nat.le_of_ble_eq_true rfl) (by omega) (Nat.le_of_ble_eq_true rfl) (Nat.le_of_ble_eq_true rfl) (fun f78 p78 v78 => ?_)
  refine mj_putFA dX13_init_667 F_X13_248 (by omega) ((v78 _ (by omega)).trans m77.1) rfl (by rw [r_fs_len]; decide) rfl rfl (fun g78 q78 o78 => ?_)
  have m78 : r_mid h a n 77 (va_up (fun _ => 0) 3 (-1)) g78 := m77.step (g1 := f78) (K := 76) ha p78 v78 q78 o78 (by decide) (by decide +kernel)
  refine mj_aload_n dX13_init_670 0 rfl ?_
  refine mj_ldc dX13_init_671 K_X13_251 ?_
  refine mj_newIA (N := 577000) dX13_init_673 AC_int (by decide) (by decide) (Nat.le_of_ble_eq_true rfl) (by omega) (Nat.le_of_ble_eq_true rfl) (Nat.le_of_ble_eq_true rfl) (fun f79 p79 v79 => ?_)
  refine mj_putFA dX13_init_675 F_X13_252 (by omega) ((v79 _ (by omega)).trans m78.1) rfl (by rw [r_fs_len]; decide) rfl rfl (fun g79 q79 o79 => ?_)
  have m79 : r_mid h a n 78 (va_up (fun _ => 0) 3 (-1)) g79 := m78.step (g1 := f79) (K := 77) ha p79 v79 q79 o79 (by decide) (by decide +kernel)
  refine mj_aload_n dX13_init_678 0 rfl ?_
  refine mj_sipush (v := 270) dX13_init_679 (by decide) ?_
  refine mj_newIA (N := 270) dX13_init_682 AC_int (by decide) (by decide) (Nat.le_of_ble_eq_true rfl) (by omega) (Nat.le_of_ble_eq_true rfl) (Nat.le_of_ble_eq_true rfl) (fun f80 p80 v80 => ?_)
  refine mj_putFA dX13_init_684 F_X13_255 (by omega) ((v80 _ (by omega)).trans m79.1) rfl (by rw [r_fs_len]; decide) rfl rfl (fun g80 q80 o80 => ?_)
  have m80 : r_mid h a n 79 (va_up (fun _ => 0) 3 (-1)) g80 := m79.step (g1 := f80) (K := 78) ha p80 v80 q80 o80 (by decide) (by decide +kernel)
  refine mj_aload_n dX13_init_687 0 rfl ?_
  refine mj_bipush (v := 60) dX13_init_688 (by decide) ?_
  refine mj_newIA (N := 60) dX13_init_690 AC_int (by decide) (by decide) (Nat.le_of_ble_eq_true rfl) (by omega) (Nat.le_of_ble_eq_true rfl) (Nat.le_of_ble_eq_true rfl) (fun f81 p81 v81 => ?_)
  refine mj_putFA dX13_init_692 F_X13_258 (by omega) ((v81 _ (by omega)).trans m80.1) rfl (by rw [r_fs_len]; decide) rfl rfl (fun g81 q81 o81 => ?_)
  have m81 : r_mid h a n 80 (va_up (fun _ => 0) 3 (-1)) g81 := m80.step (g1 := f81) (K := 79) ha p81 v81 q81 o81 (by decide) (by decide +kernel)
  refine mj_aload_n dX13_init_695 0 rfl ?_
  refine mj_bipush (v := 16) dX13_init_696 (by decide) ?_
  refine mj_newIA (N := 16) dX13_init_698 AC_int (by decide) (by decide) (Nat.le_of_ble_eq_true rfl) (by omega) (Nat.le_of_ble_eq_true rfl) (Nat.le_of_ble_eq_true rfl) (fun f82 p82 v82 => ?_)
  refine mj_putFA dX13_init_700 F_X13_261 (by omega) ((v82 _ (by omega)).trans m81.1) rfl (by rw [r_fs_len]; decide) rfl rfl (fun g82 q82 o82 => ?_)
  have m82 : r_mid h a n 81 (va_up (fun _ => 0) 3 (-1)) g82 := m81.step (g1 := f82) (K := 80) ha p82 v82 q82 o82 (by decide) (by decide +kernel)
  refine mj_aload_n dX13_init_703 0 rfl ?_
  refine mj_bipush (v := 16) dX13_init_704 (by decide) ?_
  refine mj_newIA (N := 16) dX13_init_706 AC_int (by decide) (by decide) (Nat.le_of_ble_eq_true rfl) (by omega) (Nat.le_of_ble_eq_true rfl) (Nat.le_of_ble_eq_true rfl) (fun f83 p83 v83 => ?_)
  refine mj_putFA dX13_init_708 F_X13_264 (by omega) ((v83 _ (by omega)).trans m82.1) rfl (by rw [r_fs_len]; decide) rfl rfl (fun g83 q83 o83 => ?_)
  have m83 : r_mid h a n 82 (va_up (fun _ => 0) 3 (-1)) g83 := m82.step (g1 := f83) (K := 81) ha p83 v83 q83 o83 (by decide) (by decide +kernel)
  refine mj_aload_n dX13_init_711 0 rfl ?_
  refine mj_bipush (v := 16) dX13_init_712 (by decide) ?_
  refine mj_newZA (N := 16) dX13_init_714 AC_boolean (by decide) (by decide) (Nat.le_of_ble_eq_true rfl) (by omega) (Nat.le_of_ble_eq_true rfl) (Nat.le_of_ble_eq_true rfl) (fun f84 p84 v84 => ?_)
  refine mj_putFA dX13_init_716 F_X13_267 (by omega) ((v84 _ (by omega)).trans m83.1) rfl (by rw [r_fs_len]; decide) rfl rfl (fun g84 q84 o84 => ?_)
  have m84 : r_mid h a n 83 (va_up (fun _ => 0) 3 (-1)) g84 := m83.step (g1 := f84) (K := 82) ha p84 v84 q84 o84 (by decide) (by decide +kernel)
  refine mj_aload_n dX13_init_719 0 rfl ?_
  refine mj_sipush (v := 130) dX13_init_720 (by decide) ?_
  refine mj_newIA (N := 130) dX13_init_723 AC_int (by decide) (by decide) (Nat.le_of_ble_eq_true rfl) (by omega) (Nat.le_of_ble_eq_true rfl) (Nat.le_of_ble_eq_true rfl) (fun f85 p85 v85 => ?_)
  refine mj_putFA dX13_init_725 F_X13_270 (by omega) ((v85 _ (by omega)).trans m84.1) rfl (by rw [r_fs_len]; decide) rfl rfl (fun g85 q85 o85 => ?_)
  have m85 : r_mid h a n 84 (va_up (fun _ => 0) 3 (-1)) g85 := m84.step (g1 := f85) (K := 83) ha p85 v85 q85 o85 (by decide) (by decide +kernel)
  refine mj_aload_n dX13_init_728 0 rfl ?_
  refine mj_bipush (v := 8) dX13_init_729 (by decide) ?_
  refine mj_newIA (N := 8) dX13_init_731 AC_int (by decide) (by decide) (Nat.le_of_ble_eq_true rfl) (by omega) (Nat.le_of_ble_eq_true rfl) (Nat.le_of_ble_eq_true rfl) (fun f86 p86 v86 => ?_)
  refine mj_putFA dX13_init_733 F_X13_273 (by omega) ((v86 _ (by omega)).trans m85.1) rfl (by rw [r_fs_len]; decide) rfl rfl (fun g86 q86 o86 => ?_)
  have m86 : r_mid h a n 85 (va_up (fun _ => 0) 3 (-1)) g86 := m85.step (g1 := f86) (K := 84) ha p86 v86 q86 o86 (by decide) (by decide +kernel)
  refine mj_aload_n dX13_init_736 0 rfl ?_
  refine mj_bipush (v := 8) dX13_init_737 (by decide) ?_
  refine mj_newIA (N := 8) dX13_init_739 AC_int (by decide) (by decide) (Nat.le_of_ble_eq_true rfl) (by omega) (Nat.le_of_ble_eq_true rfl) (Nat.le_of_ble_eq_true rfl) (fun f87 p87 v87 => ?_)
  refine mj_putFA dX13_init_741 F_X13_276 (by omega) ((v87 _ (by omega)).trans m86.1) rfl (by rw [r_fs_len]; decide) rfl rfl (fun g87 q87 o87 => ?_)
  have m87 : r_mid h a n 86 (va_up (fun _ => 0) 3 (-1)) g87 := m86.step (g1 := f87) (K := 85) ha p87 v87 q87 o87 (by decide) (by decide +kernel)
  refine mj_aload_n dX13_init_744 0 rfl ?_
  refine mj_bipush (v := 8) dX13_init_745 (by decide) ?_
  refine mj_newIA (N := 8) dX13_init_747 AC_int (by decide) (by decide) (Nat.le_of_ble_eq_true rfl) (by omega) (Nat.le_of_ble_eq_true rfl) (Nat.le_of_ble_eq_true rfl) (fun f88 p88 v88 => ?_)
  refine mj_putFA dX13_init_749 F_X13_279 (by omega) ((v88 _ (by omega)).trans m87.1) rfl (by rw [r_fs_len]; decide) rfl rfl (fun g88 q88 o88 => ?_)
  have m88 : r_mid h a n 87 (va_up (fun _ => 0) 3 (-1)) g88 := m87.step (g1 := f88) (K := 86) ha p88 v88 q88 o88 (by decide) (by decide +kernel)
  refine mj_aload_n dX13_init_752 0 rfl ?_
  refine mj_bipush (v := 8) dX13_init_753 (by decide) ?_
  refine mj_newIA (N := 8) dX13_init_755 AC_int (by decide) (by decide) (Nat.le_of_ble_eq_true rfl) (by omega) (Nat.le_of_ble_eq_true rfl) (Nat.le_of_ble_eq_true rfl) (fun f89 p89 v89 => ?_)
  refine mj_putFA dX13_init_757 F_X13_282 (by omega) ((v89 _ (by omega)).trans m88.1) rfl (by rw [r_fs_len]; decide) rfl rfl (fun g89 q89 o89 => ?_)
  have m89 : r_mid h a n 88 (va_up (fun _ => 0) 3 (-1)) g89 := m88.step (g1 := f89) (K := 87) ha p89 v89 q89 o89 (by decide) (by decide +kernel)
  refine mj_aload_n dX13_init_760 0 rfl ?_
  refine mj_bipush (v := 64) dX13_init_761 (by decide) ?_
  refine mj_newIA (N := 64) dX13_init_763 AC_int (by decide) (by decide) (Nat.le_of_ble_eq_true rfl) (by omega) (Nat.le_of_ble_eq_true rfl) (Nat.le_of_ble_eq_true rfl) (fun f90 p90 v90 => ?_)
  refine mj_putFA dX13_init_765 F_X13_285 (by omega) ((v90 _ (by omega)).trans m89.1) rfl (by rw [r_fs_len]; decide) rfl rfl (fun g90 q90 o90 => ?_)
  have m90 : r_mid h a n 89 (va_up (fun _ => 0) 3 (-1)) g90 := m89.step (g1 := f90) (K := 88) ha p90 v90 q90 o90 (by decide) (by decide +kernel)
  refine mj_aload_n dX13_init_768 0 rfl ?_
  refine mj_bipush (v := 64) dX13_init_769 (by decide) ?_
  refine mj_newIA (N := 64) dX13_init_771 AC_int (by decide) (by decide) (Nat.le_of_ble_eq_true rfl) (by omega) (Nat.le_of_ble_eq_true rfl) (Nat.le_of_ble_eq_true rfl) (fun f91 p91 v91 => ?_)
  refine mj_putFA dX13_init_773 F_X13_288 (by omega) ((v91 _ (by omega)).trans m90.1) rfl (by rw [r_fs_len]; decide) rfl rfl (fun g91 q91 o91 => ?_)
  have m91 : r_mid h a n 90 (va_up (fun _ => 0) 3 (-1)) g91 := m90.step (g1 := f91) (K := 89) ha p91 v91 q91 o91 (by decide) (by decide +kernel)
  refine mj_aload_n dX13_init_776 0 rfl ?_
  refine mj_bipush (v := 64) dX13_init_777 (by decide) ?_
  refine mj_newIA (N := 64) dX13_init_779 AC_int (by decide) (by decide) (Nat.le_of_ble_eq_true rfl) (by omega) (Nat.le_of_ble_eq_true rfl) (Nat.le_of_ble_eq_true rfl) (fun f92 p92 v92 => ?_)
  refine mj_putFA dX13_init_781 F_X13_291 (by omega) ((v92 _ (by omega)).trans m91.1) rfl (by rw [r_fs_len]; decide) rfl rfl (fun g92 q92 o92 => ?_)
  have m92 : r_mid h a n 91 (va_up (fun _ => 0) 3 (-1)) g92 := m91.step (g1 := f92) (K := 90) ha p92 v92 q92 o92 (by decide) (by decide +kernel)
  refine mj_aload_n dX13_init_784 0 rfl ?_
  refine mj_bipush (v := 8) dX13_init_785 (by decide) ?_
  refine mj_newIA (N := 8) dX13_init_787 AC_int (by decide) (by decide) (Nat.le_of_ble_eq_true rfl) (by omega) (Nat.le_of_ble_eq_true rfl) (Nat.le_of_ble_eq_true rfl) (fun f93 p93 v93 => ?_)
  refine mj_putFA dX13_init_789 F_X13_294 (by omega) ((v93 _ (by omega)).trans m92.1) rfl (by rw [r_fs_len]; decide) rfl rfl (fun g93 q93 o93 => ?_)
  have m93 : r_mid h a n 92 (va_up (fun _ => 0) 3 (-1)) g93 := m92.step (g1 := f93) (K := 91) ha p93 v93 q93 o93 (by decide) (by decide +kernel)
  refine mj_aload_n dX13_init_792 0 rfl ?_
  refine mj_bipush (v := 32) dX13_init_793 (by decide) ?_
  refine mj_newIA (N := 32) dX13_init_795 AC_int (by decide) (by decide) (Nat.le_of_ble_eq_true rfl) (by omega) (Nat.le_of_ble_eq_true rfl) (Nat.le_of_ble_eq_true rfl) (fun f94 p94 v94 => ?_)
  refine mj_putFA dX13_init_797 F_X13_297 (by omega) ((v94 _ (by omega)).trans m93.1) rfl (by rw [r_fs_len]; decide) rfl rfl (fun g94 q94 o94 => ?_)
  have m94 : r_mid h a n 93 (va_up (fun _ => 0) 3 (-1)) g94 := m93.step (g1 := f94) (K := 92) ha p94 v94 q94 o94 (by decide) (by decide +kernel)
  refine mj_aload_n dX13_init_800 0 rfl ?_
  refine mj_bipush (v := 8) dX13_init_801 (by decide) ?_
  refine mj_newIA (N := 8) dX13_init_803 AC_int (by decide) (by decide) (Nat.le_of_ble_eq_true rfl) (by omega) (Nat.le_of_ble_eq_true rfl) (Nat.le_of_ble_eq_true rfl) (fun f95 p95 v95 => ?_)
  refine mj_putFA dX13_init_805 F_X13_300 (by omega) ((v95 _ (by omega)).trans m94.1) rfl (by rw [r_fs_len]; decide) rfl rfl (fun g95 q95 o95 => ?_)
  have m95 : r_mid h a n 94 (va_up (fun _ => 0) 3 (-1)) g95 := m94.step (g1 := f95) (K := 93) ha p95 v95 q95 o95 (by decide) (by decide +kernel)
  refine mj_aload_n dX13_init_808 0 rfl ?_
  refine mj_bipush (v := 8) dX13_init_809 (by decide) ?_
  refine mj_newIA (N := 8) dX13_init_811 AC_int (by decide) (by decide) (Nat.le_of_ble_eq_true rfl) (by omega) (Nat.le_of_ble_eq_true rfl) (Nat.le_of_ble_eq_true rfl) (fun f96 p96 v96 => ?_)
  refine mj_putFA dX13_init_813 F_X13_303 (by omega) ((v96 _ (by omega)).trans m95.1) rfl (by rw [r_fs_len]; decide) rfl rfl (fun g96 q96 o96 => ?_)
  have m96 : r_mid h a n 95 (va_up (fun _ => 0) 3 (-1)) g96 := m95.step (g1 := f96) (K := 94) ha p96 v96 q96 o96 (by decide) (by decide +kernel)
  refine mj_aload_n dX13_init_816 0 rfl ?_
  refine mj_bipush (v := 48) dX13_init_817 (by decide) ?_
  refine mj_newIA (N := 48) dX13_init_819 AC_int (by decide) (by decide) (Nat.le_of_ble_eq_true rfl) (by omega) (Nat.le_of_ble_eq_true rfl) (Nat.le_of_ble_eq_true rfl) (fun f97 p97 v97 => ?_)
  refine mj_putFA dX13_init_821 F_X13_306 (by omega) ((v97 _ (by omega)).trans m96.1) rfl (by rw [r_fs_len]; decide) rfl rfl (fun g97 q97 o97 => ?_)
  have m97 : r_mid h a n 96 (va_up (fun _ => 0) 3 (-1)) g97 := m96.step (g1 := f97) (K := 95) ha p97 v97 q97 o97 (by decide) (by decide +kernel)
  refine mj_aload_n dX13_init_824 0 rfl ?_
  refine mj_bipush (v := 48) dX13_init_825 (by decide) ?_
  refine mj_newIA (N := 48) dX13_init_827 AC_int (by decide) (by decide) (Nat.le_of_ble_eq_true rfl) (by omega) (Nat.le_of_ble_eq_true rfl) (Nat.le_of_ble_eq_true rfl) (fun f98 p98 v98 => ?_)
  refine mj_putFA dX13_init_829 F_X13_309 (by omega) ((v98 _ (by omega)).trans m97.1) rfl (by rw [r_fs_len]; decide) rfl rfl (fun g98 q98 o98 => ?_)
  have m98 : r_mid h a n 97 (va_up (fun _ => 0) 3 (-1)) g98 := m97.step (g1 := f98) (K := 96) ha p98 v98 q98 o98 (by decide) (by decide +kernel)
  refine mj_aload_n dX13_init_832 0 rfl ?_
  refine mj_sipush (v := 384) dX13_init_833 (by decide) ?_
  refine mj_newIA (N := 384) dX13_init_836 AC_int (by decide) (by decide) (Nat.le_of_ble_eq_true rfl) (by omega) (Nat.le_of_ble_eq_true rfl) (Nat.le_of_ble_eq_true rfl) (fun f99 p99 v99 => ?_)
  refine mj_putFA dX13_init_838 F_X13_312 (by omega) ((v99 _ (by omega)).trans m98.1) rfl (by rw [r_fs_len]; decide) rfl rfl (fun g99 q99 o99 => ?_)
  have m99 : r_mid h a n 98 (va_up (fun _ => 0) 3 (-1)) g99 := m98.step (g1 := f99) (K := 97) ha p99 v99 q99 o99 (by decide) (by decide +kernel)
  refine mj_aload_n dX13_init_841 0 rfl ?_
  refine mj_bipush (v := 48) dX13_init_842 (by decide) ?_
  refine mj_newIA (N := 48) dX13_init_844 AC_int (by decide) (by decide) (Nat.le_of_ble_eq_true rfl) (by omega) (Nat.le_of_ble_eq_true rfl) (Nat.le_of_ble_eq_true rfl) (fun f100 p100 v100 => ?_)
  refine mj_putFA dX13_init_846 F_X13_315 (by omega) ((v100 _ (by omega)).trans m99.1) rfl (by rw [r_fs_len]; decide) rfl rfl (fun g100 q100 o100 => ?_)
  have m100 : r_mid h a n 99 (va_up (fun _ => 0) 3 (-1)) g100 := m99.step (g1 := f100) (K := 98) ha p100 v100 q100 o100 (by decide) (by decide +kernel)
  refine mj_aload_n dX13_init_849 0 rfl ?_
  refine mj_bipush (v := 48) dX13_init_850 (by decide) ?_
  refine mj_newIA (N := 48) dX13_init_852 AC_int (by decide) (by decide) (Nat.le_of_ble_eq_true rfl) (by omega) (Nat.le_of_ble_eq_true rfl) (Nat.le_of_ble_eq_true rfl) (fun f101 p101 v101 => ?_)
  refine mj_putFA dX13_init_854 F_X13_318 (by omega) ((v101 _ (by omega)).trans m100.1) rfl (by rw [r_fs_len]; decide) rfl rfl (fun g101 q101 o101 => ?_)
  have m101 : r_mid h a n 100 (va_up (fun _ => 0) 3 (-1)) g101 := m100.step (g1 := f101) (K := 99) ha p101 v101 q101 o101 (by decide) (by decide +kernel)
  refine mj_aload_n dX13_init_857 0 rfl ?_
  refine mj_bipush (v := 32) dX13_init_858 (by decide) ?_
  refine mj_newJA (N := 32) dX13_init_860 AC_long (by decide) (by decide) (Nat.le_of_ble_eq_true rfl) (by omega) (Nat.le_of_ble_eq_true rfl) (Nat.le_of_ble_eq_true rfl) (fun f102 p102 v102 => ?_)
  refine mj_putFA dX13_init_862 F_X13_321 (by omega) ((v102 _ (by omega)).trans m101.1) rfl (by rw [r_fs_len]; decide) rfl rfl (fun g102 q102 o102 => ?_)
  have m102 : r_mid h a n 101 (va_up (fun _ => 0) 3 (-1)) g102 := m101.step (g1 := f102) (K := 100) ha p102 v102 q102 o102 (by decide) (by decide +kernel)
  refine mj_aload_n dX13_init_865 0 rfl ?_
  refine mj_sipush (v := 300) dX13_init_866 (by decide) ?_
  refine mj_newIA (N := 300) dX13_init_869 AC_int (by decide) (by decide) (Nat.le_of_ble_eq_true rfl) (by omega) (Nat.le_of_ble_eq_true rfl) (Nat.le_of_ble_eq_true rfl) (fun f103 p103 v103 => ?_)
  refine mj_putFA dX13_init_871 F_X13_324 (by omega) ((v103 _ (by omega)).trans m102.1) rfl (by rw [r_fs_len]; decide) rfl rfl (fun g103 q103 o103 => ?_)
  have m103 : r_mid h a n 102 (va_up (fun _ => 0) 3 (-1)) g103 := m102.step (g1 := f103) (K := 101) ha p103 v103 q103 o103 (by decide) (by decide +kernel)
  refine mj_aload_n dX13_init_874 0 rfl ?_
  refine mj_sipush (v := 300) dX13_init_875 (by decide) ?_
  refine mj_newIA (N := 300) dX13_init_878 AC_int (by decide) (by decide) (Nat.le_of_ble_eq_true rfl) (by omega) (Nat.le_of_ble_eq_true rfl) (Nat.le_of_ble_eq_true rfl) (fun f104 p104 v104 => ?_)
  refine mj_putFA dX13_init_880 F_X13_327 (by omega) ((v104 _ (by omega)).trans m103.1) rfl (by rw [r_fs_len]; decide) rfl rfl (fun g104 q104 o104 => ?_)
  have m104 : r_mid h a n 103 (va_up (fun _ => 0) 3 (-1)) g104 := m103.step (g1 := f104) (K := 102) ha p104 v104 q104 o104 (by decide) (by decide +kernel)
  refine mj_aload_n dX13_init_883 0 rfl ?_
  refine mj_sipush (v := 300) dX13_init_884 (by decide) ?_
  refine mj_newIA (N := 300) dX13_init_887 AC_int (by decide) (by decide) (Nat.le_of_ble_eq_true rfl) (by omega) (Nat.le_of_ble_eq_true rfl) (Nat.le_of_ble_eq_true rfl) (fun f105 p105 v105 => ?_)
  refine mj_putFA dX13_init_889 F_X13_330 (by omega) ((v105 _ (by omega)).trans m104.1) rfl (by rw [r_fs_len]; decide) rfl rfl (fun g105 q105 o105 => ?_)
  have m105 : r_mid h a n 104 (va_up (fun _ => 0) 3 (-1)) g105 := m104.step (g1 := f105) (K := 103) ha p105 v105 q105 o105 (by decide) (by decide +kernel)
  refine mj_aload_n dX13_init_892 0 rfl ?_
  refine mj_sipush (v := 300) dX13_init_893 (by decide) ?_
  refine mj_newZA (N := 300) dX13_init_896 AC_boolean (by decide) (by decide) (Nat.le_of_ble_eq_true rfl) (by omega) (Nat.le_of_ble_eq_true rfl) (Nat.le_of_ble_eq_true rfl) (fun f106 p106 v106 => ?_)
  refine mj_putFA dX13_init_898 F_X13_333 (by omega) ((v106 _ (by omega)).trans m105.1) rfl (by rw [r_fs_len]; decide) rfl rfl (fun g106 q106 o106 => ?_)
  have m106 : r_mid h a n 105 (va_up (fun _ => 0) 3 (-1)) g106 := m105.step (g1 := f106) (K := 104) ha p106 v106 q106 o106 (by decide) (by decide +kernel)
  refine mj_aload_n dX13_init_901 0 rfl ?_
  refine mj_bipush (v := 64) dX13_init_902 (by decide) ?_
  refine mj_newZA (N := 64) dX13_init_904 AC_boolean (by decide) (by decide) (Nat.le_of_ble_eq_true rfl) (by omega) (Nat.le_of_ble_eq_true rfl) (Nat.le_of_ble_eq_true rfl) (fun f107 p107 v107 => ?_)
  refine mj_putFA dX13_init_906 F_X13_336 (by omega) ((v107 _ (by omega)).trans m106.1) rfl (by rw [r_fs_len]; decide) rfl rfl (fun g107 q107 o107 => ?_)
  have m107 : r_mid h a n 106 (va_up (fun _ => 0) 3 (-1)) g107 := m106.step (g1 := f107) (K := 105) ha p107 v107 q107 o107 (by decide) (by decide +kernel)
  refine mj_aload_n dX13_init_909 0 rfl ?_
  refine mj_sipush (v := 3100) dX13_init_910 (by decide) ?_
  refine mj_newJA (N := 3100) dX13_init_913 AC_long (by decide) (by decide) (Nat.le_of_ble_eq_true rfl) (by omega) (Nat.le_of_ble_eq_true rfl) (Nat.le_of_ble_eq_true rfl) (fun f108 p108 v108 => ?_)
  refine mj_putFA dX13_init_915 F_X13_339 (by omega) ((v108 _ (by omega)).trans m107.1) rfl (by rw [r_fs_len]; decide) rfl rfl (fun g108 q108 o108 => ?_)
  have m108 : r_mid h a n 107 (va_up (fun _ => 0) 3 (-1)) g108 := m107.step (g1 := f108) (K := 106) ha p108 v108 q108 o108 (by decide) (by decide +kernel)
  refine mj_aload_n dX13_init_918 0 rfl ?_
  refine mj_sipush (v := 512) dX13_init_919 (by decide) ?_
  refine mj_newZA (N := 512) dX13_init_922 AC_boolean (by decide) (by decide) (Nat.le_of_ble_eq_true rfl) (by omega) (Nat.le_of_ble_eq_true rfl) (Nat.le_of_ble_eq_true rfl) (fun f109 p109 v109 => ?_)
  refine mj_putFA dX13_init_924 F_X13_342 (by omega) ((v109 _ (by omega)).trans m108.1) rfl (by rw [r_fs_len]; decide) rfl rfl (fun g109 q109 o109 => ?_)
  have m109 : r_mid h a n 108 (va_up (fun _ => 0) 3 (-1)) g109 := m108.step (g1 := f109) (K := 107) ha p109 v109 q109 o109 (by decide) (by decide +kernel)
  refine mj_aload_n dX13_init_927 0 rfl ?_
  refine mj_sipush (v := 256) dX13_init_928 (by decide) ?_
  refine mj_newIA (N := 256) dX13_init_931 AC_int (by decide) (by decide) (Nat.le_of_ble_eq_true rfl) (by omega) (Nat.le_of_ble_eq_true rfl) (Nat.le_of_ble_eq_true rfl) (fun f110 p110 v110 => ?_)
  refine mj_putFA dX13_init_933 F_X13_345 (by omega) ((v110 _ (by omega)).trans m109.1) rfl (by rw [r_fs_len]; decide) rfl rfl (fun g110 q110 o110 => ?_)
  have m110 : r_mid h a n 109 (va_up (fun _ => 0) 3 (-1)) g110 := m109.step (g1 := f110) (K := 108) ha p110 v110 q110 o110 (by decide) (by decide +kernel)
  refine mj_aload_n dX13_init_936 0 rfl ?_
  refine mj_ldcw dX13_init_937 K_X13_348 ?_
  refine mj_newIA (N := 66000) dX13_init_940 AC_int (by decide) (by decide) (Nat.le_of_ble_eq_true rfl) (by omega) (Nat.le_of_ble_eq_true rfl) (Nat.le_of_ble_eq_true rfl) (fun f111 p111 v111 => ?_)
  refine mj_putFA dX13_init_942 F_X13_349 (by omega) ((v111 _ (by omega)).trans m110.1) rfl (by rw [r_fs_len]; decide) rfl rfl (fun g111 q111 o111 => ?_)
  have m111 : r_mid h a n 110 (va_up (fun _ => 0) 3 (-1)) g111 := m110.step (g1 := f111) (K := 109) ha p111 v111 q111 o111 (by decide) (by decide +kernel)
  refine mj_aload_n dX13_init_945 0 rfl ?_
  refine mj_ldcw dX13_init_946 K_X13_352 ?_
  refine mj_newIA (N := 65600) dX13_init_949 AC_int (by decide) (by decide) (Nat.le_of_ble_eq_true rfl) (by omega) (Nat.le_of_ble_eq_true rfl) (Nat.le_of_ble_eq_true rfl) (fun f112 p112 v112 => ?_)
  refine mj_putFA dX13_init_951 F_X13_353 (by omega) ((v112 _ (by omega)).trans m111.1) rfl (by rw [r_fs_len]; decide) rfl rfl (fun g112 q112 o112 => ?_)
  have m112 : r_mid h a n 111 (va_up (fun _ => 0) 3 (-1)) g112 := m111.step (g1 := f112) (K := 110) ha p112 v112 q112 o112 (by decide) (by decide +kernel)
  refine mj_aload_n dX13_init_954 0 rfl ?_
  refine mj_ldcw dX13_init_955 K_X13_352 ?_
  refine mj_newIA (N := 65600) dX13_init_958 AC_int (by decide) (by decide) (Nat.le_of_ble_eq_true rfl) (by omega) (Nat.le_of_ble_eq_true rfl) (Nat.le_of_ble_eq_true rfl) (fun f113 p113 v113 => ?_)
  refine mj_putFA dX13_init_960 F_X13_356 (by omega) ((v113 _ (by omega)).trans m112.1) rfl (by rw [r_fs_len]; decide) rfl rfl (fun g113 q113 o113 => ?_)
  have m113 : r_mid h a n 112 (va_up (fun _ => 0) 3 (-1)) g113 := m112.step (g1 := f113) (K := 111) ha p113 v113 q113 o113 (by decide) (by decide +kernel)
  refine mj_aload_n dX13_init_963 0 rfl ?_
  refine mj_ldcw dX13_init_964 K_X13_352 ?_
  refine mj_newIA (N := 65600) dX13_init_967 AC_int (by decide) (by decide) (Nat.le_of_ble_eq_true rfl) (by omega) (Nat.le_of_ble_eq_true rfl) (Nat.le_of_ble_eq_true rfl) (fun f114 p114 v114 => ?_)
  refine mj_putFA dX13_init_969 F_X13_359 (by omega) ((v114 _ (by omega)).trans m113.1) rfl (by rw [r_fs_len]; decide) rfl rfl (fun g114 q114 o114 => ?_)
  have m114 : r_mid h a n 113 (va_up (fun _ => 0) 3 (-1)) g114 := m113.step (g1 := f114) (K := 112) ha p114 v114 q114 o114 (by decide) (by decide +kernel)
  refine mj_aload_n dX13_init_972 0 rfl ?_
  refine mj_ldcw dX13_init_973 K_X13_362 ?_
  refine mj_newZA (N := 65536) dX13_init_976 AC_boolean (by decide) (by decide) (Nat.le_of_ble_eq_true rfl) (by omega) (Nat.le_of_ble_eq_true rfl) (Nat.le_of_ble_eq_true rfl) (fun f115 p115 v115 => ?_)
  refine mj_putFA dX13_init_978 F_X13_363 (by omega) ((v115 _ (by omega)).trans m114.1) rfl (by rw [r_fs_len]; decide) rfl rfl (fun g115 q115 o115 => ?_)
  have m115 : r_mid h a n 114 (va_up (fun _ => 0) 3 (-1)) g115 := m114.step (g1 := f115) (K := 113) ha p115 v115 q115 o115 (by decide) (by decide +kernel)
  exact mj_vret dX13_init_981 rfl ⟨rfl, m115⟩ (by omega) (Nat.le_of_ble_eq_true rfl) (Nat.le_of_ble_eq_true rfl)
