theorem dL_law_0 : decode cL_law 0 = .ok (.new 7, 3) := by decide +kernel
theorem dL_law_3 : decode cL_law 3 = .ok (.dup, 1) := by decide +kernel
theorem dL_law_4 : decode cL_law 4 = .ok (.invokespecial 9, 3) := by decide +kernel
theorem dL_law_7 : decode cL_law 7 = .ok (.astore_n 1, 1) := by decide +kernel
theorem dL_law_8 : decode cL_law 8 = .ok (.new 10, 3) := by decide +kernel
theorem dL_law_11 : decode cL_law 11 = .ok (.dup, 1) := by decide +kernel
theorem dL_law_12 : decode cL_law 12 = .ok (.invokespecial 12, 3) := by decide +kernel
theorem dL_law_15 : decode cL_law 15 = .ok (.astore_n 2, 1) := by decide +kernel
theorem dL_law_16 : decode cL_law 16 = .ok (.iconst 0, 1) := by decide +kernel
theorem dL_law_17 : decode cL_law 17 = .ok (.istore_n 3, 1) := by decide +kernel
theorem dL_law_18 : decode cL_law 18 = .ok (.iload_n 3, 1) := by decide +kernel
theorem dL_law_19 : decode cL_law 19 = .ok (.aload_n 0, 1) := by decide +kernel
theorem dL_law_20 : decode cL_law 20 = .ok (.arraylength, 1) := by decide +kernel
theorem dL_law_21 : decode cL_law 21 = .ok (.bipush 6, 2) := by decide +kernel
theorem dL_law_23 : decode cL_law 23 = .ok (.isub, 1) := by decide +kernel
theorem dL_law_24 : decode cL_law 24 = .ok (.if_icmp .gt 1314, 3) := by decide +kernel
theorem dL_law_27 : decode cL_law 27 = .ok (.aload_n 0, 1) := by decide +kernel
theorem dL_law_28 : decode cL_law 28 = .ok (.iload_n 3, 1) := by decide +kernel
theorem dL_law_29 : decode cL_law 29 = .ok (.iaload, 1) := by decide +kernel
theorem dL_law_30 : decode cL_law 30 = .ok (.bipush 63, 2) := by decide +kernel
theorem dL_law_32 : decode cL_law 32 = .ok (.iand, 1) := by decide +kernel
theorem dL_law_33 : decode cL_law 33 = .ok (.tableswitch 1299 0 37 #[167, 230, 253, 266, 289, 302, 315, 328, 361, 394, 427, 460, 494, 517, 540, 563, 596, 619, 652, 675, 708, 721, 744, 767, 800, 823, 866, 899, 923, 956, 999, 1032, 1065, 1098, 1121, 1200, 1233, 1256], 167) := by decide +kernel
theorem dL_law_200 : decode cL_law 200 = .ok (.aload_n 1, 1) := by decide +kernel
theorem dL_law_201 : decode cL_law 201 = .ok (.aload_n 0, 1) := by decide +kernel
theorem dL_law_202 : decode cL_law 202 = .ok (.iload_n 3, 1) := by decide +kernel
theorem dL_law_203 : decode cL_law 203 = .ok (.iconst 1, 1) := by decide +kernel
theorem dL_law_204 : decode cL_law 204 = .ok (.iadd, 1) := by decide +kernel
theorem dL_law_205 : decode cL_law 205 = .ok (.iaload, 1) := by decide +kernel
theorem dL_law_206 : decode cL_law 206 = .ok (.aload_n 0, 1) := by decide +kernel
theorem dL_law_207 : decode cL_law 207 = .ok (.iload_n 3, 1) := by decide +kernel
theorem dL_law_208 : decode cL_law 208 = .ok (.iconst 2, 1) := by decide +kernel
theorem dL_law_209 : decode cL_law 209 = .ok (.iadd, 1) := by decide +kernel
theorem dL_law_210 : decode cL_law 210 = .ok (.iaload, 1) := by decide +kernel
theorem dL_law_211 : decode cL_law 211 = .ok (.aload_n 0, 1) := by decide +kernel
theorem dL_law_212 : decode cL_law 212 = .ok (.iload_n 3, 1) := by decide +kernel
theorem dL_law_213 : decode cL_law 213 = .ok (.iconst 3, 1) := by decide +kernel
theorem dL_law_214 : decode cL_law 214 = .ok (.iadd, 1) := by decide +kernel
theorem dL_law_215 : decode cL_law 215 = .ok (.iaload, 1) := by decide +kernel
theorem dL_law_216 : decode cL_law 216 = .ok (.aload_n 0, 1) := by decide +kernel
theorem dL_law_217 : decode cL_law 217 = .ok (.iload_n 3, 1) := by decide +kernel
theorem dL_law_218 : decode cL_law 218 = .ok (.iconst 4, 1) := by decide +kernel
theorem dL_law_219 : decode cL_law 219 = .ok (.iadd, 1) := by decide +kernel
theorem dL_law_220 : decode cL_law 220 = .ok (.iaload, 1) := by decide +kernel
theorem dL_law_221 : decode cL_law 221 = .ok (.aload_n 0, 1) := by decide +kernel
theorem dL_law_222 : decode cL_law 222 = .ok (.iload_n 3, 1) := by decide +kernel
theorem dL_law_223 : decode cL_law 223 = .ok (.iconst 5, 1) := by decide +kernel
theorem dL_law_224 : decode cL_law 224 = .ok (.iadd, 1) := by decide +kernel
theorem dL_law_225 : decode cL_law 225 = .ok (.iaload, 1) := by decide +kernel
theorem dL_law_226 : decode cL_law 226 = .ok (.invokevirtual 13, 3) := by decide +kernel
theorem dL_law_229 : decode cL_law 229 = .ok (.aload_n 2, 1) := by decide +kernel
theorem dL_law_230 : decode cL_law 230 = .ok (.aload_n 0, 1) := by decide +kernel
theorem dL_law_231 : decode cL_law 231 = .ok (.iload_n 3, 1) := by decide +kernel
theorem dL_law_232 : decode cL_law 232 = .ok (.iconst 1, 1) := by decide +kernel
theorem dL_law_233 : decode cL_law 233 = .ok (.iadd, 1) := by decide +kernel
theorem dL_law_234 : decode cL_law 234 = .ok (.iaload, 1) := by decide +kernel
theorem dL_law_235 : decode cL_law 235 = .ok (.aload_n 0, 1) := by decide +kernel
theorem dL_law_236 : decode cL_law 236 = .ok (.iload_n 3, 1) := by decide +kernel
theorem dL_law_237 : decode cL_law 237 = .ok (.iconst 2, 1) := by decide +kernel
theorem dL_law_238 : decode cL_law 238 = .ok (.iadd, 1) := by decide +kernel
theorem dL_law_239 : decode cL_law 239 = .ok (.iaload, 1) := by decide +kernel
theorem dL_law_240 : decode cL_law 240 = .ok (.aload_n 0, 1) := by decide +kernel
theorem dL_law_241 : decode cL_law 241 = .ok (.iload_n 3, 1) := by decide +kernel
theorem dL_law_242 : decode cL_law 242 = .ok (.iconst 3, 1) := by decide +kernel
theorem dL_law_243 : decode cL_law 243 = .ok (.iadd, 1) := by decide +kernel
theorem dL_law_244 : decode cL_law 244 = .ok (.iaload, 1) := by decide +kernel
theorem dL_law_245 : decode cL_law 245 = .ok (.aload_n 0, 1) := by decide +kernel
theorem dL_law_246 : decode cL_law 246 = .ok (.iload_n 3, 1) := by decide +kernel
theorem dL_law_247 : decode cL_law 247 = .ok (.iconst 4, 1) := by decide +kernel
theorem dL_law_248 : decode cL_law 248 = .ok (.iadd, 1) := by decide +kernel
theorem dL_law_249 : decode cL_law 249 = .ok (.iaload, 1) := by decide +kernel
theorem dL_law_250 : decode cL_law 250 = .ok (.aload_n 0, 1) := by decide +kernel
theorem dL_law_251 : decode cL_law 251 = .ok (.iload_n 3, 1) := by decide +kernel
theorem dL_law_252 : decode cL_law 252 = .ok (.iconst 5, 1) := by decide +kernel
theorem dL_law_253 : decode cL_law 253 = .ok (.iadd, 1) := by decide +kernel
theorem dL_law_254 : decode cL_law 254 = .ok (.iaload, 1) := by decide +kernel
theorem dL_law_255 : decode cL_law 255 = .ok (.invokevirtual 17, 3) := by decide +kernel
theorem dL_law_258 : decode cL_law 258 = .ok (.if_icmp .eq 1074, 3) := by decide +kernel
theorem dL_law_261 : decode cL_law 261 = .ok (.iconst 0, 1) := by decide +kernel
theorem dL_law_262 : decode cL_law 262 = .ok (.ireturn, 1) := by decide +kernel
theorem dL_law_263 : decode cL_law 263 = .ok (.aload_n 1, 1) := by decide +kernel
theorem dL_law_264 : decode cL_law 264 = .ok (.aload_n 0, 1) := by decide +kernel
theorem dL_law_265 : decode cL_law 265 = .ok (.iload_n 3, 1) := by decide +kernel
theorem dL_law_266 : decode cL_law 266 = .ok (.iconst 1, 1) := by decide +kernel
theorem dL_law_267 : decode cL_law 267 = .ok (.iadd, 1) := by decide +kernel
theorem dL_law_268 : decode cL_law 268 = .ok (.iaload, 1) := by decide +kernel
theorem dL_law_269 : decode cL_law 269 = .ok (.invokevirtual 18, 3) := by decide +kernel
theorem dL_law_272 : decode cL_law 272 = .ok (.aload_n 2, 1) := by decide +kernel
theorem dL_law_273 : decode cL_law 273 = .ok (.aload_n 0, 1) := by decide +kernel
theorem dL_law_274 : decode cL_law 274 = .ok (.iload_n 3, 1) := by decide +kernel
theorem dL_law_275 : decode cL_law 275 = .ok (.iconst 1, 1) := by decide +kernel
theorem dL_law_276 : decode cL_law 276 = .ok (.iadd, 1) := by decide +kernel
theorem dL_law_277 : decode cL_law 277 = .ok (.iaload, 1) := by decide +kernel
theorem dL_law_278 : decode cL_law 278 = .ok (.invokevirtual 22, 3) := by decide +kernel
theorem dL_law_281 : decode cL_law 281 = .ok (.if_icmp .eq 1051, 3) := by decide +kernel
theorem dL_law_284 : decode cL_law 284 = .ok (.iconst 0, 1) := by decide +kernel
theorem dL_law_285 : decode cL_law 285 = .ok (.ireturn, 1) := by decide +kernel
theorem dL_law_286 : decode cL_law 286 = .ok (.aload_n 1, 1) := by decide +kernel
theorem dL_law_287 : decode cL_law 287 = .ok (.invokevirtual 23, 3) := by decide +kernel
theorem dL_law_290 : decode cL_law 290 = .ok (.aload_n 2, 1) := by decide +kernel
theorem dL_law_291 : decode cL_law 291 = .ok (.invokevirtual 27, 3) := by decide +kernel
theorem dL_law_294 : decode cL_law 294 = .ok (.if_icmp .eq 1038, 3) := by decide +kernel
theorem dL_law_297 : decode cL_law 297 = .ok (.iconst 0, 1) := by decide +kernel
theorem dL_law_298 : decode cL_law 298 = .ok (.ireturn, 1) := by decide +kernel
theorem dL_law_299 : decode cL_law 299 = .ok (.aload_n 1, 1) := by decide +kernel
theorem dL_law_300 : decode cL_law 300 = .ok (.aload_n 0, 1) := by decide +kernel
theorem dL_law_301 : decode cL_law 301 = .ok (.iload_n 3, 1) := by decide +kernel
theorem dL_law_302 : decode cL_law 302 = .ok (.iconst 1, 1) := by decide +kernel
theorem dL_law_303 : decode cL_law 303 = .ok (.iadd, 1) := by decide +kernel
theorem dL_law_304 : decode cL_law 304 = .ok (.iaload, 1) := by decide +kernel
theorem dL_law_305 : decode cL_law 305 = .ok (.invokevirtual 28, 3) := by decide +kernel
theorem dL_law_308 : decode cL_law 308 = .ok (.aload_n 2, 1) := by decide +kernel
theorem dL_law_309 : decode cL_law 309 = .ok (.aload_n 0, 1) := by decide +kernel
theorem dL_law_310 : decode cL_law 310 = .ok (.iload_n 3, 1) := by decide +kernel
theorem dL_law_311 : decode cL_law 311 = .ok (.iconst 1, 1) := by decide +kernel
theorem dL_law_312 : decode cL_law 312 = .ok (.iadd, 1) := by decide +kernel
theorem dL_law_313 : decode cL_law 313 = .ok (.iaload, 1) := by decide +kernel
theorem dL_law_314 : decode cL_law 314 = .ok (.invokevirtual 31, 3) := by decide +kernel
theorem dL_law_317 : decode cL_law 317 = .ok (.if_icmp .eq 1015, 3) := by decide +kernel
theorem dL_law_320 : decode cL_law 320 = .ok (.iconst 0, 1) := by decide +kernel
theorem dL_law_321 : decode cL_law 321 = .ok (.ireturn, 1) := by decide +kernel
theorem dL_law_322 : decode cL_law 322 = .ok (.aload_n 1, 1) := by decide +kernel
theorem dL_law_323 : decode cL_law 323 = .ok (.invokevirtual 32, 3) := by decide +kernel
theorem dL_law_326 : decode cL_law 326 = .ok (.aload_n 2, 1) := by decide +kernel
theorem dL_law_327 : decode cL_law 327 = .ok (.invokevirtual 35, 3) := by decide +kernel
theorem dL_law_330 : decode cL_law 330 = .ok (.if_icmp .eq 1002, 3) := by decide +kernel
theorem dL_law_333 : decode cL_law 333 = .ok (.iconst 0, 1) := by decide +kernel
theorem dL_law_334 : decode cL_law 334 = .ok (.ireturn, 1) := by decide +kernel
theorem dL_law_335 : decode cL_law 335 = .ok (.aload_n 1, 1) := by decide +kernel
theorem dL_law_336 : decode cL_law 336 = .ok (.invokevirtual 36, 3) := by decide +kernel
theorem dL_law_339 : decode cL_law 339 = .ok (.aload_n 2, 1) := by decide +kernel
theorem dL_law_340 : decode cL_law 340 = .ok (.invokevirtual 39, 3) := by decide +kernel
theorem dL_law_343 : decode cL_law 343 = .ok (.if_icmp .eq 989, 3) := by decide +kernel
theorem dL_law_346 : decode cL_law 346 = .ok (.iconst 0, 1) := by decide +kernel
theorem dL_law_347 : decode cL_law 347 = .ok (.ireturn, 1) := by decide +kernel
theorem dL_law_348 : decode cL_law 348 = .ok (.aload_n 1, 1) := by decide +kernel
theorem dL_law_349 : decode cL_law 349 = .ok (.invokevirtual 40, 3) := by decide +kernel
theorem dL_law_352 : decode cL_law 352 = .ok (.aload_n 2, 1) := by decide +kernel
theorem dL_law_353 : decode cL_law 353 = .ok (.invokevirtual 43, 3) := by decide +kernel
theorem dL_law_356 : decode cL_law 356 = .ok (.if_icmp .eq 976, 3) := by decide +kernel
theorem dL_law_359 : decode cL_law 359 = .ok (.iconst 0, 1) := by decide +kernel
theorem dL_law_360 : decode cL_law 360 = .ok (.ireturn, 1) := by decide +kernel
theorem dL_law_361 : decode cL_law 361 = .ok (.aload_n 1, 1) := by decide +kernel
theorem dL_law_362 : decode cL_law 362 = .ok (.aload_n 0, 1) := by decide +kernel
theorem dL_law_363 : decode cL_law 363 = .ok (.iload_n 3, 1) := by decide +kernel
theorem dL_law_364 : decode cL_law 364 = .ok (.iconst 1, 1) := by decide +kernel
theorem dL_law_365 : decode cL_law 365 = .ok (.iadd, 1) := by decide +kernel
theorem dL_law_366 : decode cL_law 366 = .ok (.iaload, 1) := by decide +kernel
theorem dL_law_367 : decode cL_law 367 = .ok (.aload_n 0, 1) := by decide +kernel
theorem dL_law_368 : decode cL_law 368 = .ok (.iload_n 3, 1) := by decide +kernel
theorem dL_law_369 : decode cL_law 369 = .ok (.iconst 2, 1) := by decide +kernel
theorem dL_law_370 : decode cL_law 370 = .ok (.iadd, 1) := by decide +kernel
theorem dL_law_371 : decode cL_law 371 = .ok (.iaload, 1) := by decide +kernel
theorem dL_law_372 : decode cL_law 372 = .ok (.invokevirtual 44, 3) := by decide +kernel
theorem dL_law_375 : decode cL_law 375 = .ok (.aload_n 2, 1) := by decide +kernel
theorem dL_law_376 : decode cL_law 376 = .ok (.aload_n 0, 1) := by decide +kernel
theorem dL_law_377 : decode cL_law 377 = .ok (.iload_n 3, 1) := by decide +kernel
theorem dL_law_378 : decode cL_law 378 = .ok (.iconst 1, 1) := by decide +kernel
theorem dL_law_379 : decode cL_law 379 = .ok (.iadd, 1) := by decide +kernel
theorem dL_law_380 : decode cL_law 380 = .ok (.iaload, 1) := by decide +kernel
theorem dL_law_381 : decode cL_law 381 = .ok (.aload_n 0, 1) := by decide +kernel
theorem dL_law_382 : decode cL_law 382 = .ok (.iload_n 3, 1) := by decide +kernel
theorem dL_law_383 : decode cL_law 383 = .ok (.iconst 2, 1) := by decide +kernel
theorem dL_law_384 : decode cL_law 384 = .ok (.iadd, 1) := by decide +kernel
theorem dL_law_385 : decode cL_law 385 = .ok (.iaload, 1) := by decide +kernel
theorem dL_law_386 : decode cL_law 386 = .ok (.invokevirtual 48, 3) := by decide +kernel
theorem dL_law_389 : decode cL_law 389 = .ok (.if_icmp .eq 943, 3) := by decide +kernel
theorem dL_law_392 : decode cL_law 392 = .ok (.iconst 0, 1) := by decide +kernel
theorem dL_law_393 : decode cL_law 393 = .ok (.ireturn, 1) := by decide +kernel
theorem dL_law_394 : decode cL_law 394 = .ok (.aload_n 1, 1) := by decide +kernel
theorem dL_law_395 : decode cL_law 395 = .ok (.aload_n 0, 1) := by decide +kernel
theorem dL_law_396 : decode cL_law 396 = .ok (.iload_n 3, 1) := by decide +kernel
theorem dL_law_397 : decode cL_law 397 = .ok (.iconst 1, 1) := by decide +kernel
theorem dL_law_398 : decode cL_law 398 = .ok (.iadd, 1) := by decide +kernel
theorem dL_law_399 : decode cL_law 399 = .ok (.iaload, 1) := by decide +kernel
theorem dL_law_400 : decode cL_law 400 = .ok (.aload_n 0, 1) := by decide +kernel
theorem dL_law_401 : decode cL_law 401 = .ok (.iload_n 3, 1) := by decide +kernel
theorem dL_law_402 : decode cL_law 402 = .ok (.iconst 2, 1) := by decide +kernel
theorem dL_law_403 : decode cL_law 403 = .ok (.iadd, 1) := by decide +kernel
theorem dL_law_404 : decode cL_law 404 = .ok (.iaload, 1) := by decide +kernel
theorem dL_law_405 : decode cL_law 405 = .ok (.invokevirtual 49, 3) := by decide +kernel
theorem dL_law_408 : decode cL_law 408 = .ok (.aload_n 2, 1) := by decide +kernel
theorem dL_law_409 : decode cL_law 409 = .ok (.aload_n 0, 1) := by decide +kernel
theorem dL_law_410 : decode cL_law 410 = .ok (.iload_n 3, 1) := by decide +kernel
theorem dL_law_411 : decode cL_law 411 = .ok (.iconst 1, 1) := by decide +kernel
theorem dL_law_412 : decode cL_law 412 = .ok (.iadd, 1) := by decide +kernel
theorem dL_law_413 : decode cL_law 413 = .ok (.iaload, 1) := by decide +kernel
theorem dL_law_414 : decode cL_law 414 = .ok (.aload_n 0, 1) := by decide +kernel
theorem dL_law_415 : decode cL_law 415 = .ok (.iload_n 3, 1) := by decide +kernel
theorem dL_law_416 : decode cL_law 416 = .ok (.iconst 2, 1) := by decide +kernel
theorem dL_law_417 : decode cL_law 417 = .ok (.iadd, 1) := by decide +kernel
theorem dL_law_418 : decode cL_law 418 = .ok (.iaload, 1) := by decide +kernel
theorem dL_law_419 : decode cL_law 419 = .ok (.invokevirtual 52, 3) := by decide +kernel
theorem dL_law_422 : decode cL_law 422 = .ok (.if_icmp .eq 910, 3) := by decide +kernel
theorem dL_law_425 : decode cL_law 425 = .ok (.iconst 0, 1) := by decide +kernel
theorem dL_law_426 : decode cL_law 426 = .ok (.ireturn, 1) := by decide +kernel
theorem dL_law_427 : decode cL_law 427 = .ok (.aload_n 1, 1) := by decide +kernel
theorem dL_law_428 : decode cL_law 428 = .ok (.aload_n 0, 1) := by decide +kernel
theorem dL_law_429 : decode cL_law 429 = .ok (.iload_n 3, 1) := by decide +kernel
theorem dL_law_430 : decode cL_law 430 = .ok (.iconst 1, 1) := by decide +kernel
theorem dL_law_431 : decode cL_law 431 = .ok (.iadd, 1) := by decide +kernel
theorem dL_law_432 : decode cL_law 432 = .ok (.iaload, 1) := by decide +kernel
theorem dL_law_433 : decode cL_law 433 = .ok (.aload_n 0, 1) := by decide +kernel
theorem dL_law_434 : decode cL_law 434 = .ok (.iload_n 3, 1) := by decide +kernel
theorem dL_law_435 : decode cL_law 435 = .ok (.iconst 2, 1) := by decide +kernel
theorem dL_law_436 : decode cL_law 436 = .ok (.iadd, 1) := by decide +kernel
theorem dL_law_437 : decode cL_law 437 = .ok (.iaload, 1) := by decide +kernel
theorem dL_law_438 : decode cL_law 438 = .ok (.invokevirtual 53, 3) := by decide +kernel
theorem dL_law_441 : decode cL_law 441 = .ok (.aload_n 2, 1) := by decide +kernel
theorem dL_law_442 : decode cL_law 442 = .ok (.aload_n 0, 1) := by decide +kernel
theorem dL_law_443 : decode cL_law 443 = .ok (.iload_n 3, 1) := by decide +kernel
theorem dL_law_444 : decode cL_law 444 = .ok (.iconst 1, 1) := by decide +kernel
theorem dL_law_445 : decode cL_law 445 = .ok (.iadd, 1) := by decide +kernel
theorem dL_law_446 : decode cL_law 446 = .ok (.iaload, 1) := by decide +kernel
theorem dL_law_447 : decode cL_law 447 = .ok (.aload_n 0, 1) := by decide +kernel
theorem dL_law_448 : decode cL_law 448 = .ok (.iload_n 3, 1) := by decide +kernel
theorem dL_law_449 : decode cL_law 449 = .ok (.iconst 2, 1) := by decide +kernel
theorem dL_law_450 : decode cL_law 450 = .ok (.iadd, 1) := by decide +kernel
theorem dL_law_451 : decode cL_law 451 = .ok (.iaload, 1) := by decide +kernel
theorem dL_law_452 : decode cL_law 452 = .ok (.invokevirtual 56, 3) := by decide +kernel
theorem dL_law_455 : decode cL_law 455 = .ok (.if_icmp .eq 877, 3) := by decide +kernel
theorem dL_law_458 : decode cL_law 458 = .ok (.iconst 0, 1) := by decide +kernel
theorem dL_law_459 : decode cL_law 459 = .ok (.ireturn, 1) := by decide +kernel
theorem dL_law_460 : decode cL_law 460 = .ok (.aload_n 1, 1) := by decide +kernel
theorem dL_law_461 : decode cL_law 461 = .ok (.aload_n 0, 1) := by decide +kernel
theorem dL_law_462 : decode cL_law 462 = .ok (.iload_n 3, 1) := by decide +kernel
theorem dL_law_463 : decode cL_law 463 = .ok (.iconst 1, 1) := by decide +kernel
theorem dL_law_464 : decode cL_law 464 = .ok (.iadd, 1) := by decide +kernel
theorem dL_law_465 : decode cL_law 465 = .ok (.iaload, 1) := by decide +kernel
theorem dL_law_466 : decode cL_law 466 = .ok (.aload_n 0, 1) := by decide +kernel
theorem dL_law_467 : decode cL_law 467 = .ok (.iload_n 3, 1) := by decide +kernel
theorem dL_law_468 : decode cL_law 468 = .ok (.iconst 2, 1) := by decide +kernel
theorem dL_law_469 : decode cL_law 469 = .ok (.iadd, 1) := by decide +kernel
theorem dL_law_470 : decode cL_law 470 = .ok (.iaload, 1) := by decide +kernel
theorem dL_law_471 : decode cL_law 471 = .ok (.invokevirtual 57, 3) := by decide +kernel
theorem dL_law_474 : decode cL_law 474 = .ok (.aload_n 2, 1) := by decide +kernel
theorem dL_law_475 : decode cL_law 475 = .ok (.aload_n 0, 1) := by decide +kernel
theorem dL_law_476 : decode cL_law 476 = .ok (.iload_n 3, 1) := by decide +kernel
theorem dL_law_477 : decode cL_law 477 = .ok (.iconst 1, 1) := by decide +kernel
theorem dL_law_478 : decode cL_law 478 = .ok (.iadd, 1) := by decide +kernel
theorem dL_law_479 : decode cL_law 479 = .ok (.iaload, 1) := by decide +kernel
theorem dL_law_480 : decode cL_law 480 = .ok (.aload_n 0, 1) := by decide +kernel
theorem dL_law_481 : decode cL_law 481 = .ok (.iload_n 3, 1) := by decide +kernel
theorem dL_law_482 : decode cL_law 482 = .ok (.iconst 2, 1) := by decide +kernel
theorem dL_law_483 : decode cL_law 483 = .ok (.iadd, 1) := by decide +kernel
theorem dL_law_484 : decode cL_law 484 = .ok (.iaload, 1) := by decide +kernel
theorem dL_law_485 : decode cL_law 485 = .ok (.invokevirtual 60, 3) := by decide +kernel
theorem dL_law_488 : decode cL_law 488 = .ok (.if_icmp .eq 844, 3) := by decide +kernel
theorem dL_law_491 : decode cL_law 491 = .ok (.iconst 0, 1) := by decide +kernel
theorem dL_law_492 : decode cL_law 492 = .ok (.ireturn, 1) := by decide +kernel
theorem dL_law_493 : decode cL_law 493 = .ok (.aload_n 1, 1) := by decide +kernel
theorem dL_law_494 : decode cL_law 494 = .ok (.aload_n 0, 1) := by decide +kernel
theorem dL_law_495 : decode cL_law 495 = .ok (.iload_n 3, 1) := by decide +kernel
theorem dL_law_496 : decode cL_law 496 = .ok (.iconst 1, 1) := by decide +kernel
theorem dL_law_497 : decode cL_law 497 = .ok (.iadd, 1) := by decide +kernel
theorem dL_law_498 : decode cL_law 498 = .ok (.iaload, 1) := by decide +kernel
theorem dL_law_499 : decode cL_law 499 = .ok (.aload_n 0, 1) := by decide +kernel
theorem dL_law_500 : decode cL_law 500 = .ok (.iload_n 3, 1) := by decide +kernel
theorem dL_law_501 : decode cL_law 501 = .ok (.iconst 2, 1) := by decide +kernel
theorem dL_law_502 : decode cL_law 502 = .ok (.iadd, 1) := by decide +kernel
theorem dL_law_503 : decode cL_law 503 = .ok (.iaload, 1) := by decide +kernel
theorem dL_law_504 : decode cL_law 504 = .ok (.invokevirtual 61, 3) := by decide +kernel
theorem dL_law_507 : decode cL_law 507 = .ok (.aload_n 2, 1) := by decide +kernel
theorem dL_law_508 : decode cL_law 508 = .ok (.aload_n 0, 1) := by decide +kernel
theorem dL_law_509 : decode cL_law 509 = .ok (.iload_n 3, 1) := by decide +kernel
theorem dL_law_510 : decode cL_law 510 = .ok (.iconst 1, 1) := by decide +kernel
theorem dL_law_511 : decode cL_law 511 = .ok (.iadd, 1) := by decide +kernel
theorem dL_law_512 : decode cL_law 512 = .ok (.iaload, 1) := by decide +kernel
theorem dL_law_513 : decode cL_law 513 = .ok (.aload_n 0, 1) := by decide +kernel
theorem dL_law_514 : decode cL_law 514 = .ok (.iload_n 3, 1) := by decide +kernel
theorem dL_law_515 : decode cL_law 515 = .ok (.iconst 2, 1) := by decide +kernel
theorem dL_law_516 : decode cL_law 516 = .ok (.iadd, 1) := by decide +kernel
theorem dL_law_517 : decode cL_law 517 = .ok (.iaload, 1) := by decide +kernel
theorem dL_law_518 : decode cL_law 518 = .ok (.invokevirtual 65, 3) := by decide +kernel
theorem dL_law_521 : decode cL_law 521 = .ok (.lcmp, 1) := by decide +kernel
theorem dL_law_522 : decode cL_law 522 = .ok (.ifCond .eq 810, 3) := by decide +kernel
theorem dL_law_525 : decode cL_law 525 = .ok (.iconst 0, 1) := by decide +kernel
theorem dL_law_526 : decode cL_law 526 = .ok (.ireturn, 1) := by decide +kernel
theorem dL_law_527 : decode cL_law 527 = .ok (.aload_n 1, 1) := by decide +kernel
theorem dL_law_528 : decode cL_law 528 = .ok (.aload_n 0, 1) := by decide +kernel
theorem dL_law_529 : decode cL_law 529 = .ok (.iload_n 3, 1) := by decide +kernel
theorem dL_law_530 : decode cL_law 530 = .ok (.iconst 1, 1) := by decide +kernel
theorem dL_law_531 : decode cL_law 531 = .ok (.iadd, 1) := by decide +kernel
theorem dL_law_532 : decode cL_law 532 = .ok (.iaload, 1) := by decide +kernel
theorem dL_law_533 : decode cL_law 533 = .ok (.invokevirtual 66, 3) := by decide +kernel
theorem dL_law_536 : decode cL_law 536 = .ok (.aload_n 2, 1) := by decide +kernel
theorem dL_law_537 : decode cL_law 537 = .ok (.aload_n 0, 1) := by decide +kernel
theorem dL_law_538 : decode cL_law 538 = .ok (.iload_n 3, 1) := by decide +kernel
theorem dL_law_539 : decode cL_law 539 = .ok (.iconst 1, 1) := by decide +kernel
theorem dL_law_540 : decode cL_law 540 = .ok (.iadd, 1) := by decide +kernel
theorem dL_law_541 : decode cL_law 541 = .ok (.iaload, 1) := by decide +kernel
theorem dL_law_542 : decode cL_law 542 = .ok (.invokevirtual 69, 3) := by decide +kernel
theorem dL_law_545 : decode cL_law 545 = .ok (.if_icmp .eq 787, 3) := by decide +kernel
theorem dL_law_548 : decode cL_law 548 = .ok (.iconst 0, 1) := by decide +kernel
theorem dL_law_549 : decode cL_law 549 = .ok (.ireturn, 1) := by decide +kernel
theorem dL_law_550 : decode cL_law 550 = .ok (.aload_n 1, 1) := by decide +kernel
theorem dL_law_551 : decode cL_law 551 = .ok (.aload_n 0, 1) := by decide +kernel
theorem dL_law_552 : decode cL_law 552 = .ok (.iload_n 3, 1) := by decide +kernel
theorem dL_law_553 : decode cL_law 553 = .ok (.iconst 1, 1) := by decide +kernel
theorem dL_law_554 : decode cL_law 554 = .ok (.iadd, 1) := by decide +kernel
theorem dL_law_555 : decode cL_law 555 = .ok (.iaload, 1) := by decide +kernel
theorem dL_law_556 : decode cL_law 556 = .ok (.invokevirtual 70, 3) := by decide +kernel
theorem dL_law_559 : decode cL_law 559 = .ok (.aload_n 2, 1) := by decide +kernel
theorem dL_law_560 : decode cL_law 560 = .ok (.aload_n 0, 1) := by decide +kernel
theorem dL_law_561 : decode cL_law 561 = .ok (.iload_n 3, 1) := by decide +kernel
theorem dL_law_562 : decode cL_law 562 = .ok (.iconst 1, 1) := by decide +kernel
theorem dL_law_563 : decode cL_law 563 = .ok (.iadd, 1) := by decide +kernel
theorem dL_law_564 : decode cL_law 564 = .ok (.iaload, 1) := by decide +kernel
theorem dL_law_565 : decode cL_law 565 = .ok (.invokevirtual 73, 3) := by decide +kernel
theorem dL_law_568 : decode cL_law 568 = .ok (.if_icmp .eq 764, 3) := by decide +kernel
theorem dL_law_571 : decode cL_law 571 = .ok (.iconst 0, 1) := by decide +kernel
theorem dL_law_572 : decode cL_law 572 = .ok (.ireturn, 1) := by decide +kernel
theorem dL_law_573 : decode cL_law 573 = .ok (.aload_n 1, 1) := by decide +kernel
theorem dL_law_574 : decode cL_law 574 = .ok (.aload_n 0, 1) := by decide +kernel
theorem dL_law_575 : decode cL_law 575 = .ok (.iload_n 3, 1) := by decide +kernel
theorem dL_law_576 : decode cL_law 576 = .ok (.iconst 1, 1) := by decide +kernel
theorem dL_law_577 : decode cL_law 577 = .ok (.iadd, 1) := by decide +kernel
theorem dL_law_578 : decode cL_law 578 = .ok (.iaload, 1) := by decide +kernel
theorem dL_law_579 : decode cL_law 579 = .ok (.invokevirtual 74, 3) := by decide +kernel
theorem dL_law_582 : decode cL_law 582 = .ok (.aload_n 2, 1) := by decide +kernel
theorem dL_law_583 : decode cL_law 583 = .ok (.aload_n 0, 1) := by decide +kernel
theorem dL_law_584 : decode cL_law 584 = .ok (.iload_n 3, 1) := by decide +kernel
theorem dL_law_585 : decode cL_law 585 = .ok (.iconst 1, 1) := by decide +kernel
theorem dL_law_586 : decode cL_law 586 = .ok (.iadd, 1) := by decide +kernel
theorem dL_law_587 : decode cL_law 587 = .ok (.iaload, 1) := by decide +kernel
theorem dL_law_588 : decode cL_law 588 = .ok (.invokevirtual 77, 3) := by decide +kernel
theorem dL_law_591 : decode cL_law 591 = .ok (.if_icmp .eq 741, 3) := by decide +kernel
theorem dL_law_594 : decode cL_law 594 = .ok (.iconst 0, 1) := by decide +kernel
theorem dL_law_595 : decode cL_law 595 = .ok (.ireturn, 1) := by decide +kernel
theorem dL_law_596 : decode cL_law 596 = .ok (.aload_n 1, 1) := by decide +kernel
theorem dL_law_597 : decode cL_law 597 = .ok (.aload_n 0, 1) := by decide +kernel
theorem dL_law_598 : decode cL_law 598 = .ok (.iload_n 3, 1) := by decide +kernel
theorem dL_law_599 : decode cL_law 599 = .ok (.iconst 1, 1) := by decide +kernel
theorem dL_law_600 : decode cL_law 600 = .ok (.iadd, 1) := by decide +kernel
theorem dL_law_601 : decode cL_law 601 = .ok (.iaload, 1) := by decide +kernel
theorem dL_law_602 : decode cL_law 602 = .ok (.aload_n 0, 1) := by decide +kernel
theorem dL_law_603 : decode cL_law 603 = .ok (.iload_n 3, 1) := by decide +kernel
theorem dL_law_604 : decode cL_law 604 = .ok (.iconst 2, 1) := by decide +kernel
theorem dL_law_605 : decode cL_law 605 = .ok (.iadd, 1) := by decide +kernel
theorem dL_law_606 : decode cL_law 606 = .ok (.iaload, 1) := by decide +kernel
theorem dL_law_607 : decode cL_law 607 = .ok (.invokevirtual 78, 3) := by decide +kernel
theorem dL_law_610 : decode cL_law 610 = .ok (.aload_n 2, 1) := by decide +kernel
theorem dL_law_611 : decode cL_law 611 = .ok (.aload_n 0, 1) := by decide +kernel
theorem dL_law_612 : decode cL_law 612 = .ok (.iload_n 3, 1) := by decide +kernel
theorem dL_law_613 : decode cL_law 613 = .ok (.iconst 1, 1) := by decide +kernel
theorem dL_law_614 : decode cL_law 614 = .ok (.iadd, 1) := by decide +kernel
theorem dL_law_615 : decode cL_law 615 = .ok (.iaload, 1) := by decide +kernel
theorem dL_law_616 : decode cL_law 616 = .ok (.aload_n 0, 1) := by decide +kernel
theorem dL_law_617 : decode cL_law 617 = .ok (.iload_n 3, 1) := by decide +kernel
theorem dL_law_618 : decode cL_law 618 = .ok (.iconst 2, 1) := by decide +kernel
theorem dL_law_619 : decode cL_law 619 = .ok (.iadd, 1) := by decide +kernel
theorem dL_law_620 : decode cL_law 620 = .ok (.iaload, 1) := by decide +kernel
theorem dL_law_621 : decode cL_law 621 = .ok (.invokevirtual 81, 3) := by decide +kernel
theorem dL_law_624 : decode cL_law 624 = .ok (.if_icmp .eq 708, 3) := by decide +kernel
theorem dL_law_627 : decode cL_law 627 = .ok (.iconst 0, 1) := by decide +kernel
theorem dL_law_628 : decode cL_law 628 = .ok (.ireturn, 1) := by decide +kernel
theorem dL_law_629 : decode cL_law 629 = .ok (.aload_n 1, 1) := by decide +kernel
theorem dL_law_630 : decode cL_law 630 = .ok (.aload_n 0, 1) := by decide +kernel
theorem dL_law_631 : decode cL_law 631 = .ok (.iload_n 3, 1) := by decide +kernel
theorem dL_law_632 : decode cL_law 632 = .ok (.iconst 1, 1) := by decide +kernel
theorem dL_law_633 : decode cL_law 633 = .ok (.iadd, 1) := by decide +kernel
theorem dL_law_634 : decode cL_law 634 = .ok (.iaload, 1) := by decide +kernel
theorem dL_law_635 : decode cL_law 635 = .ok (.invokevirtual 82, 3) := by decide +kernel
theorem dL_law_638 : decode cL_law 638 = .ok (.aload_n 2, 1) := by decide +kernel
theorem dL_law_639 : decode cL_law 639 = .ok (.aload_n 0, 1) := by decide +kernel
theorem dL_law_640 : decode cL_law 640 = .ok (.iload_n 3, 1) := by decide +kernel
theorem dL_law_641 : decode cL_law 641 = .ok (.iconst 1, 1) := by decide +kernel
theorem dL_law_642 : decode cL_law 642 = .ok (.iadd, 1) := by decide +kernel
theorem dL_law_643 : decode cL_law 643 = .ok (.iaload, 1) := by decide +kernel
theorem dL_law_644 : decode cL_law 644 = .ok (.invokevirtual 85, 3) := by decide +kernel
theorem dL_law_647 : decode cL_law 647 = .ok (.if_icmp .eq 685, 3) := by decide +kernel
theorem dL_law_650 : decode cL_law 650 = .ok (.iconst 0, 1) := by decide +kernel
theorem dL_law_651 : decode cL_law 651 = .ok (.ireturn, 1) := by decide +kernel
theorem dL_law_652 : decode cL_law 652 = .ok (.aload_n 1, 1) := by decide +kernel
theorem dL_law_653 : decode cL_law 653 = .ok (.aload_n 0, 1) := by decide +kernel
theorem dL_law_654 : decode cL_law 654 = .ok (.iload_n 3, 1) := by decide +kernel
theorem dL_law_655 : decode cL_law 655 = .ok (.iconst 1, 1) := by decide +kernel
theorem dL_law_656 : decode cL_law 656 = .ok (.iadd, 1) := by decide +kernel
theorem dL_law_657 : decode cL_law 657 = .ok (.iaload, 1) := by decide +kernel
theorem dL_law_658 : decode cL_law 658 = .ok (.aload_n 0, 1) := by decide +kernel
theorem dL_law_659 : decode cL_law 659 = .ok (.iload_n 3, 1) := by decide +kernel
theorem dL_law_660 : decode cL_law 660 = .ok (.iconst 2, 1) := by decide +kernel
theorem dL_law_661 : decode cL_law 661 = .ok (.iadd, 1) := by decide +kernel
theorem dL_law_662 : decode cL_law 662 = .ok (.iaload, 1) := by decide +kernel
theorem dL_law_663 : decode cL_law 663 = .ok (.invokevirtual 86, 3) := by decide +kernel
theorem dL_law_666 : decode cL_law 666 = .ok (.aload_n 2, 1) := by decide +kernel
theorem dL_law_667 : decode cL_law 667 = .ok (.aload_n 0, 1) := by decide +kernel
theorem dL_law_668 : decode cL_law 668 = .ok (.iload_n 3, 1) := by decide +kernel
theorem dL_law_669 : decode cL_law 669 = .ok (.iconst 1, 1) := by decide +kernel
theorem dL_law_670 : decode cL_law 670 = .ok (.iadd, 1) := by decide +kernel
theorem dL_law_671 : decode cL_law 671 = .ok (.iaload, 1) := by decide +kernel
theorem dL_law_672 : decode cL_law 672 = .ok (.aload_n 0, 1) := by decide +kernel
theorem dL_law_673 : decode cL_law 673 = .ok (.iload_n 3, 1) := by decide +kernel
theorem dL_law_674 : decode cL_law 674 = .ok (.iconst 2, 1) := by decide +kernel
theorem dL_law_675 : decode cL_law 675 = .ok (.iadd, 1) := by decide +kernel
theorem dL_law_676 : decode cL_law 676 = .ok (.iaload, 1) := by decide +kernel
theorem dL_law_677 : decode cL_law 677 = .ok (.invokevirtual 89, 3) := by decide +kernel
theorem dL_law_680 : decode cL_law 680 = .ok (.if_icmp .eq 652, 3) := by decide +kernel
theorem dL_law_683 : decode cL_law 683 = .ok (.iconst 0, 1) := by decide +kernel
theorem dL_law_684 : decode cL_law 684 = .ok (.ireturn, 1) := by decide +kernel
theorem dL_law_685 : decode cL_law 685 = .ok (.aload_n 1, 1) := by decide +kernel
theorem dL_law_686 : decode cL_law 686 = .ok (.aload_n 0, 1) := by decide +kernel
theorem dL_law_687 : decode cL_law 687 = .ok (.iload_n 3, 1) := by decide +kernel
theorem dL_law_688 : decode cL_law 688 = .ok (.iconst 1, 1) := by decide +kernel
theorem dL_law_689 : decode cL_law 689 = .ok (.iadd, 1) := by decide +kernel
theorem dL_law_690 : decode cL_law 690 = .ok (.iaload, 1) := by decide +kernel
theorem dL_law_691 : decode cL_law 691 = .ok (.invokevirtual 90, 3) := by decide +kernel
theorem dL_law_694 : decode cL_law 694 = .ok (.aload_n 2, 1) := by decide +kernel
theorem dL_law_695 : decode cL_law 695 = .ok (.aload_n 0, 1) := by decide +kernel
theorem dL_law_696 : decode cL_law 696 = .ok (.iload_n 3, 1) := by decide +kernel
theorem dL_law_697 : decode cL_law 697 = .ok (.iconst 1, 1) := by decide +kernel
theorem dL_law_698 : decode cL_law 698 = .ok (.iadd, 1) := by decide +kernel
theorem dL_law_699 : decode cL_law 699 = .ok (.iaload, 1) := by decide +kernel
theorem dL_law_700 : decode cL_law 700 = .ok (.invokevirtual 93, 3) := by decide +kernel
theorem dL_law_703 : decode cL_law 703 = .ok (.if_icmp .eq 629, 3) := by decide +kernel
theorem dL_law_706 : decode cL_law 706 = .ok (.iconst 0, 1) := by decide +kernel
theorem dL_law_707 : decode cL_law 707 = .ok (.ireturn, 1) := by decide +kernel
theorem dL_law_708 : decode cL_law 708 = .ok (.aload_n 1, 1) := by decide +kernel
theorem dL_law_709 : decode cL_law 709 = .ok (.aload_n 0, 1) := by decide +kernel
theorem dL_law_710 : decode cL_law 710 = .ok (.iload_n 3, 1) := by decide +kernel
theorem dL_law_711 : decode cL_law 711 = .ok (.iconst 1, 1) := by decide +kernel
theorem dL_law_712 : decode cL_law 712 = .ok (.iadd, 1) := by decide +kernel
theorem dL_law_713 : decode cL_law 713 = .ok (.iaload, 1) := by decide +kernel
theorem dL_law_714 : decode cL_law 714 = .ok (.aload_n 0, 1) := by decide +kernel
theorem dL_law_715 : decode cL_law 715 = .ok (.iload_n 3, 1) := by decide +kernel
theorem dL_law_716 : decode cL_law 716 = .ok (.iconst 2, 1) := by decide +kernel
theorem dL_law_717 : decode cL_law 717 = .ok (.iadd, 1) := by decide +kernel
theorem dL_law_718 : decode cL_law 718 = .ok (.iaload, 1) := by decide +kernel
theorem dL_law_719 : decode cL_law 719 = .ok (.invokevirtual 94, 3) := by decide +kernel
theorem dL_law_722 : decode cL_law 722 = .ok (.aload_n 2, 1) := by decide +kernel
theorem dL_law_723 : decode cL_law 723 = .ok (.aload_n 0, 1) := by decide +kernel
theorem dL_law_724 : decode cL_law 724 = .ok (.iload_n 3, 1) := by decide +kernel
theorem dL_law_725 : decode cL_law 725 = .ok (.iconst 1, 1) := by decide +kernel
theorem dL_law_726 : decode cL_law 726 = .ok (.iadd, 1) := by decide +kernel
theorem dL_law_727 : decode cL_law 727 = .ok (.iaload, 1) := by decide +kernel
theorem dL_law_728 : decode cL_law 728 = .ok (.aload_n 0, 1) := by decide +kernel
theorem dL_law_729 : decode cL_law 729 = .ok (.iload_n 3, 1) := by decide +kernel
theorem dL_law_730 : decode cL_law 730 = .ok (.iconst 2, 1) := by decide +kernel
theorem dL_law_731 : decode cL_law 731 = .ok (.iadd, 1) := by decide +kernel
theorem dL_law_732 : decode cL_law 732 = .ok (.iaload, 1) := by decide +kernel
theorem dL_law_733 : decode cL_law 733 = .ok (.invokevirtual 97, 3) := by decide +kernel
theorem dL_law_736 : decode cL_law 736 = .ok (.if_icmp .eq 596, 3) := by decide +kernel
theorem dL_law_739 : decode cL_law 739 = .ok (.iconst 0, 1) := by decide +kernel
theorem dL_law_740 : decode cL_law 740 = .ok (.ireturn, 1) := by decide +kernel
theorem dL_law_741 : decode cL_law 741 = .ok (.aload_n 1, 1) := by decide +kernel
theorem dL_law_742 : decode cL_law 742 = .ok (.invokevirtual 98, 3) := by decide +kernel
theorem dL_law_745 : decode cL_law 745 = .ok (.aload_n 2, 1) := by decide +kernel
theorem dL_law_746 : decode cL_law 746 = .ok (.invokevirtual 101, 3) := by decide +kernel
theorem dL_law_749 : decode cL_law 749 = .ok (.if_icmp .eq 583, 3) := by decide +kernel
theorem dL_law_752 : decode cL_law 752 = .ok (.iconst 0, 1) := by decide +kernel
theorem dL_law_753 : decode cL_law 753 = .ok (.ireturn, 1) := by decide +kernel
theorem dL_law_754 : decode cL_law 754 = .ok (.aload_n 1, 1) := by decide +kernel
theorem dL_law_755 : decode cL_law 755 = .ok (.aload_n 0, 1) := by decide +kernel
theorem dL_law_756 : decode cL_law 756 = .ok (.iload_n 3, 1) := by decide +kernel
theorem dL_law_757 : decode cL_law 757 = .ok (.iconst 1, 1) := by decide +kernel
theorem dL_law_758 : decode cL_law 758 = .ok (.iadd, 1) := by decide +kernel
theorem dL_law_759 : decode cL_law 759 = .ok (.iaload, 1) := by decide +kernel
theorem dL_law_760 : decode cL_law 760 = .ok (.invokevirtual 102, 3) := by decide +kernel
theorem dL_law_763 : decode cL_law 763 = .ok (.aload_n 2, 1) := by decide +kernel
theorem dL_law_764 : decode cL_law 764 = .ok (.aload_n 0, 1) := by decide +kernel
theorem dL_law_765 : decode cL_law 765 = .ok (.iload_n 3, 1) := by decide +kernel
theorem dL_law_766 : decode cL_law 766 = .ok (.iconst 1, 1) := by decide +kernel
theorem dL_law_767 : decode cL_law 767 = .ok (.iadd, 1) := by decide +kernel
theorem dL_law_768 : decode cL_law 768 = .ok (.iaload, 1) := by decide +kernel
theorem dL_law_769 : decode cL_law 769 = .ok (.invokevirtual 105, 3) := by decide +kernel
theorem dL_law_772 : decode cL_law 772 = .ok (.if_icmp .eq 560, 3) := by decide +kernel
theorem dL_law_775 : decode cL_law 775 = .ok (.iconst 0, 1) := by decide +kernel
theorem dL_law_776 : decode cL_law 776 = .ok (.ireturn, 1) := by decide +kernel
theorem dL_law_777 : decode cL_law 777 = .ok (.aload_n 1, 1) := by decide +kernel
theorem dL_law_778 : decode cL_law 778 = .ok (.aload_n 0, 1) := by decide +kernel
theorem dL_law_779 : decode cL_law 779 = .ok (.iload_n 3, 1) := by decide +kernel
theorem dL_law_780 : decode cL_law 780 = .ok (.iconst 1, 1) := by decide +kernel
theorem dL_law_781 : decode cL_law 781 = .ok (.iadd, 1) := by decide +kernel
theorem dL_law_782 : decode cL_law 782 = .ok (.iaload, 1) := by decide +kernel
theorem dL_law_783 : decode cL_law 783 = .ok (.invokevirtual 106, 3) := by decide +kernel
theorem dL_law_786 : decode cL_law 786 = .ok (.aload_n 2, 1) := by decide +kernel
theorem dL_law_787 : decode cL_law 787 = .ok (.aload_n 0, 1) := by decide +kernel
theorem dL_law_788 : decode cL_law 788 = .ok (.iload_n 3, 1) := by decide +kernel
theorem dL_law_789 : decode cL_law 789 = .ok (.iconst 1, 1) := by decide +kernel
theorem dL_law_790 : decode cL_law 790 = .ok (.iadd, 1) := by decide +kernel
theorem dL_law_791 : decode cL_law 791 = .ok (.iaload, 1) := by decide +kernel
theorem dL_law_792 : decode cL_law 792 = .ok (.invokevirtual 109, 3) := by decide +kernel
theorem dL_law_795 : decode cL_law 795 = .ok (.if_icmp .eq 537, 3) := by decide +kernel
theorem dL_law_798 : decode cL_law 798 = .ok (.iconst 0, 1) := by decide +kernel
theorem dL_law_799 : decode cL_law 799 = .ok (.ireturn, 1) := by decide +kernel
theorem dL_law_800 : decode cL_law 800 = .ok (.aload_n 1, 1) := by decide +kernel
theorem dL_law_801 : decode cL_law 801 = .ok (.aload_n 0, 1) := by decide +kernel
theorem dL_law_802 : decode cL_law 802 = .ok (.iload_n 3, 1) := by decide +kernel
theorem dL_law_803 : decode cL_law 803 = .ok (.iconst 1, 1) := by decide +kernel
theorem dL_law_804 : decode cL_law 804 = .ok (.iadd, 1) := by decide +kernel
theorem dL_law_805 : decode cL_law 805 = .ok (.iaload, 1) := by decide +kernel
theorem dL_law_806 : decode cL_law 806 = .ok (.aload_n 0, 1) := by decide +kernel
theorem dL_law_807 : decode cL_law 807 = .ok (.iload_n 3, 1) := by decide +kernel
theorem dL_law_808 : decode cL_law 808 = .ok (.iconst 2, 1) := by decide +kernel
theorem dL_law_809 : decode cL_law 809 = .ok (.iadd, 1) := by decide +kernel
theorem dL_law_810 : decode cL_law 810 = .ok (.iaload, 1) := by decide +kernel
theorem dL_law_811 : decode cL_law 811 = .ok (.invokevirtual 110, 3) := by decide +kernel
theorem dL_law_814 : decode cL_law 814 = .ok (.aload_n 2, 1) := by decide +kernel
theorem dL_law_815 : decode cL_law 815 = .ok (.aload_n 0, 1) := by decide +kernel
theorem dL_law_816 : decode cL_law 816 = .ok (.iload_n 3, 1) := by decide +kernel
theorem dL_law_817 : decode cL_law 817 = .ok (.iconst 1, 1) := by decide +kernel
theorem dL_law_818 : decode cL_law 818 = .ok (.iadd, 1) := by decide +kernel
theorem dL_law_819 : decode cL_law 819 = .ok (.iaload, 1) := by decide +kernel
theorem dL_law_820 : decode cL_law 820 = .ok (.aload_n 0, 1) := by decide +kernel
theorem dL_law_821 : decode cL_law 821 = .ok (.iload_n 3, 1) := by decide +kernel
theorem dL_law_822 : decode cL_law 822 = .ok (.iconst 2, 1) := by decide +kernel
theorem dL_law_823 : decode cL_law 823 = .ok (.iadd, 1) := by decide +kernel
theorem dL_law_824 : decode cL_law 824 = .ok (.iaload, 1) := by decide +kernel
theorem dL_law_825 : decode cL_law 825 = .ok (.invokevirtual 113, 3) := by decide +kernel
theorem dL_law_828 : decode cL_law 828 = .ok (.if_icmp .eq 504, 3) := by decide +kernel
theorem dL_law_831 : decode cL_law 831 = .ok (.iconst 0, 1) := by decide +kernel
theorem dL_law_832 : decode cL_law 832 = .ok (.ireturn, 1) := by decide +kernel
theorem dL_law_833 : decode cL_law 833 = .ok (.aload_n 1, 1) := by decide +kernel
theorem dL_law_834 : decode cL_law 834 = .ok (.aload_n 0, 1) := by decide +kernel
theorem dL_law_835 : decode cL_law 835 = .ok (.iload_n 3, 1) := by decide +kernel
theorem dL_law_836 : decode cL_law 836 = .ok (.iconst 1, 1) := by decide +kernel
theorem dL_law_837 : decode cL_law 837 = .ok (.iadd, 1) := by decide +kernel
theorem dL_law_838 : decode cL_law 838 = .ok (.iaload, 1) := by decide +kernel
theorem dL_law_839 : decode cL_law 839 = .ok (.invokevirtual 114, 3) := by decide +kernel
theorem dL_law_842 : decode cL_law 842 = .ok (.aload_n 2, 1) := by decide +kernel
theorem dL_law_843 : decode cL_law 843 = .ok (.aload_n 0, 1) := by decide +kernel
theorem dL_law_844 : decode cL_law 844 = .ok (.iload_n 3, 1) := by decide +kernel
theorem dL_law_845 : decode cL_law 845 = .ok (.iconst 1, 1) := by decide +kernel
theorem dL_law_846 : decode cL_law 846 = .ok (.iadd, 1) := by decide +kernel
theorem dL_law_847 : decode cL_law 847 = .ok (.iaload, 1) := by decide +kernel
theorem dL_law_848 : decode cL_law 848 = .ok (.invokevirtual 117, 3) := by decide +kernel
theorem dL_law_851 : decode cL_law 851 = .ok (.if_icmp .eq 481, 3) := by decide +kernel
theorem dL_law_854 : decode cL_law 854 = .ok (.iconst 0, 1) := by decide +kernel
theorem dL_law_855 : decode cL_law 855 = .ok (.ireturn, 1) := by decide +kernel
theorem dL_law_856 : decode cL_law 856 = .ok (.aload_n 1, 1) := by decide +kernel
theorem dL_law_857 : decode cL_law 857 = .ok (.aload_n 0, 1) := by decide +kernel
theorem dL_law_858 : decode cL_law 858 = .ok (.iload_n 3, 1) := by decide +kernel
theorem dL_law_859 : decode cL_law 859 = .ok (.iconst 1, 1) := by decide +kernel
theorem dL_law_860 : decode cL_law 860 = .ok (.iadd, 1) := by decide +kernel
theorem dL_law_861 : decode cL_law 861 = .ok (.iaload, 1) := by decide +kernel
theorem dL_law_862 : decode cL_law 862 = .ok (.aload_n 0, 1) := by decide +kernel
theorem dL_law_863 : decode cL_law 863 = .ok (.iload_n 3, 1) := by decide +kernel
theorem dL_law_864 : decode cL_law 864 = .ok (.iconst 2, 1) := by decide +kernel
theorem dL_law_865 : decode cL_law 865 = .ok (.iadd, 1) := by decide +kernel
theorem dL_law_866 : decode cL_law 866 = .ok (.iaload, 1) := by decide +kernel
theorem dL_law_867 : decode cL_law 867 = .ok (.aload_n 0, 1) := by decide +kernel
theorem dL_law_868 : decode cL_law 868 = .ok (.iload_n 3, 1) := by decide +kernel
theorem dL_law_869 : decode cL_law 869 = .ok (.iconst 3, 1) := by decide +kernel
theorem dL_law_870 : decode cL_law 870 = .ok (.iadd, 1) := by decide +kernel
theorem dL_law_871 : decode cL_law 871 = .ok (.iaload, 1) := by decide +kernel
theorem dL_law_872 : decode cL_law 872 = .ok (.invokevirtual 118, 3) := by decide +kernel
theorem dL_law_875 : decode cL_law 875 = .ok (.aload_n 2, 1) := by decide +kernel
theorem dL_law_876 : decode cL_law 876 = .ok (.aload_n 0, 1) := by decide +kernel
theorem dL_law_877 : decode cL_law 877 = .ok (.iload_n 3, 1) := by decide +kernel
theorem dL_law_878 : decode cL_law 878 = .ok (.iconst 1, 1) := by decide +kernel
theorem dL_law_879 : decode cL_law 879 = .ok (.iadd, 1) := by decide +kernel
theorem dL_law_880 : decode cL_law 880 = .ok (.iaload, 1) := by decide +kernel
theorem dL_law_881 : decode cL_law 881 = .ok (.aload_n 0, 1) := by decide +kernel
theorem dL_law_882 : decode cL_law 882 = .ok (.iload_n 3, 1) := by decide +kernel
theorem dL_law_883 : decode cL_law 883 = .ok (.iconst 2, 1) := by decide +kernel
theorem dL_law_884 : decode cL_law 884 = .ok (.iadd, 1) := by decide +kernel
theorem dL_law_885 : decode cL_law 885 = .ok (.iaload, 1) := by decide +kernel
theorem dL_law_886 : decode cL_law 886 = .ok (.aload_n 0, 1) := by decide +kernel
theorem dL_law_887 : decode cL_law 887 = .ok (.iload_n 3, 1) := by decide +kernel
theorem dL_law_888 : decode cL_law 888 = .ok (.iconst 3, 1) := by decide +kernel
theorem dL_law_889 : decode cL_law 889 = .ok (.iadd, 1) := by decide +kernel
theorem dL_law_890 : decode cL_law 890 = .ok (.iaload, 1) := by decide +kernel
theorem dL_law_891 : decode cL_law 891 = .ok (.invokevirtual 122, 3) := by decide +kernel
theorem dL_law_894 : decode cL_law 894 = .ok (.if_icmp .eq 438, 3) := by decide +kernel
theorem dL_law_897 : decode cL_law 897 = .ok (.iconst 0, 1) := by decide +kernel
theorem dL_law_898 : decode cL_law 898 = .ok (.ireturn, 1) := by decide +kernel
theorem dL_law_899 : decode cL_law 899 = .ok (.aload_n 1, 1) := by decide +kernel
theorem dL_law_900 : decode cL_law 900 = .ok (.aload_n 0, 1) := by decide +kernel
theorem dL_law_901 : decode cL_law 901 = .ok (.iload_n 3, 1) := by decide +kernel
theorem dL_law_902 : decode cL_law 902 = .ok (.iconst 1, 1) := by decide +kernel
theorem dL_law_903 : decode cL_law 903 = .ok (.iadd, 1) := by decide +kernel
theorem dL_law_904 : decode cL_law 904 = .ok (.iaload, 1) := by decide +kernel
theorem dL_law_905 : decode cL_law 905 = .ok (.aload_n 0, 1) := by decide +kernel
theorem dL_law_906 : decode cL_law 906 = .ok (.iload_n 3, 1) := by decide +kernel
theorem dL_law_907 : decode cL_law 907 = .ok (.iconst 2, 1) := by decide +kernel
theorem dL_law_908 : decode cL_law 908 = .ok (.iadd, 1) := by decide +kernel
theorem dL_law_909 : decode cL_law 909 = .ok (.iaload, 1) := by decide +kernel
theorem dL_law_910 : decode cL_law 910 = .ok (.invokevirtual 123, 3) := by decide +kernel
theorem dL_law_913 : decode cL_law 913 = .ok (.aload_n 2, 1) := by decide +kernel
theorem dL_law_914 : decode cL_law 914 = .ok (.aload_n 0, 1) := by decide +kernel
theorem dL_law_915 : decode cL_law 915 = .ok (.iload_n 3, 1) := by decide +kernel
theorem dL_law_916 : decode cL_law 916 = .ok (.iconst 1, 1) := by decide +kernel
theorem dL_law_917 : decode cL_law 917 = .ok (.iadd, 1) := by decide +kernel
theorem dL_law_918 : decode cL_law 918 = .ok (.iaload, 1) := by decide +kernel
theorem dL_law_919 : decode cL_law 919 = .ok (.aload_n 0, 1) := by decide +kernel
theorem dL_law_920 : decode cL_law 920 = .ok (.iload_n 3, 1) := by decide +kernel
theorem dL_law_921 : decode cL_law 921 = .ok (.iconst 2, 1) := by decide +kernel
theorem dL_law_922 : decode cL_law 922 = .ok (.iadd, 1) := by decide +kernel
theorem dL_law_923 : decode cL_law 923 = .ok (.iaload, 1) := by decide +kernel
theorem dL_law_924 : decode cL_law 924 = .ok (.invokevirtual 126, 3) := by decide +kernel
theorem dL_law_927 : decode cL_law 927 = .ok (.if_icmp .eq 405, 3) := by decide +kernel
theorem dL_law_930 : decode cL_law 930 = .ok (.iconst 0, 1) := by decide +kernel
theorem dL_law_931 : decode cL_law 931 = .ok (.ireturn, 1) := by decide +kernel
theorem dL_law_932 : decode cL_law 932 = .ok (.aload_n 1, 1) := by decide +kernel
theorem dL_law_933 : decode cL_law 933 = .ok (.aload_n 0, 1) := by decide +kernel
theorem dL_law_934 : decode cL_law 934 = .ok (.iload_n 3, 1) := by decide +kernel
theorem dL_law_935 : decode cL_law 935 = .ok (.iconst 1, 1) := by decide +kernel
theorem dL_law_936 : decode cL_law 936 = .ok (.iadd, 1) := by decide +kernel
theorem dL_law_937 : decode cL_law 937 = .ok (.iaload, 1) := by decide +kernel
theorem dL_law_938 : decode cL_law 938 = .ok (.invokevirtual 127, 3) := by decide +kernel
theorem dL_law_941 : decode cL_law 941 = .ok (.aload_n 2, 1) := by decide +kernel
theorem dL_law_942 : decode cL_law 942 = .ok (.aload_n 0, 1) := by decide +kernel
theorem dL_law_943 : decode cL_law 943 = .ok (.iload_n 3, 1) := by decide +kernel
theorem dL_law_944 : decode cL_law 944 = .ok (.iconst 1, 1) := by decide +kernel
theorem dL_law_945 : decode cL_law 945 = .ok (.iadd, 1) := by decide +kernel
theorem dL_law_946 : decode cL_law 946 = .ok (.iaload, 1) := by decide +kernel
theorem dL_law_947 : decode cL_law 947 = .ok (.invokevirtual 131, 3) := by decide +kernel
theorem dL_law_950 : decode cL_law 950 = .ok (.lcmp, 1) := by decide +kernel
theorem dL_law_951 : decode cL_law 951 = .ok (.ifCond .eq 381, 3) := by decide +kernel
theorem dL_law_954 : decode cL_law 954 = .ok (.iconst 0, 1) := by decide +kernel
theorem dL_law_955 : decode cL_law 955 = .ok (.ireturn, 1) := by decide +kernel
theorem dL_law_956 : decode cL_law 956 = .ok (.aload_n 1, 1) := by decide +kernel
theorem dL_law_957 : decode cL_law 957 = .ok (.aload_n 0, 1) := by decide +kernel
theorem dL_law_958 : decode cL_law 958 = .ok (.iload_n 3, 1) := by decide +kernel
theorem dL_law_959 : decode cL_law 959 = .ok (.iconst 1, 1) := by decide +kernel
theorem dL_law_960 : decode cL_law 960 = .ok (.iadd, 1) := by decide +kernel
theorem dL_law_961 : decode cL_law 961 = .ok (.iaload, 1) := by decide +kernel
theorem dL_law_962 : decode cL_law 962 = .ok (.aload_n 0, 1) := by decide +kernel
theorem dL_law_963 : decode cL_law 963 = .ok (.iload_n 3, 1) := by decide +kernel
theorem dL_law_964 : decode cL_law 964 = .ok (.iconst 2, 1) := by decide +kernel
theorem dL_law_965 : decode cL_law 965 = .ok (.iadd, 1) := by decide +kernel
theorem dL_law_966 : decode cL_law 966 = .ok (.iaload, 1) := by decide +kernel
theorem dL_law_967 : decode cL_law 967 = .ok (.invokevirtual 132, 3) := by decide +kernel
theorem dL_law_970 : decode cL_law 970 = .ok (.aload_n 2, 1) := by decide +kernel
theorem dL_law_971 : decode cL_law 971 = .ok (.aload_n 0, 1) := by decide +kernel
theorem dL_law_972 : decode cL_law 972 = .ok (.iload_n 3, 1) := by decide +kernel
theorem dL_law_973 : decode cL_law 973 = .ok (.iconst 1, 1) := by decide +kernel
theorem dL_law_974 : decode cL_law 974 = .ok (.iadd, 1) := by decide +kernel
theorem dL_law_975 : decode cL_law 975 = .ok (.iaload, 1) := by decide +kernel
theorem dL_law_976 : decode cL_law 976 = .ok (.aload_n 0, 1) := by decide +kernel
theorem dL_law_977 : decode cL_law 977 = .ok (.iload_n 3, 1) := by decide +kernel
theorem dL_law_978 : decode cL_law 978 = .ok (.iconst 2, 1) := by decide +kernel
theorem dL_law_979 : decode cL_law 979 = .ok (.iadd, 1) := by decide +kernel
theorem dL_law_980 : decode cL_law 980 = .ok (.iaload, 1) := by decide +kernel
theorem dL_law_981 : decode cL_law 981 = .ok (.invokevirtual 135, 3) := by decide +kernel
theorem dL_law_984 : decode cL_law 984 = .ok (.if_icmp .eq 348, 3) := by decide +kernel
theorem dL_law_987 : decode cL_law 987 = .ok (.iconst 0, 1) := by decide +kernel
theorem dL_law_988 : decode cL_law 988 = .ok (.ireturn, 1) := by decide +kernel
theorem dL_law_989 : decode cL_law 989 = .ok (.aload_n 1, 1) := by decide +kernel
theorem dL_law_990 : decode cL_law 990 = .ok (.aload_n 0, 1) := by decide +kernel
theorem dL_law_991 : decode cL_law 991 = .ok (.iload_n 3, 1) := by decide +kernel
theorem dL_law_992 : decode cL_law 992 = .ok (.iconst 1, 1) := by decide +kernel
theorem dL_law_993 : decode cL_law 993 = .ok (.iadd, 1) := by decide +kernel
theorem dL_law_994 : decode cL_law 994 = .ok (.iaload, 1) := by decide +kernel
theorem dL_law_995 : decode cL_law 995 = .ok (.aload_n 0, 1) := by decide +kernel
theorem dL_law_996 : decode cL_law 996 = .ok (.iload_n 3, 1) := by decide +kernel
theorem dL_law_997 : decode cL_law 997 = .ok (.iconst 2, 1) := by decide +kernel
theorem dL_law_998 : decode cL_law 998 = .ok (.iadd, 1) := by decide +kernel
theorem dL_law_999 : decode cL_law 999 = .ok (.iaload, 1) := by decide +kernel
theorem dL_law_1000 : decode cL_law 1000 = .ok (.aload_n 0, 1) := by decide +kernel
theorem dL_law_1001 : decode cL_law 1001 = .ok (.iload_n 3, 1) := by decide +kernel
theorem dL_law_1002 : decode cL_law 1002 = .ok (.iconst 3, 1) := by decide +kernel
theorem dL_law_1003 : decode cL_law 1003 = .ok (.iadd, 1) := by decide +kernel
theorem dL_law_1004 : decode cL_law 1004 = .ok (.iaload, 1) := by decide +kernel
theorem dL_law_1005 : decode cL_law 1005 = .ok (.invokevirtual 136, 3) := by decide +kernel
theorem dL_law_1008 : decode cL_law 1008 = .ok (.aload_n 2, 1) := by decide +kernel
theorem dL_law_1009 : decode cL_law 1009 = .ok (.aload_n 0, 1) := by decide +kernel
theorem dL_law_1010 : decode cL_law 1010 = .ok (.iload_n 3, 1) := by decide +kernel
theorem dL_law_1011 : decode cL_law 1011 = .ok (.iconst 1, 1) := by decide +kernel
theorem dL_law_1012 : decode cL_law 1012 = .ok (.iadd, 1) := by decide +kernel
theorem dL_law_1013 : decode cL_law 1013 = .ok (.iaload, 1) := by decide +kernel
theorem dL_law_1014 : decode cL_law 1014 = .ok (.aload_n 0, 1) := by decide +kernel
theorem dL_law_1015 : decode cL_law 1015 = .ok (.iload_n 3, 1) := by decide +kernel
theorem dL_law_1016 : decode cL_law 1016 = .ok (.iconst 2, 1) := by decide +kernel
theorem dL_law_1017 : decode cL_law 1017 = .ok (.iadd, 1) := by decide +kernel
theorem dL_law_1018 : decode cL_law 1018 = .ok (.iaload, 1) := by decide +kernel
theorem dL_law_1019 : decode cL_law 1019 = .ok (.aload_n 0, 1) := by decide +kernel
theorem dL_law_1020 : decode cL_law 1020 = .ok (.iload_n 3, 1) := by decide +kernel
theorem dL_law_1021 : decode cL_law 1021 = .ok (.iconst 3, 1) := by decide +kernel
theorem dL_law_1022 : decode cL_law 1022 = .ok (.iadd, 1) := by decide +kernel
theorem dL_law_1023 : decode cL_law 1023 = .ok (.iaload, 1) := by decide +kernel
theorem dL_law_1024 : decode cL_law 1024 = .ok (.invokevirtual 139, 3) := by decide +kernel
theorem dL_law_1027 : decode cL_law 1027 = .ok (.if_icmp .eq 305, 3) := by decide +kernel
theorem dL_law_1030 : decode cL_law 1030 = .ok (.iconst 0, 1) := by decide +kernel
theorem dL_law_1031 : decode cL_law 1031 = .ok (.ireturn, 1) := by decide +kernel
theorem dL_law_1032 : decode cL_law 1032 = .ok (.aload_n 1, 1) := by decide +kernel
theorem dL_law_1033 : decode cL_law 1033 = .ok (.aload_n 0, 1) := by decide +kernel
theorem dL_law_1034 : decode cL_law 1034 = .ok (.iload_n 3, 1) := by decide +kernel
theorem dL_law_1035 : decode cL_law 1035 = .ok (.iconst 1, 1) := by decide +kernel
theorem dL_law_1036 : decode cL_law 1036 = .ok (.iadd, 1) := by decide +kernel
theorem dL_law_1037 : decode cL_law 1037 = .ok (.iaload, 1) := by decide +kernel
theorem dL_law_1038 : decode cL_law 1038 = .ok (.aload_n 0, 1) := by decide +kernel
theorem dL_law_1039 : decode cL_law 1039 = .ok (.iload_n 3, 1) := by decide +kernel
theorem dL_law_1040 : decode cL_law 1040 = .ok (.iconst 2, 1) := by decide +kernel
theorem dL_law_1041 : decode cL_law 1041 = .ok (.iadd, 1) := by decide +kernel
theorem dL_law_1042 : decode cL_law 1042 = .ok (.iaload, 1) := by decide +kernel
theorem dL_law_1043 : decode cL_law 1043 = .ok (.invokevirtual 140, 3) := by decide +kernel
theorem dL_law_1046 : decode cL_law 1046 = .ok (.aload_n 2, 1) := by decide +kernel
theorem dL_law_1047 : decode cL_law 1047 = .ok (.aload_n 0, 1) := by decide +kernel
theorem dL_law_1048 : decode cL_law 1048 = .ok (.iload_n 3, 1) := by decide +kernel
theorem dL_law_1049 : decode cL_law 1049 = .ok (.iconst 1, 1) := by decide +kernel
theorem dL_law_1050 : decode cL_law 1050 = .ok (.iadd, 1) := by decide +kernel
theorem dL_law_1051 : decode cL_law 1051 = .ok (.iaload, 1) := by decide +kernel
theorem dL_law_1052 : decode cL_law 1052 = .ok (.aload_n 0, 1) := by decide +kernel
theorem dL_law_1053 : decode cL_law 1053 = .ok (.iload_n 3, 1) := by decide +kernel
theorem dL_law_1054 : decode cL_law 1054 = .ok (.iconst 2, 1) := by decide +kernel
theorem dL_law_1055 : decode cL_law 1055 = .ok (.iadd, 1) := by decide +kernel
theorem dL_law_1056 : decode cL_law 1056 = .ok (.iaload, 1) := by decide +kernel
theorem dL_law_1057 : decode cL_law 1057 = .ok (.invokevirtual 143, 3) := by decide +kernel
theorem dL_law_1060 : decode cL_law 1060 = .ok (.if_icmp .eq 272, 3) := by decide +kernel
theorem dL_law_1063 : decode cL_law 1063 = .ok (.iconst 0, 1) := by decide +kernel
theorem dL_law_1064 : decode cL_law 1064 = .ok (.ireturn, 1) := by decide +kernel
theorem dL_law_1065 : decode cL_law 1065 = .ok (.aload_n 1, 1) := by decide +kernel
theorem dL_law_1066 : decode cL_law 1066 = .ok (.aload_n 0, 1) := by decide +kernel
theorem dL_law_1067 : decode cL_law 1067 = .ok (.iload_n 3, 1) := by decide +kernel
theorem dL_law_1068 : decode cL_law 1068 = .ok (.iconst 1, 1) := by decide +kernel
theorem dL_law_1069 : decode cL_law 1069 = .ok (.iadd, 1) := by decide +kernel
theorem dL_law_1070 : decode cL_law 1070 = .ok (.iaload, 1) := by decide +kernel
theorem dL_law_1071 : decode cL_law 1071 = .ok (.aload_n 0, 1) := by decide +kernel
theorem dL_law_1072 : decode cL_law 1072 = .ok (.iload_n 3, 1) := by decide +kernel
theorem dL_law_1073 : decode cL_law 1073 = .ok (.iconst 2, 1) := by decide +kernel
theorem dL_law_1074 : decode cL_law 1074 = .ok (.iadd, 1) := by decide +kernel
theorem dL_law_1075 : decode cL_law 1075 = .ok (.iaload, 1) := by decide +kernel
theorem dL_law_1076 : decode cL_law 1076 = .ok (.invokevirtual 144, 3) := by decide +kernel
theorem dL_law_1079 : decode cL_law 1079 = .ok (.aload_n 2, 1) := by decide +kernel
theorem dL_law_1080 : decode cL_law 1080 = .ok (.aload_n 0, 1) := by decide +kernel
theorem dL_law_1081 : decode cL_law 1081 = .ok (.iload_n 3, 1) := by decide +kernel
theorem dL_law_1082 : decode cL_law 1082 = .ok (.iconst 1, 1) := by decide +kernel
theorem dL_law_1083 : decode cL_law 1083 = .ok (.iadd, 1) := by decide +kernel
theorem dL_law_1084 : decode cL_law 1084 = .ok (.iaload, 1) := by decide +kernel
theorem dL_law_1085 : decode cL_law 1085 = .ok (.aload_n 0, 1) := by decide +kernel
theorem dL_law_1086 : decode cL_law 1086 = .ok (.iload_n 3, 1) := by decide +kernel
theorem dL_law_1087 : decode cL_law 1087 = .ok (.iconst 2, 1) := by decide +kernel
theorem dL_law_1088 : decode cL_law 1088 = .ok (.iadd, 1) := by decide +kernel
theorem dL_law_1089 : decode cL_law 1089 = .ok (.iaload, 1) := by decide +kernel
theorem dL_law_1090 : decode cL_law 1090 = .ok (.invokevirtual 147, 3) := by decide +kernel
theorem dL_law_1093 : decode cL_law 1093 = .ok (.if_icmp .eq 239, 3) := by decide +kernel
theorem dL_law_1096 : decode cL_law 1096 = .ok (.iconst 0, 1) := by decide +kernel
theorem dL_law_1097 : decode cL_law 1097 = .ok (.ireturn, 1) := by decide +kernel
theorem dL_law_1098 : decode cL_law 1098 = .ok (.aload_n 1, 1) := by decide +kernel
theorem dL_law_1099 : decode cL_law 1099 = .ok (.aload_n 0, 1) := by decide +kernel
theorem dL_law_1100 : decode cL_law 1100 = .ok (.iload_n 3, 1) := by decide +kernel
theorem dL_law_1101 : decode cL_law 1101 = .ok (.iconst 1, 1) := by decide +kernel
theorem dL_law_1102 : decode cL_law 1102 = .ok (.iadd, 1) := by decide +kernel
theorem dL_law_1103 : decode cL_law 1103 = .ok (.iaload, 1) := by decide +kernel
theorem dL_law_1104 : decode cL_law 1104 = .ok (.aload_n 0, 1) := by decide +kernel
theorem dL_law_1105 : decode cL_law 1105 = .ok (.iload_n 3, 1) := by decide +kernel
theorem dL_law_1106 : decode cL_law 1106 = .ok (.iconst 2, 1) := by decide +kernel
theorem dL_law_1107 : decode cL_law 1107 = .ok (.iadd, 1) := by decide +kernel
theorem dL_law_1108 : decode cL_law 1108 = .ok (.iaload, 1) := by decide +kernel
theorem dL_law_1109 : decode cL_law 1109 = .ok (.invokevirtual 148, 3) := by decide +kernel
theorem dL_law_1112 : decode cL_law 1112 = .ok (.aload_n 2, 1) := by decide +kernel
theorem dL_law_1113 : decode cL_law 1113 = .ok (.aload_n 0, 1) := by decide +kernel
theorem dL_law_1114 : decode cL_law 1114 = .ok (.iload_n 3, 1) := by decide +kernel
theorem dL_law_1115 : decode cL_law 1115 = .ok (.iconst 1, 1) := by decide +kernel
theorem dL_law_1116 : decode cL_law 1116 = .ok (.iadd, 1) := by decide +kernel
theorem dL_law_1117 : decode cL_law 1117 = .ok (.iaload, 1) := by decide +kernel
theorem dL_law_1118 : decode cL_law 1118 = .ok (.aload_n 0, 1) := by decide +kernel
theorem dL_law_1119 : decode cL_law 1119 = .ok (.iload_n 3, 1) := by decide +kernel
theorem dL_law_1120 : decode cL_law 1120 = .ok (.iconst 2, 1) := by decide +kernel
theorem dL_law_1121 : decode cL_law 1121 = .ok (.iadd, 1) := by decide +kernel
theorem dL_law_1122 : decode cL_law 1122 = .ok (.iaload, 1) := by decide +kernel
theorem dL_law_1123 : decode cL_law 1123 = .ok (.invokevirtual 151, 3) := by decide +kernel
theorem dL_law_1126 : decode cL_law 1126 = .ok (.if_icmp .eq 206, 3) := by decide +kernel
theorem dL_law_1129 : decode cL_law 1129 = .ok (.iconst 0, 1) := by decide +kernel
theorem dL_law_1130 : decode cL_law 1130 = .ok (.ireturn, 1) := by decide +kernel
theorem dL_law_1131 : decode cL_law 1131 = .ok (.aload_n 1, 1) := by decide +kernel
theorem dL_law_1132 : decode cL_law 1132 = .ok (.aload_n 0, 1) := by decide +kernel
theorem dL_law_1133 : decode cL_law 1133 = .ok (.iload_n 3, 1) := by decide +kernel
theorem dL_law_1134 : decode cL_law 1134 = .ok (.iconst 1, 1) := by decide +kernel
theorem dL_law_1135 : decode cL_law 1135 = .ok (.iadd, 1) := by decide +kernel
theorem dL_law_1136 : decode cL_law 1136 = .ok (.iaload, 1) := by decide +kernel
theorem dL_law_1137 : decode cL_law 1137 = .ok (.invokevirtual 152, 3) := by decide +kernel
theorem dL_law_1140 : decode cL_law 1140 = .ok (.aload_n 2, 1) := by decide +kernel
theorem dL_law_1141 : decode cL_law 1141 = .ok (.aload_n 0, 1) := by decide +kernel
theorem dL_law_1142 : decode cL_law 1142 = .ok (.iload_n 3, 1) := by decide +kernel
theorem dL_law_1143 : decode cL_law 1143 = .ok (.iconst 1, 1) := by decide +kernel
theorem dL_law_1144 : decode cL_law 1144 = .ok (.iadd, 1) := by decide +kernel
theorem dL_law_1145 : decode cL_law 1145 = .ok (.iaload, 1) := by decide +kernel
theorem dL_law_1146 : decode cL_law 1146 = .ok (.invokevirtual 155, 3) := by decide +kernel
theorem dL_law_1149 : decode cL_law 1149 = .ok (.if_icmp .eq 183, 3) := by decide +kernel
theorem dL_law_1152 : decode cL_law 1152 = .ok (.iconst 0, 1) := by decide +kernel
theorem dL_law_1153 : decode cL_law 1153 = .ok (.ireturn, 1) := by decide +kernel
theorem dL_law_1154 : decode cL_law 1154 = .ok (.aload_n 1, 1) := by decide +kernel
theorem dL_law_1155 : decode cL_law 1155 = .ok (.aload_n 0, 1) := by decide +kernel
theorem dL_law_1156 : decode cL_law 1156 = .ok (.iload_n 3, 1) := by decide +kernel
theorem dL_law_1157 : decode cL_law 1157 = .ok (.iconst 1, 1) := by decide +kernel
theorem dL_law_1158 : decode cL_law 1158 = .ok (.iadd, 1) := by decide +kernel
theorem dL_law_1159 : decode cL_law 1159 = .ok (.iaload, 1) := by decide +kernel
theorem dL_law_1160 : decode cL_law 1160 = .ok (.aload_n 0, 1) := by decide +kernel
theorem dL_law_1161 : decode cL_law 1161 = .ok (.iload_n 3, 1) := by decide +kernel
theorem dL_law_1162 : decode cL_law 1162 = .ok (.iconst 2, 1) := by decide +kernel
theorem dL_law_1163 : decode cL_law 1163 = .ok (.iadd, 1) := by decide +kernel
theorem dL_law_1164 : decode cL_law 1164 = .ok (.iaload, 1) := by decide +kernel
theorem dL_law_1165 : decode cL_law 1165 = .ok (.aload_n 0, 1) := by decide +kernel
theorem dL_law_1166 : decode cL_law 1166 = .ok (.iload_n 3, 1) := by decide +kernel
theorem dL_law_1167 : decode cL_law 1167 = .ok (.iconst 3, 1) := by decide +kernel
theorem dL_law_1168 : decode cL_law 1168 = .ok (.iadd, 1) := by decide +kernel
theorem dL_law_1169 : decode cL_law 1169 = .ok (.iaload, 1) := by decide +kernel
theorem dL_law_1170 : decode cL_law 1170 = .ok (.aload_n 0, 1) := by decide +kernel
theorem dL_law_1171 : decode cL_law 1171 = .ok (.iload_n 3, 1) := by decide +kernel
theorem dL_law_1172 : decode cL_law 1172 = .ok (.iconst 4, 1) := by decide +kernel
theorem dL_law_1173 : decode cL_law 1173 = .ok (.iadd, 1) := by decide +kernel
theorem dL_law_1174 : decode cL_law 1174 = .ok (.iaload, 1) := by decide +kernel
theorem dL_law_1175 : decode cL_law 1175 = .ok (.aload_n 0, 1) := by decide +kernel
theorem dL_law_1176 : decode cL_law 1176 = .ok (.iload_n 3, 1) := by decide +kernel
theorem dL_law_1177 : decode cL_law 1177 = .ok (.iconst 5, 1) := by decide +kernel
theorem dL_law_1178 : decode cL_law 1178 = .ok (.iadd, 1) := by decide +kernel
theorem dL_law_1179 : decode cL_law 1179 = .ok (.iaload, 1) := by decide +kernel
theorem dL_law_1180 : decode cL_law 1180 = .ok (.ifCond .eq 7, 3) := by decide +kernel
theorem dL_law_1183 : decode cL_law 1183 = .ok (.iconst 1, 1) := by decide +kernel
theorem dL_law_1184 : decode cL_law 1184 = .ok (.goto 4, 3) := by decide +kernel
theorem dL_law_1187 : decode cL_law 1187 = .ok (.iconst 0, 1) := by decide +kernel
theorem dL_law_1188 : decode cL_law 1188 = .ok (.invokevirtual 156, 3) := by decide +kernel
theorem dL_law_1191 : decode cL_law 1191 = .ok (.aload_n 2, 1) := by decide +kernel
theorem dL_law_1192 : decode cL_law 1192 = .ok (.aload_n 0, 1) := by decide +kernel
theorem dL_law_1193 : decode cL_law 1193 = .ok (.iload_n 3, 1) := by decide +kernel
theorem dL_law_1194 : decode cL_law 1194 = .ok (.iconst 1, 1) := by decide +kernel
theorem dL_law_1195 : decode cL_law 1195 = .ok (.iadd, 1) := by decide +kernel
theorem dL_law_1196 : decode cL_law 1196 = .ok (.iaload, 1) := by decide +kernel
theorem dL_law_1197 : decode cL_law 1197 = .ok (.aload_n 0, 1) := by decide +kernel
theorem dL_law_1198 : decode cL_law 1198 = .ok (.iload_n 3, 1) := by decide +kernel
theorem dL_law_1199 : decode cL_law 1199 = .ok (.iconst 2, 1) := by decide +kernel
theorem dL_law_1200 : decode cL_law 1200 = .ok (.iadd, 1) := by decide +kernel
theorem dL_law_1201 : decode cL_law 1201 = .ok (.iaload, 1) := by decide +kernel
theorem dL_law_1202 : decode cL_law 1202 = .ok (.aload_n 0, 1) := by decide +kernel
theorem dL_law_1203 : decode cL_law 1203 = .ok (.iload_n 3, 1) := by decide +kernel
theorem dL_law_1204 : decode cL_law 1204 = .ok (.iconst 3, 1) := by decide +kernel
theorem dL_law_1205 : decode cL_law 1205 = .ok (.iadd, 1) := by decide +kernel
theorem dL_law_1206 : decode cL_law 1206 = .ok (.iaload, 1) := by decide +kernel
theorem dL_law_1207 : decode cL_law 1207 = .ok (.aload_n 0, 1) := by decide +kernel
theorem dL_law_1208 : decode cL_law 1208 = .ok (.iload_n 3, 1) := by decide +kernel
theorem dL_law_1209 : decode cL_law 1209 = .ok (.iconst 4, 1) := by decide +kernel
theorem dL_law_1210 : decode cL_law 1210 = .ok (.iadd, 1) := by decide +kernel
theorem dL_law_1211 : decode cL_law 1211 = .ok (.iaload, 1) := by decide +kernel
theorem dL_law_1212 : decode cL_law 1212 = .ok (.aload_n 0, 1) := by decide +kernel
theorem dL_law_1213 : decode cL_law 1213 = .ok (.iload_n 3, 1) := by decide +kernel
theorem dL_law_1214 : decode cL_law 1214 = .ok (.iconst 5, 1) := by decide +kernel
theorem dL_law_1215 : decode cL_law 1215 = .ok (.iadd, 1) := by decide +kernel
theorem dL_law_1216 : decode cL_law 1216 = .ok (.iaload, 1) := by decide +kernel
theorem dL_law_1217 : decode cL_law 1217 = .ok (.ifCond .eq 7, 3) := by decide +kernel
theorem dL_law_1220 : decode cL_law 1220 = .ok (.iconst 1, 1) := by decide +kernel
theorem dL_law_1221 : decode cL_law 1221 = .ok (.goto 4, 3) := by decide +kernel
theorem dL_law_1224 : decode cL_law 1224 = .ok (.iconst 0, 1) := by decide +kernel
theorem dL_law_1225 : decode cL_law 1225 = .ok (.invokevirtual 160, 3) := by decide +kernel
theorem dL_law_1228 : decode cL_law 1228 = .ok (.if_icmp .eq 104, 3) := by decide +kernel
theorem dL_law_1231 : decode cL_law 1231 = .ok (.iconst 0, 1) := by decide +kernel
theorem dL_law_1232 : decode cL_law 1232 = .ok (.ireturn, 1) := by decide +kernel
theorem dL_law_1233 : decode cL_law 1233 = .ok (.aload_n 1, 1) := by decide +kernel
theorem dL_law_1234 : decode cL_law 1234 = .ok (.aload_n 0, 1) := by decide +kernel
theorem dL_law_1235 : decode cL_law 1235 = .ok (.iload_n 3, 1) := by decide +kernel
theorem dL_law_1236 : decode cL_law 1236 = .ok (.iconst 1, 1) := by decide +kernel
theorem dL_law_1237 : decode cL_law 1237 = .ok (.iadd, 1) := by decide +kernel
theorem dL_law_1238 : decode cL_law 1238 = .ok (.iaload, 1) := by decide +kernel
theorem dL_law_1239 : decode cL_law 1239 = .ok (.aload_n 0, 1) := by decide +kernel
theorem dL_law_1240 : decode cL_law 1240 = .ok (.iload_n 3, 1) := by decide +kernel
theorem dL_law_1241 : decode cL_law 1241 = .ok (.iconst 2, 1) := by decide +kernel
theorem dL_law_1242 : decode cL_law 1242 = .ok (.iadd, 1) := by decide +kernel
theorem dL_law_1243 : decode cL_law 1243 = .ok (.iaload, 1) := by decide +kernel
theorem dL_law_1244 : decode cL_law 1244 = .ok (.invokevirtual 161, 3) := by decide +kernel
theorem dL_law_1247 : decode cL_law 1247 = .ok (.aload_n 2, 1) := by decide +kernel
theorem dL_law_1248 : decode cL_law 1248 = .ok (.aload_n 0, 1) := by decide +kernel
theorem dL_law_1249 : decode cL_law 1249 = .ok (.iload_n 3, 1) := by decide +kernel
theorem dL_law_1250 : decode cL_law 1250 = .ok (.iconst 1, 1) := by decide +kernel
theorem dL_law_1251 : decode cL_law 1251 = .ok (.iadd, 1) := by decide +kernel
theorem dL_law_1252 : decode cL_law 1252 = .ok (.iaload, 1) := by decide +kernel
theorem dL_law_1253 : decode cL_law 1253 = .ok (.aload_n 0, 1) := by decide +kernel
theorem dL_law_1254 : decode cL_law 1254 = .ok (.iload_n 3, 1) := by decide +kernel
theorem dL_law_1255 : decode cL_law 1255 = .ok (.iconst 2, 1) := by decide +kernel
theorem dL_law_1256 : decode cL_law 1256 = .ok (.iadd, 1) := by decide +kernel
theorem dL_law_1257 : decode cL_law 1257 = .ok (.iaload, 1) := by decide +kernel
theorem dL_law_1258 : decode cL_law 1258 = .ok (.invokevirtual 164, 3) := by decide +kernel
theorem dL_law_1261 : decode cL_law 1261 = .ok (.if_icmp .eq 71, 3) := by decide +kernel
theorem dL_law_1264 : decode cL_law 1264 = .ok (.iconst 0, 1) := by decide +kernel
theorem dL_law_1265 : decode cL_law 1265 = .ok (.ireturn, 1) := by decide +kernel
theorem dL_law_1266 : decode cL_law 1266 = .ok (.aload_n 1, 1) := by decide +kernel
theorem dL_law_1267 : decode cL_law 1267 = .ok (.aload_n 0, 1) := by decide +kernel
theorem dL_law_1268 : decode cL_law 1268 = .ok (.iload_n 3, 1) := by decide +kernel
theorem dL_law_1269 : decode cL_law 1269 = .ok (.iconst 1, 1) := by decide +kernel
theorem dL_law_1270 : decode cL_law 1270 = .ok (.iadd, 1) := by decide +kernel
theorem dL_law_1271 : decode cL_law 1271 = .ok (.iaload, 1) := by decide +kernel
theorem dL_law_1272 : decode cL_law 1272 = .ok (.invokevirtual 165, 3) := by decide +kernel
theorem dL_law_1275 : decode cL_law 1275 = .ok (.aload_n 2, 1) := by decide +kernel
theorem dL_law_1276 : decode cL_law 1276 = .ok (.aload_n 0, 1) := by decide +kernel
theorem dL_law_1277 : decode cL_law 1277 = .ok (.iload_n 3, 1) := by decide +kernel
theorem dL_law_1278 : decode cL_law 1278 = .ok (.iconst 1, 1) := by decide +kernel
theorem dL_law_1279 : decode cL_law 1279 = .ok (.iadd, 1) := by decide +kernel
theorem dL_law_1280 : decode cL_law 1280 = .ok (.iaload, 1) := by decide +kernel
theorem dL_law_1281 : decode cL_law 1281 = .ok (.invokevirtual 168, 3) := by decide +kernel
theorem dL_law_1284 : decode cL_law 1284 = .ok (.if_icmp .eq 48, 3) := by decide +kernel
theorem dL_law_1287 : decode cL_law 1287 = .ok (.iconst 0, 1) := by decide +kernel
theorem dL_law_1288 : decode cL_law 1288 = .ok (.ireturn, 1) := by decide +kernel
theorem dL_law_1289 : decode cL_law 1289 = .ok (.aload_n 1, 1) := by decide +kernel
theorem dL_law_1290 : decode cL_law 1290 = .ok (.aload_n 0, 1) := by decide +kernel
theorem dL_law_1291 : decode cL_law 1291 = .ok (.iload_n 3, 1) := by decide +kernel
theorem dL_law_1292 : decode cL_law 1292 = .ok (.iconst 1, 1) := by decide +kernel
theorem dL_law_1293 : decode cL_law 1293 = .ok (.iadd, 1) := by decide +kernel
theorem dL_law_1294 : decode cL_law 1294 = .ok (.iaload, 1) := by decide +kernel
theorem dL_law_1295 : decode cL_law 1295 = .ok (.aload_n 0, 1) := by decide +kernel
theorem dL_law_1296 : decode cL_law 1296 = .ok (.iload_n 3, 1) := by decide +kernel
theorem dL_law_1297 : decode cL_law 1297 = .ok (.iconst 2, 1) := by decide +kernel
theorem dL_law_1298 : decode cL_law 1298 = .ok (.iadd, 1) := by decide +kernel
theorem dL_law_1299 : decode cL_law 1299 = .ok (.iaload, 1) := by decide +kernel
theorem dL_law_1300 : decode cL_law 1300 = .ok (.aload_n 0, 1) := by decide +kernel
theorem dL_law_1301 : decode cL_law 1301 = .ok (.iload_n 3, 1) := by decide +kernel
theorem dL_law_1302 : decode cL_law 1302 = .ok (.iconst 3, 1) := by decide +kernel
theorem dL_law_1303 : decode cL_law 1303 = .ok (.iadd, 1) := by decide +kernel
theorem dL_law_1304 : decode cL_law 1304 = .ok (.iaload, 1) := by decide +kernel
theorem dL_law_1305 : decode cL_law 1305 = .ok (.invokevirtual 169, 3) := by decide +kernel
theorem dL_law_1308 : decode cL_law 1308 = .ok (.aload_n 2, 1) := by decide +kernel
theorem dL_law_1309 : decode cL_law 1309 = .ok (.aload_n 0, 1) := by decide +kernel
theorem dL_law_1310 : decode cL_law 1310 = .ok (.iload_n 3, 1) := by decide +kernel
theorem dL_law_1311 : decode cL_law 1311 = .ok (.iconst 1, 1) := by decide +kernel
theorem dL_law_1312 : decode cL_law 1312 = .ok (.iadd, 1) := by decide +kernel
theorem dL_law_1313 : decode cL_law 1313 = .ok (.iaload, 1) := by decide +kernel
theorem dL_law_1314 : decode cL_law 1314 = .ok (.aload_n 0, 1) := by decide +kernel
theorem dL_law_1315 : decode cL_law 1315 = .ok (.iload_n 3, 1) := by decide +kernel
theorem dL_law_1316 : decode cL_law 1316 = .ok (.iconst 2, 1) := by decide +kernel
theorem dL_law_1317 : decode cL_law 1317 = .ok (.iadd, 1) := by decide +kernel
theorem dL_law_1318 : decode cL_law 1318 = .ok (.iaload, 1) := by decide +kernel
theorem dL_law_1319 : decode cL_law 1319 = .ok (.aload_n 0, 1) := by decide +kernel
theorem dL_law_1320 : decode cL_law 1320 = .ok (.iload_n 3, 1) := by decide +kernel
theorem dL_law_1321 : decode cL_law 1321 = .ok (.iconst 3, 1) := by decide +kernel
theorem dL_law_1322 : decode cL_law 1322 = .ok (.iadd, 1) := by decide +kernel
theorem dL_law_1323 : decode cL_law 1323 = .ok (.iaload, 1) := by decide +kernel
theorem dL_law_1324 : decode cL_law 1324 = .ok (.invokevirtual 172, 3) := by decide +kernel
theorem dL_law_1327 : decode cL_law 1327 = .ok (.if_icmp .eq 5, 3) := by decide +kernel
theorem dL_law_1330 : decode cL_law 1330 = .ok (.iconst 0, 1) := by decide +kernel
theorem dL_law_1331 : decode cL_law 1331 = .ok (.ireturn, 1) := by decide +kernel
theorem dL_law_1332 : decode cL_law 1332 = .ok (.iinc 3 6, 3) := by decide +kernel
theorem dL_law_1335 : decode cL_law 1335 = .ok (.goto (-1317), 3) := by decide +kernel
theorem dL_law_1338 : decode cL_law 1338 = .ok (.iconst 1, 1) := by decide +kernel
theorem dL_law_1339 : decode cL_law 1339 = .ok (.ireturn, 1) := by decide +kernel
section MJL
variable {D : va_G} {cy : Nat → ClassId} {ad : Nat → Nat} {bs : Nat} {X : State → Heap → Prop} {lnm : String} {cc : ByteArray} {nL : Nat} {own : String} {rt : Option FieldType} {nm : String} {d mc ms nE : Nat} {post : Option Value → mj_H → Prop} {pc : Nat} {lv : List (Nat × Value)} {st : List Value} {h : mj_H} {n cells slots : Nat}
/-- an array of ints that was there before: its length -/
theorem mj_slen {q L : Nat} {xs : Nat → Int32} (hx : ∀ U H, X U H → va_X (ad q) L xs U H) (hq : ad q < bs) (hd : decode cc pc = .ok (.arraylength, 1)) (kk : mj_G D cy ad bs X cc nL own rt nm d mc ms nE post (pc + 1) lv (.int (nI L) :: st) h n cells slots) : mj_G D cy ad bs X cc nL own rt nm d mc ms nE post pc lv (.ref q :: st) h n cells slots := by
  intro p l e R s m args below meth c H locs ls Q E C hW hS hl hX hret
  have hb := C.2.2.2.2.2.2.2.2.2.2
  have hx0 := hx _ _ (E.2.2.1 s H s.heap (fun q hq => (hS.2.1 q (by omega) (by show ¬ bs ≤ q; omega)).symm) hX)
  exact va_slen C.1 C.2.1 hx0 (by omega) (by show ¬ bs ≤ ad q; omega) hS hd (kk p l e R s m args below meth c H locs ls Q E C hW hS hl hX hret)
/-- its places -/
theorem mj_sld {q L i : Nat} {xs : Nat → Int32} {z : Int32} (hx : ∀ U H, X U H → va_X (ad q) L xs U H) (hq : ad q < bs) (hd : decode cc pc = .ok (.iaload, 1)) (hz : z = nI i) (hi : i < L) (hL : L < 2 ^ 31) (kk : mj_G D cy ad bs X cc nL own rt nm d mc ms nE post (pc + 1) lv (.int (xs i) :: st) h n cells slots) : mj_G D cy ad bs X cc nL own rt nm d mc ms nE post pc lv (.int z :: .ref q :: st) h n cells slots := by
  subst hz
  intro p l e R s m args below meth c H locs ls Q E C hW hS hl hX hret
  have hb := C.2.2.2.2.2.2.2.2.2.2
  have hx0 := hx _ _ (E.2.2.1 s H s.heap (fun q hq => (hS.2.1 q (by omega) (by show ¬ bs ≤ q; omega)).symm) hX)
  exact va_sld C.1 C.2.1 hx0 (by omega) (by show ¬ bs ≤ ad q; omega) hS (nI_in hi hL) hd (by rw [nI_clamp (by omega)]; exact kk p l e R s m args below meth c H locs ls Q E C hW hS hl hX hret)
end MJL
theorem nI_sub {a b : Nat} (h : b ≤ a) : nI a - nI b = nI (a - b) := by
  obtain ⟨c, rfl⟩ := Nat.exists_eq_add_of_le h
  rw [← nI_add, Nat.add_sub_cancel_left, Int32.add_comm, Int32.add_sub_cancel]
theorem lw_gt {i L : Nat} (hi : i ≤ 3072) (hL : L ≤ 3072) : (nI L - 6 < nI i) ↔ L < i + 6 := by
  by_cases h6 : 6 ≤ L
  · have e : nI L - 6 = nI (L - 6) := nI_sub (b := 6) h6
    rw [e, nI_ltI (by omega) (by omega)]; omega
  · have hneg : nI L - 6 < 0 := by
      have : L = 0 ∨ L = 1 ∨ L = 2 ∨ L = 3 ∨ L = 4 ∨ L = 5 := by omega
      rcases this with rfl | rfl | rfl | rfl | rfl | rfl <;> decide
    exact ⟨fun _ => by omega, fun _ => Int32.lt_of_lt_of_le hneg (nI_pos' (by omega))⟩
theorem lg_cmp_self (x : Int64) : lg_cmp x x = 0 := by unfold lg_cmp; rw [if_neg (Int64.lt_irrefl), if_pos rfl]
/-- one call of each, ints answered: the class's from R0, then the other's, with one answer, to R1 -/
def lw_sI (yx yy : MethodName) (cx cv : ByteArray) (mx my : Nat) (rt : Option FieldType) (As : List Value) (R0 R1 : mj_H → Prop) : Prop := ∀ h, R0 h → (∃ fs, h 0 = .inr (12, fs)) ∧ ∃ (dx : Nat) (P : Option Value → mj_H → Prop), dx ≤ 1908 ∧ mj_C yx cx mx rt dx 0 0 (.ref 0 :: As) h 1065 P ∧ ∀ v h1, P v h1 → (∃ fs, h1 950 = .inr (13, fs)) ∧ ∃ (z : Int32) (dy : Nat), v = some (.int z) ∧ dy ≤ 1908 ∧ mj_C yy cv my rt dy 0 0 (.ref 950 :: As) h1 1065 (fun w h2 => w = some (.int z) ∧ R1 h2)
def lw_sJ (yx yy : MethodName) (cx cv : ByteArray) (mx my : Nat) (rt : Option FieldType) (As : List Value) (R0 R1 : mj_H → Prop) : Prop := ∀ h, R0 h → (∃ fs, h 0 = .inr (12, fs)) ∧ ∃ (dx : Nat) (P : Option Value → mj_H → Prop), dx ≤ 1908 ∧ mj_C yx cx mx rt dx 0 0 (.ref 0 :: As) h 1065 P ∧ ∀ v h1, P v h1 → (∃ fs, h1 950 = .inr (13, fs)) ∧ ∃ (z : Int64) (dy : Nat), v = some (.long z) ∧ dy ≤ 1908 ∧ mj_C yy cv my rt dy 0 0 (.ref 950 :: As) h1 1065 (fun w h2 => w = some (.long z) ∧ R1 h2)
def lw_b (x : Int32) : Int32 := if x = 0 then 0 else 1
def lw_s_feed (R0 R1 : mj_H → Prop) : Prop := ∀ x1 x2 x3 x4 x5 : Int32, lw_sI yX12_feed yX13_feed cX12_feed cX13_feed 6 8 ((some .int)) [.int x1, .int x2, .int x3, .int x4, .int x5] R0 R1
def lw_s_end (R0 R1 : mj_H → Prop) : Prop := ∀ x1 : Int32, lw_sI yX12_end yX13_end cX12_end cX13_end 2 2 ((some .int)) [.int x1] R0 R1
def lw_s_module (R0 R1 : mj_H → Prop) : Prop := lw_sI yX12_module yX13_module cX12_module cX13_module 1 1 ((some .int)) [] R0 R1
def lw_s_count (R0 R1 : mj_H → Prop) : Prop := ∀ x1 : Int32, lw_sI yX12_count yX13_count cX12_count cX13_count 2 2 ((some .int)) [.int x1] R0 R1
def lw_s_value (R0 R1 : mj_H → Prop) : Prop := lw_sI yX12_value yX13_value cX12_value cX13_value 2 5 ((some .int)) [] R0 R1
def lw_s_named (R0 R1 : mj_H → Prop) : Prop := lw_sI yX12_named yX13_named cX12_named cX13_named 1 4 ((some .int)) [] R0 R1
def lw_s_drop (R0 R1 : mj_H → Prop) : Prop := lw_sI yX12_drop yX13_drop cX12_drop cX13_drop 1 1 ((some .int)) [] R0 R1
def lw_s_about (R0 R1 : mj_H → Prop) : Prop := ∀ x1 x2 : Int32, lw_sI yX12_about yX13_about cX12_about cX13_about 5 6 ((some .int)) [.int x1, .int x2] R0 R1
def lw_s_alike (R0 R1 : mj_H → Prop) : Prop := ∀ x1 x2 : Int32, lw_sI yX12_alike yX13_alike cX12_alike cX13_alike 3 3 ((some .int)) [.int x1, .int x2] R0 R1
def lw_s_fits (R0 R1 : mj_H → Prop) : Prop := ∀ x1 x2 : Int32, lw_sI yX12_fits yX13_fits cX12_fits cX13_fits 3 3 ((some .int)) [.int x1, .int x2] R0 R1
def lw_s_within (R0 R1 : mj_H → Prop) : Prop := ∀ x1 x2 : Int32, lw_sI yX12_within yX13_within cX12_within cX13_within 3 7 ((some .int)) [.int x1, .int x2] R0 R1
def lw_s_many (R0 R1 : mj_H → Prop) : Prop := ∀ x1 x2 : Int32, lw_sJ yX12_many yX13_many cX12_many cX13_many 3 4 ((some .long)) [.int x1, .int x2] R0 R1
def lw_s_lightest (R0 R1 : mj_H → Prop) : Prop := ∀ x1 : Int32, lw_sI yX12_lightest yX13_lightest cX12_lightest cX13_lightest 3 4 ((some .int)) [.int x1] R0 R1
def lw_s_tell (R0 R1 : mj_H → Prop) : Prop := ∀ x1 : Int32, lw_sI yX12_tell yX13_tell cX12_tell cX13_tell 2 2 ((some .int)) [.int x1] R0 R1
def lw_s_letter (R0 R1 : mj_H → Prop) : Prop := ∀ x1 : Int32, lw_sI yX12_letter yX13_letter cX12_letter cX13_letter 2 2 ((some .int)) [.int x1] R0 R1
def lw_s_met (R0 R1 : mj_H → Prop) : Prop := ∀ x1 x2 : Int32, lw_sI yX12_met yX13_met_ cX12_met cX13_met_ 5 4 ((some .int)) [.int x1, .int x2] R0 R1
def lw_s_why (R0 R1 : mj_H → Prop) : Prop := ∀ x1 : Int32, lw_sI yX12_why yX13_why cX12_why cX13_why 2 2 ((some .int)) [.int x1] R0 R1
def lw_s_encode (R0 R1 : mj_H → Prop) : Prop := ∀ x1 x2 : Int32, lw_sI yX12_encode yX13_encode cX12_encode cX13_encode 4 3 ((some .int)) [.int x1, .int x2] R0 R1
def lw_s_bit (R0 R1 : mj_H → Prop) : Prop := ∀ x1 : Int32, lw_sI yX12_bit yX13_bit cX12_bit cX13_bit 2 2 ((some .int)) [.int x1] R0 R1
def lw_s_bits (R0 R1 : mj_H → Prop) : Prop := ∀ x1 x2 : Int32, lw_sI yX12_bits yX13_bits cX12_bits cX13_bits 3 3 ((some .int)) [.int x1, .int x2] R0 R1
def lw_s_noBits (R0 R1 : mj_H → Prop) : Prop := lw_sI yX12_noBits yX13_noBits cX12_noBits cX13_noBits 2 2 ((some .int)) [] R0 R1
def lw_s_decode (R0 R1 : mj_H → Prop) : Prop := ∀ x1 : Int32, lw_sI yX12_decode yX13_decode cX12_decode cX13_decode 3 3 ((some .int)) [.int x1] R0 R1
def lw_s_begin (R0 R1 : mj_H → Prop) : Prop := ∀ x1 : Int32, lw_sI yX12_begin yX13_begin cX12_begin cX13_begin 2 5 ((some .int)) [.int x1] R0 R1
def lw_s_run (R0 R1 : mj_H → Prop) : Prop := ∀ x1 x2 : Int32, lw_sI yX12_run yX13_run cX12_run cX13_run 4 5 ((some .int)) [.int x1, .int x2] R0 R1
def lw_s_clock (R0 R1 : mj_H → Prop) : Prop := ∀ x1 : Int32, lw_sI yX12_clock yX13_clock cX12_clock cX13_clock 2 2 ((some .int)) [.int x1] R0 R1
def lw_s_give (R0 R1 : mj_H → Prop) : Prop := ∀ x1 x2 x3 : Int32, lw_sI yX12_give yX13_give cX12_give cX13_give 4 5 ((some .int)) [.int x1, .int x2, .int x3] R0 R1
def lw_s_state (R0 R1 : mj_H → Prop) : Prop := ∀ x1 x2 : Int32, lw_sI yX12_state yX13_state cX12_state cX13_state 4 3 ((some .int)) [.int x1, .int x2] R0 R1
def lw_s_all (R0 R1 : mj_H → Prop) : Prop := ∀ x1 : Int32, lw_sJ yX12_all yX13_all cX12_all cX13_all 2 4 ((some .long)) [.int x1] R0 R1
def lw_s_queue (R0 R1 : mj_H → Prop) : Prop := ∀ x1 x2 : Int32, lw_sI yX12_queue yX13_queue cX12_queue cX13_queue 3 3 ((some .int)) [.int x1, .int x2] R0 R1
def lw_s_queued (R0 R1 : mj_H → Prop) : Prop := ∀ x1 x2 x3 : Int32, lw_sI yX12_queued yX13_queued cX12_queued cX13_queued 5 5 ((some .int)) [.int x1, .int x2, .int x3] R0 R1
def lw_s_timer (R0 R1 : mj_H → Prop) : Prop := ∀ x1 x2 : Int32, lw_sI yX12_timer yX13_timer cX12_timer cX13_timer 4 5 ((some .int)) [.int x1, .int x2] R0 R1
def lw_s_variable (R0 R1 : mj_H → Prop) : Prop := ∀ x1 x2 : Int32, lw_sI yX12_variable yX13_variable cX12_variable cX13_variable 4 5 ((some .int)) [.int x1, .int x2] R0 R1
def lw_s_event (R0 R1 : mj_H → Prop) : Prop := ∀ x1 x2 : Int32, lw_sI yX12_event yX13_event_ cX12_event cX13_event_ 3 3 ((some .int)) [.int x1, .int x2] R0 R1
def lw_s_eventValue (R0 R1 : mj_H → Prop) : Prop := ∀ x1 : Int32, lw_sI yX12_eventValue yX13_eventValue cX12_eventValue cX13_eventValue 3 2 ((some .int)) [.int x1] R0 R1
def lw_s_move (R0 R1 : mj_H → Prop) : Prop := ∀ x1 x2 x3 x4 b : Int32, (b = 0 ∨ b = 1) → lw_sI yX12_move yX13_move cX12_move cX13_move 6 8 ((some .int)) [.int x1, .int x2, .int x3, .int x4, .int b] R0 R1
def lw_s_conforms (R0 R1 : mj_H → Prop) : Prop := ∀ x1 x2 : Int32, lw_sI yX12_conforms yX13_conforms cX12_conforms cX13_conforms 3 11 ((some .int)) [.int x1, .int x2] R0 R1
def lw_s_row (R0 R1 : mj_H → Prop) : Prop := ∀ x1 : Int32, lw_sI yX12_row yX13_row cX12_row cX13_row 2 2 ((some .int)) [.int x1] R0 R1
def lw_s_can (R0 R1 : mj_H → Prop) : Prop := ∀ x1 x2 x3 : Int32, lw_sI yX12_can yX13_can cX12_can cX13_can 4 6 ((some .int)) [.int x1, .int x2, .int x3] R0 R1
/-- all calls: from R0 to R1 with one answer; a row of the script that is no call keeps R0 as R1 -/
def lw_all (R0 R1 : mj_H → Prop) : Prop := (∀ h, R0 h → R1 h) ∧ lw_s_feed R0 R1 ∧ lw_s_end R0 R1 ∧ lw_s_module R0 R1 ∧ lw_s_count R0 R1 ∧ lw_s_value R0 R1 ∧ lw_s_named R0 R1 ∧ lw_s_drop R0 R1 ∧ lw_s_about R0 R1 ∧ lw_s_alike R0 R1 ∧ lw_s_fits R0 R1 ∧ lw_s_within R0 R1 ∧ lw_s_many R0 R1 ∧ lw_s_lightest R0 R1 ∧ lw_s_tell R0 R1 ∧ lw_s_letter R0 R1 ∧ lw_s_met R0 R1 ∧ lw_s_why R0 R1 ∧ lw_s_encode R0 R1 ∧ lw_s_bit R0 R1 ∧ lw_s_bits R0 R1 ∧ lw_s_noBits R0 R1 ∧ lw_s_decode R0 R1 ∧ lw_s_begin R0 R1 ∧ lw_s_run R0 R1 ∧ lw_s_clock R0 R1 ∧ lw_s_give R0 R1 ∧ lw_s_state R0 R1 ∧ lw_s_all R0 R1 ∧ lw_s_queue R0 R1 ∧ lw_s_queued R0 R1 ∧ lw_s_timer R0 R1 ∧ lw_s_variable R0 R1 ∧ lw_s_event R0 R1 ∧ lw_s_eventValue R0 R1 ∧ lw_s_move R0 R1 ∧ lw_s_conforms R0 R1 ∧ lw_s_row R0 R1 ∧ lw_s_can R0 R1
set_option maxHeartbeats 2000000 in
theorem lw_c_feed {D : va_G} {cy : Nat → ClassId} {ad : Nat → Nat} {bs : Nat} {X : State → Heap → Prop} {lnm : String} {i L : Nat} {xs : Nat → Int32} (hx : ∀ U H, X U H → va_X (ad 1000300) L xs U H) (hq : ad 1000300 < bs) (hi : i + 6 ≤ L) (hL : L ≤ 3072) {R0 R1 : mj_H → Prop} {h : mj_H} (hR : R0 h) (hs : lw_s_feed R0 R1) (kk : ∀ h2, R1 h2 → mj_G D cy ad bs X cL_law 4 yL_law.cls (some .boolean) lnm 1909 299716 8203100 1065 (fun v _ => v = some (.int 1)) 1332 [(3, .int (nI i)), (2, .ref 950), (1, .ref 0), (0, .ref 1000300)] [] h2 1065 1065 3859198) : mj_G D cy ad bs X cL_law 4 yL_law.cls (some .boolean) lnm 1909 299716 8203100 1065 (fun v _ => v = some (.int 1)) 200 [(3, .int (nI i)), (2, .ref 950), (1, .ref 0), (0, .ref 1000300)] [] h 1065 1065 3859198 := by
  obtain ⟨⟨fs, e0⟩, dx, P, hdx, hC, hP⟩ := hs (xs (i + 1)) (xs (i + 2)) (xs (i + 3)) (xs (i + 4)) (xs (i + 5)) h hR
  refine mj_aload_n dL_law_200 2 rfl ?_
  refine mj_aload_n dL_law_201 3 rfl ?_
  refine mj_iload_n dL_law_202 0 rfl ?_
  refine mj_iconst (v := 1) dL_law_203 (by decide) ?_
  refine mj_iadd dL_law_204 ?_
  refine mj_sld (i := i + 1) hx hq dL_law_205 (nI_add i 1) (by omega) (by omega) ?_
  refine mj_aload_n dL_law_206 3 rfl ?_
  refine mj_iload_n dL_law_207 0 rfl ?_
  refine mj_iconst (v := 2) dL_law_208 (by decide) ?_
  refine mj_iadd dL_law_209 ?_
  refine mj_sld (i := i + 2) hx hq dL_law_210 (nI_add i 2) (by omega) (by omega) ?_
  refine mj_aload_n dL_law_211 3 rfl ?_
  refine mj_iload_n dL_law_212 0 rfl ?_
  refine mj_iconst (v := 3) dL_law_213 (by decide) ?_
  refine mj_iadd dL_law_214 ?_
  refine mj_sld (i := i + 3) hx hq dL_law_215 (nI_add i 3) (by omega) (by omega) ?_
  refine mj_aload_n dL_law_216 3 rfl ?_
  refine mj_iload_n dL_law_217 0 rfl ?_
  refine mj_iconst (v := 4) dL_law_218 (by decide) ?_
  refine mj_iadd dL_law_219 ?_
  refine mj_sld (i := i + 4) hx hq dL_law_220 (nI_add i 4) (by omega) (by omega) ?_
  refine mj_aload_n dL_law_221 3 rfl ?_
  refine mj_iload_n dL_law_222 0 rfl ?_
  refine mj_iconst (v := 5) dL_law_223 (by decide) ?_
  refine mj_iadd dL_law_224 ?_
  refine mj_sld (i := i + 5) hx hq dL_law_225 (nI_add i 5) (by omega) (by omega) ?_
  refine mj_callV dL_law_226 M_X12_feed hC ML_L_13 IM_X12_feed SE_X12_feed (by decide) e0 rfl (As := [.int (xs (i + 1)), .int (xs (i + 2)), .int (xs (i + 3)), .int (xs (i + 4)), .int (xs (i + 5))]) rfl rfl (by omega) (Nat.le_of_ble_eq_true rfl) (Nat.le_of_ble_eq_true rfl) (Nat.le_of_ble_eq_true rfl) (fun v h1 hp => ?_)
  obtain ⟨⟨fs1, e1⟩, z, dy, rfl, hdy, hC2⟩ := hP v h1 hp
  refine mj_aload_n dL_law_229 1 rfl ?_
  refine mj_aload_n dL_law_230 3 rfl ?_
  refine mj_iload_n dL_law_231 0 rfl ?_
  refine mj_iconst (v := 1) dL_law_232 (by decide) ?_
  refine mj_iadd dL_law_233 ?_
  refine mj_sld (i := i + 1) hx hq dL_law_234 (nI_add i 1) (by omega) (by omega) ?_
  refine mj_aload_n dL_law_235 3 rfl ?_
  refine mj_iload_n dL_law_236 0 rfl ?_
  refine mj_iconst (v := 2) dL_law_237 (by decide) ?_
  refine mj_iadd dL_law_238 ?_
  refine mj_sld (i := i + 2) hx hq dL_law_239 (nI_add i 2) (by omega) (by omega) ?_
  refine mj_aload_n dL_law_240 3 rfl ?_
  refine mj_iload_n dL_law_241 0 rfl ?_
  refine mj_iconst (v := 3) dL_law_242 (by decide) ?_
  refine mj_iadd dL_law_243 ?_
  refine mj_sld (i := i + 3) hx hq dL_law_244 (nI_add i 3) (by omega) (by omega) ?_
  refine mj_aload_n dL_law_245 3 rfl ?_
  refine mj_iload_n dL_law_246 0 rfl ?_
  refine mj_iconst (v := 4) dL_law_247 (by decide) ?_
  refine mj_iadd dL_law_248 ?_
  refine mj_sld (i := i + 4) hx hq dL_law_249 (nI_add i 4) (by omega) (by omega) ?_
  refine mj_aload_n dL_law_250 3 rfl ?_
  refine mj_iload_n dL_law_251 0 rfl ?_
  refine mj_iconst (v := 5) dL_law_252 (by decide) ?_
  refine mj_iadd dL_law_253 ?_
  refine mj_sld (i := i + 5) hx hq dL_law_254 (nI_add i 5) (by omega) (by omega) ?_
  refine mj_callV dL_law_255 M_X13_feed hC2 ML_L_17 IM_X13_feed SE_X13_feed (by decide) e1 rfl (As := [.int (xs (i + 1)), .int (xs (i + 2)), .int (xs (i + 3)), .int (xs (i + 4)), .int (xs (i + 5))]) rfl rfl (by omega) (Nat.le_of_ble_eq_true rfl) (Nat.le_of_ble_eq_true rfl) (Nat.le_of_ble_eq_true rfl) (fun v h2 hp2 => ?_)
  obtain ⟨rfl, hR1⟩ := hp2
  refine mj_icmp_eq 1332 dL_law_258 (by decide) (fun _ => kk h2 hR1) (fun z1 => absurd rfl z1)
set_option maxHeartbeats 2000000 in
theorem lw_c_end {D : va_G} {cy : Nat → ClassId} {ad : Nat → Nat} {bs : Nat} {X : State → Heap → Prop} {lnm : String} {i L : Nat} {xs : Nat → Int32} (hx : ∀ U H, X U H → va_X (ad 1000300) L xs U H) (hq : ad 1000300 < bs) (hi : i + 6 ≤ L) (hL : L ≤ 3072) {R0 R1 : mj_H → Prop} {h : mj_H} (hR : R0 h) (hs : lw_s_end R0 R1) (kk : ∀ h2, R1 h2 → mj_G D cy ad bs X cL_law 4 yL_law.cls (some .boolean) lnm 1909 299716 8203100 1065 (fun v _ => v = some (.int 1)) 1332 [(3, .int (nI i)), (2, .ref 950), (1, .ref 0), (0, .ref 1000300)] [] h2 1065 1065 3859198) : mj_G D cy ad bs X cL_law 4 yL_law.cls (some .boolean) lnm 1909 299716 8203100 1065 (fun v _ => v = some (.int 1)) 263 [(3, .int (nI i)), (2, .ref 950), (1, .ref 0), (0, .ref 1000300)] [] h 1065 1065 3859198 := by
  obtain ⟨⟨fs, e0⟩, dx, P, hdx, hC, hP⟩ := hs (xs (i + 1)) h hR
  refine mj_aload_n dL_law_263 2 rfl ?_
  refine mj_aload_n dL_law_264 3 rfl ?_
  refine mj_iload_n dL_law_265 0 rfl ?_
  refine mj_iconst (v := 1) dL_law_266 (by decide) ?_
  refine mj_iadd dL_law_267 ?_
  refine mj_sld (i := i + 1) hx hq dL_law_268 (nI_add i 1) (by omega) (by omega) ?_
  refine mj_callV dL_law_269 M_X12_end hC ML_L_18 IM_X12_end SE_X12_end (by decide) e0 rfl (As := [.int (xs (i + 1))]) rfl rfl (by omega) (Nat.le_of_ble_eq_true rfl) (Nat.le_of_ble_eq_true rfl) (Nat.le_of_ble_eq_true rfl) (fun v h1 hp => ?_)
  obtain ⟨⟨fs1, e1⟩, z, dy, rfl, hdy, hC2⟩ := hP v h1 hp
  refine mj_aload_n dL_law_272 1 rfl ?_
  refine mj_aload_n dL_law_273 3 rfl ?_
  refine mj_iload_n dL_law_274 0 rfl ?_
  refine mj_iconst (v := 1) dL_law_275 (by decide) ?_
  refine mj_iadd dL_law_276 ?_
  refine mj_sld (i := i + 1) hx hq dL_law_277 (nI_add i 1) (by omega) (by omega) ?_
  refine mj_callV dL_law_278 M_X13_end hC2 ML_L_22 IM_X13_end SE_X13_end (by decide) e1 rfl (As := [.int (xs (i + 1))]) rfl rfl (by omega) (Nat.le_of_ble_eq_true rfl) (Nat.le_of_ble_eq_true rfl) (Nat.le_of_ble_eq_true rfl) (fun v h2 hp2 => ?_)
  obtain ⟨rfl, hR1⟩ := hp2
  refine mj_icmp_eq 1332 dL_law_281 (by decide) (fun _ => kk h2 hR1) (fun z1 => absurd rfl z1)
set_option maxHeartbeats 2000000 in
theorem lw_c_module {D : va_G} {cy : Nat → ClassId} {ad : Nat → Nat} {bs : Nat} {X : State → Heap → Prop} {lnm : String} {i L : Nat} {xs : Nat → Int32} (hx : ∀ U H, X U H → va_X (ad 1000300) L xs U H) (hq : ad 1000300 < bs) (hi : i + 6 ≤ L) (hL : L ≤ 3072) {R0 R1 : mj_H → Prop} {h : mj_H} (hR : R0 h) (hs : lw_s_module R0 R1) (kk : ∀ h2, R1 h2 → mj_G D cy ad bs X cL_law 4 yL_law.cls (some .boolean) lnm 1909 299716 8203100 1065 (fun v _ => v = some (.int 1)) 1332 [(3, .int (nI i)), (2, .ref 950), (1, .ref 0), (0, .ref 1000300)] [] h2 1065 1065 3859198) : mj_G D cy ad bs X cL_law 4 yL_law.cls (some .boolean) lnm 1909 299716 8203100 1065 (fun v _ => v = some (.int 1)) 286 [(3, .int (nI i)), (2, .ref 950), (1, .ref 0), (0, .ref 1000300)] [] h 1065 1065 3859198 := by
  obtain ⟨⟨fs, e0⟩, dx, P, hdx, hC, hP⟩ := hs h hR
  refine mj_aload_n dL_law_286 2 rfl ?_
  refine mj_callV dL_law_287 M_X12_module hC ML_L_23 IM_X12_module SE_X12_module (by decide) e0 rfl (As := []) rfl rfl (by omega) (Nat.le_of_ble_eq_true rfl) (Nat.le_of_ble_eq_true rfl) (Nat.le_of_ble_eq_true rfl) (fun v h1 hp => ?_)
  obtain ⟨⟨fs1, e1⟩, z, dy, rfl, hdy, hC2⟩ := hP v h1 hp
  refine mj_aload_n dL_law_290 1 rfl ?_
  refine mj_callV dL_law_291 M_X13_module hC2 ML_L_27 IM_X13_module SE_X13_module (by decide) e1 rfl (As := []) rfl rfl (by omega) (Nat.le_of_ble_eq_true rfl) (Nat.le_of_ble_eq_true rfl) (Nat.le_of_ble_eq_true rfl) (fun v h2 hp2 => ?_)
  obtain ⟨rfl, hR1⟩ := hp2
  refine mj_icmp_eq 1332 dL_law_294 (by decide) (fun _ => kk h2 hR1) (fun z1 => absurd rfl z1)
set_option maxHeartbeats 2000000 in
theorem lw_c_count {D : va_G} {cy : Nat → ClassId} {ad : Nat → Nat} {bs : Nat} {X : State → Heap → Prop} {lnm : String} {i L : Nat} {xs : Nat → Int32} (hx : ∀ U H, X U H → va_X (ad 1000300) L xs U H) (hq : ad 1000300 < bs) (hi : i + 6 ≤ L) (hL : L ≤ 3072) {R0 R1 : mj_H → Prop} {h : mj_H} (hR : R0 h) (hs : lw_s_count R0 R1) (kk : ∀ h2, R1 h2 → mj_G D cy ad bs X cL_law 4 yL_law.cls (some .boolean) lnm 1909 299716 8203100 1065 (fun v _ => v = some (.int 1)) 1332 [(3, .int (nI i)), (2, .ref 950), (1, .ref 0), (0, .ref 1000300)] [] h2 1065 1065 3859198) : mj_G D cy ad bs X cL_law 4 yL_law.cls (some .boolean) lnm 1909 299716 8203100 1065 (fun v _ => v = some (.int 1)) 299 [(3, .int (nI i)), (2, .ref 950), (1, .ref 0), (0, .ref 1000300)] [] h 1065 1065 3859198 := by
  obtain ⟨⟨fs, e0⟩, dx, P, hdx, hC, hP⟩ := hs (xs (i + 1)) h hR
  refine mj_aload_n dL_law_299 2 rfl ?_
  refine mj_aload_n dL_law_300 3 rfl ?_
  refine mj_iload_n dL_law_301 0 rfl ?_
  refine mj_iconst (v := 1) dL_law_302 (by decide) ?_
  refine mj_iadd dL_law_303 ?_
  refine mj_sld (i := i + 1) hx hq dL_law_304 (nI_add i 1) (by omega) (by omega) ?_
  refine mj_callV dL_law_305 M_X12_count hC ML_L_28 IM_X12_count SE_X12_count (by decide) e0 rfl (As := [.int (xs (i + 1))]) rfl rfl (by omega) (Nat.le_of_ble_eq_true rfl) (Nat.le_of_ble_eq_true rfl) (Nat.le_of_ble_eq_true rfl) (fun v h1 hp => ?_)
  obtain ⟨⟨fs1, e1⟩, z, dy, rfl, hdy, hC2⟩ := hP v h1 hp
  refine mj_aload_n dL_law_308 1 rfl ?_
  refine mj_aload_n dL_law_309 3 rfl ?_
  refine mj_iload_n dL_law_310 0 rfl ?_
  refine mj_iconst (v := 1) dL_law_311 (by decide) ?_
  refine mj_iadd dL_law_312 ?_
  refine mj_sld (i := i + 1) hx hq dL_law_313 (nI_add i 1) (by omega) (by omega) ?_
  refine mj_callV dL_law_314 M_X13_count hC2 ML_L_31 IM_X13_count SE_X13_count (by decide) e1 rfl (As := [.int (xs (i + 1))]) rfl rfl (by omega) (Nat.le_of_ble_eq_true rfl) (Nat.le_of_ble_eq_true rfl) (Nat.le_of_ble_eq_true rfl) (fun v h2 hp2 => ?_)
  obtain ⟨rfl, hR1⟩ := hp2
  refine mj_icmp_eq 1332 dL_law_317 (by decide) (fun _ => kk h2 hR1) (fun z1 => absurd rfl z1)
set_option maxHeartbeats 2000000 in
theorem lw_c_value {D : va_G} {cy : Nat → ClassId} {ad : Nat → Nat} {bs : Nat} {X : State → Heap → Prop} {lnm : String} {i L : Nat} {xs : Nat → Int32} (hx : ∀ U H, X U H → va_X (ad 1000300) L xs U H) (hq : ad 1000300 < bs) (hi : i + 6 ≤ L) (hL : L ≤ 3072) {R0 R1 : mj_H → Prop} {h : mj_H} (hR : R0 h) (hs : lw_s_value R0 R1) (kk : ∀ h2, R1 h2 → mj_G D cy ad bs X cL_law 4 yL_law.cls (some .boolean) lnm 1909 299716 8203100 1065 (fun v _ => v = some (.int 1)) 1332 [(3, .int (nI i)), (2, .ref 950), (1, .ref 0), (0, .ref 1000300)] [] h2 1065 1065 3859198) : mj_G D cy ad bs X cL_law 4 yL_law.cls (some .boolean) lnm 1909 299716 8203100 1065 (fun v _ => v = some (.int 1)) 322 [(3, .int (nI i)), (2, .ref 950), (1, .ref 0), (0, .ref 1000300)] [] h 1065 1065 3859198 := by
  obtain ⟨⟨fs, e0⟩, dx, P, hdx, hC, hP⟩ := hs h hR
  refine mj_aload_n dL_law_322 2 rfl ?_
  refine mj_callV dL_law_323 M_X12_value hC ML_L_32 IM_X12_value SE_X12_value (by decide) e0 rfl (As := []) rfl rfl (by omega) (Nat.le_of_ble_eq_true rfl) (Nat.le_of_ble_eq_true rfl) (Nat.le_of_ble_eq_true rfl) (fun v h1 hp => ?_)
  obtain ⟨⟨fs1, e1⟩, z, dy, rfl, hdy, hC2⟩ := hP v h1 hp
  refine mj_aload_n dL_law_326 1 rfl ?_
  refine mj_callV dL_law_327 M_X13_value hC2 ML_L_35 IM_X13_value SE_X13_value (by decide) e1 rfl (As := []) rfl rfl (by omega) (Nat.le_of_ble_eq_true rfl) (Nat.le_of_ble_eq_true rfl) (Nat.le_of_ble_eq_true rfl) (fun v h2 hp2 => ?_)
  obtain ⟨rfl, hR1⟩ := hp2
  refine mj_icmp_eq 1332 dL_law_330 (by decide) (fun _ => kk h2 hR1) (fun z1 => absurd rfl z1)
set_option maxHeartbeats 2000000 in
theorem lw_c_named {D : va_G} {cy : Nat → ClassId} {ad : Nat → Nat} {bs : Nat} {X : State → Heap → Prop} {lnm : String} {i L : Nat} {xs : Nat → Int32} (hx : ∀ U H, X U H → va_X (ad 1000300) L xs U H) (hq : ad 1000300 < bs) (hi : i + 6 ≤ L) (hL : L ≤ 3072) {R0 R1 : mj_H → Prop} {h : mj_H} (hR : R0 h) (hs : lw_s_named R0 R1) (kk : ∀ h2, R1 h2 → mj_G D cy ad bs X cL_law 4 yL_law.cls (some .boolean) lnm 1909 299716 8203100 1065 (fun v _ => v = some (.int 1)) 1332 [(3, .int (nI i)), (2, .ref 950), (1, .ref 0), (0, .ref 1000300)] [] h2 1065 1065 3859198) : mj_G D cy ad bs X cL_law 4 yL_law.cls (some .boolean) lnm 1909 299716 8203100 1065 (fun v _ => v = some (.int 1)) 335 [(3, .int (nI i)), (2, .ref 950), (1, .ref 0), (0, .ref 1000300)] [] h 1065 1065 3859198 := by
  obtain ⟨⟨fs, e0⟩, dx, P, hdx, hC, hP⟩ := hs h hR
  refine mj_aload_n dL_law_335 2 rfl ?_
  refine mj_callV dL_law_336 M_X12_named hC ML_L_36 IM_X12_named SE_X12_named (by decide) e0 rfl (As := []) rfl rfl (by omega) (Nat.le_of_ble_eq_true rfl) (Nat.le_of_ble_eq_true rfl) (Nat.le_of_ble_eq_true rfl) (fun v h1 hp => ?_)
  obtain ⟨⟨fs1, e1⟩, z, dy, rfl, hdy, hC2⟩ := hP v h1 hp
  refine mj_aload_n dL_law_339 1 rfl ?_
  refine mj_callV dL_law_340 M_X13_named hC2 ML_L_39 IM_X13_named SE_X13_named (by decide) e1 rfl (As := []) rfl rfl (by omega) (Nat.le_of_ble_eq_true rfl) (Nat.le_of_ble_eq_true rfl) (Nat.le_of_ble_eq_true rfl) (fun v h2 hp2 => ?_)
  obtain ⟨rfl, hR1⟩ := hp2
  refine mj_icmp_eq 1332 dL_law_343 (by decide) (fun _ => kk h2 hR1) (fun z1 => absurd rfl z1)
set_option maxHeartbeats 2000000 in
theorem lw_c_drop {D : va_G} {cy : Nat → ClassId} {ad : Nat → Nat} {bs : Nat} {X : State → Heap → Prop} {lnm : String} {i L : Nat} {xs : Nat → Int32} (hx : ∀ U H, X U H → va_X (ad 1000300) L xs U H) (hq : ad 1000300 < bs) (hi : i + 6 ≤ L) (hL : L ≤ 3072) {R0 R1 : mj_H → Prop} {h : mj_H} (hR : R0 h) (hs : lw_s_drop R0 R1) (kk : ∀ h2, R1 h2 → mj_G D cy ad bs X cL_law 4 yL_law.cls (some .boolean) lnm 1909 299716 8203100 1065 (fun v _ => v = some (.int 1)) 1332 [(3, .int (nI i)), (2, .ref 950), (1, .ref 0), (0, .ref 1000300)] [] h2 1065 1065 3859198) : mj_G D cy ad bs X cL_law 4 yL_law.cls (some .boolean) lnm 1909 299716 8203100 1065 (fun v _ => v = some (.int 1)) 348 [(3, .int (nI i)), (2, .ref 950), (1, .ref 0), (0, .ref 1000300)] [] h 1065 1065 3859198 := by
  obtain ⟨⟨fs, e0⟩, dx, P, hdx, hC, hP⟩ := hs h hR
  refine mj_aload_n dL_law_348 2 rfl ?_
  refine mj_callV dL_law_349 M_X12_drop hC ML_L_40 IM_X12_drop SE_X12_drop (by decide) e0 rfl (As := []) rfl rfl (by omega) (Nat.le_of_ble_eq_true rfl) (Nat.le_of_ble_eq_true rfl) (Nat.le_of_ble_eq_true rfl) (fun v h1 hp => ?_)
  obtain ⟨⟨fs1, e1⟩, z, dy, rfl, hdy, hC2⟩ := hP v h1 hp
  refine mj_aload_n dL_law_352 1 rfl ?_
  refine mj_callV dL_law_353 M_X13_drop hC2 ML_L_43 IM_X13_drop SE_X13_drop (by decide) e1 rfl (As := []) rfl rfl (by omega) (Nat.le_of_ble_eq_true rfl) (Nat.le_of_ble_eq_true rfl) (Nat.le_of_ble_eq_true rfl) (fun v h2 hp2 => ?_)
  obtain ⟨rfl, hR1⟩ := hp2
  refine mj_icmp_eq 1332 dL_law_356 (by decide) (fun _ => kk h2 hR1) (fun z1 => absurd rfl z1)
set_option maxHeartbeats 2000000 in
theorem lw_c_about {D : va_G} {cy : Nat → ClassId} {ad : Nat → Nat} {bs : Nat} {X : State → Heap → Prop} {lnm : String} {i L : Nat} {xs : Nat → Int32} (hx : ∀ U H, X U H → va_X (ad 1000300) L xs U H) (hq : ad 1000300 < bs) (hi : i + 6 ≤ L) (hL : L ≤ 3072) {R0 R1 : mj_H → Prop} {h : mj_H} (hR : R0 h) (hs : lw_s_about R0 R1) (kk : ∀ h2, R1 h2 → mj_G D cy ad bs X cL_law 4 yL_law.cls (some .boolean) lnm 1909 299716 8203100 1065 (fun v _ => v = some (.int 1)) 1332 [(3, .int (nI i)), (2, .ref 950), (1, .ref 0), (0, .ref 1000300)] [] h2 1065 1065 3859198) : mj_G D cy ad bs X cL_law 4 yL_law.cls (some .boolean) lnm 1909 299716 8203100 1065 (fun v _ => v = some (.int 1)) 361 [(3, .int (nI i)), (2, .ref 950), (1, .ref 0), (0, .ref 1000300)] [] h 1065 1065 3859198 := by
  obtain ⟨⟨fs, e0⟩, dx, P, hdx, hC, hP⟩ := hs (xs (i + 1)) (xs (i + 2)) h hR
  refine mj_aload_n dL_law_361 2 rfl ?_
  refine mj_aload_n dL_law_362 3 rfl ?_
  refine mj_iload_n dL_law_363 0 rfl ?_
  refine mj_iconst (v := 1) dL_law_364 (by decide) ?_
  refine mj_iadd dL_law_365 ?_
  refine mj_sld (i := i + 1) hx hq dL_law_366 (nI_add i 1) (by omega) (by omega) ?_
  refine mj_aload_n dL_law_367 3 rfl ?_
  refine mj_iload_n dL_law_368 0 rfl ?_
  refine mj_iconst (v := 2) dL_law_369 (by decide) ?_
  refine mj_iadd dL_law_370 ?_
  refine mj_sld (i := i + 2) hx hq dL_law_371 (nI_add i 2) (by omega) (by omega) ?_
  refine mj_callV dL_law_372 M_X12_about hC ML_L_44 IM_X12_about SE_X12_about (by decide) e0 rfl (As := [.int (xs (i + 1)), .int (xs (i + 2))]) rfl rfl (by omega) (Nat.le_of_ble_eq_true rfl) (Nat.le_of_ble_eq_true rfl) (Nat.le_of_ble_eq_true rfl) (fun v h1 hp => ?_)
  obtain ⟨⟨fs1, e1⟩, z, dy, rfl, hdy, hC2⟩ := hP v h1 hp
  refine mj_aload_n dL_law_375 1 rfl ?_
  refine mj_aload_n dL_law_376 3 rfl ?_
  refine mj_iload_n dL_law_377 0 rfl ?_
  refine mj_iconst (v := 1) dL_law_378 (by decide) ?_
  refine mj_iadd dL_law_379 ?_
  refine mj_sld (i := i + 1) hx hq dL_law_380 (nI_add i 1) (by omega) (by omega) ?_
  refine mj_aload_n dL_law_381 3 rfl ?_
  refine mj_iload_n dL_law_382 0 rfl ?_
  refine mj_iconst (v := 2) dL_law_383 (by decide) ?_
  refine mj_iadd dL_law_384 ?_
  refine mj_sld (i := i + 2) hx hq dL_law_385 (nI_add i 2) (by omega) (by omega) ?_
  refine mj_callV dL_law_386 M_X13_about hC2 ML_L_48 IM_X13_about SE_X13_about (by decide) e1 rfl (As := [.int (xs (i + 1)), .int (xs (i + 2))]) rfl rfl (by omega) (Nat.le_of_ble_eq_true rfl) (Nat.le_of_ble_eq_true rfl) (Nat.le_of_ble_eq_true rfl) (fun v h2 hp2 => ?_)
  obtain ⟨rfl, hR1⟩ := hp2
  refine mj_icmp_eq 1332 dL_law_389 (by decide) (fun _ => kk h2 hR1) (fun z1 => absurd rfl z1)
set_option maxHeartbeats 2000000 in
theorem lw_c_alike {D : va_G} {cy : Nat → ClassId} {ad : Nat → Nat} {bs : Nat} {X : State → Heap → Prop} {lnm : String} {i L : Nat} {xs : Nat → Int32} (hx : ∀ U H, X U H → va_X (ad 1000300) L xs U H) (hq : ad 1000300 < bs) (hi : i + 6 ≤ L) (hL : L ≤ 3072) {R0 R1 : mj_H → Prop} {h : mj_H} (hR : R0 h) (hs : lw_s_alike R0 R1) (kk : ∀ h2, R1 h2 → mj_G D cy ad bs X cL_law 4 yL_law.cls (some .boolean) lnm 1909 299716 8203100 1065 (fun v _ => v = some (.int 1)) 1332 [(3, .int (nI i)), (2, .ref 950), (1, .ref 0), (0, .ref 1000300)] [] h2 1065 1065 3859198) : mj_G D cy ad bs X cL_law 4 yL_law.cls (some .boolean) lnm 1909 299716 8203100 1065 (fun v _ => v = some (.int 1)) 394 [(3, .int (nI i)), (2, .ref 950), (1, .ref 0), (0, .ref 1000300)] [] h 1065 1065 3859198 := by
  obtain ⟨⟨fs, e0⟩, dx, P, hdx, hC, hP⟩ := hs (xs (i + 1)) (xs (i + 2)) h hR
  refine mj_aload_n dL_law_394 2 rfl ?_
  refine mj_aload_n dL_law_395 3 rfl ?_
  refine mj_iload_n dL_law_396 0 rfl ?_
  refine mj_iconst (v := 1) dL_law_397 (by decide) ?_
  refine mj_iadd dL_law_398 ?_
  refine mj_sld (i := i + 1) hx hq dL_law_399 (nI_add i 1) (by omega) (by omega) ?_
  refine mj_aload_n dL_law_400 3 rfl ?_
  refine mj_iload_n dL_law_401 0 rfl ?_
  refine mj_iconst (v := 2) dL_law_402 (by decide) ?_
  refine mj_iadd dL_law_403 ?_
  refine mj_sld (i := i + 2) hx hq dL_law_404 (nI_add i 2) (by omega) (by omega) ?_
  refine mj_callV dL_law_405 M_X12_alike hC ML_L_49 IM_X12_alike SE_X12_alike (by decide) e0 rfl (As := [.int (xs (i + 1)), .int (xs (i + 2))]) rfl rfl (by omega) (Nat.le_of_ble_eq_true rfl) (Nat.le_of_ble_eq_true rfl) (Nat.le_of_ble_eq_true rfl) (fun v h1 hp => ?_)
  obtain ⟨⟨fs1, e1⟩, z, dy, rfl, hdy, hC2⟩ := hP v h1 hp
  refine mj_aload_n dL_law_408 1 rfl ?_
  refine mj_aload_n dL_law_409 3 rfl ?_
  refine mj_iload_n dL_law_410 0 rfl ?_
  refine mj_iconst (v := 1) dL_law_411 (by decide) ?_
  refine mj_iadd dL_law_412 ?_
  refine mj_sld (i := i + 1) hx hq dL_law_413 (nI_add i 1) (by omega) (by omega) ?_
  refine mj_aload_n dL_law_414 3 rfl ?_
  refine mj_iload_n dL_law_415 0 rfl ?_
  refine mj_iconst (v := 2) dL_law_416 (by decide) ?_
  refine mj_iadd dL_law_417 ?_
  refine mj_sld (i := i + 2) hx hq dL_law_418 (nI_add i 2) (by omega) (by omega) ?_
  refine mj_callV dL_law_419 M_X13_alike hC2 ML_L_52 IM_X13_alike SE_X13_alike (by decide) e1 rfl (As := [.int (xs (i + 1)), .int (xs (i + 2))]) rfl rfl (by omega) (Nat.le_of_ble_eq_true rfl) (Nat.le_of_ble_eq_true rfl) (Nat.le_of_ble_eq_true rfl) (fun v h2 hp2 => ?_)
  obtain ⟨rfl, hR1⟩ := hp2
  refine mj_icmp_eq 1332 dL_law_422 (by decide) (fun _ => kk h2 hR1) (fun z1 => absurd rfl z1)
set_option maxHeartbeats 2000000 in
theorem lw_c_fits {D : va_G} {cy : Nat → ClassId} {ad : Nat → Nat} {bs : Nat} {X : State → Heap → Prop} {lnm : String} {i L : Nat} {xs : Nat → Int32} (hx : ∀ U H, X U H → va_X (ad 1000300) L xs U H) (hq : ad 1000300 < bs) (hi : i + 6 ≤ L) (hL : L ≤ 3072) {R0 R1 : mj_H → Prop} {h : mj_H} (hR : R0 h) (hs : lw_s_fits R0 R1) (kk : ∀ h2, R1 h2 → mj_G D cy ad bs X cL_law 4 yL_law.cls (some .boolean) lnm 1909 299716 8203100 1065 (fun v _ => v = some (.int 1)) 1332 [(3, .int (nI i)), (2, .ref 950), (1, .ref 0), (0, .ref 1000300)] [] h2 1065 1065 3859198) : mj_G D cy ad bs X cL_law 4 yL_law.cls (some .boolean) lnm 1909 299716 8203100 1065 (fun v _ => v = some (.int 1)) 427 [(3, .int (nI i)), (2, .ref 950), (1, .ref 0), (0, .ref 1000300)] [] h 1065 1065 3859198 := by
  obtain ⟨⟨fs, e0⟩, dx, P, hdx, hC, hP⟩ := hs (xs (i + 1)) (xs (i + 2)) h hR
  refine mj_aload_n dL_law_427 2 rfl ?_
  refine mj_aload_n dL_law_428 3 rfl ?_
  refine mj_iload_n dL_law_429 0 rfl ?_
  refine mj_iconst (v := 1) dL_law_430 (by decide) ?_
  refine mj_iadd dL_law_431 ?_
  refine mj_sld (i := i + 1) hx hq dL_law_432 (nI_add i 1) (by omega) (by omega) ?_
  refine mj_aload_n dL_law_433 3 rfl ?_
  refine mj_iload_n dL_law_434 0 rfl ?_
  refine mj_iconst (v := 2) dL_law_435 (by decide) ?_
  refine mj_iadd dL_law_436 ?_
  refine mj_sld (i := i + 2) hx hq dL_law_437 (nI_add i 2) (by omega) (by omega) ?_
  refine mj_callV dL_law_438 M_X12_fits hC ML_L_53 IM_X12_fits SE_X12_fits (by decide) e0 rfl (As := [.int (xs (i + 1)), .int (xs (i + 2))]) rfl rfl (by omega) (Nat.le_of_ble_eq_true rfl) (Nat.le_of_ble_eq_true rfl) (Nat.le_of_ble_eq_true rfl) (fun v h1 hp => ?_)
  obtain ⟨⟨fs1, e1⟩, z, dy, rfl, hdy, hC2⟩ := hP v h1 hp
  refine mj_aload_n dL_law_441 1 rfl ?_
  refine mj_aload_n dL_law_442 3 rfl ?_
  refine mj_iload_n dL_law_443 0 rfl ?_
  refine mj_iconst (v := 1) dL_law_444 (by decide) ?_
  refine mj_iadd dL_law_445 ?_
  refine mj_sld (i := i + 1) hx hq dL_law_446 (nI_add i 1) (by omega) (by omega) ?_
  refine mj_aload_n dL_law_447 3 rfl ?_
  refine mj_iload_n dL_law_448 0 rfl ?_
  refine mj_iconst (v := 2) dL_law_449 (by decide) ?_
  refine mj_iadd dL_law_450 ?_
  refine mj_sld (i := i + 2) hx hq dL_law_451 (nI_add i 2) (by omega) (by omega) ?_
  refine mj_callV dL_law_452 M_X13_fits hC2 ML_L_56 IM_X13_fits SE_X13_fits (by decide) e1 rfl (As := [.int (xs (i + 1)), .int (xs (i + 2))]) rfl rfl (by omega) (Nat.le_of_ble_eq_true rfl) (Nat.le_of_ble_eq_true rfl) (Nat.le_of_ble_eq_true rfl) (fun v h2 hp2 => ?_)
  obtain ⟨rfl, hR1⟩ := hp2
  refine mj_icmp_eq 1332 dL_law_455 (by decide) (fun _ => kk h2 hR1) (fun z1 => absurd rfl z1)
set_option maxHeartbeats 2000000 in
theorem lw_c_within {D : va_G} {cy : Nat → ClassId} {ad : Nat → Nat} {bs : Nat} {X : State → Heap → Prop} {lnm : String} {i L : Nat} {xs : Nat → Int32} (hx : ∀ U H, X U H → va_X (ad 1000300) L xs U H) (hq : ad 1000300 < bs) (hi : i + 6 ≤ L) (hL : L ≤ 3072) {R0 R1 : mj_H → Prop} {h : mj_H} (hR : R0 h) (hs : lw_s_within R0 R1) (kk : ∀ h2, R1 h2 → mj_G D cy ad bs X cL_law 4 yL_law.cls (some .boolean) lnm 1909 299716 8203100 1065 (fun v _ => v = some (.int 1)) 1332 [(3, .int (nI i)), (2, .ref 950), (1, .ref 0), (0, .ref 1000300)] [] h2 1065 1065 3859198) : mj_G D cy ad bs X cL_law 4 yL_law.cls (some .boolean) lnm 1909 299716 8203100 1065 (fun v _ => v = some (.int 1)) 460 [(3, .int (nI i)), (2, .ref 950), (1, .ref 0), (0, .ref 1000300)] [] h 1065 1065 3859198 := by
  obtain ⟨⟨fs, e0⟩, dx, P, hdx, hC, hP⟩ := hs (xs (i + 1)) (xs (i + 2)) h hR
  refine mj_aload_n dL_law_460 2 rfl ?_
  refine mj_aload_n dL_law_461 3 rfl ?_
  refine mj_iload_n dL_law_462 0 rfl ?_
  refine mj_iconst (v := 1) dL_law_463 (by decide) ?_
  refine mj_iadd dL_law_464 ?_
  refine mj_sld (i := i + 1) hx hq dL_law_465 (nI_add i 1) (by omega) (by omega) ?_
  refine mj_aload_n dL_law_466 3 rfl ?_
  refine mj_iload_n dL_law_467 0 rfl ?_
  refine mj_iconst (v := 2) dL_law_468 (by decide) ?_
  refine mj_iadd dL_law_469 ?_
  refine mj_sld (i := i + 2) hx hq dL_law_470 (nI_add i 2) (by omega) (by omega) ?_
  refine mj_callV dL_law_471 M_X12_within hC ML_L_57 IM_X12_within SE_X12_within (by decide) e0 rfl (As := [.int (xs (i + 1)), .int (xs (i + 2))]) rfl rfl (by omega) (Nat.le_of_ble_eq_true rfl) (Nat.le_of_ble_eq_true rfl) (Nat.le_of_ble_eq_true rfl) (fun v h1 hp => ?_)
  obtain ⟨⟨fs1, e1⟩, z, dy, rfl, hdy, hC2⟩ := hP v h1 hp
  refine mj_aload_n dL_law_474 1 rfl ?_
  refine mj_aload_n dL_law_475 3 rfl ?_
  refine mj_iload_n dL_law_476 0 rfl ?_
  refine mj_iconst (v := 1) dL_law_477 (by decide) ?_
  refine mj_iadd dL_law_478 ?_
  refine mj_sld (i := i + 1) hx hq dL_law_479 (nI_add i 1) (by omega) (by omega) ?_
  refine mj_aload_n dL_law_480 3 rfl ?_
  refine mj_iload_n dL_law_481 0 rfl ?_
  refine mj_iconst (v := 2) dL_law_482 (by decide) ?_
  refine mj_iadd dL_law_483 ?_
  refine mj_sld (i := i + 2) hx hq dL_law_484 (nI_add i 2) (by omega) (by omega) ?_
  refine mj_callV dL_law_485 M_X13_within hC2 ML_L_60 IM_X13_within SE_X13_within (by decide) e1 rfl (As := [.int (xs (i + 1)), .int (xs (i + 2))]) rfl rfl (by omega) (Nat.le_of_ble_eq_true rfl) (Nat.le_of_ble_eq_true rfl) (Nat.le_of_ble_eq_true rfl) (fun v h2 hp2 => ?_)
  obtain ⟨rfl, hR1⟩ := hp2
  refine mj_icmp_eq 1332 dL_law_488 (by decide) (fun _ => kk h2 hR1) (fun z1 => absurd rfl z1)
set_option maxHeartbeats 2000000 in
theorem lw_c_many {D : va_G} {cy : Nat → ClassId} {ad : Nat → Nat} {bs : Nat} {X : State → Heap → Prop} {lnm : String} {i L : Nat} {xs : Nat → Int32} (hx : ∀ U H, X U H → va_X (ad 1000300) L xs U H) (hq : ad 1000300 < bs) (hi : i + 6 ≤ L) (hL : L ≤ 3072) {R0 R1 : mj_H → Prop} {h : mj_H} (hR : R0 h) (hs : lw_s_many R0 R1) (kk : ∀ h2, R1 h2 → mj_G D cy ad bs X cL_law 4 yL_law.cls (some .boolean) lnm 1909 299716 8203100 1065 (fun v _ => v = some (.int 1)) 1332 [(3, .int (nI i)), (2, .ref 950), (1, .ref 0), (0, .ref 1000300)] [] h2 1065 1065 3859198) : mj_G D cy ad bs X cL_law 4 yL_law.cls (some .boolean) lnm 1909 299716 8203100 1065 (fun v _ => v = some (.int 1)) 493 [(3, .int (nI i)), (2, .ref 950), (1, .ref 0), (0, .ref 1000300)] [] h 1065 1065 3859198 := by
  obtain ⟨⟨fs, e0⟩, dx, P, hdx, hC, hP⟩ := hs (xs (i + 1)) (xs (i + 2)) h hR
  refine mj_aload_n dL_law_493 2 rfl ?_
  refine mj_aload_n dL_law_494 3 rfl ?_
  refine mj_iload_n dL_law_495 0 rfl ?_
  refine mj_iconst (v := 1) dL_law_496 (by decide) ?_
  refine mj_iadd dL_law_497 ?_
  refine mj_sld (i := i + 1) hx hq dL_law_498 (nI_add i 1) (by omega) (by omega) ?_
  refine mj_aload_n dL_law_499 3 rfl ?_
  refine mj_iload_n dL_law_500 0 rfl ?_
  refine mj_iconst (v := 2) dL_law_501 (by decide) ?_
  refine mj_iadd dL_law_502 ?_
  refine mj_sld (i := i + 2) hx hq dL_law_503 (nI_add i 2) (by omega) (by omega) ?_
  refine mj_callV dL_law_504 M_X12_many hC ML_L_61 IM_X12_many SE_X12_many (by decide) e0 rfl (As := [.int (xs (i + 1)), .int (xs (i + 2))]) rfl rfl (by omega) (Nat.le_of_ble_eq_true rfl) (Nat.le_of_ble_eq_true rfl) (Nat.le_of_ble_eq_true rfl) (fun v h1 hp => ?_)
  obtain ⟨⟨fs1, e1⟩, z, dy, rfl, hdy, hC2⟩ := hP v h1 hp
  refine mj_aload_n dL_law_507 1 rfl ?_
  refine mj_aload_n dL_law_508 3 rfl ?_
  refine mj_iload_n dL_law_509 0 rfl ?_
  refine mj_iconst (v := 1) dL_law_510 (by decide) ?_
  refine mj_iadd dL_law_511 ?_
  refine mj_sld (i := i + 1) hx hq dL_law_512 (nI_add i 1) (by omega) (by omega) ?_
  refine mj_aload_n dL_law_513 3 rfl ?_
  refine mj_iload_n dL_law_514 0 rfl ?_
  refine mj_iconst (v := 2) dL_law_515 (by decide) ?_
  refine mj_iadd dL_law_516 ?_
  refine mj_sld (i := i + 2) hx hq dL_law_517 (nI_add i 2) (by omega) (by omega) ?_
  refine mj_callV dL_law_518 M_X13_many hC2 ML_L_65 IM_X13_many SE_X13_many (by decide) e1 rfl (As := [.int (xs (i + 1)), .int (xs (i + 2))]) rfl rfl (by omega) (Nat.le_of_ble_eq_true rfl) (Nat.le_of_ble_eq_true rfl) (Nat.le_of_ble_eq_true rfl) (fun v h2 hp2 => ?_)
  obtain ⟨rfl, hR1⟩ := hp2
  refine mj_lcmp dL_law_521 ?_
  refine mj_if_eq 1332 dL_law_522 (by decide) (fun _ => kk h2 hR1) (fun z1 => absurd (lg_cmp_self _) z1)
set_option maxHeartbeats 2000000 in
theorem lw_c_lightest {D : va_G} {cy : Nat → ClassId} {ad : Nat → Nat} {bs : Nat} {X : State → Heap → Prop} {lnm : String} {i L : Nat} {xs : Nat → Int32} (hx : ∀ U H, X U H → va_X (ad 1000300) L xs U H) (hq : ad 1000300 < bs) (hi : i + 6 ≤ L) (hL : L ≤ 3072) {R0 R1 : mj_H → Prop} {h : mj_H} (hR : R0 h) (hs : lw_s_lightest R0 R1) (kk : ∀ h2, R1 h2 → mj_G D cy ad bs X cL_law 4 yL_law.cls (some .boolean) lnm 1909 299716 8203100 1065 (fun v _ => v = some (.int 1)) 1332 [(3, .int (nI i)), (2, .ref 950), (1, .ref 0), (0, .ref 1000300)] [] h2 1065 1065 3859198) : mj_G D cy ad bs X cL_law 4 yL_law.cls (some .boolean) lnm 1909 299716 8203100 1065 (fun v _ => v = some (.int 1)) 527 [(3, .int (nI i)), (2, .ref 950), (1, .ref 0), (0, .ref 1000300)] [] h 1065 1065 3859198 := by
  obtain ⟨⟨fs, e0⟩, dx, P, hdx, hC, hP⟩ := hs (xs (i + 1)) h hR
  refine mj_aload_n dL_law_527 2 rfl ?_
  refine mj_aload_n dL_law_528 3 rfl ?_
  refine mj_iload_n dL_law_529 0 rfl ?_
  refine mj_iconst (v := 1) dL_law_530 (by decide) ?_
  refine mj_iadd dL_law_531 ?_
  refine mj_sld (i := i + 1) hx hq dL_law_532 (nI_add i 1) (by omega) (by omega) ?_
  refine mj_callV dL_law_533 M_X12_lightest hC ML_L_66 IM_X12_lightest SE_X12_lightest (by decide) e0 rfl (As := [.int (xs (i + 1))]) rfl rfl (by omega) (Nat.le_of_ble_eq_true rfl) (Nat.le_of_ble_eq_true rfl) (Nat.le_of_ble_eq_true rfl) (fun v h1 hp => ?_)
  obtain ⟨⟨fs1, e1⟩, z, dy, rfl, hdy, hC2⟩ := hP v h1 hp
  refine mj_aload_n dL_law_536 1 rfl ?_
  refine mj_aload_n dL_law_537 3 rfl ?_
  refine mj_iload_n dL_law_538 0 rfl ?_
  refine mj_iconst (v := 1) dL_law_539 (by decide) ?_
  refine mj_iadd dL_law_540 ?_
  refine mj_sld (i := i + 1) hx hq dL_law_541 (nI_add i 1) (by omega) (by omega) ?_
  refine mj_callV dL_law_542 M_X13_lightest hC2 ML_L_69 IM_X13_lightest SE_X13_lightest (by decide) e1 rfl (As := [.int (xs (i + 1))]) rfl rfl (by omega) (Nat.le_of_ble_eq_true rfl) (Nat.le_of_ble_eq_true rfl) (Nat.le_of_ble_eq_true rfl) (fun v h2 hp2 => ?_)
  obtain ⟨rfl, hR1⟩ := hp2
  refine mj_icmp_eq 1332 dL_law_545 (by decide) (fun _ => kk h2 hR1) (fun z1 => absurd rfl z1)
set_option maxHeartbeats 2000000 in
theorem lw_c_tell {D : va_G} {cy : Nat → ClassId} {ad : Nat → Nat} {bs : Nat} {X : State → Heap → Prop} {lnm : String} {i L : Nat} {xs : Nat → Int32} (hx : ∀ U H, X U H → va_X (ad 1000300) L xs U H) (hq : ad 1000300 < bs) (hi : i + 6 ≤ L) (hL : L ≤ 3072) {R0 R1 : mj_H → Prop} {h : mj_H} (hR : R0 h) (hs : lw_s_tell R0 R1) (kk : ∀ h2, R1 h2 → mj_G D cy ad bs X cL_law 4 yL_law.cls (some .boolean) lnm 1909 299716 8203100 1065 (fun v _ => v = some (.int 1)) 1332 [(3, .int (nI i)), (2, .ref 950), (1, .ref 0), (0, .ref 1000300)] [] h2 1065 1065 3859198) : mj_G D cy ad bs X cL_law 4 yL_law.cls (some .boolean) lnm 1909 299716 8203100 1065 (fun v _ => v = some (.int 1)) 550 [(3, .int (nI i)), (2, .ref 950), (1, .ref 0), (0, .ref 1000300)] [] h 1065 1065 3859198 := by
  obtain ⟨⟨fs, e0⟩, dx, P, hdx, hC, hP⟩ := hs (xs (i + 1)) h hR
  refine mj_aload_n dL_law_550 2 rfl ?_
  refine mj_aload_n dL_law_551 3 rfl ?_
  refine mj_iload_n dL_law_552 0 rfl ?_
  refine mj_iconst (v := 1) dL_law_553 (by decide) ?_
  refine mj_iadd dL_law_554 ?_
  refine mj_sld (i := i + 1) hx hq dL_law_555 (nI_add i 1) (by omega) (by omega) ?_
  refine mj_callV dL_law_556 M_X12_tell hC ML_L_70 IM_X12_tell SE_X12_tell (by decide) e0 rfl (As := [.int (xs (i + 1))]) rfl rfl (by omega) (Nat.le_of_ble_eq_true rfl) (Nat.le_of_ble_eq_true rfl) (Nat.le_of_ble_eq_true rfl) (fun v h1 hp => ?_)
  obtain ⟨⟨fs1, e1⟩, z, dy, rfl, hdy, hC2⟩ := hP v h1 hp
  refine mj_aload_n dL_law_559 1 rfl ?_
  refine mj_aload_n dL_law_560 3 rfl ?_
  refine mj_iload_n dL_law_561 0 rfl ?_
  refine mj_iconst (v := 1) dL_law_562 (by decide) ?_
  refine mj_iadd dL_law_563 ?_
  refine mj_sld (i := i + 1) hx hq dL_law_564 (nI_add i 1) (by omega) (by omega) ?_
  refine mj_callV dL_law_565 M_X13_tell hC2 ML_L_73 IM_X13_tell SE_X13_tell (by decide) e1 rfl (As := [.int (xs (i + 1))]) rfl rfl (by omega) (Nat.le_of_ble_eq_true rfl) (Nat.le_of_ble_eq_true rfl) (Nat.le_of_ble_eq_true rfl) (fun v h2 hp2 => ?_)
  obtain ⟨rfl, hR1⟩ := hp2
  refine mj_icmp_eq 1332 dL_law_568 (by decide) (fun _ => kk h2 hR1) (fun z1 => absurd rfl z1)
set_option maxHeartbeats 2000000 in
theorem lw_c_letter {D : va_G} {cy : Nat → ClassId} {ad : Nat → Nat} {bs : Nat} {X : State → Heap → Prop} {lnm : String} {i L : Nat} {xs : Nat → Int32} (hx : ∀ U H, X U H → va_X (ad 1000300) L xs U H) (hq : ad 1000300 < bs) (hi : i + 6 ≤ L) (hL : L ≤ 3072) {R0 R1 : mj_H → Prop} {h : mj_H} (hR : R0 h) (hs : lw_s_letter R0 R1) (kk : ∀ h2, R1 h2 → mj_G D cy ad bs X cL_law 4 yL_law.cls (some .boolean) lnm 1909 299716 8203100 1065 (fun v _ => v = some (.int 1)) 1332 [(3, .int (nI i)), (2, .ref 950), (1, .ref 0), (0, .ref 1000300)] [] h2 1065 1065 3859198) : mj_G D cy ad bs X cL_law 4 yL_law.cls (some .boolean) lnm 1909 299716 8203100 1065 (fun v _ => v = some (.int 1)) 573 [(3, .int (nI i)), (2, .ref 950), (1, .ref 0), (0, .ref 1000300)] [] h 1065 1065 3859198 := by
  obtain ⟨⟨fs, e0⟩, dx, P, hdx, hC, hP⟩ := hs (xs (i + 1)) h hR
  refine mj_aload_n dL_law_573 2 rfl ?_
  refine mj_aload_n dL_law_574 3 rfl ?_
  refine mj_iload_n dL_law_575 0 rfl ?_
  refine mj_iconst (v := 1) dL_law_576 (by decide) ?_
  refine mj_iadd dL_law_577 ?_
  refine mj_sld (i := i + 1) hx hq dL_law_578 (nI_add i 1) (by omega) (by omega) ?_
  refine mj_callV dL_law_579 M_X12_letter hC ML_L_74 IM_X12_letter SE_X12_letter (by decide) e0 rfl (As := [.int (xs (i + 1))]) rfl rfl (by omega) (Nat.le_of_ble_eq_true rfl) (Nat.le_of_ble_eq_true rfl) (Nat.le_of_ble_eq_true rfl) (fun v h1 hp => ?_)
  obtain ⟨⟨fs1, e1⟩, z, dy, rfl, hdy, hC2⟩ := hP v h1 hp
  refine mj_aload_n dL_law_582 1 rfl ?_
  refine mj_aload_n dL_law_583 3 rfl ?_
  refine mj_iload_n dL_law_584 0 rfl ?_
  refine mj_iconst (v := 1) dL_law_585 (by decide) ?_
  refine mj_iadd dL_law_586 ?_
  refine mj_sld (i := i + 1) hx hq dL_law_587 (nI_add i 1) (by omega) (by omega) ?_
  refine mj_callV dL_law_588 M_X13_letter hC2 ML_L_77 IM_X13_letter SE_X13_letter (by decide) e1 rfl (As := [.int (xs (i + 1))]) rfl rfl (by omega) (Nat.le_of_ble_eq_true rfl) (Nat.le_of_ble_eq_true rfl) (Nat.le_of_ble_eq_true rfl) (fun v h2 hp2 => ?_)
  obtain ⟨rfl, hR1⟩ := hp2
  refine mj_icmp_eq 1332 dL_law_591 (by decide) (fun _ => kk h2 hR1) (fun z1 => absurd rfl z1)
set_option maxHeartbeats 2000000 in
theorem lw_c_met {D : va_G} {cy : Nat → ClassId} {ad : Nat → Nat} {bs : Nat} {X : State → Heap → Prop} {lnm : String} {i L : Nat} {xs : Nat → Int32} (hx : ∀ U H, X U H → va_X (ad 1000300) L xs U H) (hq : ad 1000300 < bs) (hi : i + 6 ≤ L) (hL : L ≤ 3072) {R0 R1 : mj_H → Prop} {h : mj_H} (hR : R0 h) (hs : lw_s_met R0 R1) (kk : ∀ h2, R1 h2 → mj_G D cy ad bs X cL_law 4 yL_law.cls (some .boolean) lnm 1909 299716 8203100 1065 (fun v _ => v = some (.int 1)) 1332 [(3, .int (nI i)), (2, .ref 950), (1, .ref 0), (0, .ref 1000300)] [] h2 1065 1065 3859198) : mj_G D cy ad bs X cL_law 4 yL_law.cls (some .boolean) lnm 1909 299716 8203100 1065 (fun v _ => v = some (.int 1)) 596 [(3, .int (nI i)), (2, .ref 950), (1, .ref 0), (0, .ref 1000300)] [] h 1065 1065 3859198 := by
  obtain ⟨⟨fs, e0⟩, dx, P, hdx, hC, hP⟩ := hs (xs (i + 1)) (xs (i + 2)) h hR
  refine mj_aload_n dL_law_596 2 rfl ?_
  refine mj_aload_n dL_law_597 3 rfl ?_
  refine mj_iload_n dL_law_598 0 rfl ?_
  refine mj_iconst (v := 1) dL_law_599 (by decide) ?_
  refine mj_iadd dL_law_600 ?_
  refine mj_sld (i := i + 1) hx hq dL_law_601 (nI_add i 1) (by omega) (by omega) ?_
  refine mj_aload_n dL_law_602 3 rfl ?_
  refine mj_iload_n dL_law_603 0 rfl ?_
  refine mj_iconst (v := 2) dL_law_604 (by decide) ?_
  refine mj_iadd dL_law_605 ?_
  refine mj_sld (i := i + 2) hx hq dL_law_606 (nI_add i 2) (by omega) (by omega) ?_
  refine mj_callV dL_law_607 M_X12_met hC ML_L_78 IM_X12_met SE_X12_met (by decide) e0 rfl (As := [.int (xs (i + 1)), .int (xs (i + 2))]) rfl rfl (by omega) (Nat.le_of_ble_eq_true rfl) (Nat.le_of_ble_eq_true rfl) (Nat.le_of_ble_eq_true rfl) (fun v h1 hp => ?_)
  obtain ⟨⟨fs1, e1⟩, z, dy, rfl, hdy, hC2⟩ := hP v h1 hp
  refine mj_aload_n dL_law_610 1 rfl ?_
  refine mj_aload_n dL_law_611 3 rfl ?_
  refine mj_iload_n dL_law_612 0 rfl ?_
  refine mj_iconst (v := 1) dL_law_613 (by decide) ?_
  refine mj_iadd dL_law_614 ?_
  refine mj_sld (i := i + 1) hx hq dL_law_615 (nI_add i 1) (by omega) (by omega) ?_
  refine mj_aload_n dL_law_616 3 rfl ?_
  refine mj_iload_n dL_law_617 0 rfl ?_
  refine mj_iconst (v := 2) dL_law_618 (by decide) ?_
  refine mj_iadd dL_law_619 ?_
  refine mj_sld (i := i + 2) hx hq dL_law_620 (nI_add i 2) (by omega) (by omega) ?_
  refine mj_callV dL_law_621 M_X13_met_ hC2 ML_L_81 IM_X13_met_ SE_X13_met_ (by decide) e1 rfl (As := [.int (xs (i + 1)), .int (xs (i + 2))]) rfl rfl (by omega) (Nat.le_of_ble_eq_true rfl) (Nat.le_of_ble_eq_true rfl) (Nat.le_of_ble_eq_true rfl) (fun v h2 hp2 => ?_)
  obtain ⟨rfl, hR1⟩ := hp2
  refine mj_icmp_eq 1332 dL_law_624 (by decide) (fun _ => kk h2 hR1) (fun z1 => absurd rfl z1)
set_option maxHeartbeats 2000000 in
theorem lw_c_why {D : va_G} {cy : Nat → ClassId} {ad : Nat → Nat} {bs : Nat} {X : State → Heap → Prop} {lnm : String} {i L : Nat} {xs : Nat → Int32} (hx : ∀ U H, X U H → va_X (ad 1000300) L xs U H) (hq : ad 1000300 < bs) (hi : i + 6 ≤ L) (hL : L ≤ 3072) {R0 R1 : mj_H → Prop} {h : mj_H} (hR : R0 h) (hs : lw_s_why R0 R1) (kk : ∀ h2, R1 h2 → mj_G D cy ad bs X cL_law 4 yL_law.cls (some .boolean) lnm 1909 299716 8203100 1065 (fun v _ => v = some (.int 1)) 1332 [(3, .int (nI i)), (2, .ref 950), (1, .ref 0), (0, .ref 1000300)] [] h2 1065 1065 3859198) : mj_G D cy ad bs X cL_law 4 yL_law.cls (some .boolean) lnm 1909 299716 8203100 1065 (fun v _ => v = some (.int 1)) 629 [(3, .int (nI i)), (2, .ref 950), (1, .ref 0), (0, .ref 1000300)] [] h 1065 1065 3859198 := by
  obtain ⟨⟨fs, e0⟩, dx, P, hdx, hC, hP⟩ := hs (xs (i + 1)) h hR
  refine mj_aload_n dL_law_629 2 rfl ?_
  refine mj_aload_n dL_law_630 3 rfl ?_
  refine mj_iload_n dL_law_631 0 rfl ?_
  refine mj_iconst (v := 1) dL_law_632 (by decide) ?_
  refine mj_iadd dL_law_633 ?_
  refine mj_sld (i := i + 1) hx hq dL_law_634 (nI_add i 1) (by omega) (by omega) ?_
  refine mj_callV dL_law_635 M_X12_why hC ML_L_82 IM_X12_why SE_X12_why (by decide) e0 rfl (As := [.int (xs (i + 1))]) rfl rfl (by omega) (Nat.le_of_ble_eq_true rfl) (Nat.le_of_ble_eq_true rfl) (Nat.le_of_ble_eq_true rfl) (fun v h1 hp => ?_)
  obtain ⟨⟨fs1, e1⟩, z, dy, rfl, hdy, hC2⟩ := hP v h1 hp
  refine mj_aload_n dL_law_638 1 rfl ?_
  refine mj_aload_n dL_law_639 3 rfl ?_
  refine mj_iload_n dL_law_640 0 rfl ?_
  refine mj_iconst (v := 1) dL_law_641 (by decide) ?_
  refine mj_iadd dL_law_642 ?_
  refine mj_sld (i := i + 1) hx hq dL_law_643 (nI_add i 1) (by omega) (by omega) ?_
  refine mj_callV dL_law_644 M_X13_why hC2 ML_L_85 IM_X13_why SE_X13_why (by decide) e1 rfl (As := [.int (xs (i + 1))]) rfl rfl (by omega) (Nat.le_of_ble_eq_true rfl) (Nat.le_of_ble_eq_true rfl) (Nat.le_of_ble_eq_true rfl) (fun v h2 hp2 => ?_)
  obtain ⟨rfl, hR1⟩ := hp2
  refine mj_icmp_eq 1332 dL_law_647 (by decide) (fun _ => kk h2 hR1) (fun z1 => absurd rfl z1)
set_option maxHeartbeats 2000000 in
theorem lw_c_encode {D : va_G} {cy : Nat → ClassId} {ad : Nat → Nat} {bs : Nat} {X : State → Heap → Prop} {lnm : String} {i L : Nat} {xs : Nat → Int32} (hx : ∀ U H, X U H → va_X (ad 1000300) L xs U H) (hq : ad 1000300 < bs) (hi : i + 6 ≤ L) (hL : L ≤ 3072) {R0 R1 : mj_H → Prop} {h : mj_H} (hR : R0 h) (hs : lw_s_encode R0 R1) (kk : ∀ h2, R1 h2 → mj_G D cy ad bs X cL_law 4 yL_law.cls (some .boolean) lnm 1909 299716 8203100 1065 (fun v _ => v = some (.int 1)) 1332 [(3, .int (nI i)), (2, .ref 950), (1, .ref 0), (0, .ref 1000300)] [] h2 1065 1065 3859198) : mj_G D cy ad bs X cL_law 4 yL_law.cls (some .boolean) lnm 1909 299716 8203100 1065 (fun v _ => v = some (.int 1)) 652 [(3, .int (nI i)), (2, .ref 950), (1, .ref 0), (0, .ref 1000300)] [] h 1065 1065 3859198 := by
  obtain ⟨⟨fs, e0⟩, dx, P, hdx, hC, hP⟩ := hs (xs (i + 1)) (xs (i + 2)) h hR
  refine mj_aload_n dL_law_652 2 rfl ?_
  refine mj_aload_n dL_law_653 3 rfl ?_
  refine mj_iload_n dL_law_654 0 rfl ?_
  refine mj_iconst (v := 1) dL_law_655 (by decide) ?_
  refine mj_iadd dL_law_656 ?_
  refine mj_sld (i := i + 1) hx hq dL_law_657 (nI_add i 1) (by omega) (by omega) ?_
  refine mj_aload_n dL_law_658 3 rfl ?_
  refine mj_iload_n dL_law_659 0 rfl ?_
  refine mj_iconst (v := 2) dL_law_660 (by decide) ?_
  refine mj_iadd dL_law_661 ?_
  refine mj_sld (i := i + 2) hx hq dL_law_662 (nI_add i 2) (by omega) (by omega) ?_
  refine mj_callV dL_law_663 M_X12_encode hC ML_L_86 IM_X12_encode SE_X12_encode (by decide) e0 rfl (As := [.int (xs (i + 1)), .int (xs (i + 2))]) rfl rfl (by omega) (Nat.le_of_ble_eq_true rfl) (Nat.le_of_ble_eq_true rfl) (Nat.le_of_ble_eq_true rfl) (fun v h1 hp => ?_)
  obtain ⟨⟨fs1, e1⟩, z, dy, rfl, hdy, hC2⟩ := hP v h1 hp
  refine mj_aload_n dL_law_666 1 rfl ?_
  refine mj_aload_n dL_law_667 3 rfl ?_
  refine mj_iload_n dL_law_668 0 rfl ?_
  refine mj_iconst (v := 1) dL_law_669 (by decide) ?_
  refine mj_iadd dL_law_670 ?_
  refine mj_sld (i := i + 1) hx hq dL_law_671 (nI_add i 1) (by omega) (by omega) ?_
  refine mj_aload_n dL_law_672 3 rfl ?_
  refine mj_iload_n dL_law_673 0 rfl ?_
  refine mj_iconst (v := 2) dL_law_674 (by decide) ?_
  refine mj_iadd dL_law_675 ?_
  refine mj_sld (i := i + 2) hx hq dL_law_676 (nI_add i 2) (by omega) (by omega) ?_
  refine mj_callV dL_law_677 M_X13_encode hC2 ML_L_89 IM_X13_encode SE_X13_encode (by decide) e1 rfl (As := [.int (xs (i + 1)), .int (xs (i + 2))]) rfl rfl (by omega) (Nat.le_of_ble_eq_true rfl) (Nat.le_of_ble_eq_true rfl) (Nat.le_of_ble_eq_true rfl) (fun v h2 hp2 => ?_)
  obtain ⟨rfl, hR1⟩ := hp2
  refine mj_icmp_eq 1332 dL_law_680 (by decide) (fun _ => kk h2 hR1) (fun z1 => absurd rfl z1)
set_option maxHeartbeats 2000000 in
theorem lw_c_bit {D : va_G} {cy : Nat → ClassId} {ad : Nat → Nat} {bs : Nat} {X : State → Heap → Prop} {lnm : String} {i L : Nat} {xs : Nat → Int32} (hx : ∀ U H, X U H → va_X (ad 1000300) L xs U H) (hq : ad 1000300 < bs) (hi : i + 6 ≤ L) (hL : L ≤ 3072) {R0 R1 : mj_H → Prop} {h : mj_H} (hR : R0 h) (hs : lw_s_bit R0 R1) (kk : ∀ h2, R1 h2 → mj_G D cy ad bs X cL_law 4 yL_law.cls (some .boolean) lnm 1909 299716 8203100 1065 (fun v _ => v = some (.int 1)) 1332 [(3, .int (nI i)), (2, .ref 950), (1, .ref 0), (0, .ref 1000300)] [] h2 1065 1065 3859198) : mj_G D cy ad bs X cL_law 4 yL_law.cls (some .boolean) lnm 1909 299716 8203100 1065 (fun v _ => v = some (.int 1)) 685 [(3, .int (nI i)), (2, .ref 950), (1, .ref 0), (0, .ref 1000300)] [] h 1065 1065 3859198 := by
  obtain ⟨⟨fs, e0⟩, dx, P, hdx, hC, hP⟩ := hs (xs (i + 1)) h hR
  refine mj_aload_n dL_law_685 2 rfl ?_
  refine mj_aload_n dL_law_686 3 rfl ?_
  refine mj_iload_n dL_law_687 0 rfl ?_
  refine mj_iconst (v := 1) dL_law_688 (by decide) ?_
  refine mj_iadd dL_law_689 ?_
  refine mj_sld (i := i + 1) hx hq dL_law_690 (nI_add i 1) (by omega) (by omega) ?_
  refine mj_callV dL_law_691 M_X12_bit hC ML_L_90 IM_X12_bit SE_X12_bit (by decide) e0 rfl (As := [.int (xs (i + 1))]) rfl rfl (by omega) (Nat.le_of_ble_eq_true rfl) (Nat.le_of_ble_eq_true rfl) (Nat.le_of_ble_eq_true rfl) (fun v h1 hp => ?_)
  obtain ⟨⟨fs1, e1⟩, z, dy, rfl, hdy, hC2⟩ := hP v h1 hp
  refine mj_aload_n dL_law_694 1 rfl ?_
  refine mj_aload_n dL_law_695 3 rfl ?_
  refine mj_iload_n dL_law_696 0 rfl ?_
  refine mj_iconst (v := 1) dL_law_697 (by decide) ?_
  refine mj_iadd dL_law_698 ?_
  refine mj_sld (i := i + 1) hx hq dL_law_699 (nI_add i 1) (by omega) (by omega) ?_
  refine mj_callV dL_law_700 M_X13_bit hC2 ML_L_93 IM_X13_bit SE_X13_bit (by decide) e1 rfl (As := [.int (xs (i + 1))]) rfl rfl (by omega) (Nat.le_of_ble_eq_true rfl) (Nat.le_of_ble_eq_true rfl) (Nat.le_of_ble_eq_true rfl) (fun v h2 hp2 => ?_)
  obtain ⟨rfl, hR1⟩ := hp2
  refine mj_icmp_eq 1332 dL_law_703 (by decide) (fun _ => kk h2 hR1) (fun z1 => absurd rfl z1)
set_option maxHeartbeats 2000000 in
theorem lw_c_bits {D : va_G} {cy : Nat → ClassId} {ad : Nat → Nat} {bs : Nat} {X : State → Heap → Prop} {lnm : String} {i L : Nat} {xs : Nat → Int32} (hx : ∀ U H, X U H → va_X (ad 1000300) L xs U H) (hq : ad 1000300 < bs) (hi : i + 6 ≤ L) (hL : L ≤ 3072) {R0 R1 : mj_H → Prop} {h : mj_H} (hR : R0 h) (hs : lw_s_bits R0 R1) (kk : ∀ h2, R1 h2 → mj_G D cy ad bs X cL_law 4 yL_law.cls (some .boolean) lnm 1909 299716 8203100 1065 (fun v _ => v = some (.int 1)) 1332 [(3, .int (nI i)), (2, .ref 950), (1, .ref 0), (0, .ref 1000300)] [] h2 1065 1065 3859198) : mj_G D cy ad bs X cL_law 4 yL_law.cls (some .boolean) lnm 1909 299716 8203100 1065 (fun v _ => v = some (.int 1)) 708 [(3, .int (nI i)), (2, .ref 950), (1, .ref 0), (0, .ref 1000300)] [] h 1065 1065 3859198 := by
  obtain ⟨⟨fs, e0⟩, dx, P, hdx, hC, hP⟩ := hs (xs (i + 1)) (xs (i + 2)) h hR
  refine mj_aload_n dL_law_708 2 rfl ?_
  refine mj_aload_n dL_law_709 3 rfl ?_
  refine mj_iload_n dL_law_710 0 rfl ?_
  refine mj_iconst (v := 1) dL_law_711 (by decide) ?_
  refine mj_iadd dL_law_712 ?_
  refine mj_sld (i := i + 1) hx hq dL_law_713 (nI_add i 1) (by omega) (by omega) ?_
  refine mj_aload_n dL_law_714 3 rfl ?_
  refine mj_iload_n dL_law_715 0 rfl ?_
  refine mj_iconst (v := 2) dL_law_716 (by decide) ?_
  refine mj_iadd dL_law_717 ?_
  refine mj_sld (i := i + 2) hx hq dL_law_718 (nI_add i 2) (by omega) (by omega) ?_
  refine mj_callV dL_law_719 M_X12_bits hC ML_L_94 IM_X12_bits SE_X12_bits (by decide) e0 rfl (As := [.int (xs (i + 1)), .int (xs (i + 2))]) rfl rfl (by omega) (Nat.le_of_ble_eq_true rfl) (Nat.le_of_ble_eq_true rfl) (Nat.le_of_ble_eq_true rfl) (fun v h1 hp => ?_)
  obtain ⟨⟨fs1, e1⟩, z, dy, rfl, hdy, hC2⟩ := hP v h1 hp
  refine mj_aload_n dL_law_722 1 rfl ?_
  refine mj_aload_n dL_law_723 3 rfl ?_
  refine mj_iload_n dL_law_724 0 rfl ?_
  refine mj_iconst (v := 1) dL_law_725 (by decide) ?_
  refine mj_iadd dL_law_726 ?_
  refine mj_sld (i := i + 1) hx hq dL_law_727 (nI_add i 1) (by omega) (by omega) ?_
  refine mj_aload_n dL_law_728 3 rfl ?_
  refine mj_iload_n dL_law_729 0 rfl ?_
  refine mj_iconst (v := 2) dL_law_730 (by decide) ?_
  refine mj_iadd dL_law_731 ?_
  refine mj_sld (i := i + 2) hx hq dL_law_732 (nI_add i 2) (by omega) (by omega) ?_
  refine mj_callV dL_law_733 M_X13_bits hC2 ML_L_97 IM_X13_bits SE_X13_bits (by decide) e1 rfl (As := [.int (xs (i + 1)), .int (xs (i + 2))]) rfl rfl (by omega) (Nat.le_of_ble_eq_true rfl) (Nat.le_of_ble_eq_true rfl) (Nat.le_of_ble_eq_true rfl) (fun v h2 hp2 => ?_)
  obtain ⟨rfl, hR1⟩ := hp2
  refine mj_icmp_eq 1332 dL_law_736 (by decide) (fun _ => kk h2 hR1) (fun z1 => absurd rfl z1)
set_option maxHeartbeats 2000000 in
theorem lw_c_noBits {D : va_G} {cy : Nat → ClassId} {ad : Nat → Nat} {bs : Nat} {X : State → Heap → Prop} {lnm : String} {i L : Nat} {xs : Nat → Int32} (hx : ∀ U H, X U H → va_X (ad 1000300) L xs U H) (hq : ad 1000300 < bs) (hi : i + 6 ≤ L) (hL : L ≤ 3072) {R0 R1 : mj_H → Prop} {h : mj_H} (hR : R0 h) (hs : lw_s_noBits R0 R1) (kk : ∀ h2, R1 h2 → mj_G D cy ad bs X cL_law 4 yL_law.cls (some .boolean) lnm 1909 299716 8203100 1065 (fun v _ => v = some (.int 1)) 1332 [(3, .int (nI i)), (2, .ref 950), (1, .ref 0), (0, .ref 1000300)] [] h2 1065 1065 3859198) : mj_G D cy ad bs X cL_law 4 yL_law.cls (some .boolean) lnm 1909 299716 8203100 1065 (fun v _ => v = some (.int 1)) 741 [(3, .int (nI i)), (2, .ref 950), (1, .ref 0), (0, .ref 1000300)] [] h 1065 1065 3859198 := by
  obtain ⟨⟨fs, e0⟩, dx, P, hdx, hC, hP⟩ := hs h hR
  refine mj_aload_n dL_law_741 2 rfl ?_
  refine mj_callV dL_law_742 M_X12_noBits hC ML_L_98 IM_X12_noBits SE_X12_noBits (by decide) e0 rfl (As := []) rfl rfl (by omega) (Nat.le_of_ble_eq_true rfl) (Nat.le_of_ble_eq_true rfl) (Nat.le_of_ble_eq_true rfl) (fun v h1 hp => ?_)
  obtain ⟨⟨fs1, e1⟩, z, dy, rfl, hdy, hC2⟩ := hP v h1 hp
  refine mj_aload_n dL_law_745 1 rfl ?_
  refine mj_callV dL_law_746 M_X13_noBits hC2 ML_L_101 IM_X13_noBits SE_X13_noBits (by decide) e1 rfl (As := []) rfl rfl (by omega) (Nat.le_of_ble_eq_true rfl) (Nat.le_of_ble_eq_true rfl) (Nat.le_of_ble_eq_true rfl) (fun v h2 hp2 => ?_)
  obtain ⟨rfl, hR1⟩ := hp2
  refine mj_icmp_eq 1332 dL_law_749 (by decide) (fun _ => kk h2 hR1) (fun z1 => absurd rfl z1)
set_option maxHeartbeats 2000000 in
theorem lw_c_decode {D : va_G} {cy : Nat → ClassId} {ad : Nat → Nat} {bs : Nat} {X : State → Heap → Prop} {lnm : String} {i L : Nat} {xs : Nat → Int32} (hx : ∀ U H, X U H → va_X (ad 1000300) L xs U H) (hq : ad 1000300 < bs) (hi : i + 6 ≤ L) (hL : L ≤ 3072) {R0 R1 : mj_H → Prop} {h : mj_H} (hR : R0 h) (hs : lw_s_decode R0 R1) (kk : ∀ h2, R1 h2 → mj_G D cy ad bs X cL_law 4 yL_law.cls (some .boolean) lnm 1909 299716 8203100 1065 (fun v _ => v = some (.int 1)) 1332 [(3, .int (nI i)), (2, .ref 950), (1, .ref 0), (0, .ref 1000300)] [] h2 1065 1065 3859198) : mj_G D cy ad bs X cL_law 4 yL_law.cls (some .boolean) lnm 1909 299716 8203100 1065 (fun v _ => v = some (.int 1)) 754 [(3, .int (nI i)), (2, .ref 950), (1, .ref 0), (0, .ref 1000300)] [] h 1065 1065 3859198 := by
  obtain ⟨⟨fs, e0⟩, dx, P, hdx, hC, hP⟩ := hs (xs (i + 1)) h hR
  refine mj_aload_n dL_law_754 2 rfl ?_
  refine mj_aload_n dL_law_755 3 rfl ?_
  refine mj_iload_n dL_law_756 0 rfl ?_
  refine mj_iconst (v := 1) dL_law_757 (by decide) ?_
  refine mj_iadd dL_law_758 ?_
  refine mj_sld (i := i + 1) hx hq dL_law_759 (nI_add i 1) (by omega) (by omega) ?_
  refine mj_callV dL_law_760 M_X12_decode hC ML_L_102 IM_X12_decode SE_X12_decode (by decide) e0 rfl (As := [.int (xs (i + 1))]) rfl rfl (by omega) (Nat.le_of_ble_eq_true rfl) (Nat.le_of_ble_eq_true rfl) (Nat.le_of_ble_eq_true rfl) (fun v h1 hp => ?_)
  obtain ⟨⟨fs1, e1⟩, z, dy, rfl, hdy, hC2⟩ := hP v h1 hp
  refine mj_aload_n dL_law_763 1 rfl ?_
  refine mj_aload_n dL_law_764 3 rfl ?_
  refine mj_iload_n dL_law_765 0 rfl ?_
  refine mj_iconst (v := 1) dL_law_766 (by decide) ?_
  refine mj_iadd dL_law_767 ?_
  refine mj_sld (i := i + 1) hx hq dL_law_768 (nI_add i 1) (by omega) (by omega) ?_
  refine mj_callV dL_law_769 M_X13_decode hC2 ML_L_105 IM_X13_decode SE_X13_decode (by decide) e1 rfl (As := [.int (xs (i + 1))]) rfl rfl (by omega) (Nat.le_of_ble_eq_true rfl) (Nat.le_of_ble_eq_true rfl) (Nat.le_of_ble_eq_true rfl) (fun v h2 hp2 => ?_)
  obtain ⟨rfl, hR1⟩ := hp2
  refine mj_icmp_eq 1332 dL_law_772 (by decide) (fun _ => kk h2 hR1) (fun z1 => absurd rfl z1)
set_option maxHeartbeats 2000000 in
theorem lw_c_begin {D : va_G} {cy : Nat → ClassId} {ad : Nat → Nat} {bs : Nat} {X : State → Heap → Prop} {lnm : String} {i L : Nat} {xs : Nat → Int32} (hx : ∀ U H, X U H → va_X (ad 1000300) L xs U H) (hq : ad 1000300 < bs) (hi : i + 6 ≤ L) (hL : L ≤ 3072) {R0 R1 : mj_H → Prop} {h : mj_H} (hR : R0 h) (hs : lw_s_begin R0 R1) (kk : ∀ h2, R1 h2 → mj_G D cy ad bs X cL_law 4 yL_law.cls (some .boolean) lnm 1909 299716 8203100 1065 (fun v _ => v = some (.int 1)) 1332 [(3, .int (nI i)), (2, .ref 950), (1, .ref 0), (0, .ref 1000300)] [] h2 1065 1065 3859198) : mj_G D cy ad bs X cL_law 4 yL_law.cls (some .boolean) lnm 1909 299716 8203100 1065 (fun v _ => v = some (.int 1)) 777 [(3, .int (nI i)), (2, .ref 950), (1, .ref 0), (0, .ref 1000300)] [] h 1065 1065 3859198 := by
  obtain ⟨⟨fs, e0⟩, dx, P, hdx, hC, hP⟩ := hs (xs (i + 1)) h hR
  refine mj_aload_n dL_law_777 2 rfl ?_
  refine mj_aload_n dL_law_778 3 rfl ?_
  refine mj_iload_n dL_law_779 0 rfl ?_
  refine mj_iconst (v := 1) dL_law_780 (by decide) ?_
  refine mj_iadd dL_law_781 ?_
  refine mj_sld (i := i + 1) hx hq dL_law_782 (nI_add i 1) (by omega) (by omega) ?_
  refine mj_callV dL_law_783 M_X12_begin hC ML_L_106 IM_X12_begin SE_X12_begin (by decide) e0 rfl (As := [.int (xs (i + 1))]) rfl rfl (by omega) (Nat.le_of_ble_eq_true rfl) (Nat.le_of_ble_eq_true rfl) (Nat.le_of_ble_eq_true rfl) (fun v h1 hp => ?_)
  obtain ⟨⟨fs1, e1⟩, z, dy, rfl, hdy, hC2⟩ := hP v h1 hp
  refine mj_aload_n dL_law_786 1 rfl ?_
  refine mj_aload_n dL_law_787 3 rfl ?_
  refine mj_iload_n dL_law_788 0 rfl ?_
  refine mj_iconst (v := 1) dL_law_789 (by decide) ?_
  refine mj_iadd dL_law_790 ?_
  refine mj_sld (i := i + 1) hx hq dL_law_791 (nI_add i 1) (by omega) (by omega) ?_
  refine mj_callV dL_law_792 M_X13_begin hC2 ML_L_109 IM_X13_begin SE_X13_begin (by decide) e1 rfl (As := [.int (xs (i + 1))]) rfl rfl (by omega) (Nat.le_of_ble_eq_true rfl) (Nat.le_of_ble_eq_true rfl) (Nat.le_of_ble_eq_true rfl) (fun v h2 hp2 => ?_)
  obtain ⟨rfl, hR1⟩ := hp2
  refine mj_icmp_eq 1332 dL_law_795 (by decide) (fun _ => kk h2 hR1) (fun z1 => absurd rfl z1)
set_option maxHeartbeats 2000000 in
theorem lw_c_run {D : va_G} {cy : Nat → ClassId} {ad : Nat → Nat} {bs : Nat} {X : State → Heap → Prop} {lnm : String} {i L : Nat} {xs : Nat → Int32} (hx : ∀ U H, X U H → va_X (ad 1000300) L xs U H) (hq : ad 1000300 < bs) (hi : i + 6 ≤ L) (hL : L ≤ 3072) {R0 R1 : mj_H → Prop} {h : mj_H} (hR : R0 h) (hs : lw_s_run R0 R1) (kk : ∀ h2, R1 h2 → mj_G D cy ad bs X cL_law 4 yL_law.cls (some .boolean) lnm 1909 299716 8203100 1065 (fun v _ => v = some (.int 1)) 1332 [(3, .int (nI i)), (2, .ref 950), (1, .ref 0), (0, .ref 1000300)] [] h2 1065 1065 3859198) : mj_G D cy ad bs X cL_law 4 yL_law.cls (some .boolean) lnm 1909 299716 8203100 1065 (fun v _ => v = some (.int 1)) 800 [(3, .int (nI i)), (2, .ref 950), (1, .ref 0), (0, .ref 1000300)] [] h 1065 1065 3859198 := by
  obtain ⟨⟨fs, e0⟩, dx, P, hdx, hC, hP⟩ := hs (xs (i + 1)) (xs (i + 2)) h hR
  refine mj_aload_n dL_law_800 2 rfl ?_
  refine mj_aload_n dL_law_801 3 rfl ?_
  refine mj_iload_n dL_law_802 0 rfl ?_
  refine mj_iconst (v := 1) dL_law_803 (by decide) ?_
  refine mj_iadd dL_law_804 ?_
  refine mj_sld (i := i + 1) hx hq dL_law_805 (nI_add i 1) (by omega) (by omega) ?_
  refine mj_aload_n dL_law_806 3 rfl ?_
  refine mj_iload_n dL_law_807 0 rfl ?_
  refine mj_iconst (v := 2) dL_law_808 (by decide) ?_
  refine mj_iadd dL_law_809 ?_
  refine mj_sld (i := i + 2) hx hq dL_law_810 (nI_add i 2) (by omega) (by omega) ?_
  refine mj_callV dL_law_811 M_X12_run hC ML_L_110 IM_X12_run SE_X12_run (by decide) e0 rfl (As := [.int (xs (i + 1)), .int (xs (i + 2))]) rfl rfl (by omega) (Nat.le_of_ble_eq_true rfl) (Nat.le_of_ble_eq_true rfl) (Nat.le_of_ble_eq_true rfl) (fun v h1 hp => ?_)
  obtain ⟨⟨fs1, e1⟩, z, dy, rfl, hdy, hC2⟩ := hP v h1 hp
  refine mj_aload_n dL_law_814 1 rfl ?_
  refine mj_aload_n dL_law_815 3 rfl ?_
  refine mj_iload_n dL_law_816 0 rfl ?_
  refine mj_iconst (v := 1) dL_law_817 (by decide) ?_
  refine mj_iadd dL_law_818 ?_
  refine mj_sld (i := i + 1) hx hq dL_law_819 (nI_add i 1) (by omega) (by omega) ?_
  refine mj_aload_n dL_law_820 3 rfl ?_
  refine mj_iload_n dL_law_821 0 rfl ?_
  refine mj_iconst (v := 2) dL_law_822 (by decide) ?_
  refine mj_iadd dL_law_823 ?_
  refine mj_sld (i := i + 2) hx hq dL_law_824 (nI_add i 2) (by omega) (by omega) ?_
  refine mj_callV dL_law_825 M_X13_run hC2 ML_L_113 IM_X13_run SE_X13_run (by decide) e1 rfl (As := [.int (xs (i + 1)), .int (xs (i + 2))]) rfl rfl (by omega) (Nat.le_of_ble_eq_true rfl) (Nat.le_of_ble_eq_true rfl) (Nat.le_of_ble_eq_true rfl) (fun v h2 hp2 => ?_)
  obtain ⟨rfl, hR1⟩ := hp2
  refine mj_icmp_eq 1332 dL_law_828 (by decide) (fun _ => kk h2 hR1) (fun z1 => absurd rfl z1)
set_option maxHeartbeats 2000000 in
theorem lw_c_clock {D : va_G} {cy : Nat → ClassId} {ad : Nat → Nat} {bs : Nat} {X : State → Heap → Prop} {lnm : String} {i L : Nat} {xs : Nat → Int32} (hx : ∀ U H, X U H → va_X (ad 1000300) L xs U H) (hq : ad 1000300 < bs) (hi : i + 6 ≤ L) (hL : L ≤ 3072) {R0 R1 : mj_H → Prop} {h : mj_H} (hR : R0 h) (hs : lw_s_clock R0 R1) (kk : ∀ h2, R1 h2 → mj_G D cy ad bs X cL_law 4 yL_law.cls (some .boolean) lnm 1909 299716 8203100 1065 (fun v _ => v = some (.int 1)) 1332 [(3, .int (nI i)), (2, .ref 950), (1, .ref 0), (0, .ref 1000300)] [] h2 1065 1065 3859198) : mj_G D cy ad bs X cL_law 4 yL_law.cls (some .boolean) lnm 1909 299716 8203100 1065 (fun v _ => v = some (.int 1)) 833 [(3, .int (nI i)), (2, .ref 950), (1, .ref 0), (0, .ref 1000300)] [] h 1065 1065 3859198 := by
  obtain ⟨⟨fs, e0⟩, dx, P, hdx, hC, hP⟩ := hs (xs (i + 1)) h hR
  refine mj_aload_n dL_law_833 2 rfl ?_
  refine mj_aload_n dL_law_834 3 rfl ?_
  refine mj_iload_n dL_law_835 0 rfl ?_
  refine mj_iconst (v := 1) dL_law_836 (by decide) ?_
  refine mj_iadd dL_law_837 ?_
  refine mj_sld (i := i + 1) hx hq dL_law_838 (nI_add i 1) (by omega) (by omega) ?_
  refine mj_callV dL_law_839 M_X12_clock hC ML_L_114 IM_X12_clock SE_X12_clock (by decide) e0 rfl (As := [.int (xs (i + 1))]) rfl rfl (by omega) (Nat.le_of_ble_eq_true rfl) (Nat.le_of_ble_eq_true rfl) (Nat.le_of_ble_eq_true rfl) (fun v h1 hp => ?_)
  obtain ⟨⟨fs1, e1⟩, z, dy, rfl, hdy, hC2⟩ := hP v h1 hp
  refine mj_aload_n dL_law_842 1 rfl ?_
  refine mj_aload_n dL_law_843 3 rfl ?_
  refine mj_iload_n dL_law_844 0 rfl ?_
  refine mj_iconst (v := 1) dL_law_845 (by decide) ?_
  refine mj_iadd dL_law_846 ?_
  refine mj_sld (i := i + 1) hx hq dL_law_847 (nI_add i 1) (by omega) (by omega) ?_
  refine mj_callV dL_law_848 M_X13_clock hC2 ML_L_117 IM_X13_clock SE_X13_clock (by decide) e1 rfl (As := [.int (xs (i + 1))]) rfl rfl (by omega) (Nat.le_of_ble_eq_true rfl) (Nat.le_of_ble_eq_true rfl) (Nat.le_of_ble_eq_true rfl) (fun v h2 hp2 => ?_)
  obtain ⟨rfl, hR1⟩ := hp2
  refine mj_icmp_eq 1332 dL_law_851 (by decide) (fun _ => kk h2 hR1) (fun z1 => absurd rfl z1)
set_option maxHeartbeats 2000000 in
theorem lw_c_give {D : va_G} {cy : Nat → ClassId} {ad : Nat → Nat} {bs : Nat} {X : State → Heap → Prop} {lnm : String} {i L : Nat} {xs : Nat → Int32} (hx : ∀ U H, X U H → va_X (ad 1000300) L xs U H) (hq : ad 1000300 < bs) (hi : i + 6 ≤ L) (hL : L ≤ 3072) {R0 R1 : mj_H → Prop} {h : mj_H} (hR : R0 h) (hs : lw_s_give R0 R1) (kk : ∀ h2, R1 h2 → mj_G D cy ad bs X cL_law 4 yL_law.cls (some .boolean) lnm 1909 299716 8203100 1065 (fun v _ => v = some (.int 1)) 1332 [(3, .int (nI i)), (2, .ref 950), (1, .ref 0), (0, .ref 1000300)] [] h2 1065 1065 3859198) : mj_G D cy ad bs X cL_law 4 yL_law.cls (some .boolean) lnm 1909 299716 8203100 1065 (fun v _ => v = some (.int 1)) 856 [(3, .int (nI i)), (2, .ref 950), (1, .ref 0), (0, .ref 1000300)] [] h 1065 1065 3859198 := by
  obtain ⟨⟨fs, e0⟩, dx, P, hdx, hC, hP⟩ := hs (xs (i + 1)) (xs (i + 2)) (xs (i + 3)) h hR
  refine mj_aload_n dL_law_856 2 rfl ?_
  refine mj_aload_n dL_law_857 3 rfl ?_
  refine mj_iload_n dL_law_858 0 rfl ?_
  refine mj_iconst (v := 1) dL_law_859 (by decide) ?_
  refine mj_iadd dL_law_860 ?_
  refine mj_sld (i := i + 1) hx hq dL_law_861 (nI_add i 1) (by omega) (by omega) ?_
  refine mj_aload_n dL_law_862 3 rfl ?_
  refine mj_iload_n dL_law_863 0 rfl ?_
  refine mj_iconst (v := 2) dL_law_864 (by decide) ?_
  refine mj_iadd dL_law_865 ?_
  refine mj_sld (i := i + 2) hx hq dL_law_866 (nI_add i 2) (by omega) (by omega) ?_
  refine mj_aload_n dL_law_867 3 rfl ?_
  refine mj_iload_n dL_law_868 0 rfl ?_
  refine mj_iconst (v := 3) dL_law_869 (by decide) ?_
  refine mj_iadd dL_law_870 ?_
  refine mj_sld (i := i + 3) hx hq dL_law_871 (nI_add i 3) (by omega) (by omega) ?_
  refine mj_callV dL_law_872 M_X12_give hC ML_L_118 IM_X12_give SE_X12_give (by decide) e0 rfl (As := [.int (xs (i + 1)), .int (xs (i + 2)), .int (xs (i + 3))]) rfl rfl (by omega) (Nat.le_of_ble_eq_true rfl) (Nat.le_of_ble_eq_true rfl) (Nat.le_of_ble_eq_true rfl) (fun v h1 hp => ?_)
  obtain ⟨⟨fs1, e1⟩, z, dy, rfl, hdy, hC2⟩ := hP v h1 hp
  refine mj_aload_n dL_law_875 1 rfl ?_
  refine mj_aload_n dL_law_876 3 rfl ?_
  refine mj_iload_n dL_law_877 0 rfl ?_
  refine mj_iconst (v := 1) dL_law_878 (by decide) ?_
  refine mj_iadd dL_law_879 ?_
  refine mj_sld (i := i + 1) hx hq dL_law_880 (nI_add i 1) (by omega) (by omega) ?_
  refine mj_aload_n dL_law_881 3 rfl ?_
  refine mj_iload_n dL_law_882 0 rfl ?_
  refine mj_iconst (v := 2) dL_law_883 (by decide) ?_
  refine mj_iadd dL_law_884 ?_
  refine mj_sld (i := i + 2) hx hq dL_law_885 (nI_add i 2) (by omega) (by omega) ?_
  refine mj_aload_n dL_law_886 3 rfl ?_
  refine mj_iload_n dL_law_887 0 rfl ?_
  refine mj_iconst (v := 3) dL_law_888 (by decide) ?_
  refine mj_iadd dL_law_889 ?_
  refine mj_sld (i := i + 3) hx hq dL_law_890 (nI_add i 3) (by omega) (by omega) ?_
  refine mj_callV dL_law_891 M_X13_give hC2 ML_L_122 IM_X13_give SE_X13_give (by decide) e1 rfl (As := [.int (xs (i + 1)), .int (xs (i + 2)), .int (xs (i + 3))]) rfl rfl (by omega) (Nat.le_of_ble_eq_true rfl) (Nat.le_of_ble_eq_true rfl) (Nat.le_of_ble_eq_true rfl) (fun v h2 hp2 => ?_)
  obtain ⟨rfl, hR1⟩ := hp2
  refine mj_icmp_eq 1332 dL_law_894 (by decide) (fun _ => kk h2 hR1) (fun z1 => absurd rfl z1)
set_option maxHeartbeats 2000000 in
theorem lw_c_state {D : va_G} {cy : Nat → ClassId} {ad : Nat → Nat} {bs : Nat} {X : State → Heap → Prop} {lnm : String} {i L : Nat} {xs : Nat → Int32} (hx : ∀ U H, X U H → va_X (ad 1000300) L xs U H) (hq : ad 1000300 < bs) (hi : i + 6 ≤ L) (hL : L ≤ 3072) {R0 R1 : mj_H → Prop} {h : mj_H} (hR : R0 h) (hs : lw_s_state R0 R1) (kk : ∀ h2, R1 h2 → mj_G D cy ad bs X cL_law 4 yL_law.cls (some .boolean) lnm 1909 299716 8203100 1065 (fun v _ => v = some (.int 1)) 1332 [(3, .int (nI i)), (2, .ref 950), (1, .ref 0), (0, .ref 1000300)] [] h2 1065 1065 3859198) : mj_G D cy ad bs X cL_law 4 yL_law.cls (some .boolean) lnm 1909 299716 8203100 1065 (fun v _ => v = some (.int 1)) 899 [(3, .int (nI i)), (2, .ref 950), (1, .ref 0), (0, .ref 1000300)] [] h 1065 1065 3859198 := by
  obtain ⟨⟨fs, e0⟩, dx, P, hdx, hC, hP⟩ := hs (xs (i + 1)) (xs (i + 2)) h hR
  refine mj_aload_n dL_law_899 2 rfl ?_
  refine mj_aload_n dL_law_900 3 rfl ?_
  refine mj_iload_n dL_law_901 0 rfl ?_
  refine mj_iconst (v := 1) dL_law_902 (by decide) ?_
  refine mj_iadd dL_law_903 ?_
  refine mj_sld (i := i + 1) hx hq dL_law_904 (nI_add i 1) (by omega) (by omega) ?_
  refine mj_aload_n dL_law_905 3 rfl ?_
  refine mj_iload_n dL_law_906 0 rfl ?_
  refine mj_iconst (v := 2) dL_law_907 (by decide) ?_
  refine mj_iadd dL_law_908 ?_
  refine mj_sld (i := i + 2) hx hq dL_law_909 (nI_add i 2) (by omega) (by omega) ?_
  refine mj_callV dL_law_910 M_X12_state hC ML_L_123 IM_X12_state SE_X12_state (by decide) e0 rfl (As := [.int (xs (i + 1)), .int (xs (i + 2))]) rfl rfl (by omega) (Nat.le_of_ble_eq_true rfl) (Nat.le_of_ble_eq_true rfl) (Nat.le_of_ble_eq_true rfl) (fun v h1 hp => ?_)
  obtain ⟨⟨fs1, e1⟩, z, dy, rfl, hdy, hC2⟩ := hP v h1 hp
  refine mj_aload_n dL_law_913 1 rfl ?_
  refine mj_aload_n dL_law_914 3 rfl ?_
  refine mj_iload_n dL_law_915 0 rfl ?_
  refine mj_iconst (v := 1) dL_law_916 (by decide) ?_
  refine mj_iadd dL_law_917 ?_
  refine mj_sld (i := i + 1) hx hq dL_law_918 (nI_add i 1) (by omega) (by omega) ?_
  refine mj_aload_n dL_law_919 3 rfl ?_
  refine mj_iload_n dL_law_920 0 rfl ?_
  refine mj_iconst (v := 2) dL_law_921 (by decide) ?_
  refine mj_iadd dL_law_922 ?_
  refine mj_sld (i := i + 2) hx hq dL_law_923 (nI_add i 2) (by omega) (by omega) ?_
  refine mj_callV dL_law_924 M_X13_state hC2 ML_L_126 IM_X13_state SE_X13_state (by decide) e1 rfl (As := [.int (xs (i + 1)), .int (xs (i + 2))]) rfl rfl (by omega) (Nat.le_of_ble_eq_true rfl) (Nat.le_of_ble_eq_true rfl) (Nat.le_of_ble_eq_true rfl) (fun v h2 hp2 => ?_)
  obtain ⟨rfl, hR1⟩ := hp2
  refine mj_icmp_eq 1332 dL_law_927 (by decide) (fun _ => kk h2 hR1) (fun z1 => absurd rfl z1)
set_option maxHeartbeats 2000000 in
theorem lw_c_all {D : va_G} {cy : Nat → ClassId} {ad : Nat → Nat} {bs : Nat} {X : State → Heap → Prop} {lnm : String} {i L : Nat} {xs : Nat → Int32} (hx : ∀ U H, X U H → va_X (ad 1000300) L xs U H) (hq : ad 1000300 < bs) (hi : i + 6 ≤ L) (hL : L ≤ 3072) {R0 R1 : mj_H → Prop} {h : mj_H} (hR : R0 h) (hs : lw_s_all R0 R1) (kk : ∀ h2, R1 h2 → mj_G D cy ad bs X cL_law 4 yL_law.cls (some .boolean) lnm 1909 299716 8203100 1065 (fun v _ => v = some (.int 1)) 1332 [(3, .int (nI i)), (2, .ref 950), (1, .ref 0), (0, .ref 1000300)] [] h2 1065 1065 3859198) : mj_G D cy ad bs X cL_law 4 yL_law.cls (some .boolean) lnm 1909 299716 8203100 1065 (fun v _ => v = some (.int 1)) 932 [(3, .int (nI i)), (2, .ref 950), (1, .ref 0), (0, .ref 1000300)] [] h 1065 1065 3859198 := by
  obtain ⟨⟨fs, e0⟩, dx, P, hdx, hC, hP⟩ := hs (xs (i + 1)) h hR
  refine mj_aload_n dL_law_932 2 rfl ?_
  refine mj_aload_n dL_law_933 3 rfl ?_
  refine mj_iload_n dL_law_934 0 rfl ?_
  refine mj_iconst (v := 1) dL_law_935 (by decide) ?_
  refine mj_iadd dL_law_936 ?_
  refine mj_sld (i := i + 1) hx hq dL_law_937 (nI_add i 1) (by omega) (by omega) ?_
  refine mj_callV dL_law_938 M_X12_all hC ML_L_127 IM_X12_all SE_X12_all (by decide) e0 rfl (As := [.int (xs (i + 1))]) rfl rfl (by omega) (Nat.le_of_ble_eq_true rfl) (Nat.le_of_ble_eq_true rfl) (Nat.le_of_ble_eq_true rfl) (fun v h1 hp => ?_)
  obtain ⟨⟨fs1, e1⟩, z, dy, rfl, hdy, hC2⟩ := hP v h1 hp
  refine mj_aload_n dL_law_941 1 rfl ?_
  refine mj_aload_n dL_law_942 3 rfl ?_
  refine mj_iload_n dL_law_943 0 rfl ?_
  refine mj_iconst (v := 1) dL_law_944 (by decide) ?_
  refine mj_iadd dL_law_945 ?_
  refine mj_sld (i := i + 1) hx hq dL_law_946 (nI_add i 1) (by omega) (by omega) ?_
  refine mj_callV dL_law_947 M_X13_all hC2 ML_L_131 IM_X13_all SE_X13_all (by decide) e1 rfl (As := [.int (xs (i + 1))]) rfl rfl (by omega) (Nat.le_of_ble_eq_true rfl) (Nat.le_of_ble_eq_true rfl) (Nat.le_of_ble_eq_true rfl) (fun v h2 hp2 => ?_)
  obtain ⟨rfl, hR1⟩ := hp2
  refine mj_lcmp dL_law_950 ?_
  refine mj_if_eq 1332 dL_law_951 (by decide) (fun _ => kk h2 hR1) (fun z1 => absurd (lg_cmp_self _) z1)
set_option maxHeartbeats 2000000 in
theorem lw_c_queue {D : va_G} {cy : Nat → ClassId} {ad : Nat → Nat} {bs : Nat} {X : State → Heap → Prop} {lnm : String} {i L : Nat} {xs : Nat → Int32} (hx : ∀ U H, X U H → va_X (ad 1000300) L xs U H) (hq : ad 1000300 < bs) (hi : i + 6 ≤ L) (hL : L ≤ 3072) {R0 R1 : mj_H → Prop} {h : mj_H} (hR : R0 h) (hs : lw_s_queue R0 R1) (kk : ∀ h2, R1 h2 → mj_G D cy ad bs X cL_law 4 yL_law.cls (some .boolean) lnm 1909 299716 8203100 1065 (fun v _ => v = some (.int 1)) 1332 [(3, .int (nI i)), (2, .ref 950), (1, .ref 0), (0, .ref 1000300)] [] h2 1065 1065 3859198) : mj_G D cy ad bs X cL_law 4 yL_law.cls (some .boolean) lnm 1909 299716 8203100 1065 (fun v _ => v = some (.int 1)) 956 [(3, .int (nI i)), (2, .ref 950), (1, .ref 0), (0, .ref 1000300)] [] h 1065 1065 3859198 := by
  obtain ⟨⟨fs, e0⟩, dx, P, hdx, hC, hP⟩ := hs (xs (i + 1)) (xs (i + 2)) h hR
  refine mj_aload_n dL_law_956 2 rfl ?_
  refine mj_aload_n dL_law_957 3 rfl ?_
  refine mj_iload_n dL_law_958 0 rfl ?_
  refine mj_iconst (v := 1) dL_law_959 (by decide) ?_
  refine mj_iadd dL_law_960 ?_
  refine mj_sld (i := i + 1) hx hq dL_law_961 (nI_add i 1) (by omega) (by omega) ?_
  refine mj_aload_n dL_law_962 3 rfl ?_
  refine mj_iload_n dL_law_963 0 rfl ?_
  refine mj_iconst (v := 2) dL_law_964 (by decide) ?_
  refine mj_iadd dL_law_965 ?_
  refine mj_sld (i := i + 2) hx hq dL_law_966 (nI_add i 2) (by omega) (by omega) ?_
  refine mj_callV dL_law_967 M_X12_queue hC ML_L_132 IM_X12_queue SE_X12_queue (by decide) e0 rfl (As := [.int (xs (i + 1)), .int (xs (i + 2))]) rfl rfl (by omega) (Nat.le_of_ble_eq_true rfl) (Nat.le_of_ble_eq_true rfl) (Nat.le_of_ble_eq_true rfl) (fun v h1 hp => ?_)
  obtain ⟨⟨fs1, e1⟩, z, dy, rfl, hdy, hC2⟩ := hP v h1 hp
  refine mj_aload_n dL_law_970 1 rfl ?_
  refine mj_aload_n dL_law_971 3 rfl ?_
  refine mj_iload_n dL_law_972 0 rfl ?_
  refine mj_iconst (v := 1) dL_law_973 (by decide) ?_
  refine mj_iadd dL_law_974 ?_
  refine mj_sld (i := i + 1) hx hq dL_law_975 (nI_add i 1) (by omega) (by omega) ?_
  refine mj_aload_n dL_law_976 3 rfl ?_
  refine mj_iload_n dL_law_977 0 rfl ?_
  refine mj_iconst (v := 2) dL_law_978 (by decide) ?_
  refine mj_iadd dL_law_979 ?_
  refine mj_sld (i := i + 2) hx hq dL_law_980 (nI_add i 2) (by omega) (by omega) ?_
  refine mj_callV dL_law_981 M_X13_queue hC2 ML_L_135 IM_X13_queue SE_X13_queue (by decide) e1 rfl (As := [.int (xs (i + 1)), .int (xs (i + 2))]) rfl rfl (by omega) (Nat.le_of_ble_eq_true rfl) (Nat.le_of_ble_eq_true rfl) (Nat.le_of_ble_eq_true rfl) (fun v h2 hp2 => ?_)
  obtain ⟨rfl, hR1⟩ := hp2
  refine mj_icmp_eq 1332 dL_law_984 (by decide) (fun _ => kk h2 hR1) (fun z1 => absurd rfl z1)
set_option maxHeartbeats 2000000 in
theorem lw_c_queued {D : va_G} {cy : Nat → ClassId} {ad : Nat → Nat} {bs : Nat} {X : State → Heap → Prop} {lnm : String} {i L : Nat} {xs : Nat → Int32} (hx : ∀ U H, X U H → va_X (ad 1000300) L xs U H) (hq : ad 1000300 < bs) (hi : i + 6 ≤ L) (hL : L ≤ 3072) {R0 R1 : mj_H → Prop} {h : mj_H} (hR : R0 h) (hs : lw_s_queued R0 R1) (kk : ∀ h2, R1 h2 → mj_G D cy ad bs X cL_law 4 yL_law.cls (some .boolean) lnm 1909 299716 8203100 1065 (fun v _ => v = some (.int 1)) 1332 [(3, .int (nI i)), (2, .ref 950), (1, .ref 0), (0, .ref 1000300)] [] h2 1065 1065 3859198) : mj_G D cy ad bs X cL_law 4 yL_law.cls (some .boolean) lnm 1909 299716 8203100 1065 (fun v _ => v = some (.int 1)) 989 [(3, .int (nI i)), (2, .ref 950), (1, .ref 0), (0, .ref 1000300)] [] h 1065 1065 3859198 := by
  obtain ⟨⟨fs, e0⟩, dx, P, hdx, hC, hP⟩ := hs (xs (i + 1)) (xs (i + 2)) (xs (i + 3)) h hR
  refine mj_aload_n dL_law_989 2 rfl ?_
  refine mj_aload_n dL_law_990 3 rfl ?_
  refine mj_iload_n dL_law_991 0 rfl ?_
  refine mj_iconst (v := 1) dL_law_992 (by decide) ?_
  refine mj_iadd dL_law_993 ?_
  refine mj_sld (i := i + 1) hx hq dL_law_994 (nI_add i 1) (by omega) (by omega) ?_
  refine mj_aload_n dL_law_995 3 rfl ?_
  refine mj_iload_n dL_law_996 0 rfl ?_
  refine mj_iconst (v := 2) dL_law_997 (by decide) ?_
  refine mj_iadd dL_law_998 ?_
  refine mj_sld (i := i + 2) hx hq dL_law_999 (nI_add i 2) (by omega) (by omega) ?_
  refine mj_aload_n dL_law_1000 3 rfl ?_
  refine mj_iload_n dL_law_1001 0 rfl ?_
  refine mj_iconst (v := 3) dL_law_1002 (by decide) ?_
  refine mj_iadd dL_law_1003 ?_
  refine mj_sld (i := i + 3) hx hq dL_law_1004 (nI_add i 3) (by omega) (by omega) ?_
  refine mj_callV dL_law_1005 M_X12_queued hC ML_L_136 IM_X12_queued SE_X12_queued (by decide) e0 rfl (As := [.int (xs (i + 1)), .int (xs (i + 2)), .int (xs (i + 3))]) rfl rfl (by omega) (Nat.le_of_ble_eq_true rfl) (Nat.le_of_ble_eq_true rfl) (Nat.le_of_ble_eq_true rfl) (fun v h1 hp => ?_)
  obtain ⟨⟨fs1, e1⟩, z, dy, rfl, hdy, hC2⟩ := hP v h1 hp
  refine mj_aload_n dL_law_1008 1 rfl ?_
  refine mj_aload_n dL_law_1009 3 rfl ?_
  refine mj_iload_n dL_law_1010 0 rfl ?_
  refine mj_iconst (v := 1) dL_law_1011 (by decide) ?_
  refine mj_iadd dL_law_1012 ?_
  refine mj_sld (i := i + 1) hx hq dL_law_1013 (nI_add i 1) (by omega) (by omega) ?_
  refine mj_aload_n dL_law_1014 3 rfl ?_
  refine mj_iload_n dL_law_1015 0 rfl ?_
  refine mj_iconst (v := 2) dL_law_1016 (by decide) ?_
  refine mj_iadd dL_law_1017 ?_
  refine mj_sld (i := i + 2) hx hq dL_law_1018 (nI_add i 2) (by omega) (by omega) ?_
  refine mj_aload_n dL_law_1019 3 rfl ?_
  refine mj_iload_n dL_law_1020 0 rfl ?_
  refine mj_iconst (v := 3) dL_law_1021 (by decide) ?_
  refine mj_iadd dL_law_1022 ?_
  refine mj_sld (i := i + 3) hx hq dL_law_1023 (nI_add i 3) (by omega) (by omega) ?_
  refine mj_callV dL_law_1024 M_X13_queued hC2 ML_L_139 IM_X13_queued SE_X13_queued (by decide) e1 rfl (As := [.int (xs (i + 1)), .int (xs (i + 2)), .int (xs (i + 3))]) rfl rfl (by omega) (Nat.le_of_ble_eq_true rfl) (Nat.le_of_ble_eq_true rfl) (Nat.le_of_ble_eq_true rfl) (fun v h2 hp2 => ?_)
  obtain ⟨rfl, hR1⟩ := hp2
  refine mj_icmp_eq 1332 dL_law_1027 (by decide) (fun _ => kk h2 hR1) (fun z1 => absurd rfl z1)
set_option maxHeartbeats 2000000 in
theorem lw_c_timer {D : va_G} {cy : Nat → ClassId} {ad : Nat → Nat} {bs : Nat} {X : State → Heap → Prop} {lnm : String} {i L : Nat} {xs : Nat → Int32} (hx : ∀ U H, X U H → va_X (ad 1000300) L xs U H) (hq : ad 1000300 < bs) (hi : i + 6 ≤ L) (hL : L ≤ 3072) {R0 R1 : mj_H → Prop} {h : mj_H} (hR : R0 h) (hs : lw_s_timer R0 R1) (kk : ∀ h2, R1 h2 → mj_G D cy ad bs X cL_law 4 yL_law.cls (some .boolean) lnm 1909 299716 8203100 1065 (fun v _ => v = some (.int 1)) 1332 [(3, .int (nI i)), (2, .ref 950), (1, .ref 0), (0, .ref 1000300)] [] h2 1065 1065 3859198) : mj_G D cy ad bs X cL_law 4 yL_law.cls (some .boolean) lnm 1909 299716 8203100 1065 (fun v _ => v = some (.int 1)) 1032 [(3, .int (nI i)), (2, .ref 950), (1, .ref 0), (0, .ref 1000300)] [] h 1065 1065 3859198 := by
  obtain ⟨⟨fs, e0⟩, dx, P, hdx, hC, hP⟩ := hs (xs (i + 1)) (xs (i + 2)) h hR
  refine mj_aload_n dL_law_1032 2 rfl ?_
  refine mj_aload_n dL_law_1033 3 rfl ?_
  refine mj_iload_n dL_law_1034 0 rfl ?_
  refine mj_iconst (v := 1) dL_law_1035 (by decide) ?_
  refine mj_iadd dL_law_1036 ?_
  refine mj_sld (i := i + 1) hx hq dL_law_1037 (nI_add i 1) (by omega) (by omega) ?_
  refine mj_aload_n dL_law_1038 3 rfl ?_
  refine mj_iload_n dL_law_1039 0 rfl ?_
  refine mj_iconst (v := 2) dL_law_1040 (by decide) ?_
  refine mj_iadd dL_law_1041 ?_
  refine mj_sld (i := i + 2) hx hq dL_law_1042 (nI_add i 2) (by omega) (by omega) ?_
  refine mj_callV dL_law_1043 M_X12_timer hC ML_L_140 IM_X12_timer SE_X12_timer (by decide) e0 rfl (As := [.int (xs (i + 1)), .int (xs (i + 2))]) rfl rfl (by omega) (Nat.le_of_ble_eq_true rfl) (Nat.le_of_ble_eq_true rfl) (Nat.le_of_ble_eq_true rfl) (fun v h1 hp => ?_)
  obtain ⟨⟨fs1, e1⟩, z, dy, rfl, hdy, hC2⟩ := hP v h1 hp
  refine mj_aload_n dL_law_1046 1 rfl ?_
  refine mj_aload_n dL_law_1047 3 rfl ?_
  refine mj_iload_n dL_law_1048 0 rfl ?_
  refine mj_iconst (v := 1) dL_law_1049 (by decide) ?_
  refine mj_iadd dL_law_1050 ?_
  refine mj_sld (i := i + 1) hx hq dL_law_1051 (nI_add i 1) (by omega) (by omega) ?_
  refine mj_aload_n dL_law_1052 3 rfl ?_
  refine mj_iload_n dL_law_1053 0 rfl ?_
  refine mj_iconst (v := 2) dL_law_1054 (by decide) ?_
  refine mj_iadd dL_law_1055 ?_
  refine mj_sld (i := i + 2) hx hq dL_law_1056 (nI_add i 2) (by omega) (by omega) ?_
  refine mj_callV dL_law_1057 M_X13_timer hC2 ML_L_143 IM_X13_timer SE_X13_timer (by decide) e1 rfl (As := [.int (xs (i + 1)), .int (xs (i + 2))]) rfl rfl (by omega) (Nat.le_of_ble_eq_true rfl) (Nat.le_of_ble_eq_true rfl) (Nat.le_of_ble_eq_true rfl) (fun v h2 hp2 => ?_)
  obtain ⟨rfl, hR1⟩ := hp2
  refine mj_icmp_eq 1332 dL_law_1060 (by decide) (fun _ => kk h2 hR1) (fun z1 => absurd rfl z1)
set_option maxHeartbeats 2000000 in
theorem lw_c_variable {D : va_G} {cy : Nat → ClassId} {ad : Nat → Nat} {bs : Nat} {X : State → Heap → Prop} {lnm : String} {i L : Nat} {xs : Nat → Int32} (hx : ∀ U H, X U H → va_X (ad 1000300) L xs U H) (hq : ad 1000300 < bs) (hi : i + 6 ≤ L) (hL : L ≤ 3072) {R0 R1 : mj_H → Prop} {h : mj_H} (hR : R0 h) (hs : lw_s_variable R0 R1) (kk : ∀ h2, R1 h2 → mj_G D cy ad bs X cL_law 4 yL_law.cls (some .boolean) lnm 1909 299716 8203100 1065 (fun v _ => v = some (.int 1)) 1332 [(3, .int (nI i)), (2, .ref 950), (1, .ref 0), (0, .ref 1000300)] [] h2 1065 1065 3859198) : mj_G D cy ad bs X cL_law 4 yL_law.cls (some .boolean) lnm 1909 299716 8203100 1065 (fun v _ => v = some (.int 1)) 1065 [(3, .int (nI i)), (2, .ref 950), (1, .ref 0), (0, .ref 1000300)] [] h 1065 1065 3859198 := by
  obtain ⟨⟨fs, e0⟩, dx, P, hdx, hC, hP⟩ := hs (xs (i + 1)) (xs (i + 2)) h hR
  refine mj_aload_n dL_law_1065 2 rfl ?_
  refine mj_aload_n dL_law_1066 3 rfl ?_
  refine mj_iload_n dL_law_1067 0 rfl ?_
  refine mj_iconst (v := 1) dL_law_1068 (by decide) ?_
  refine mj_iadd dL_law_1069 ?_
  refine mj_sld (i := i + 1) hx hq dL_law_1070 (nI_add i 1) (by omega) (by omega) ?_
  refine mj_aload_n dL_law_1071 3 rfl ?_
  refine mj_iload_n dL_law_1072 0 rfl ?_
  refine mj_iconst (v := 2) dL_law_1073 (by decide) ?_
  refine mj_iadd dL_law_1074 ?_
  refine mj_sld (i := i + 2) hx hq dL_law_1075 (nI_add i 2) (by omega) (by omega) ?_
  refine mj_callV dL_law_1076 M_X12_variable hC ML_L_144 IM_X12_variable SE_X12_variable (by decide) e0 rfl (As := [.int (xs (i + 1)), .int (xs (i + 2))]) rfl rfl (by omega) (Nat.le_of_ble_eq_true rfl) (Nat.le_of_ble_eq_true rfl) (Nat.le_of_ble_eq_true rfl) (fun v h1 hp => ?_)
  obtain ⟨⟨fs1, e1⟩, z, dy, rfl, hdy, hC2⟩ := hP v h1 hp
  refine mj_aload_n dL_law_1079 1 rfl ?_
  refine mj_aload_n dL_law_1080 3 rfl ?_
  refine mj_iload_n dL_law_1081 0 rfl ?_
  refine mj_iconst (v := 1) dL_law_1082 (by decide) ?_
  refine mj_iadd dL_law_1083 ?_
  refine mj_sld (i := i + 1) hx hq dL_law_1084 (nI_add i 1) (by omega) (by omega) ?_
  refine mj_aload_n dL_law_1085 3 rfl ?_
  refine mj_iload_n dL_law_1086 0 rfl ?_
  refine mj_iconst (v := 2) dL_law_1087 (by decide) ?_
  refine mj_iadd dL_law_1088 ?_
  refine mj_sld (i := i + 2) hx hq dL_law_1089 (nI_add i 2) (by omega) (by omega) ?_
  refine mj_callV dL_law_1090 M_X13_variable hC2 ML_L_147 IM_X13_variable SE_X13_variable (by decide) e1 rfl (As := [.int (xs (i + 1)), .int (xs (i + 2))]) rfl rfl (by omega) (Nat.le_of_ble_eq_true rfl) (Nat.le_of_ble_eq_true rfl) (Nat.le_of_ble_eq_true rfl) (fun v h2 hp2 => ?_)
  obtain ⟨rfl, hR1⟩ := hp2
  refine mj_icmp_eq 1332 dL_law_1093 (by decide) (fun _ => kk h2 hR1) (fun z1 => absurd rfl z1)
set_option maxHeartbeats 2000000 in
theorem lw_c_event {D : va_G} {cy : Nat → ClassId} {ad : Nat → Nat} {bs : Nat} {X : State → Heap → Prop} {lnm : String} {i L : Nat} {xs : Nat → Int32} (hx : ∀ U H, X U H → va_X (ad 1000300) L xs U H) (hq : ad 1000300 < bs) (hi : i + 6 ≤ L) (hL : L ≤ 3072) {R0 R1 : mj_H → Prop} {h : mj_H} (hR : R0 h) (hs : lw_s_event R0 R1) (kk : ∀ h2, R1 h2 → mj_G D cy ad bs X cL_law 4 yL_law.cls (some .boolean) lnm 1909 299716 8203100 1065 (fun v _ => v = some (.int 1)) 1332 [(3, .int (nI i)), (2, .ref 950), (1, .ref 0), (0, .ref 1000300)] [] h2 1065 1065 3859198) : mj_G D cy ad bs X cL_law 4 yL_law.cls (some .boolean) lnm 1909 299716 8203100 1065 (fun v _ => v = some (.int 1)) 1098 [(3, .int (nI i)), (2, .ref 950), (1, .ref 0), (0, .ref 1000300)] [] h 1065 1065 3859198 := by
  obtain ⟨⟨fs, e0⟩, dx, P, hdx, hC, hP⟩ := hs (xs (i + 1)) (xs (i + 2)) h hR
  refine mj_aload_n dL_law_1098 2 rfl ?_
  refine mj_aload_n dL_law_1099 3 rfl ?_
  refine mj_iload_n dL_law_1100 0 rfl ?_
  refine mj_iconst (v := 1) dL_law_1101 (by decide) ?_
  refine mj_iadd dL_law_1102 ?_
  refine mj_sld (i := i + 1) hx hq dL_law_1103 (nI_add i 1) (by omega) (by omega) ?_
  refine mj_aload_n dL_law_1104 3 rfl ?_
  refine mj_iload_n dL_law_1105 0 rfl ?_
  refine mj_iconst (v := 2) dL_law_1106 (by decide) ?_
  refine mj_iadd dL_law_1107 ?_
  refine mj_sld (i := i + 2) hx hq dL_law_1108 (nI_add i 2) (by omega) (by omega) ?_
  refine mj_callV dL_law_1109 M_X12_event hC ML_L_148 IM_X12_event SE_X12_event (by decide) e0 rfl (As := [.int (xs (i + 1)), .int (xs (i + 2))]) rfl rfl (by omega) (Nat.le_of_ble_eq_true rfl) (Nat.le_of_ble_eq_true rfl) (Nat.le_of_ble_eq_true rfl) (fun v h1 hp => ?_)
  obtain ⟨⟨fs1, e1⟩, z, dy, rfl, hdy, hC2⟩ := hP v h1 hp
  refine mj_aload_n dL_law_1112 1 rfl ?_
  refine mj_aload_n dL_law_1113 3 rfl ?_
  refine mj_iload_n dL_law_1114 0 rfl ?_
  refine mj_iconst (v := 1) dL_law_1115 (by decide) ?_
  refine mj_iadd dL_law_1116 ?_
  refine mj_sld (i := i + 1) hx hq dL_law_1117 (nI_add i 1) (by omega) (by omega) ?_
  refine mj_aload_n dL_law_1118 3 rfl ?_
  refine mj_iload_n dL_law_1119 0 rfl ?_
  refine mj_iconst (v := 2) dL_law_1120 (by decide) ?_
  refine mj_iadd dL_law_1121 ?_
  refine mj_sld (i := i + 2) hx hq dL_law_1122 (nI_add i 2) (by omega) (by omega) ?_
  refine mj_callV dL_law_1123 M_X13_event_ hC2 ML_L_151 IM_X13_event_ SE_X13_event_ (by decide) e1 rfl (As := [.int (xs (i + 1)), .int (xs (i + 2))]) rfl rfl (by omega) (Nat.le_of_ble_eq_true rfl) (Nat.le_of_ble_eq_true rfl) (Nat.le_of_ble_eq_true rfl) (fun v h2 hp2 => ?_)
  obtain ⟨rfl, hR1⟩ := hp2
  refine mj_icmp_eq 1332 dL_law_1126 (by decide) (fun _ => kk h2 hR1) (fun z1 => absurd rfl z1)
set_option maxHeartbeats 2000000 in
theorem lw_c_eventValue {D : va_G} {cy : Nat → ClassId} {ad : Nat → Nat} {bs : Nat} {X : State → Heap → Prop} {lnm : String} {i L : Nat} {xs : Nat → Int32} (hx : ∀ U H, X U H → va_X (ad 1000300) L xs U H) (hq : ad 1000300 < bs) (hi : i + 6 ≤ L) (hL : L ≤ 3072) {R0 R1 : mj_H → Prop} {h : mj_H} (hR : R0 h) (hs : lw_s_eventValue R0 R1) (kk : ∀ h2, R1 h2 → mj_G D cy ad bs X cL_law 4 yL_law.cls (some .boolean) lnm 1909 299716 8203100 1065 (fun v _ => v = some (.int 1)) 1332 [(3, .int (nI i)), (2, .ref 950), (1, .ref 0), (0, .ref 1000300)] [] h2 1065 1065 3859198) : mj_G D cy ad bs X cL_law 4 yL_law.cls (some .boolean) lnm 1909 299716 8203100 1065 (fun v _ => v = some (.int 1)) 1131 [(3, .int (nI i)), (2, .ref 950), (1, .ref 0), (0, .ref 1000300)] [] h 1065 1065 3859198 := by
  obtain ⟨⟨fs, e0⟩, dx, P, hdx, hC, hP⟩ := hs (xs (i + 1)) h hR
  refine mj_aload_n dL_law_1131 2 rfl ?_
  refine mj_aload_n dL_law_1132 3 rfl ?_
  refine mj_iload_n dL_law_1133 0 rfl ?_
  refine mj_iconst (v := 1) dL_law_1134 (by decide) ?_
  refine mj_iadd dL_law_1135 ?_
  refine mj_sld (i := i + 1) hx hq dL_law_1136 (nI_add i 1) (by omega) (by omega) ?_
  refine mj_callV dL_law_1137 M_X12_eventValue hC ML_L_152 IM_X12_eventValue SE_X12_eventValue (by decide) e0 rfl (As := [.int (xs (i + 1))]) rfl rfl (by omega) (Nat.le_of_ble_eq_true rfl) (Nat.le_of_ble_eq_true rfl) (Nat.le_of_ble_eq_true rfl) (fun v h1 hp => ?_)
  obtain ⟨⟨fs1, e1⟩, z, dy, rfl, hdy, hC2⟩ := hP v h1 hp
  refine mj_aload_n dL_law_1140 1 rfl ?_
  refine mj_aload_n dL_law_1141 3 rfl ?_
  refine mj_iload_n dL_law_1142 0 rfl ?_
  refine mj_iconst (v := 1) dL_law_1143 (by decide) ?_
  refine mj_iadd dL_law_1144 ?_
  refine mj_sld (i := i + 1) hx hq dL_law_1145 (nI_add i 1) (by omega) (by omega) ?_
  refine mj_callV dL_law_1146 M_X13_eventValue hC2 ML_L_155 IM_X13_eventValue SE_X13_eventValue (by decide) e1 rfl (As := [.int (xs (i + 1))]) rfl rfl (by omega) (Nat.le_of_ble_eq_true rfl) (Nat.le_of_ble_eq_true rfl) (Nat.le_of_ble_eq_true rfl) (fun v h2 hp2 => ?_)
  obtain ⟨rfl, hR1⟩ := hp2
  refine mj_icmp_eq 1332 dL_law_1149 (by decide) (fun _ => kk h2 hR1) (fun z1 => absurd rfl z1)
set_option maxHeartbeats 2000000 in
theorem lw_c_move {D : va_G} {cy : Nat → ClassId} {ad : Nat → Nat} {bs : Nat} {X : State → Heap → Prop} {lnm : String} {i L : Nat} {xs : Nat → Int32} (hx : ∀ U H, X U H → va_X (ad 1000300) L xs U H) (hq : ad 1000300 < bs) (hi : i + 6 ≤ L) (hL : L ≤ 3072) {R0 R1 : mj_H → Prop} {h : mj_H} (hR : R0 h) (hs : lw_s_move R0 R1) (kk : ∀ h2, R1 h2 → mj_G D cy ad bs X cL_law 4 yL_law.cls (some .boolean) lnm 1909 299716 8203100 1065 (fun v _ => v = some (.int 1)) 1332 [(3, .int (nI i)), (2, .ref 950), (1, .ref 0), (0, .ref 1000300)] [] h2 1065 1065 3859198) : mj_G D cy ad bs X cL_law 4 yL_law.cls (some .boolean) lnm 1909 299716 8203100 1065 (fun v _ => v = some (.int 1)) 1154 [(3, .int (nI i)), (2, .ref 950), (1, .ref 0), (0, .ref 1000300)] [] h 1065 1065 3859198 := by
  obtain ⟨⟨fs, e0⟩, dx, P, hdx, hC, hP⟩ := hs (xs (i + 1)) (xs (i + 2)) (xs (i + 3)) (xs (i + 4)) (lw_b (xs (i + 5))) (by unfold lw_b; split <;> simp) h hR
  by_cases hz : xs (i + 5) = 0
  · have hbz : lw_b (xs (i + 5)) = 0 := if_pos hz
    rw [hbz] at hC
    refine mj_aload_n dL_law_1154 2 rfl ?_
    refine mj_aload_n dL_law_1155 3 rfl ?_
    refine mj_iload_n dL_law_1156 0 rfl ?_
    refine mj_iconst (v := 1) dL_law_1157 (by decide) ?_
    refine mj_iadd dL_law_1158 ?_
    refine mj_sld (i := i + 1) hx hq dL_law_1159 (nI_add i 1) (by omega) (by omega) ?_
    refine mj_aload_n dL_law_1160 3 rfl ?_
    refine mj_iload_n dL_law_1161 0 rfl ?_
    refine mj_iconst (v := 2) dL_law_1162 (by decide) ?_
    refine mj_iadd dL_law_1163 ?_
    refine mj_sld (i := i + 2) hx hq dL_law_1164 (nI_add i 2) (by omega) (by omega) ?_
    refine mj_aload_n dL_law_1165 3 rfl ?_
    refine mj_iload_n dL_law_1166 0 rfl ?_
    refine mj_iconst (v := 3) dL_law_1167 (by decide) ?_
    refine mj_iadd dL_law_1168 ?_
    refine mj_sld (i := i + 3) hx hq dL_law_1169 (nI_add i 3) (by omega) (by omega) ?_
    refine mj_aload_n dL_law_1170 3 rfl ?_
    refine mj_iload_n dL_law_1171 0 rfl ?_
    refine mj_iconst (v := 4) dL_law_1172 (by decide) ?_
    refine mj_iadd dL_law_1173 ?_
    refine mj_sld (i := i + 4) hx hq dL_law_1174 (nI_add i 4) (by omega) (by omega) ?_
    refine mj_aload_n dL_law_1175 3 rfl ?_
    refine mj_iload_n dL_law_1176 0 rfl ?_
    refine mj_iconst (v := 5) dL_law_1177 (by decide) ?_
    refine mj_iadd dL_law_1178 ?_
    refine mj_sld (i := i + 5) hx hq dL_law_1179 (nI_add i 5) (by omega) (by omega) ?_
    refine mj_if_eq 1187 dL_law_1180 (by decide) (fun _ => ?_) (fun z => absurd hz z)
    refine mj_iconst (v := 0) dL_law_1187 (by decide) ?_
    refine mj_callV dL_law_1188 M_X12_move hC ML_L_156 IM_X12_move SE_X12_move (by decide) e0 rfl (As := [.int (xs (i + 1)), .int (xs (i + 2)), .int (xs (i + 3)), .int (xs (i + 4)), .int 0]) rfl rfl (by omega) (Nat.le_of_ble_eq_true rfl) (Nat.le_of_ble_eq_true rfl) (Nat.le_of_ble_eq_true rfl) (fun v h1 hp => ?_)
    obtain ⟨⟨fs1, e1⟩, z, dy, rfl, hdy, hC2⟩ := hP v h1 hp
    rw [hbz] at hC2
    refine mj_aload_n dL_law_1191 1 rfl ?_
    refine mj_aload_n dL_law_1192 3 rfl ?_
    refine mj_iload_n dL_law_1193 0 rfl ?_
    refine mj_iconst (v := 1) dL_law_1194 (by decide) ?_
    refine mj_iadd dL_law_1195 ?_
    refine mj_sld (i := i + 1) hx hq dL_law_1196 (nI_add i 1) (by omega) (by omega) ?_
    refine mj_aload_n dL_law_1197 3 rfl ?_
    refine mj_iload_n dL_law_1198 0 rfl ?_
    refine mj_iconst (v := 2) dL_law_1199 (by decide) ?_
    refine mj_iadd dL_law_1200 ?_
    refine mj_sld (i := i + 2) hx hq dL_law_1201 (nI_add i 2) (by omega) (by omega) ?_
    refine mj_aload_n dL_law_1202 3 rfl ?_
    refine mj_iload_n dL_law_1203 0 rfl ?_
    refine mj_iconst (v := 3) dL_law_1204 (by decide) ?_
    refine mj_iadd dL_law_1205 ?_
    refine mj_sld (i := i + 3) hx hq dL_law_1206 (nI_add i 3) (by omega) (by omega) ?_
    refine mj_aload_n dL_law_1207 3 rfl ?_
    refine mj_iload_n dL_law_1208 0 rfl ?_
    refine mj_iconst (v := 4) dL_law_1209 (by decide) ?_
    refine mj_iadd dL_law_1210 ?_
    refine mj_sld (i := i + 4) hx hq dL_law_1211 (nI_add i 4) (by omega) (by omega) ?_
    refine mj_aload_n dL_law_1212 3 rfl ?_
    refine mj_iload_n dL_law_1213 0 rfl ?_
    refine mj_iconst (v := 5) dL_law_1214 (by decide) ?_
    refine mj_iadd dL_law_1215 ?_
    refine mj_sld (i := i + 5) hx hq dL_law_1216 (nI_add i 5) (by omega) (by omega) ?_
    refine mj_if_eq 1224 dL_law_1217 (by decide) (fun _ => ?_) (fun z => absurd hz z)
    refine mj_iconst (v := 0) dL_law_1224 (by decide) ?_
    refine mj_callV dL_law_1225 M_X13_move hC2 ML_L_160 IM_X13_move SE_X13_move (by decide) e1 rfl (As := [.int (xs (i + 1)), .int (xs (i + 2)), .int (xs (i + 3)), .int (xs (i + 4)), .int 0]) rfl rfl (by omega) (Nat.le_of_ble_eq_true rfl) (Nat.le_of_ble_eq_true rfl) (Nat.le_of_ble_eq_true rfl) (fun v h2 hp2 => ?_)
    obtain ⟨rfl, hR1⟩ := hp2
    refine mj_icmp_eq 1332 dL_law_1228 (by decide) (fun _ => kk h2 hR1) (fun z1 => absurd rfl z1)
  · have hbz : lw_b (xs (i + 5)) = 1 := if_neg hz
    rw [hbz] at hC
    refine mj_aload_n dL_law_1154 2 rfl ?_
    refine mj_aload_n dL_law_1155 3 rfl ?_
    refine mj_iload_n dL_law_1156 0 rfl ?_
    refine mj_iconst (v := 1) dL_law_1157 (by decide) ?_
    refine mj_iadd dL_law_1158 ?_
    refine mj_sld (i := i + 1) hx hq dL_law_1159 (nI_add i 1) (by omega) (by omega) ?_
    refine mj_aload_n dL_law_1160 3 rfl ?_
    refine mj_iload_n dL_law_1161 0 rfl ?_
    refine mj_iconst (v := 2) dL_law_1162 (by decide) ?_
    refine mj_iadd dL_law_1163 ?_
    refine mj_sld (i := i + 2) hx hq dL_law_1164 (nI_add i 2) (by omega) (by omega) ?_
    refine mj_aload_n dL_law_1165 3 rfl ?_
    refine mj_iload_n dL_law_1166 0 rfl ?_
    refine mj_iconst (v := 3) dL_law_1167 (by decide) ?_
    refine mj_iadd dL_law_1168 ?_
    refine mj_sld (i := i + 3) hx hq dL_law_1169 (nI_add i 3) (by omega) (by omega) ?_
    refine mj_aload_n dL_law_1170 3 rfl ?_
    refine mj_iload_n dL_law_1171 0 rfl ?_
    refine mj_iconst (v := 4) dL_law_1172 (by decide) ?_
    refine mj_iadd dL_law_1173 ?_
    refine mj_sld (i := i + 4) hx hq dL_law_1174 (nI_add i 4) (by omega) (by omega) ?_
    refine mj_aload_n dL_law_1175 3 rfl ?_
    refine mj_iload_n dL_law_1176 0 rfl ?_
    refine mj_iconst (v := 5) dL_law_1177 (by decide) ?_
    refine mj_iadd dL_law_1178 ?_
    refine mj_sld (i := i + 5) hx hq dL_law_1179 (nI_add i 5) (by omega) (by omega) ?_
    refine mj_if_eq 1187 dL_law_1180 (by decide) (fun z => absurd z hz) (fun _ => ?_)
    refine mj_iconst (v := 1) dL_law_1183 (by decide) ?_
    refine mj_goto 1188 dL_law_1184 (by decide) ?_
    refine mj_callV dL_law_1188 M_X12_move hC ML_L_156 IM_X12_move SE_X12_move (by decide) e0 rfl (As := [.int (xs (i + 1)), .int (xs (i + 2)), .int (xs (i + 3)), .int (xs (i + 4)), .int 1]) rfl rfl (by omega) (Nat.le_of_ble_eq_true rfl) (Nat.le_of_ble_eq_true rfl) (Nat.le_of_ble_eq_true rfl) (fun v h1 hp => ?_)
    obtain ⟨⟨fs1, e1⟩, z, dy, rfl, hdy, hC2⟩ := hP v h1 hp
    rw [hbz] at hC2
    refine mj_aload_n dL_law_1191 1 rfl ?_
    refine mj_aload_n dL_law_1192 3 rfl ?_
    refine mj_iload_n dL_law_1193 0 rfl ?_
    refine mj_iconst (v := 1) dL_law_1194 (by decide) ?_
    refine mj_iadd dL_law_1195 ?_
    refine mj_sld (i := i + 1) hx hq dL_law_1196 (nI_add i 1) (by omega) (by omega) ?_
    refine mj_aload_n dL_law_1197 3 rfl ?_
    refine mj_iload_n dL_law_1198 0 rfl ?_
    refine mj_iconst (v := 2) dL_law_1199 (by decide) ?_
    refine mj_iadd dL_law_1200 ?_
    refine mj_sld (i := i + 2) hx hq dL_law_1201 (nI_add i 2) (by omega) (by omega) ?_
    refine mj_aload_n dL_law_1202 3 rfl ?_
    refine mj_iload_n dL_law_1203 0 rfl ?_
    refine mj_iconst (v := 3) dL_law_1204 (by decide) ?_
    refine mj_iadd dL_law_1205 ?_
    refine mj_sld (i := i + 3) hx hq dL_law_1206 (nI_add i 3) (by omega) (by omega) ?_
    refine mj_aload_n dL_law_1207 3 rfl ?_
    refine mj_iload_n dL_law_1208 0 rfl ?_
    refine mj_iconst (v := 4) dL_law_1209 (by decide) ?_
    refine mj_iadd dL_law_1210 ?_
    refine mj_sld (i := i + 4) hx hq dL_law_1211 (nI_add i 4) (by omega) (by omega) ?_
    refine mj_aload_n dL_law_1212 3 rfl ?_
    refine mj_iload_n dL_law_1213 0 rfl ?_
    refine mj_iconst (v := 5) dL_law_1214 (by decide) ?_
    refine mj_iadd dL_law_1215 ?_
    refine mj_sld (i := i + 5) hx hq dL_law_1216 (nI_add i 5) (by omega) (by omega) ?_
    refine mj_if_eq 1224 dL_law_1217 (by decide) (fun z => absurd z hz) (fun _ => ?_)
    refine mj_iconst (v := 1) dL_law_1220 (by decide) ?_
    refine mj_goto 1225 dL_law_1221 (by decide) ?_
    refine mj_callV dL_law_1225 M_X13_move hC2 ML_L_160 IM_X13_move SE_X13_move (by decide) e1 rfl (As := [.int (xs (i + 1)), .int (xs (i + 2)), .int (xs (i + 3)), .int (xs (i + 4)), .int 1]) rfl rfl (by omega) (Nat.le_of_ble_eq_true rfl) (Nat.le_of_ble_eq_true rfl) (Nat.le_of_ble_eq_true rfl) (fun v h2 hp2 => ?_)
    obtain ⟨rfl, hR1⟩ := hp2
    refine mj_icmp_eq 1332 dL_law_1228 (by decide) (fun _ => kk h2 hR1) (fun z1 => absurd rfl z1)
set_option maxHeartbeats 2000000 in
theorem lw_c_conforms {D : va_G} {cy : Nat → ClassId} {ad : Nat → Nat} {bs : Nat} {X : State → Heap → Prop} {lnm : String} {i L : Nat} {xs : Nat → Int32} (hx : ∀ U H, X U H → va_X (ad 1000300) L xs U H) (hq : ad 1000300 < bs) (hi : i + 6 ≤ L) (hL : L ≤ 3072) {R0 R1 : mj_H → Prop} {h : mj_H} (hR : R0 h) (hs : lw_s_conforms R0 R1) (kk : ∀ h2, R1 h2 → mj_G D cy ad bs X cL_law 4 yL_law.cls (some .boolean) lnm 1909 299716 8203100 1065 (fun v _ => v = some (.int 1)) 1332 [(3, .int (nI i)), (2, .ref 950), (1, .ref 0), (0, .ref 1000300)] [] h2 1065 1065 3859198) : mj_G D cy ad bs X cL_law 4 yL_law.cls (some .boolean) lnm 1909 299716 8203100 1065 (fun v _ => v = some (.int 1)) 1233 [(3, .int (nI i)), (2, .ref 950), (1, .ref 0), (0, .ref 1000300)] [] h 1065 1065 3859198 := by
  obtain ⟨⟨fs, e0⟩, dx, P, hdx, hC, hP⟩ := hs (xs (i + 1)) (xs (i + 2)) h hR
  refine mj_aload_n dL_law_1233 2 rfl ?_
  refine mj_aload_n dL_law_1234 3 rfl ?_
  refine mj_iload_n dL_law_1235 0 rfl ?_
  refine mj_iconst (v := 1) dL_law_1236 (by decide) ?_
  refine mj_iadd dL_law_1237 ?_
  refine mj_sld (i := i + 1) hx hq dL_law_1238 (nI_add i 1) (by omega) (by omega) ?_
  refine mj_aload_n dL_law_1239 3 rfl ?_
  refine mj_iload_n dL_law_1240 0 rfl ?_
  refine mj_iconst (v := 2) dL_law_1241 (by decide) ?_
  refine mj_iadd dL_law_1242 ?_
  refine mj_sld (i := i + 2) hx hq dL_law_1243 (nI_add i 2) (by omega) (by omega) ?_
  refine mj_callV dL_law_1244 M_X12_conforms hC ML_L_161 IM_X12_conforms SE_X12_conforms (by decide) e0 rfl (As := [.int (xs (i + 1)), .int (xs (i + 2))]) rfl rfl (by omega) (Nat.le_of_ble_eq_true rfl) (Nat.le_of_ble_eq_true rfl) (Nat.le_of_ble_eq_true rfl) (fun v h1 hp => ?_)
  obtain ⟨⟨fs1, e1⟩, z, dy, rfl, hdy, hC2⟩ := hP v h1 hp
  refine mj_aload_n dL_law_1247 1 rfl ?_
  refine mj_aload_n dL_law_1248 3 rfl ?_
  refine mj_iload_n dL_law_1249 0 rfl ?_
  refine mj_iconst (v := 1) dL_law_1250 (by decide) ?_
  refine mj_iadd dL_law_1251 ?_
  refine mj_sld (i := i + 1) hx hq dL_law_1252 (nI_add i 1) (by omega) (by omega) ?_
  refine mj_aload_n dL_law_1253 3 rfl ?_
  refine mj_iload_n dL_law_1254 0 rfl ?_
  refine mj_iconst (v := 2) dL_law_1255 (by decide) ?_
  refine mj_iadd dL_law_1256 ?_
  refine mj_sld (i := i + 2) hx hq dL_law_1257 (nI_add i 2) (by omega) (by omega) ?_
  refine mj_callV dL_law_1258 M_X13_conforms hC2 ML_L_164 IM_X13_conforms SE_X13_conforms (by decide) e1 rfl (As := [.int (xs (i + 1)), .int (xs (i + 2))]) rfl rfl (by omega) (Nat.le_of_ble_eq_true rfl) (Nat.le_of_ble_eq_true rfl) (Nat.le_of_ble_eq_true rfl) (fun v h2 hp2 => ?_)
  obtain ⟨rfl, hR1⟩ := hp2
  refine mj_icmp_eq 1332 dL_law_1261 (by decide) (fun _ => kk h2 hR1) (fun z1 => absurd rfl z1)
set_option maxHeartbeats 2000000 in
theorem lw_c_row {D : va_G} {cy : Nat → ClassId} {ad : Nat → Nat} {bs : Nat} {X : State → Heap → Prop} {lnm : String} {i L : Nat} {xs : Nat → Int32} (hx : ∀ U H, X U H → va_X (ad 1000300) L xs U H) (hq : ad 1000300 < bs) (hi : i + 6 ≤ L) (hL : L ≤ 3072) {R0 R1 : mj_H → Prop} {h : mj_H} (hR : R0 h) (hs : lw_s_row R0 R1) (kk : ∀ h2, R1 h2 → mj_G D cy ad bs X cL_law 4 yL_law.cls (some .boolean) lnm 1909 299716 8203100 1065 (fun v _ => v = some (.int 1)) 1332 [(3, .int (nI i)), (2, .ref 950), (1, .ref 0), (0, .ref 1000300)] [] h2 1065 1065 3859198) : mj_G D cy ad bs X cL_law 4 yL_law.cls (some .boolean) lnm 1909 299716 8203100 1065 (fun v _ => v = some (.int 1)) 1266 [(3, .int (nI i)), (2, .ref 950), (1, .ref 0), (0, .ref 1000300)] [] h 1065 1065 3859198 := by
  obtain ⟨⟨fs, e0⟩, dx, P, hdx, hC, hP⟩ := hs (xs (i + 1)) h hR
  refine mj_aload_n dL_law_1266 2 rfl ?_
  refine mj_aload_n dL_law_1267 3 rfl ?_
  refine mj_iload_n dL_law_1268 0 rfl ?_
  refine mj_iconst (v := 1) dL_law_1269 (by decide) ?_
  refine mj_iadd dL_law_1270 ?_
  refine mj_sld (i := i + 1) hx hq dL_law_1271 (nI_add i 1) (by omega) (by omega) ?_
  refine mj_callV dL_law_1272 M_X12_row hC ML_L_165 IM_X12_row SE_X12_row (by decide) e0 rfl (As := [.int (xs (i + 1))]) rfl rfl (by omega) (Nat.le_of_ble_eq_true rfl) (Nat.le_of_ble_eq_true rfl) (Nat.le_of_ble_eq_true rfl) (fun v h1 hp => ?_)
  obtain ⟨⟨fs1, e1⟩, z, dy, rfl, hdy, hC2⟩ := hP v h1 hp
  refine mj_aload_n dL_law_1275 1 rfl ?_
  refine mj_aload_n dL_law_1276 3 rfl ?_
  refine mj_iload_n dL_law_1277 0 rfl ?_
  refine mj_iconst (v := 1) dL_law_1278 (by decide) ?_
  refine mj_iadd dL_law_1279 ?_
  refine mj_sld (i := i + 1) hx hq dL_law_1280 (nI_add i 1) (by omega) (by omega) ?_
  refine mj_callV dL_law_1281 M_X13_row hC2 ML_L_168 IM_X13_row SE_X13_row (by decide) e1 rfl (As := [.int (xs (i + 1))]) rfl rfl (by omega) (Nat.le_of_ble_eq_true rfl) (Nat.le_of_ble_eq_true rfl) (Nat.le_of_ble_eq_true rfl) (fun v h2 hp2 => ?_)
  obtain ⟨rfl, hR1⟩ := hp2
  refine mj_icmp_eq 1332 dL_law_1284 (by decide) (fun _ => kk h2 hR1) (fun z1 => absurd rfl z1)
set_option maxHeartbeats 2000000 in
theorem lw_c_can {D : va_G} {cy : Nat → ClassId} {ad : Nat → Nat} {bs : Nat} {X : State → Heap → Prop} {lnm : String} {i L : Nat} {xs : Nat → Int32} (hx : ∀ U H, X U H → va_X (ad 1000300) L xs U H) (hq : ad 1000300 < bs) (hi : i + 6 ≤ L) (hL : L ≤ 3072) {R0 R1 : mj_H → Prop} {h : mj_H} (hR : R0 h) (hs : lw_s_can R0 R1) (kk : ∀ h2, R1 h2 → mj_G D cy ad bs X cL_law 4 yL_law.cls (some .boolean) lnm 1909 299716 8203100 1065 (fun v _ => v = some (.int 1)) 1332 [(3, .int (nI i)), (2, .ref 950), (1, .ref 0), (0, .ref 1000300)] [] h2 1065 1065 3859198) : mj_G D cy ad bs X cL_law 4 yL_law.cls (some .boolean) lnm 1909 299716 8203100 1065 (fun v _ => v = some (.int 1)) 1289 [(3, .int (nI i)), (2, .ref 950), (1, .ref 0), (0, .ref 1000300)] [] h 1065 1065 3859198 := by
  obtain ⟨⟨fs, e0⟩, dx, P, hdx, hC, hP⟩ := hs (xs (i + 1)) (xs (i + 2)) (xs (i + 3)) h hR
  refine mj_aload_n dL_law_1289 2 rfl ?_
  refine mj_aload_n dL_law_1290 3 rfl ?_
  refine mj_iload_n dL_law_1291 0 rfl ?_
  refine mj_iconst (v := 1) dL_law_1292 (by decide) ?_
  refine mj_iadd dL_law_1293 ?_
  refine mj_sld (i := i + 1) hx hq dL_law_1294 (nI_add i 1) (by omega) (by omega) ?_
  refine mj_aload_n dL_law_1295 3 rfl ?_
  refine mj_iload_n dL_law_1296 0 rfl ?_
  refine mj_iconst (v := 2) dL_law_1297 (by decide) ?_
  refine mj_iadd dL_law_1298 ?_
  refine mj_sld (i := i + 2) hx hq dL_law_1299 (nI_add i 2) (by omega) (by omega) ?_
  refine mj_aload_n dL_law_1300 3 rfl ?_
  refine mj_iload_n dL_law_1301 0 rfl ?_
  refine mj_iconst (v := 3) dL_law_1302 (by decide) ?_
  refine mj_iadd dL_law_1303 ?_
  refine mj_sld (i := i + 3) hx hq dL_law_1304 (nI_add i 3) (by omega) (by omega) ?_
  refine mj_callV dL_law_1305 M_X12_can hC ML_L_169 IM_X12_can SE_X12_can (by decide) e0 rfl (As := [.int (xs (i + 1)), .int (xs (i + 2)), .int (xs (i + 3))]) rfl rfl (by omega) (Nat.le_of_ble_eq_true rfl) (Nat.le_of_ble_eq_true rfl) (Nat.le_of_ble_eq_true rfl) (fun v h1 hp => ?_)
  obtain ⟨⟨fs1, e1⟩, z, dy, rfl, hdy, hC2⟩ := hP v h1 hp
  refine mj_aload_n dL_law_1308 1 rfl ?_
  refine mj_aload_n dL_law_1309 3 rfl ?_
  refine mj_iload_n dL_law_1310 0 rfl ?_
  refine mj_iconst (v := 1) dL_law_1311 (by decide) ?_
  refine mj_iadd dL_law_1312 ?_
  refine mj_sld (i := i + 1) hx hq dL_law_1313 (nI_add i 1) (by omega) (by omega) ?_
  refine mj_aload_n dL_law_1314 3 rfl ?_
  refine mj_iload_n dL_law_1315 0 rfl ?_
  refine mj_iconst (v := 2) dL_law_1316 (by decide) ?_
  refine mj_iadd dL_law_1317 ?_
  refine mj_sld (i := i + 2) hx hq dL_law_1318 (nI_add i 2) (by omega) (by omega) ?_
  refine mj_aload_n dL_law_1319 3 rfl ?_
  refine mj_iload_n dL_law_1320 0 rfl ?_
  refine mj_iconst (v := 3) dL_law_1321 (by decide) ?_
  refine mj_iadd dL_law_1322 ?_
  refine mj_sld (i := i + 3) hx hq dL_law_1323 (nI_add i 3) (by omega) (by omega) ?_
  refine mj_callV dL_law_1324 M_X13_can hC2 ML_L_172 IM_X13_can SE_X13_can (by decide) e1 rfl (As := [.int (xs (i + 1)), .int (xs (i + 2)), .int (xs (i + 3))]) rfl rfl (by omega) (Nat.le_of_ble_eq_true rfl) (Nat.le_of_ble_eq_true rfl) (Nat.le_of_ble_eq_true rfl) (fun v h2 hp2 => ?_)
  obtain ⟨rfl, hR1⟩ := hp2
  refine mj_icmp_eq 1332 dL_law_1327 (by decide) (fun _ => kk h2 hR1) (fun z1 => absurd rfl z1)
set_option maxHeartbeats 4000000 in
theorem lw_row {D : va_G} {cy : Nat → ClassId} {ad : Nat → Nat} {bs : Nat} {X : State → Heap → Prop} {lnm : String} {i L : Nat} {xs : Nat → Int32} (hx : ∀ U H, X U H → va_X (ad 1000300) L xs U H) (hq : ad 1000300 < bs) (hi : i + 6 ≤ L) (hL : L ≤ 3072) {R0 R1 : mj_H → Prop} {h : mj_H} (hR : R0 h) (ha : lw_all R0 R1) (kk : ∀ h2, R1 h2 → mj_G D cy ad bs X cL_law 4 yL_law.cls (some .boolean) lnm 1909 299716 8203100 1065 (fun v _ => v = some (.int 1)) 1332 [(3, .int (nI i)), (2, .ref 950), (1, .ref 0), (0, .ref 1000300)] [] h2 1065 1065 3859198) : mj_G D cy ad bs X cL_law 4 yL_law.cls (some .boolean) lnm 1909 299716 8203100 1065 (fun v _ => v = some (.int 1)) 27 [(3, .int (nI i)), (2, .ref 950), (1, .ref 0), (0, .ref 1000300)] [] h 1065 1065 3859198 := by
  obtain ⟨h00, s0, s1, s2, s3, s4, s5, s6, s7, s8, s9, s10, s11, s12, s13, s14, s15, s16, s17, s18, s19, s20, s21, s22, s23, s24, s25, s26, s27, s28, s29, s30, s31, s32, s33, s34, s35, s36, s37⟩ := ha
  refine mj_aload_n dL_law_27 3 rfl ?_
  refine mj_iload_n dL_law_28 0 rfl ?_
  refine mj_sld (i := i) hx hq dL_law_29 rfl (by omega) (by omega) ?_
  refine mj_bipush (v := 63) dL_law_30 (by decide) ?_
  refine mj_iand dL_law_32 ?_
  generalize xs i &&& 63 = x
  by_cases hout : x.toInt < 0 ∨ 37 < x.toInt
  · exact mj_tableOut 1332 dL_law_33 hout (by decide) (kk h (h00 h hR))
  · have h1 : ¬ x.toInt < 0 := fun z => hout (Or.inl z)
    have h2 : ¬ (37 : Int) < x.toInt := fun z => hout (Or.inr z)
    have hc : x.toInt = 0 ∨ x.toInt = 1 ∨ x.toInt = 2 ∨ x.toInt = 3 ∨ x.toInt = 4 ∨ x.toInt = 5 ∨ x.toInt = 6 ∨ x.toInt = 7 ∨ x.toInt = 8 ∨ x.toInt = 9 ∨ x.toInt = 10 ∨ x.toInt = 11 ∨ x.toInt = 12 ∨ x.toInt = 13 ∨ x.toInt = 14 ∨ x.toInt = 15 ∨ x.toInt = 16 ∨ x.toInt = 17 ∨ x.toInt = 18 ∨ x.toInt = 19 ∨ x.toInt = 20 ∨ x.toInt = 21 ∨ x.toInt = 22 ∨ x.toInt = 23 ∨ x.toInt = 24 ∨ x.toInt = 25 ∨ x.toInt = 26 ∨ x.toInt = 27 ∨ x.toInt = 28 ∨ x.toInt = 29 ∨ x.toInt = 30 ∨ x.toInt = 31 ∨ x.toInt = 32 ∨ x.toInt = 33 ∨ x.toInt = 34 ∨ x.toInt = 35 ∨ x.toInt = 36 ∨ x.toInt = 37 := by omega
    rcases hc with hc | hc | hc | hc | hc | hc | hc | hc | hc | hc | hc | hc | hc | hc | hc | hc | hc | hc | hc | hc | hc | hc | hc | hc | hc | hc | hc | hc | hc | hc | hc | hc | hc | hc | hc | hc | hc | hc
    · exact mj_tableIn 200 dL_law_33 h1 h2 (by rw [hc]; rfl) (by decide) (lw_c_feed hx hq hi hL hR s0 kk)
    · exact mj_tableIn 263 dL_law_33 h1 h2 (by rw [hc]; rfl) (by decide) (lw_c_end hx hq hi hL hR s1 kk)
    · exact mj_tableIn 286 dL_law_33 h1 h2 (by rw [hc]; rfl) (by decide) (lw_c_module hx hq hi hL hR s2 kk)
    · exact mj_tableIn 299 dL_law_33 h1 h2 (by rw [hc]; rfl) (by decide) (lw_c_count hx hq hi hL hR s3 kk)
    · exact mj_tableIn 322 dL_law_33 h1 h2 (by rw [hc]; rfl) (by decide) (lw_c_value hx hq hi hL hR s4 kk)
    · exact mj_tableIn 335 dL_law_33 h1 h2 (by rw [hc]; rfl) (by decide) (lw_c_named hx hq hi hL hR s5 kk)
    · exact mj_tableIn 348 dL_law_33 h1 h2 (by rw [hc]; rfl) (by decide) (lw_c_drop hx hq hi hL hR s6 kk)
    · exact mj_tableIn 361 dL_law_33 h1 h2 (by rw [hc]; rfl) (by decide) (lw_c_about hx hq hi hL hR s7 kk)
    · exact mj_tableIn 394 dL_law_33 h1 h2 (by rw [hc]; rfl) (by decide) (lw_c_alike hx hq hi hL hR s8 kk)
    · exact mj_tableIn 427 dL_law_33 h1 h2 (by rw [hc]; rfl) (by decide) (lw_c_fits hx hq hi hL hR s9 kk)
    · exact mj_tableIn 460 dL_law_33 h1 h2 (by rw [hc]; rfl) (by decide) (lw_c_within hx hq hi hL hR s10 kk)
    · exact mj_tableIn 493 dL_law_33 h1 h2 (by rw [hc]; rfl) (by decide) (lw_c_many hx hq hi hL hR s11 kk)
    · exact mj_tableIn 527 dL_law_33 h1 h2 (by rw [hc]; rfl) (by decide) (lw_c_lightest hx hq hi hL hR s12 kk)
    · exact mj_tableIn 550 dL_law_33 h1 h2 (by rw [hc]; rfl) (by decide) (lw_c_tell hx hq hi hL hR s13 kk)
    · exact mj_tableIn 573 dL_law_33 h1 h2 (by rw [hc]; rfl) (by decide) (lw_c_letter hx hq hi hL hR s14 kk)
    · exact mj_tableIn 596 dL_law_33 h1 h2 (by rw [hc]; rfl) (by decide) (lw_c_met hx hq hi hL hR s15 kk)
    · exact mj_tableIn 629 dL_law_33 h1 h2 (by rw [hc]; rfl) (by decide) (lw_c_why hx hq hi hL hR s16 kk)
    · exact mj_tableIn 652 dL_law_33 h1 h2 (by rw [hc]; rfl) (by decide) (lw_c_encode hx hq hi hL hR s17 kk)
    · exact mj_tableIn 685 dL_law_33 h1 h2 (by rw [hc]; rfl) (by decide) (lw_c_bit hx hq hi hL hR s18 kk)
    · exact mj_tableIn 708 dL_law_33 h1 h2 (by rw [hc]; rfl) (by decide) (lw_c_bits hx hq hi hL hR s19 kk)
    · exact mj_tableIn 741 dL_law_33 h1 h2 (by rw [hc]; rfl) (by decide) (lw_c_noBits hx hq hi hL hR s20 kk)
    · exact mj_tableIn 754 dL_law_33 h1 h2 (by rw [hc]; rfl) (by decide) (lw_c_decode hx hq hi hL hR s21 kk)
    · exact mj_tableIn 777 dL_law_33 h1 h2 (by rw [hc]; rfl) (by decide) (lw_c_begin hx hq hi hL hR s22 kk)
    · exact mj_tableIn 800 dL_law_33 h1 h2 (by rw [hc]; rfl) (by decide) (lw_c_run hx hq hi hL hR s23 kk)
    · exact mj_tableIn 833 dL_law_33 h1 h2 (by rw [hc]; rfl) (by decide) (lw_c_clock hx hq hi hL hR s24 kk)
    · exact mj_tableIn 856 dL_law_33 h1 h2 (by rw [hc]; rfl) (by decide) (lw_c_give hx hq hi hL hR s25 kk)
    · exact mj_tableIn 899 dL_law_33 h1 h2 (by rw [hc]; rfl) (by decide) (lw_c_state hx hq hi hL hR s26 kk)
    · exact mj_tableIn 932 dL_law_33 h1 h2 (by rw [hc]; rfl) (by decide) (lw_c_all hx hq hi hL hR s27 kk)
    · exact mj_tableIn 956 dL_law_33 h1 h2 (by rw [hc]; rfl) (by decide) (lw_c_queue hx hq hi hL hR s28 kk)
    · exact mj_tableIn 989 dL_law_33 h1 h2 (by rw [hc]; rfl) (by decide) (lw_c_queued hx hq hi hL hR s29 kk)
    · exact mj_tableIn 1032 dL_law_33 h1 h2 (by rw [hc]; rfl) (by decide) (lw_c_timer hx hq hi hL hR s30 kk)
    · exact mj_tableIn 1065 dL_law_33 h1 h2 (by rw [hc]; rfl) (by decide) (lw_c_variable hx hq hi hL hR s31 kk)
    · exact mj_tableIn 1098 dL_law_33 h1 h2 (by rw [hc]; rfl) (by decide) (lw_c_event hx hq hi hL hR s32 kk)
    · exact mj_tableIn 1131 dL_law_33 h1 h2 (by rw [hc]; rfl) (by decide) (lw_c_eventValue hx hq hi hL hR s33 kk)
    · exact mj_tableIn 1154 dL_law_33 h1 h2 (by rw [hc]; rfl) (by decide) (lw_c_move hx hq hi hL hR s34 kk)
    · exact mj_tableIn 1233 dL_law_33 h1 h2 (by rw [hc]; rfl) (by decide) (lw_c_conforms hx hq hi hL hR s35 kk)
    · exact mj_tableIn 1266 dL_law_33 h1 h2 (by rw [hc]; rfl) (by decide) (lw_c_row hx hq hi hL hR s36 kk)
    · exact mj_tableIn 1289 dL_law_33 h1 h2 (by rw [hc]; rfl) (by decide) (lw_c_can hx hq hi hL hR s37 kk)
set_option maxHeartbeats 2000000 in
/-- the loop: R k holds after k rows -/
theorem lw_loop {D : va_G} {cy : Nat → ClassId} {ad : Nat → Nat} {bs : Nat} {X : State → Heap → Prop} {lnm : String} {L : Nat} {xs : Nat → Int32} (hx : ∀ U H, X U H → va_X (ad 1000300) L xs U H) (hq : ad 1000300 < bs) (hL : L ≤ 3072) {R : Nat → mj_H → Prop} (hall : ∀ k, 6 * k + 6 ≤ L → lw_all (R k) (R (k + 1))) : ∀ (m k i : Nat) (h : mj_H), k + m = L / 6 → i = 6 * k → R k h → mj_G D cy ad bs X cL_law 4 yL_law.cls (some .boolean) lnm 1909 299716 8203100 1065 (fun v _ => v = some (.int 1)) 18 [(3, .int (nI i)), (2, .ref 950), (1, .ref 0), (0, .ref 1000300)] [] h 1065 1065 3859198 := by
  intro m
  induction m with
  | zero =>
    intro k i h hk hi hR
    have hlt : L < i + 6 := by omega
    refine mj_iload_n dL_law_18 0 rfl ?_
    refine mj_aload_n dL_law_19 3 rfl ?_
    refine mj_slen hx hq dL_law_20 ?_
    refine mj_bipush (v := 6) dL_law_21 (by decide) ?_
    refine mj_isub dL_law_23 ?_
    refine mj_icmp_gt 1338 dL_law_24 (by decide) (fun _ => ?_) (fun z => absurd ((lw_gt (by omega) hL).mpr hlt) z)
    refine mj_iconst (v := 1) dL_law_1338 (by decide) ?_
    exact mj_iret dL_law_1339 rfl (by decide) rfl rfl (Nat.le_of_ble_eq_true rfl) (Nat.le_of_ble_eq_true rfl)
  | succ m ih =>
    intro k i h hk hi hR
    have hlt : i + 6 ≤ L := by omega
    refine mj_iload_n dL_law_18 0 rfl ?_
    refine mj_aload_n dL_law_19 3 rfl ?_
    refine mj_slen hx hq dL_law_20 ?_
    refine mj_bipush (v := 6) dL_law_21 (by decide) ?_
    refine mj_isub dL_law_23 ?_
    refine mj_icmp_gt 1338 dL_law_24 (by decide) (fun z => absurd ((lw_gt (by omega) hL).mp z) (by omega)) (fun _ => ?_)
    refine lw_row hx hq hlt hL hR (hall k (by omega)) (fun h2 hR2 => ?_)
    refine mj_iinc (k := 0) (v := nI (i + 6)) (lv2 := [(3, .int (nI (i + 6))), (2, .ref 950), (1, .ref 0), (0, .ref 1000300)]) dL_law_1332 rfl (nI_add i 6) (by decide) rfl ?_
    refine mj_goto 18 dL_law_1335 (by decide) ?_
    exact ih (k + 1) (i + 6) h2 (by omega) (by omega) hR2
