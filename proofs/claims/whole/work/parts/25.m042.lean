/-! Methods as functions, 42: X7_perform, X7_settle -/
theorem dX7_perform_0 : decode cX7_perform 0 = .ok (.aload_n 0, 1) := by decide +kernel
theorem dX7_perform_1 : decode cX7_perform 1 = .ok (.getfield 31, 3) := by decide +kernel
theorem dX7_perform_11 : decode cX7_perform 11 = .ok (.aload 4, 2) := by decide +kernel
theorem dX7_perform_13 : decode cX7_perform 13 = .ok (.iconst 5, 1) := by decide +kernel
theorem dX7_perform_14 : decode cX7_perform 14 = .ok (.iaload, 1) := by decide +kernel
theorem dX7_perform_15 : decode cX7_perform 15 = .ok (.ifCond .lt 17, 3) := by decide +kernel
theorem dX7_perform_160 : decode cX7_perform 160 = .ok (.aload_n 0, 1) := by decide +kernel
theorem dX7_perform_161 : decode cX7_perform 161 = .ok (.aload_n 1, 1) := by decide +kernel
theorem dX7_perform_162 : decode cX7_perform 162 = .ok (.aload 4, 2) := by decide +kernel
theorem dX7_perform_164 : decode cX7_perform 164 = .ok (.bipush 7, 2) := by decide +kernel
theorem dX7_perform_166 : decode cX7_perform 166 = .ok (.iaload, 1) := by decide +kernel
theorem dX7_perform_167 : decode cX7_perform 167 = .ok (.invokevirtual 234, 3) := by decide +kernel
theorem dX7_perform_170 : decode cX7_perform 170 = .ok (.ireturn, 1) := by decide +kernel
theorem dX7_perform_171 : decode cX7_perform 171 = .ok (.aload 4, 2) := by decide +kernel
theorem dX7_perform_173 : decode cX7_perform 173 = .ok (.bipush 9, 2) := by decide +kernel
theorem dX7_perform_175 : decode cX7_perform 175 = .ok (.iaload, 1) := by decide +kernel
theorem dX7_perform_176 : decode cX7_perform 176 = .ok (.aload 4, 2) := by decide +kernel
theorem dX7_perform_178 : decode cX7_perform 178 = .ok (.iconst 5, 1) := by decide +kernel
theorem dX7_perform_179 : decode cX7_perform 179 = .ok (.iaload, 1) := by decide +kernel
theorem dX7_perform_18 : decode cX7_perform 18 = .ok (.aload_n 0, 1) := by decide +kernel
theorem dX7_perform_180 : decode cX7_perform 180 = .ok (.if_icmp .le 30, 3) := by decide +kernel
theorem dX7_perform_183 : decode cX7_perform 183 = .ok (.aload_n 0, 1) := by decide +kernel
theorem dX7_perform_184 : decode cX7_perform 184 = .ok (.getfield 23, 3) := by decide +kernel
theorem dX7_perform_187 : decode cX7_perform 187 = .ok (.aload 4, 2) := by decide +kernel
theorem dX7_perform_189 : decode cX7_perform 189 = .ok (.iconst 5, 1) := by decide +kernel
theorem dX7_perform_19 : decode cX7_perform 19 = .ok (.getfield 23, 3) := by decide +kernel
theorem dX7_perform_190 : decode cX7_perform 190 = .ok (.iaload, 1) := by decide +kernel
theorem dX7_perform_191 : decode cX7_perform 191 = .ok (.aload 4, 2) := by decide +kernel
theorem dX7_perform_193 : decode cX7_perform 193 = .ok (.bipush 9, 2) := by decide +kernel
theorem dX7_perform_195 : decode cX7_perform 195 = .ok (.iaload, 1) := by decide +kernel
theorem dX7_perform_196 : decode cX7_perform 196 = .ok (.aload_n 1, 1) := by decide +kernel
theorem dX7_perform_197 : decode cX7_perform 197 = .ok (.aload 4, 2) := by decide +kernel
theorem dX7_perform_199 : decode cX7_perform 199 = .ok (.bipush 7, 2) := by decide +kernel
theorem dX7_perform_201 : decode cX7_perform 201 = .ok (.iaload, 1) := by decide +kernel
theorem dX7_perform_202 : decode cX7_perform 202 = .ok (.invokestatic 243, 3) := by decide +kernel
theorem dX7_perform_205 : decode cX7_perform 205 = .ok (.invokevirtual 267, 3) := by decide +kernel
theorem dX7_perform_208 : decode cX7_perform 208 = .ok (.istore 5, 2) := by decide +kernel
theorem dX7_perform_210 : decode cX7_perform 210 = .ok (.iload 5, 2) := by decide +kernel
theorem dX7_perform_212 : decode cX7_perform 212 = .ok (.ifCond .eq 8, 3) := by decide +kernel
theorem dX7_perform_215 : decode cX7_perform 215 = .ok (.iload 5, 2) := by decide +kernel
theorem dX7_perform_217 : decode cX7_perform 217 = .ok (.goto 13, 3) := by decide +kernel
theorem dX7_perform_22 : decode cX7_perform 22 = .ok (.aload 4, 2) := by decide +kernel
theorem dX7_perform_220 : decode cX7_perform 220 = .ok (.aload_n 0, 1) := by decide +kernel
theorem dX7_perform_221 : decode cX7_perform 221 = .ok (.aload_n 1, 1) := by decide +kernel
theorem dX7_perform_222 : decode cX7_perform 222 = .ok (.aload 4, 2) := by decide +kernel
theorem dX7_perform_224 : decode cX7_perform 224 = .ok (.bipush 7, 2) := by decide +kernel
theorem dX7_perform_226 : decode cX7_perform 226 = .ok (.iaload, 1) := by decide +kernel
theorem dX7_perform_227 : decode cX7_perform 227 = .ok (.invokevirtual 234, 3) := by decide +kernel
theorem dX7_perform_230 : decode cX7_perform 230 = .ok (.ireturn, 1) := by decide +kernel
theorem dX7_perform_231 : decode cX7_perform 231 = .ok (.aload_n 0, 1) := by decide +kernel
theorem dX7_perform_232 : decode cX7_perform 232 = .ok (.aload_n 1, 1) := by decide +kernel
theorem dX7_perform_233 : decode cX7_perform 233 = .ok (.iload_n 2, 1) := by decide +kernel
theorem dX7_perform_234 : decode cX7_perform 234 = .ok (.invokevirtual 271, 3) := by decide +kernel
theorem dX7_perform_237 : decode cX7_perform 237 = .ok (.ireturn, 1) := by decide +kernel
theorem dX7_perform_238 : decode cX7_perform 238 = .ok (.aload 4, 2) := by decide +kernel
theorem dX7_perform_24 : decode cX7_perform 24 = .ok (.iconst 5, 1) := by decide +kernel
theorem dX7_perform_240 : decode cX7_perform 240 = .ok (.iconst 5, 1) := by decide +kernel
theorem dX7_perform_241 : decode cX7_perform 241 = .ok (.iaload, 1) := by decide +kernel
theorem dX7_perform_242 : decode cX7_perform 242 = .ok (.ifCond .ge 13, 3) := by decide +kernel
theorem dX7_perform_245 : decode cX7_perform 245 = .ok (.aload_n 0, 1) := by decide +kernel
theorem dX7_perform_246 : decode cX7_perform 246 = .ok (.getfield 23, 3) := by decide +kernel
theorem dX7_perform_249 : decode cX7_perform 249 = .ok (.ldc2_w 225, 3) := by decide +kernel
theorem dX7_perform_25 : decode cX7_perform 25 = .ok (.iaload, 1) := by decide +kernel
theorem dX7_perform_252 : decode cX7_perform 252 = .ok (.invokevirtual 227, 3) := by decide +kernel
theorem dX7_perform_255 : decode cX7_perform 255 = .ok (.aload_n 1, 1) := by decide +kernel
theorem dX7_perform_256 : decode cX7_perform 256 = .ok (.getfield 194, 3) := by decide +kernel
theorem dX7_perform_259 : decode cX7_perform 259 = .ok (.iload 6, 2) := by decide +kernel
theorem dX7_perform_26 : decode cX7_perform 26 = .ok (.invokevirtual 124, 3) := by decide +kernel
theorem dX7_perform_261 : decode cX7_perform 261 = .ok (.iconst (-1), 1) := by decide +kernel
theorem dX7_perform_262 : decode cX7_perform 262 = .ok (.iastore, 1) := by decide +kernel
theorem dX7_perform_263 : decode cX7_perform 263 = .ok (.iconst 0, 1) := by decide +kernel
theorem dX7_perform_264 : decode cX7_perform 264 = .ok (.ireturn, 1) := by decide +kernel
theorem dX7_perform_265 : decode cX7_perform 265 = .ok (.aload_n 0, 1) := by decide +kernel
theorem dX7_perform_266 : decode cX7_perform 266 = .ok (.aload_n 1, 1) := by decide +kernel
theorem dX7_perform_267 : decode cX7_perform 267 = .ok (.aload 4, 2) := by decide +kernel
theorem dX7_perform_269 : decode cX7_perform 269 = .ok (.invokevirtual 274, 3) := by decide +kernel
theorem dX7_perform_272 : decode cX7_perform 272 = .ok (.ireturn, 1) := by decide +kernel
theorem dX7_perform_273 : decode cX7_perform 273 = .ok (.aload_n 0, 1) := by decide +kernel
theorem dX7_perform_274 : decode cX7_perform 274 = .ok (.aload_n 1, 1) := by decide +kernel
theorem dX7_perform_275 : decode cX7_perform 275 = .ok (.aload 4, 2) := by decide +kernel
theorem dX7_perform_277 : decode cX7_perform 277 = .ok (.bipush 6, 2) := by decide +kernel
theorem dX7_perform_279 : decode cX7_perform 279 = .ok (.iaload, 1) := by decide +kernel
theorem dX7_perform_280 : decode cX7_perform 280 = .ok (.invokevirtual 261, 3) := by decide +kernel
theorem dX7_perform_283 : decode cX7_perform 283 = .ok (.iconst 0, 1) := by decide +kernel
theorem dX7_perform_284 : decode cX7_perform 284 = .ok (.ireturn, 1) := by decide +kernel
theorem dX7_perform_285 : decode cX7_perform 285 = .ok (.aload_n 0, 1) := by decide +kernel
theorem dX7_perform_286 : decode cX7_perform 286 = .ok (.aload_n 1, 1) := by decide +kernel
theorem dX7_perform_287 : decode cX7_perform 287 = .ok (.aload 4, 2) := by decide +kernel
theorem dX7_perform_289 : decode cX7_perform 289 = .ok (.iload_n 3, 1) := by decide +kernel
theorem dX7_perform_29 : decode cX7_perform 29 = .ok (.goto 4, 3) := by decide +kernel
theorem dX7_perform_290 : decode cX7_perform 290 = .ok (.invokevirtual 278, 3) := by decide +kernel
theorem dX7_perform_293 : decode cX7_perform 293 = .ok (.ireturn, 1) := by decide +kernel
theorem dX7_perform_294 : decode cX7_perform 294 = .ok (.aload_n 0, 1) := by decide +kernel
theorem dX7_perform_295 : decode cX7_perform 295 = .ok (.aload_n 1, 1) := by decide +kernel
theorem dX7_perform_296 : decode cX7_perform 296 = .ok (.aload 4, 2) := by decide +kernel
theorem dX7_perform_298 : decode cX7_perform 298 = .ok (.bipush 6, 2) := by decide +kernel
theorem dX7_perform_300 : decode cX7_perform 300 = .ok (.iaload, 1) := by decide +kernel
theorem dX7_perform_301 : decode cX7_perform 301 = .ok (.invokevirtual 282, 3) := by decide +kernel
theorem dX7_perform_304 : decode cX7_perform 304 = .ok (.ireturn, 1) := by decide +kernel
theorem dX7_perform_305 : decode cX7_perform 305 = .ok (.aload_n 1, 1) := by decide +kernel
theorem dX7_perform_306 : decode cX7_perform 306 = .ok (.getfield 249, 3) := by decide +kernel
theorem dX7_perform_309 : decode cX7_perform 309 = .ok (.aload 4, 2) := by decide +kernel
theorem dX7_perform_311 : decode cX7_perform 311 = .ok (.bipush 6, 2) := by decide +kernel
theorem dX7_perform_313 : decode cX7_perform 313 = .ok (.iaload, 1) := by decide +kernel
theorem dX7_perform_314 : decode cX7_perform 314 = .ok (.ldc2_w 252, 3) := by decide +kernel
theorem dX7_perform_317 : decode cX7_perform 317 = .ok (.lastore, 1) := by decide +kernel
theorem dX7_perform_318 : decode cX7_perform 318 = .ok (.iconst 0, 1) := by decide +kernel
theorem dX7_perform_319 : decode cX7_perform 319 = .ok (.ireturn, 1) := by decide +kernel
theorem dX7_perform_32 : decode cX7_perform 32 = .ok (.iconst 0, 1) := by decide +kernel
theorem dX7_perform_320 : decode cX7_perform 320 = .ok (.aload_n 0, 1) := by decide +kernel
theorem dX7_perform_321 : decode cX7_perform 321 = .ok (.getfield 23, 3) := by decide +kernel
theorem dX7_perform_324 : decode cX7_perform 324 = .ok (.iconst 5, 1) := by decide +kernel
theorem dX7_perform_325 : decode cX7_perform 325 = .ok (.aload_n 0, 1) := by decide +kernel
theorem dX7_perform_326 : decode cX7_perform 326 = .ok (.getfield 42, 3) := by decide +kernel
theorem dX7_perform_329 : decode cX7_perform 329 = .ok (.i2l, 1) := by decide +kernel
theorem dX7_perform_33 : decode cX7_perform 33 = .ok (.istore 5, 2) := by decide +kernel
theorem dX7_perform_330 : decode cX7_perform 330 = .ok (.invokestatic 285, 3) := by decide +kernel
theorem dX7_perform_333 : decode cX7_perform 333 = .ok (.invokevirtual 227, 3) := by decide +kernel
theorem dX7_perform_336 : decode cX7_perform 336 = .ok (.aload_n 0, 1) := by decide +kernel
theorem dX7_perform_337 : decode cX7_perform 337 = .ok (.aload_n 1, 1) := by decide +kernel
theorem dX7_perform_338 : decode cX7_perform 338 = .ok (.aload 4, 2) := by decide +kernel
theorem dX7_perform_340 : decode cX7_perform 340 = .ok (.bipush 7, 2) := by decide +kernel
theorem dX7_perform_342 : decode cX7_perform 342 = .ok (.iaload, 1) := by decide +kernel
theorem dX7_perform_343 : decode cX7_perform 343 = .ok (.invokevirtual 234, 3) := by decide +kernel
theorem dX7_perform_346 : decode cX7_perform 346 = .ok (.istore 5, 2) := by decide +kernel
theorem dX7_perform_348 : decode cX7_perform 348 = .ok (.iload 5, 2) := by decide +kernel
theorem dX7_perform_35 : decode cX7_perform 35 = .ok (.iload 5, 2) := by decide +kernel
theorem dX7_perform_350 : decode cX7_perform 350 = .ok (.ifCond .eq 6, 3) := by decide +kernel
theorem dX7_perform_353 : decode cX7_perform 353 = .ok (.iload 5, 2) := by decide +kernel
theorem dX7_perform_355 : decode cX7_perform 355 = .ok (.ireturn, 1) := by decide +kernel
theorem dX7_perform_356 : decode cX7_perform 356 = .ok (.aload_n 0, 1) := by decide +kernel
theorem dX7_perform_357 : decode cX7_perform 357 = .ok (.dup, 1) := by decide +kernel
theorem dX7_perform_358 : decode cX7_perform 358 = .ok (.getfield 42, 3) := by decide +kernel
theorem dX7_perform_361 : decode cX7_perform 361 = .ok (.iconst 1, 1) := by decide +kernel
theorem dX7_perform_362 : decode cX7_perform 362 = .ok (.iadd, 1) := by decide +kernel
theorem dX7_perform_363 : decode cX7_perform 363 = .ok (.putfield 42, 3) := by decide +kernel
theorem dX7_perform_366 : decode cX7_perform 366 = .ok (.aload_n 0, 1) := by decide +kernel
theorem dX7_perform_367 : decode cX7_perform 367 = .ok (.getfield 15, 3) := by decide +kernel
theorem dX7_perform_37 : decode cX7_perform 37 = .ok (.ifCond .eq 6, 3) := by decide +kernel
theorem dX7_perform_370 : decode cX7_perform 370 = .ok (.bipush 8, 2) := by decide +kernel
theorem dX7_perform_372 : decode cX7_perform 372 = .ok (.aload_n 0, 1) := by decide +kernel
theorem dX7_perform_373 : decode cX7_perform 373 = .ok (.getfield 42, 3) := by decide +kernel
theorem dX7_perform_376 : decode cX7_perform 376 = .ok (.iconst 1, 1) := by decide +kernel
theorem dX7_perform_377 : decode cX7_perform 377 = .ok (.isub, 1) := by decide +kernel
theorem dX7_perform_378 : decode cX7_perform 378 = .ok (.aload 4, 2) := by decide +kernel
theorem dX7_perform_380 : decode cX7_perform 380 = .ok (.bipush 6, 2) := by decide +kernel
theorem dX7_perform_382 : decode cX7_perform 382 = .ok (.iaload, 1) := by decide +kernel
theorem dX7_perform_383 : decode cX7_perform 383 = .ok (.invokevirtual 67, 3) := by decide +kernel
theorem dX7_perform_386 : decode cX7_perform 386 = .ok (.iconst 0, 1) := by decide +kernel
theorem dX7_perform_387 : decode cX7_perform 387 = .ok (.ireturn, 1) := by decide +kernel
theorem dX7_perform_388 : decode cX7_perform 388 = .ok (.aload_n 0, 1) := by decide +kernel
theorem dX7_perform_389 : decode cX7_perform 389 = .ok (.aload_n 1, 1) := by decide +kernel
theorem dX7_perform_390 : decode cX7_perform 390 = .ok (.aload 4, 2) := by decide +kernel
theorem dX7_perform_392 : decode cX7_perform 392 = .ok (.invokevirtual 289, 3) := by decide +kernel
theorem dX7_perform_395 : decode cX7_perform 395 = .ok (.ireturn, 1) := by decide +kernel
theorem dX7_perform_396 : decode cX7_perform 396 = .ok (.aload_n 0, 1) := by decide +kernel
theorem dX7_perform_397 : decode cX7_perform 397 = .ok (.aload 4, 2) := by decide +kernel
theorem dX7_perform_399 : decode cX7_perform 399 = .ok (.invokevirtual 292, 3) := by decide +kernel
theorem dX7_perform_4 : decode cX7_perform 4 = .ok (.getfield 179, 3) := by decide +kernel
theorem dX7_perform_40 : decode cX7_perform 40 = .ok (.iload 5, 2) := by decide +kernel
theorem dX7_perform_402 : decode cX7_perform 402 = .ok (.ireturn, 1) := by decide +kernel
theorem dX7_perform_403 : decode cX7_perform 403 = .ok (.aload_n 0, 1) := by decide +kernel
theorem dX7_perform_404 : decode cX7_perform 404 = .ok (.aload_n 1, 1) := by decide +kernel
theorem dX7_perform_405 : decode cX7_perform 405 = .ok (.aload 4, 2) := by decide +kernel
theorem dX7_perform_407 : decode cX7_perform 407 = .ok (.invokevirtual 296, 3) := by decide +kernel
theorem dX7_perform_410 : decode cX7_perform 410 = .ok (.ireturn, 1) := by decide +kernel
theorem dX7_perform_411 : decode cX7_perform 411 = .ok (.aload_n 0, 1) := by decide +kernel
theorem dX7_perform_412 : decode cX7_perform 412 = .ok (.aload_n 1, 1) := by decide +kernel
theorem dX7_perform_413 : decode cX7_perform 413 = .ok (.aload 4, 2) := by decide +kernel
theorem dX7_perform_415 : decode cX7_perform 415 = .ok (.invokevirtual 299, 3) := by decide +kernel
theorem dX7_perform_418 : decode cX7_perform 418 = .ok (.ireturn, 1) := by decide +kernel
theorem dX7_perform_419 : decode cX7_perform 419 = .ok (.aload_n 1, 1) := by decide +kernel
theorem dX7_perform_42 : decode cX7_perform 42 = .ok (.ireturn, 1) := by decide +kernel
theorem dX7_perform_420 : decode cX7_perform 420 = .ok (.iconst 0, 1) := by decide +kernel
theorem dX7_perform_421 : decode cX7_perform 421 = .ok (.putfield 246, 3) := by decide +kernel
theorem dX7_perform_424 : decode cX7_perform 424 = .ok (.iconst 0, 1) := by decide +kernel
theorem dX7_perform_425 : decode cX7_perform 425 = .ok (.ireturn, 1) := by decide +kernel
theorem dX7_perform_43 : decode cX7_perform 43 = .ok (.aload_n 1, 1) := by decide +kernel
theorem dX7_perform_44 : decode cX7_perform 44 = .ok (.getfield 191, 3) := by decide +kernel
theorem dX7_perform_47 : decode cX7_perform 47 = .ok (.iconst 1, 1) := by decide +kernel
theorem dX7_perform_48 : decode cX7_perform 48 = .ok (.isub, 1) := by decide +kernel
theorem dX7_perform_49 : decode cX7_perform 49 = .ok (.istore 6, 2) := by decide +kernel
theorem dX7_perform_51 : decode cX7_perform 51 = .ok (.aload_n 1, 1) := by decide +kernel
theorem dX7_perform_52 : decode cX7_perform 52 = .ok (.getfield 194, 3) := by decide +kernel
theorem dX7_perform_55 : decode cX7_perform 55 = .ok (.iload 6, 2) := by decide +kernel
theorem dX7_perform_57 : decode cX7_perform 57 = .ok (.aload_n 0, 1) := by decide +kernel
theorem dX7_perform_58 : decode cX7_perform 58 = .ok (.getfield 31, 3) := by decide +kernel
theorem dX7_perform_61 : decode cX7_perform 61 = .ok (.iload_n 2, 1) := by decide +kernel
theorem dX7_perform_62 : decode cX7_perform 62 = .ok (.invokevirtual 264, 3) := by decide +kernel
theorem dX7_perform_65 : decode cX7_perform 65 = .ok (.iastore, 1) := by decide +kernel
theorem dX7_perform_66 : decode cX7_perform 66 = .ok (.iload_n 3, 1) := by decide +kernel
theorem dX7_perform_67 : decode cX7_perform 67 = .ok (.tableswitch 352 1 20 #[93, 104, 164, 164, 171, 198, 206, 218, 218, 352, 352, 352, 352, 227, 238, 253, 321, 329, 336, 344], 93) := by decide +kernel
theorem dX7_perform_7 : decode cX7_perform 7 = .ok (.iload_n 2, 1) := by decide +kernel
theorem dX7_perform_8 : decode cX7_perform 8 = .ok (.aaload, 1) := by decide +kernel
theorem dX7_perform_9 : decode cX7_perform 9 = .ok (.astore 4, 2) := by decide +kernel
noncomputable def k_X7_perform_210 (l1 : Nat) (l4 : Nat) (l5 : Int32) (s : t_S) : Option (Int32 × t_S) :=
 if l5 = (0 : Int32) then (if t_oka l4 1 (t_ln l4) = true then
  if t_ix (7 : Int32) (t_ln l4) = true then
  (f_X7_assign l1 (s.1 l4 ((7 : Int32).toNatClampNeg)) s).bind (fun r3 =>
 some (r3.1, r3.2))
else none
else none)
 else (some (l5, s))
set_option maxRecDepth 4000 in
set_option maxHeartbeats 1000000 in
theorem B_X7_perform_210 {D : va_G} {cy : Nat → ClassId} {ad : Nat → Nat} {bs : Nat} {X : State → Heap → Prop} (l1 : Nat) (l4 : Nat) (l5 : Int32) (s : t_S) (Q : Int32 × t_S → Prop) (hk : t_hk (k_X7_perform_210 l1 l4 l5 s) Q) : mj_G D cy ad bs X cX7_perform 7 yX7_perform.cls (some .int) yX7_perform.name 406 0 0 1065 (t_P (fun v s' => ∃ x, v = some (.int x) ∧ Q ((x, s')))) 210 [(0, .ref 864), (1, .ref l1), (4, .ref l4), (5, .int l5)] [] (t_m s) 1065 0 0 := by
  refine mj_iload dX7_perform_210 3 rfl ?_
  refine mj_if_eq 220 dX7_perform_212 (by decide) (fun z => t_posK hk z (fun hk => ?_)) (fun z => t_negK hk z (fun hk => ?_))
  · refine mj_aload_n dX7_perform_220 0 rfl ?_
    refine mj_aload_n dX7_perform_221 1 rfl ?_
    refine mj_aload dX7_perform_222 2 rfl ?_
    refine mj_bipush (v := 7) dX7_perform_224 (by decide) ?_
    refine t_chkK hk (fun c0 hk => ?_)
    refine t_chkK hk (fun c1 hk => ?_)
    refine t_iald dX7_perform_226 c0 (t_ixv c1) ?_
    refine t_bndK hk (fun r3 er3 hk => ?_)
    refine t_callViE dX7_perform_227 M_X7_assign (C_X7_assign _ _ _ _ er3) ML_X7_234 IM_X7_assign SE_X7_assign qc_864 rfl (As := [.ref l1, .int (s.1 l4 ((7 : Int32).toNatClampNeg))]) rfl rfl (Nat.le_of_ble_eq_true rfl) (Nat.le_of_ble_eq_true rfl) (Nat.le_of_ble_eq_true rfl) (Nat.le_of_ble_eq_true rfl) ?_
    exact t_somK hk (fun hf => t_iret dX7_perform_230 rfl rfl ⟨_, rfl, hf⟩ (Nat.le_of_ble_eq_true rfl) (Nat.le_of_ble_eq_true rfl))
  · refine mj_iload dX7_perform_215 3 rfl ?_
    refine mj_goto 230 dX7_perform_217 (by decide) ?_
    exact t_somK hk (fun hf => t_iret dX7_perform_230 rfl rfl ⟨_, rfl, hf⟩ (Nat.le_of_ble_eq_true rfl) (Nat.le_of_ble_eq_true rfl))
noncomputable def k_X7_perform_255 (l1 : Nat) (l6 : Int32) (s : t_S) : Option (Int32 × t_S) :=
 if t_isP l1 = true then
  if t_ix l6 8 = true then
  t_let (t_setI s (l1 + 2) (l6.toNatClampNeg) (-1 : Int32)) (fun s1 =>
 some ((0 : Int32), s1))
else none
else none
set_option maxRecDepth 4000 in
set_option maxHeartbeats 1000000 in
theorem B_X7_perform_255 {D : va_G} {cy : Nat → ClassId} {ad : Nat → Nat} {bs : Nat} {X : State → Heap → Prop} (l1 : Nat) (l6 : Int32) (s : t_S) (Q : Int32 × t_S → Prop) (hk : t_hk (k_X7_perform_255 l1 l6 s) Q) : mj_G D cy ad bs X cX7_perform 7 yX7_perform.cls (some .int) yX7_perform.name 406 0 0 1065 (t_P (fun v s' => ∃ x, v = some (.int x) ∧ Q ((x, s')))) 255 [(1, .ref l1), (6, .int l6)] [] (t_m s) 1065 0 0 := by
  refine mj_aload_n dX7_perform_255 0 rfl ?_
  refine t_chkK hk (fun c0 hk => ?_)
  refine t_getR (l1 + 2) dX7_perform_256 F_X7_194 (t_pr8 c0) ?_
  refine mj_iload dX7_perform_259 1 rfl ?_
  refine mj_iconst (v := (-1)) dX7_perform_261 (by decide) ?_
  refine t_chkK hk (fun c1 hk => ?_)
  refine t_iastK dX7_perform_262 (t_pa8 c0) (t_ixv c1) (fun s1 ws1 => t_letE hk ws1 (fun hk => ?_))
  refine mj_iconst (v := 0) dX7_perform_263 (by decide) ?_
  exact t_somK hk (fun hf => t_iret dX7_perform_264 rfl rfl ⟨_, rfl, hf⟩ (Nat.le_of_ble_eq_true rfl) (Nat.le_of_ble_eq_true rfl))
noncomputable def k_X7_perform_33 (l1 : Nat) (l2 : Int32) (l3 : Int32) (l4 : Nat) (k0 : Int32) (s : t_S) : Option (Int32 × t_S) :=
 if k0 = (0 : Int32) then (if t_isP l1 = true then
  (f_X5_after l2 s).bind (fun r2 =>
 if t_ix ((s.1 l1 6) - (1 : Int32)) 8 = true then
  t_let (t_setI s (l1 + 2) (((s.1 l1 6) - (1 : Int32)).toNatClampNeg) r2) (fun s1 =>
 if l3.toInt < 1 ∨ 20 < l3.toInt then (t_let (t_setI s1 l1 10 (0 : Int32)) (fun s2 =>
 some ((0 : Int32), s2)))
 else if l3.toInt = 1 then (if t_oka l4 1 (t_ln l4) = true then
  if t_ix (7 : Int32) (t_ln l4) = true then
  (f_X7_assign l1 (s1.1 l4 ((7 : Int32).toNatClampNeg)) s1).bind (fun r6 =>
 some (r6.1, r6.2))
else none
else none)
 else if l3.toInt = 2 then (if t_oka l4 1 (t_ln l4) = true then
  if t_ix (9 : Int32) (t_ln l4) = true then
  if t_ix (5 : Int32) (t_ln l4) = true then
  if (s1.1 l4 ((9 : Int32).toNatClampNeg)) ≤ (s1.1 l4 ((5 : Int32).toNatClampNeg)) then (k_X7_perform_210 l1 l4 k0 s1)
 else (if t_ix (7 : Int32) (t_ln l4) = true then
  (f_X7_slotOf l1 (s1.1 l4 ((7 : Int32).toNatClampNeg)) s1).bind (fun r11 =>
 (f_X0_assignPart (s1.1 l4 ((5 : Int32).toNatClampNeg)) (s1.1 l4 ((9 : Int32).toNatClampNeg)) r11 s1).bind (fun r12 =>
 k_X7_perform_210 l1 l4 r12.1 r12.2))
else none)
else none
else none
else none)
 else if l3.toInt = 3 then ((f_X7_choose l1 l2 s1).bind (fun r13 =>
 some (r13.1, r13.2)))
 else if l3.toInt = 4 then ((f_X7_choose l1 l2 s1).bind (fun r14 =>
 some (r14.1, r14.2)))
 else if l3.toInt = 5 then (if t_oka l4 1 (t_ln l4) = true then
  if t_ix (5 : Int32) (t_ln l4) = true then
  if (0 : Int32) ≤ (s1.1 l4 ((5 : Int32).toNatClampNeg)) then (k_X7_perform_255 l1 ((s.1 l1 6) - (1 : Int32)) s1)
 else ((f_X0_pushCell (20 : Int64) s1).bind (fun r17 =>
 k_X7_perform_255 l1 ((s.1 l1 6) - (1 : Int32)) r17))
else none
else none)
 else if l3.toInt = 6 then ((f_X7_call l1 l4 s1).bind (fun r18 =>
 some (r18.1, r18.2)))
 else if l3.toInt = 7 then (if t_oka l4 1 (t_ln l4) = true then
  if t_ix (6 : Int32) (t_ln l4) = true then
  (f_X7_judge l1 (s1.1 l4 ((6 : Int32).toNatClampNeg)) s1).bind (fun r21 =>
 some ((0 : Int32), r21))
else none
else none)
 else if l3.toInt = 8 then ((f_X7_speak l1 l4 l3 s1).bind (fun r22 =>
 some (r22.1, r22.2)))
 else if l3.toInt = 9 then ((f_X7_speak l1 l4 l3 s1).bind (fun r23 =>
 some (r23.1, r23.2)))
 else if l3.toInt = 10 then (t_let (t_setI s1 l1 10 (0 : Int32)) (fun s3 =>
 some ((0 : Int32), s3)))
 else if l3.toInt = 11 then (t_let (t_setI s1 l1 10 (0 : Int32)) (fun s4 =>
 some ((0 : Int32), s4)))
 else if l3.toInt = 12 then (t_let (t_setI s1 l1 10 (0 : Int32)) (fun s5 =>
 some ((0 : Int32), s5)))
 else if l3.toInt = 13 then (t_let (t_setI s1 l1 10 (0 : Int32)) (fun s6 =>
 some ((0 : Int32), s6)))
 else if l3.toInt = 14 then (if t_oka l4 1 (t_ln l4) = true then
  if t_ix (6 : Int32) (t_ln l4) = true then
  (f_X7_beginTimer l1 (s1.1 l4 ((6 : Int32).toNatClampNeg)) s1).bind (fun r26 =>
 some (r26.1, r26.2))
else none
else none)
 else if l3.toInt = 15 then (if t_oka l4 1 (t_ln l4) = true then
  if t_ix (6 : Int32) (t_ln l4) = true then
  if t_ix (s1.1 l4 ((6 : Int32).toNatClampNeg)) 4 = true then
  t_let (t_setJ s1 (l1 + 9) ((s1.1 l4 ((6 : Int32).toNatClampNeg)).toNatClampNeg) (-1 : Int64)) (fun s7 =>
 some ((0 : Int32), s7))
else none
else none
else none)
 else if l3.toInt = 16 then ((f_X0_pushCell (f_X8_plainCell (5 : Int32) ((s1.1 864 6).toInt64) s1) s1).bind (fun r31 =>
 if t_oka l4 1 (t_ln l4) = true then
  if t_ix (7 : Int32) (t_ln l4) = true then
  (f_X7_assign l1 (r31.1 l4 ((7 : Int32).toNatClampNeg)) r31).bind (fun r34 =>
 if r34.1 = (0 : Int32) then (t_let (t_setI r34.2 864 6 ((r34.2.1 864 6) + (1 : Int32))) (fun s8 =>
 if t_ix (6 : Int32) (t_ln l4) = true then
  (f_X8_note (8 : Int32) ((s8.1 864 6) - (1 : Int32)) (s8.1 l4 ((6 : Int32).toNatClampNeg)) s8).bind (fun r36 =>
 some ((0 : Int32), r36))
else none))
 else (some (r34.1, r34.2)))
else none
else none))
 else if l3.toInt = 17 then ((f_X7_start l1 l4 s1).bind (fun r37 =>
 some (r37.1, r37.2)))
 else if l3.toInt = 18 then ((f_X7_connect l4 s1).bind (fun r38 =>
 some (r38.1, r38.2)))
 else if l3.toInt = 19 then ((f_X7_stop l1 l4 s1).bind (fun r39 =>
 some (r39.1, r39.2)))
 else ((f_X7_addUsual l1 l4 s1).bind (fun r40 =>
 some (r40.1, r40.2))))
else none)
else none)
 else (some (k0, s))
set_option maxRecDepth 4000 in
set_option maxHeartbeats 1000000 in
theorem B_X7_perform_33 {D : va_G} {cy : Nat → ClassId} {ad : Nat → Nat} {bs : Nat} {X : State → Heap → Prop} (l1 : Nat) (l2 : Int32) (l3 : Int32) (l4 : Nat) (k0 : Int32) (s : t_S) (Q : Int32 × t_S → Prop) (hk : t_hk (k_X7_perform_33 l1 l2 l3 l4 k0 s) Q) : mj_G D cy ad bs X cX7_perform 7 yX7_perform.cls (some .int) yX7_perform.name 406 0 0 1065 (t_P (fun v s' => ∃ x, v = some (.int x) ∧ Q ((x, s')))) 33 [(0, .ref 864), (1, .ref l1), (2, .int l2), (3, .int l3), (4, .ref l4)] [.int k0] (t_m s) 1065 0 0 := by
  refine mj_istore (lv2 := [(5, .int k0), (0, .ref 864), (1, .ref l1), (2, .int l2), (3, .int l3), (4, .ref l4)]) dX7_perform_33 (by decide) rfl ?_
  refine mj_iload dX7_perform_35 0 rfl ?_
  refine mj_if_eq 43 dX7_perform_37 (by decide) (fun z => t_posK hk z (fun hk => ?_)) (fun z => t_negK hk z (fun hk => ?_))
  · refine mj_aload_n dX7_perform_43 2 rfl ?_
    refine t_chkK hk (fun c0 hk => ?_)
    refine t_getI dX7_perform_44 F_X7_191 (t_pf6 c0) ?_
    refine mj_iconst (v := 1) dX7_perform_47 (by decide) ?_
    refine mj_isub dX7_perform_48 ?_
    refine mj_istore (lv2 := [(6, .int ((s.1 l1 6) - (1 : Int32))), (5, .int k0), (0, .ref 864), (1, .ref l1), (2, .int l2), (3, .int l3), (4, .ref l4)]) dX7_perform_49 (by decide) rfl ?_
    refine mj_aload_n dX7_perform_51 3 rfl ?_
    refine t_getR (l1 + 2) dX7_perform_52 F_X7_194 (t_pr8 c0) ?_
    refine mj_iload dX7_perform_55 0 rfl ?_
    refine mj_aload_n dX7_perform_57 2 rfl ?_
    refine t_getR 428 dX7_perform_58 F_X7_31 qr_864_4 ?_
    refine mj_iload_n dX7_perform_61 4 rfl ?_
    refine t_bndK hk (fun r2 er2 hk => ?_)
    refine t_callViP dX7_perform_62 M_X5_after (C_X5_after _ _ _ er2) ML_X7_264 IM_X5_after SE_X5_after qc_428 rfl (As := [.int l2]) rfl rfl (Nat.le_of_ble_eq_true rfl) (Nat.le_of_ble_eq_true rfl) (Nat.le_of_ble_eq_true rfl) (Nat.le_of_ble_eq_true rfl) ?_
    refine t_chkK hk (fun c2 hk => ?_)
    refine t_iastK dX7_perform_65 (t_pa8 c0) (t_ixv c2) (fun s1 ws1 => t_letE hk ws1 (fun hk => ?_))
    refine mj_iload_n dX7_perform_66 5 rfl ?_
    by_cases hout : l3.toInt < 1 ∨ 20 < l3.toInt
    · replace hk := t_pos hk hout
      refine mj_tableOut 419 dX7_perform_67 hout (by decide) ?_
      refine mj_aload_n dX7_perform_419 3 rfl ?_
      refine mj_iconst (v := 0) dX7_perform_420 (by decide) ?_
      refine t_putIK dX7_perform_421 F_X7_246 (t_pf10 c0) rfl (fun s2 ws2 => t_letE hk ws2 (fun hk => ?_))
      refine mj_iconst (v := 0) dX7_perform_424 (by decide) ?_
      exact t_somK hk (fun hf => t_iret dX7_perform_425 rfl rfl ⟨_, rfl, hf⟩ (Nat.le_of_ble_eq_true rfl) (Nat.le_of_ble_eq_true rfl))
    · replace hk := t_neg hk hout
      have hh1 : ¬ l3.toInt < 1 := fun z => hout (Or.inl z)
      have hh2 : ¬ (20 : Int) < l3.toInt := fun z => hout (Or.inr z)
      by_cases h0 : l3.toInt = 1
      · replace hk := t_pos hk h0
        refine mj_tableIn 160 dX7_perform_67 hh1 hh2 (by rw [h0]; rfl) (by decide) ?_
        refine mj_aload_n dX7_perform_160 2 rfl ?_
        refine mj_aload_n dX7_perform_161 3 rfl ?_
        refine mj_aload dX7_perform_162 6 rfl ?_
        refine mj_bipush (v := 7) dX7_perform_164 (by decide) ?_
        refine t_chkK hk (fun c3 hk => ?_)
        refine t_chkK hk (fun c4 hk => ?_)
        refine t_iald dX7_perform_166 c3 (t_ixv c4) ?_
        refine t_bndK hk (fun r6 er6 hk => ?_)
        refine t_callViE dX7_perform_167 M_X7_assign (C_X7_assign _ _ _ _ er6) ML_X7_234 IM_X7_assign SE_X7_assign qc_864 rfl (As := [.ref l1, .int (s1.1 l4 ((7 : Int32).toNatClampNeg))]) rfl rfl (Nat.le_of_ble_eq_true rfl) (Nat.le_of_ble_eq_true rfl) (Nat.le_of_ble_eq_true rfl) (Nat.le_of_ble_eq_true rfl) ?_
        exact t_somK hk (fun hf => t_iret dX7_perform_170 rfl rfl ⟨_, rfl, hf⟩ (Nat.le_of_ble_eq_true rfl) (Nat.le_of_ble_eq_true rfl))
      replace hk := t_neg hk h0
      by_cases h1 : l3.toInt = 2
      · replace hk := t_pos hk h1
        refine mj_tableIn 171 dX7_perform_67 hh1 hh2 (by rw [h1]; rfl) (by decide) ?_
        refine mj_aload dX7_perform_171 6 rfl ?_
        refine mj_bipush (v := 9) dX7_perform_173 (by decide) ?_
        refine t_chkK hk (fun c6 hk => ?_)
        refine t_chkK hk (fun c7 hk => ?_)
        refine t_iald dX7_perform_175 c6 (t_ixv c7) ?_
        refine mj_aload dX7_perform_176 6 rfl ?_
        refine mj_iconst (v := 5) dX7_perform_178 (by decide) ?_
        refine t_chkK hk (fun c8 hk => ?_)
        refine t_iald dX7_perform_179 c6 (t_ixv c8) ?_
        refine mj_icmp_le 210 dX7_perform_180 (by decide) (fun z => t_posK hk z (fun hk => ?_)) (fun z => t_negK hk z (fun hk => ?_))
        · refine mj_sublv [(0, .ref 864), (1, .ref l1), (4, .ref l4), (5, .int k0)] [2, 3, 6, 1] rfl ?_
          exact B_X7_perform_210 _ _ _ _ _ hk
        · refine mj_aload_n dX7_perform_183 2 rfl ?_
          refine t_getR 334 dX7_perform_184 F_X7_23 qr_864_2 ?_
          refine mj_aload dX7_perform_187 6 rfl ?_
          refine mj_iconst (v := 5) dX7_perform_189 (by decide) ?_
          refine t_iald dX7_perform_190 c6 (t_ixv c8) ?_
          refine mj_aload dX7_perform_191 6 rfl ?_
          refine mj_bipush (v := 9) dX7_perform_193 (by decide) ?_
          refine t_iald dX7_perform_195 c6 (t_ixv c7) ?_
          refine mj_aload_n dX7_perform_196 3 rfl ?_
          refine mj_aload dX7_perform_197 6 rfl ?_
          refine mj_bipush (v := 7) dX7_perform_199 (by decide) ?_
          refine t_chkK hk (fun c9 hk => ?_)
          refine t_iald dX7_perform_201 c6 (t_ixv c9) ?_
          refine t_bndK hk (fun r11 er11 hk => ?_)
          refine t_callSiP dX7_perform_202 M_X7_slotOf (C_X7_slotOf _ _ _ _ er11) ML_X7_243 SM_X7_slotOf (As := [.ref l1, .int (s1.1 l4 ((7 : Int32).toNatClampNeg))]) rfl rfl (Nat.le_of_ble_eq_true rfl) (Nat.le_of_ble_eq_true rfl) (Nat.le_of_ble_eq_true rfl) (Nat.le_of_ble_eq_true rfl) ?_
          refine t_bndK hk (fun r12 er12 hk => ?_)
          refine t_callViE dX7_perform_205 M_X0_assignPart (C_X0_assignPart _ _ _ _ _ er12) ML_X7_267 IM_X0_assignPart SE_X0_assignPart qc_334 rfl (As := [.int (s1.1 l4 ((5 : Int32).toNatClampNeg)), .int (s1.1 l4 ((9 : Int32).toNatClampNeg)), .int r11]) rfl rfl (Nat.le_of_ble_eq_true rfl) (Nat.le_of_ble_eq_true rfl) (Nat.le_of_ble_eq_true rfl) (Nat.le_of_ble_eq_true rfl) ?_
          refine mj_istore (lv2 := [(5, .int r12.1), (6, .int ((s.1 l1 6) - (1 : Int32))), (0, .ref 864), (1, .ref l1), (2, .int l2), (3, .int l3), (4, .ref l4)]) dX7_perform_208 (by decide) rfl ?_
          refine mj_sublv [(0, .ref 864), (1, .ref l1), (4, .ref l4), (5, .int r12.1)] [2, 3, 6, 0] rfl ?_
          exact B_X7_perform_210 _ _ _ _ _ hk
      replace hk := t_neg hk h1
      by_cases h2 : l3.toInt = 3
      · replace hk := t_pos hk h2
        refine mj_tableIn 231 dX7_perform_67 hh1 hh2 (by rw [h2]; rfl) (by decide) ?_
        refine mj_aload_n dX7_perform_231 2 rfl ?_
        refine mj_aload_n dX7_perform_232 3 rfl ?_
        refine mj_iload_n dX7_perform_233 4 rfl ?_
        refine t_bndK hk (fun r13 er13 hk => ?_)
        refine t_callViE dX7_perform_234 M_X7_choose (C_X7_choose _ _ _ _ er13) ML_X7_271 IM_X7_choose SE_X7_choose qc_864 rfl (As := [.ref l1, .int l2]) rfl rfl (Nat.le_of_ble_eq_true rfl) (Nat.le_of_ble_eq_true rfl) (Nat.le_of_ble_eq_true rfl) (Nat.le_of_ble_eq_true rfl) ?_
        exact t_somK hk (fun hf => t_iret dX7_perform_237 rfl rfl ⟨_, rfl, hf⟩ (Nat.le_of_ble_eq_true rfl) (Nat.le_of_ble_eq_true rfl))
      replace hk := t_neg hk h2
      by_cases h3 : l3.toInt = 4
      · replace hk := t_pos hk h3
        refine mj_tableIn 231 dX7_perform_67 hh1 hh2 (by rw [h3]; rfl) (by decide) ?_
        refine mj_aload_n dX7_perform_231 2 rfl ?_
        refine mj_aload_n dX7_perform_232 3 rfl ?_
        refine mj_iload_n dX7_perform_233 4 rfl ?_
        refine t_bndK hk (fun r14 er14 hk => ?_)
        refine t_callViE dX7_perform_234 M_X7_choose (C_X7_choose _ _ _ _ er14) ML_X7_271 IM_X7_choose SE_X7_choose qc_864 rfl (As := [.ref l1, .int l2]) rfl rfl (Nat.le_of_ble_eq_true rfl) (Nat.le_of_ble_eq_true rfl) (Nat.le_of_ble_eq_true rfl) (Nat.le_of_ble_eq_true rfl) ?_
        exact t_somK hk (fun hf => t_iret dX7_perform_237 rfl rfl ⟨_, rfl, hf⟩ (Nat.le_of_ble_eq_true rfl) (Nat.le_of_ble_eq_true rfl))
      replace hk := t_neg hk h3
      by_cases h4 : l3.toInt = 5
      · replace hk := t_pos hk h4
        refine mj_tableIn 238 dX7_perform_67 hh1 hh2 (by rw [h4]; rfl) (by decide) ?_
        refine mj_aload dX7_perform_238 6 rfl ?_
        refine mj_iconst (v := 5) dX7_perform_240 (by decide) ?_
        refine t_chkK hk (fun c14 hk => ?_)
        refine t_chkK hk (fun c15 hk => ?_)
        refine t_iald dX7_perform_241 c14 (t_ixv c15) ?_
        refine mj_if_ge 255 dX7_perform_242 (by decide) (fun z => t_posK hk z (fun hk => ?_)) (fun z => t_negK hk z (fun hk => ?_))
        · refine mj_sublv [(1, .ref l1), (6, .int ((s.1 l1 6) - (1 : Int32)))] [3, 0] rfl ?_
          exact B_X7_perform_255 _ _ _ _ hk
        · refine mj_aload_n dX7_perform_245 2 rfl ?_
          refine t_getR 334 dX7_perform_246 F_X7_23 qr_864_2 ?_
          refine mj_ldc2 dX7_perform_249 K_X7_225 ?_
          refine t_bndK hk (fun r17 er17 hk => ?_)
          refine t_callVvE dX7_perform_252 M_X0_pushCell (C_X0_pushCell _ _ _ er17) ML_X7_227 IM_X0_pushCell SE_X0_pushCell qc_334 rfl (As := [.long 20]) rfl rfl (Nat.le_of_ble_eq_true rfl) (Nat.le_of_ble_eq_true rfl) (Nat.le_of_ble_eq_true rfl) (Nat.le_of_ble_eq_true rfl) ?_
          refine mj_sublv [(1, .ref l1), (6, .int ((s.1 l1 6) - (1 : Int32)))] [3, 0] rfl ?_
          exact B_X7_perform_255 _ _ _ _ hk
      replace hk := t_neg hk h4
      by_cases h5 : l3.toInt = 6
      · replace hk := t_pos hk h5
        refine mj_tableIn 265 dX7_perform_67 hh1 hh2 (by rw [h5]; rfl) (by decide) ?_
        refine mj_aload_n dX7_perform_265 2 rfl ?_
        refine mj_aload_n dX7_perform_266 3 rfl ?_
        refine mj_aload dX7_perform_267 6 rfl ?_
        refine t_bndK hk (fun r18 er18 hk => ?_)
        refine t_callViE dX7_perform_269 M_X7_call (C_X7_call _ _ _ _ er18) ML_X7_274 IM_X7_call SE_X7_call qc_864 rfl (As := [.ref l1, .ref l4]) rfl rfl (Nat.le_of_ble_eq_true rfl) (Nat.le_of_ble_eq_true rfl) (Nat.le_of_ble_eq_true rfl) (Nat.le_of_ble_eq_true rfl) ?_
        exact t_somK hk (fun hf => t_iret dX7_perform_272 rfl rfl ⟨_, rfl, hf⟩ (Nat.le_of_ble_eq_true rfl) (Nat.le_of_ble_eq_true rfl))
      replace hk := t_neg hk h5
      by_cases h6 : l3.toInt = 7
      · replace hk := t_pos hk h6
        refine mj_tableIn 273 dX7_perform_67 hh1 hh2 (by rw [h6]; rfl) (by decide) ?_
        refine mj_aload_n dX7_perform_273 2 rfl ?_
        refine mj_aload_n dX7_perform_274 3 rfl ?_
        refine mj_aload dX7_perform_275 6 rfl ?_
        refine mj_bipush (v := 6) dX7_perform_277 (by decide) ?_
        refine t_chkK hk (fun c18 hk => ?_)
        refine t_chkK hk (fun c19 hk => ?_)
        refine t_iald dX7_perform_279 c18 (t_ixv c19) ?_
        refine t_bndK hk (fun r21 er21 hk => ?_)
        refine t_callVvE dX7_perform_280 M_X7_judge (C_X7_judge _ _ _ _ er21) ML_X7_261 IM_X7_judge SE_X7_judge qc_864 rfl (As := [.ref l1, .int (s1.1 l4 ((6 : Int32).toNatClampNeg))]) rfl rfl (Nat.le_of_ble_eq_true rfl) (Nat.le_of_ble_eq_true rfl) (Nat.le_of_ble_eq_true rfl) (Nat.le_of_ble_eq_true rfl) ?_
        refine mj_iconst (v := 0) dX7_perform_283 (by decide) ?_
        exact t_somK hk (fun hf => t_iret dX7_perform_284 rfl rfl ⟨_, rfl, hf⟩ (Nat.le_of_ble_eq_true rfl) (Nat.le_of_ble_eq_true rfl))
      replace hk := t_neg hk h6
      by_cases h7 : l3.toInt = 8
      · replace hk := t_pos hk h7
        refine mj_tableIn 285 dX7_perform_67 hh1 hh2 (by rw [h7]; rfl) (by decide) ?_
        refine mj_aload_n dX7_perform_285 2 rfl ?_
        refine mj_aload_n dX7_perform_286 3 rfl ?_
        refine mj_aload dX7_perform_287 6 rfl ?_
        refine mj_iload_n dX7_perform_289 5 rfl ?_
        refine t_bndK hk (fun r22 er22 hk => ?_)
        refine t_callViE dX7_perform_290 M_X7_speak (C_X7_speak _ _ _ _ _ er22) ML_X7_278 IM_X7_speak SE_X7_speak qc_864 rfl (As := [.ref l1, .ref l4, .int l3]) rfl rfl (Nat.le_of_ble_eq_true rfl) (Nat.le_of_ble_eq_true rfl) (Nat.le_of_ble_eq_true rfl) (Nat.le_of_ble_eq_true rfl) ?_
        exact t_somK hk (fun hf => t_iret dX7_perform_293 rfl rfl ⟨_, rfl, hf⟩ (Nat.le_of_ble_eq_true rfl) (Nat.le_of_ble_eq_true rfl))
      replace hk := t_neg hk h7
      by_cases h8 : l3.toInt = 9
      · replace hk := t_pos hk h8
        refine mj_tableIn 285 dX7_perform_67 hh1 hh2 (by rw [h8]; rfl) (by decide) ?_
        refine mj_aload_n dX7_perform_285 2 rfl ?_
        refine mj_aload_n dX7_perform_286 3 rfl ?_
        refine mj_aload dX7_perform_287 6 rfl ?_
        refine mj_iload_n dX7_perform_289 5 rfl ?_
        refine t_bndK hk (fun r23 er23 hk => ?_)
        refine t_callViE dX7_perform_290 M_X7_speak (C_X7_speak _ _ _ _ _ er23) ML_X7_278 IM_X7_speak SE_X7_speak qc_864 rfl (As := [.ref l1, .ref l4, .int l3]) rfl rfl (Nat.le_of_ble_eq_true rfl) (Nat.le_of_ble_eq_true rfl) (Nat.le_of_ble_eq_true rfl) (Nat.le_of_ble_eq_true rfl) ?_
        exact t_somK hk (fun hf => t_iret dX7_perform_293 rfl rfl ⟨_, rfl, hf⟩ (Nat.le_of_ble_eq_true rfl) (Nat.le_of_ble_eq_true rfl))
      replace hk := t_neg hk h8
      by_cases h9 : l3.toInt = 10
      · replace hk := t_pos hk h9
        refine mj_tableIn 419 dX7_perform_67 hh1 hh2 (by rw [h9]; rfl) (by decide) ?_
        refine mj_aload_n dX7_perform_419 3 rfl ?_
        refine mj_iconst (v := 0) dX7_perform_420 (by decide) ?_
        refine t_putIK dX7_perform_421 F_X7_246 (t_pf10 c0) rfl (fun s3 ws3 => t_letE hk ws3 (fun hk => ?_))
        refine mj_iconst (v := 0) dX7_perform_424 (by decide) ?_
        exact t_somK hk (fun hf => t_iret dX7_perform_425 rfl rfl ⟨_, rfl, hf⟩ (Nat.le_of_ble_eq_true rfl) (Nat.le_of_ble_eq_true rfl))
      replace hk := t_neg hk h9
      by_cases h10 : l3.toInt = 11
      · replace hk := t_pos hk h10
        refine mj_tableIn 419 dX7_perform_67 hh1 hh2 (by rw [h10]; rfl) (by decide) ?_
        refine mj_aload_n dX7_perform_419 3 rfl ?_
        refine mj_iconst (v := 0) dX7_perform_420 (by decide) ?_
        refine t_putIK dX7_perform_421 F_X7_246 (t_pf10 c0) rfl (fun s4 ws4 => t_letE hk ws4 (fun hk => ?_))
        refine mj_iconst (v := 0) dX7_perform_424 (by decide) ?_
        exact t_somK hk (fun hf => t_iret dX7_perform_425 rfl rfl ⟨_, rfl, hf⟩ (Nat.le_of_ble_eq_true rfl) (Nat.le_of_ble_eq_true rfl))
      replace hk := t_neg hk h10
      by_cases h11 : l3.toInt = 12
      · replace hk := t_pos hk h11
        refine mj_tableIn 419 dX7_perform_67 hh1 hh2 (by rw [h11]; rfl) (by decide) ?_
        refine mj_aload_n dX7_perform_419 3 rfl ?_
        refine mj_iconst (v := 0) dX7_perform_420 (by decide) ?_
        refine t_putIK dX7_perform_421 F_X7_246 (t_pf10 c0) rfl (fun s5 ws5 => t_letE hk ws5 (fun hk => ?_))
        refine mj_iconst (v := 0) dX7_perform_424 (by decide) ?_
        exact t_somK hk (fun hf => t_iret dX7_perform_425 rfl rfl ⟨_, rfl, hf⟩ (Nat.le_of_ble_eq_true rfl) (Nat.le_of_ble_eq_true rfl))
      replace hk := t_neg hk h11
      by_cases h12 : l3.toInt = 13
      · replace hk := t_pos hk h12
        refine mj_tableIn 419 dX7_perform_67 hh1 hh2 (by rw [h12]; rfl) (by decide) ?_
        refine mj_aload_n dX7_perform_419 3 rfl ?_
        refine mj_iconst (v := 0) dX7_perform_420 (by decide) ?_
        refine t_putIK dX7_perform_421 F_X7_246 (t_pf10 c0) rfl (fun s6 ws6 => t_letE hk ws6 (fun hk => ?_))
        refine mj_iconst (v := 0) dX7_perform_424 (by decide) ?_
        exact t_somK hk (fun hf => t_iret dX7_perform_425 rfl rfl ⟨_, rfl, hf⟩ (Nat.le_of_ble_eq_true rfl) (Nat.le_of_ble_eq_true rfl))
      replace hk := t_neg hk h12
      by_cases h13 : l3.toInt = 14
      · replace hk := t_pos hk h13
        refine mj_tableIn 294 dX7_perform_67 hh1 hh2 (by rw [h13]; rfl) (by decide) ?_
        refine mj_aload_n dX7_perform_294 2 rfl ?_
        refine mj_aload_n dX7_perform_295 3 rfl ?_
        refine mj_aload dX7_perform_296 6 rfl ?_
        refine mj_bipush (v := 6) dX7_perform_298 (by decide) ?_
        refine t_chkK hk (fun c23 hk => ?_)
        refine t_chkK hk (fun c24 hk => ?_)
        refine t_iald dX7_perform_300 c23 (t_ixv c24) ?_
        refine t_bndK hk (fun r26 er26 hk => ?_)
        refine t_callViE dX7_perform_301 M_X7_beginTimer (C_X7_beginTimer _ _ _ _ er26) ML_X7_282 IM_X7_beginTimer SE_X7_beginTimer qc_864 rfl (As := [.ref l1, .int (s1.1 l4 ((6 : Int32).toNatClampNeg))]) rfl rfl (Nat.le_of_ble_eq_true rfl) (Nat.le_of_ble_eq_true rfl) (Nat.le_of_ble_eq_true rfl) (Nat.le_of_ble_eq_true rfl) ?_
        exact t_somK hk (fun hf => t_iret dX7_perform_304 rfl rfl ⟨_, rfl, hf⟩ (Nat.le_of_ble_eq_true rfl) (Nat.le_of_ble_eq_true rfl))
      replace hk := t_neg hk h13
      by_cases h14 : l3.toInt = 15
      · replace hk := t_pos hk h14
        refine mj_tableIn 305 dX7_perform_67 hh1 hh2 (by rw [h14]; rfl) (by decide) ?_
        refine mj_aload_n dX7_perform_305 3 rfl ?_
        refine t_getR (l1 + 9) dX7_perform_306 F_X7_249 (t_pr16 c0) ?_
        refine mj_aload dX7_perform_309 6 rfl ?_
        refine mj_bipush (v := 6) dX7_perform_311 (by decide) ?_
        refine t_chkK hk (fun c26 hk => ?_)
        refine t_chkK hk (fun c27 hk => ?_)
        refine t_iald dX7_perform_313 c26 (t_ixv c27) ?_
        refine mj_ldc2 dX7_perform_314 K_X7_252 ?_
        refine t_chkK hk (fun c28 hk => ?_)
        refine t_lastK dX7_perform_317 (t_pa16 c0) (t_ixv c28) (fun s7 ws7 => t_letE hk ws7 (fun hk => ?_))
        refine mj_iconst (v := 0) dX7_perform_318 (by decide) ?_
        exact t_somK hk (fun hf => t_iret dX7_perform_319 rfl rfl ⟨_, rfl, hf⟩ (Nat.le_of_ble_eq_true rfl) (Nat.le_of_ble_eq_true rfl))
      replace hk := t_neg hk h14
      by_cases h15 : l3.toInt = 16
      · replace hk := t_pos hk h15
        refine mj_tableIn 320 dX7_perform_67 hh1 hh2 (by rw [h15]; rfl) (by decide) ?_
        refine mj_aload_n dX7_perform_320 2 rfl ?_
        refine t_getR 334 dX7_perform_321 F_X7_23 qr_864_2 ?_
        refine mj_iconst (v := 5) dX7_perform_324 (by decide) ?_
        refine mj_aload_n dX7_perform_325 2 rfl ?_
        refine t_getI dX7_perform_326 F_X7_42 qf_864_6 ?_
        refine mj_i2l (v := (s1.1 864 6).toInt64) dX7_perform_329 rfl ?_
        refine t_callSlP dX7_perform_330 M_X8_plainCell (C_X8_plainCell _ _ _) ML_X7_285 SM_X8_plainCell (As := [.int 5, .long ((s1.1 864 6).toInt64)]) rfl rfl (Nat.le_of_ble_eq_true rfl) (Nat.le_of_ble_eq_true rfl) (Nat.le_of_ble_eq_true rfl) (Nat.le_of_ble_eq_true rfl) ?_
        refine t_bndK hk (fun r31 er31 hk => ?_)
        refine t_callVvE dX7_perform_333 M_X0_pushCell (C_X0_pushCell _ _ _ er31) ML_X7_227 IM_X0_pushCell SE_X0_pushCell qc_334 rfl (As := [.long (f_X8_plainCell (5 : Int32) ((s1.1 864 6).toInt64) s1)]) rfl rfl (Nat.le_of_ble_eq_true rfl) (Nat.le_of_ble_eq_true rfl) (Nat.le_of_ble_eq_true rfl) (Nat.le_of_ble_eq_true rfl) ?_
        refine mj_aload_n dX7_perform_336 2 rfl ?_
        refine mj_aload_n dX7_perform_337 3 rfl ?_
        refine mj_aload dX7_perform_338 6 rfl ?_
        refine mj_bipush (v := 7) dX7_perform_340 (by decide) ?_
        refine t_chkK hk (fun c31 hk => ?_)
        refine t_chkK hk (fun c32 hk => ?_)
        refine t_iald dX7_perform_342 c31 (t_ixv c32) ?_
        refine t_bndK hk (fun r34 er34 hk => ?_)
        refine t_callViE dX7_perform_343 M_X7_assign (C_X7_assign _ _ _ _ er34) ML_X7_234 IM_X7_assign SE_X7_assign qc_864 rfl (As := [.ref l1, .int (r31.1 l4 ((7 : Int32).toNatClampNeg))]) rfl rfl (Nat.le_of_ble_eq_true rfl) (Nat.le_of_ble_eq_true rfl) (Nat.le_of_ble_eq_true rfl) (Nat.le_of_ble_eq_true rfl) ?_
        refine mj_istore (lv2 := [(5, .int r34.1), (6, .int ((s.1 l1 6) - (1 : Int32))), (0, .ref 864), (1, .ref l1), (2, .int l2), (3, .int l3), (4, .ref l4)]) dX7_perform_346 (by decide) rfl ?_
        refine mj_iload dX7_perform_348 0 rfl ?_
        refine mj_if_eq 356 dX7_perform_350 (by decide) (fun z => t_posK hk z (fun hk => ?_)) (fun z => t_negK hk z (fun hk => ?_))
        · refine mj_aload_n dX7_perform_356 2 rfl ?_
          refine mj_dup dX7_perform_357 rfl ?_
          refine t_getI dX7_perform_358 F_X7_42 qf_864_6 ?_
          refine mj_iconst (v := 1) dX7_perform_361 (by decide) ?_
          refine mj_iadd dX7_perform_362 ?_
          refine t_putIK dX7_perform_363 F_X7_42 qf_864_6 rfl (fun s8 ws8 => t_letE hk ws8 (fun hk => ?_))
          refine mj_aload_n dX7_perform_366 2 rfl ?_
          refine t_getR 12 dX7_perform_367 F_X7_15 qr_864_0 ?_
          refine mj_bipush (v := 8) dX7_perform_370 (by decide) ?_
          refine mj_aload_n dX7_perform_372 2 rfl ?_
          refine t_getI dX7_perform_373 F_X7_42 qf_864_6 ?_
          refine mj_iconst (v := 1) dX7_perform_376 (by decide) ?_
          refine mj_isub dX7_perform_377 ?_
          refine mj_aload dX7_perform_378 6 rfl ?_
          refine mj_bipush (v := 6) dX7_perform_380 (by decide) ?_
          refine t_chkK hk (fun c34 hk => ?_)
          refine t_iald dX7_perform_382 c31 (t_ixv c34) ?_
          refine t_bndK hk (fun r36 er36 hk => ?_)
          refine t_callVvE dX7_perform_383 M_X8_note (C_X8_note _ _ _ _ _ er36) ML_X7_67 IM_X8_note SE_X8_note qc_12 rfl (As := [.int 8, .int ((s8.1 864 6) - (1 : Int32)), .int (s8.1 l4 ((6 : Int32).toNatClampNeg))]) rfl rfl (Nat.le_of_ble_eq_true rfl) (Nat.le_of_ble_eq_true rfl) (Nat.le_of_ble_eq_true rfl) (Nat.le_of_ble_eq_true rfl) ?_
          refine mj_iconst (v := 0) dX7_perform_386 (by decide) ?_
          exact t_somK hk (fun hf => t_iret dX7_perform_387 rfl rfl ⟨_, rfl, hf⟩ (Nat.le_of_ble_eq_true rfl) (Nat.le_of_ble_eq_true rfl))
        · refine mj_iload dX7_perform_353 0 rfl ?_
          exact t_somK hk (fun hf => t_iret dX7_perform_355 rfl rfl ⟨_, rfl, hf⟩ (Nat.le_of_ble_eq_true rfl) (Nat.le_of_ble_eq_true rfl))
      replace hk := t_neg hk h15
      by_cases h16 : l3.toInt = 17
      · replace hk := t_pos hk h16
        refine mj_tableIn 388 dX7_perform_67 hh1 hh2 (by rw [h16]; rfl) (by decide) ?_
        refine mj_aload_n dX7_perform_388 2 rfl ?_
        refine mj_aload_n dX7_perform_389 3 rfl ?_
        refine mj_aload dX7_perform_390 6 rfl ?_
        refine t_bndK hk (fun r37 er37 hk => ?_)
        refine t_callViE dX7_perform_392 M_X7_start (C_X7_start _ _ _ _ er37) ML_X7_289 IM_X7_start SE_X7_start qc_864 rfl (As := [.ref l1, .ref l4]) rfl rfl (Nat.le_of_ble_eq_true rfl) (Nat.le_of_ble_eq_true rfl) (Nat.le_of_ble_eq_true rfl) (Nat.le_of_ble_eq_true rfl) ?_
        exact t_somK hk (fun hf => t_iret dX7_perform_395 rfl rfl ⟨_, rfl, hf⟩ (Nat.le_of_ble_eq_true rfl) (Nat.le_of_ble_eq_true rfl))
      replace hk := t_neg hk h16
      by_cases h17 : l3.toInt = 18
      · replace hk := t_pos hk h17
        refine mj_tableIn 396 dX7_perform_67 hh1 hh2 (by rw [h17]; rfl) (by decide) ?_
        refine mj_aload_n dX7_perform_396 2 rfl ?_
        refine mj_aload dX7_perform_397 6 rfl ?_
        refine t_bndK hk (fun r38 er38 hk => ?_)
        refine t_callViE dX7_perform_399 M_X7_connect (C_X7_connect _ _ _ er38) ML_X7_292 IM_X7_connect SE_X7_connect qc_864 rfl (As := [.ref l4]) rfl rfl (Nat.le_of_ble_eq_true rfl) (Nat.le_of_ble_eq_true rfl) (Nat.le_of_ble_eq_true rfl) (Nat.le_of_ble_eq_true rfl) ?_
        exact t_somK hk (fun hf => t_iret dX7_perform_402 rfl rfl ⟨_, rfl, hf⟩ (Nat.le_of_ble_eq_true rfl) (Nat.le_of_ble_eq_true rfl))
      replace hk := t_neg hk h17
      by_cases h18 : l3.toInt = 19
      · replace hk := t_pos hk h18
        refine mj_tableIn 403 dX7_perform_67 hh1 hh2 (by rw [h18]; rfl) (by decide) ?_
        refine mj_aload_n dX7_perform_403 2 rfl ?_
        refine mj_aload_n dX7_perform_404 3 rfl ?_
        refine mj_aload dX7_perform_405 6 rfl ?_
        refine t_bndK hk (fun r39 er39 hk => ?_)
        refine t_callViE dX7_perform_407 M_X7_stop (C_X7_stop _ _ _ _ er39) ML_X7_296 IM_X7_stop SE_X7_stop qc_864 rfl (As := [.ref l1, .ref l4]) rfl rfl (Nat.le_of_ble_eq_true rfl) (Nat.le_of_ble_eq_true rfl) (Nat.le_of_ble_eq_true rfl) (Nat.le_of_ble_eq_true rfl) ?_
        exact t_somK hk (fun hf => t_iret dX7_perform_410 rfl rfl ⟨_, rfl, hf⟩ (Nat.le_of_ble_eq_true rfl) (Nat.le_of_ble_eq_true rfl))
      replace hk := t_neg hk h18
      have h19 : l3.toInt = 20 := by omega
      refine mj_tableIn 411 dX7_perform_67 hh1 hh2 (by rw [h19]; rfl) (by decide) ?_
      refine mj_aload_n dX7_perform_411 2 rfl ?_
      refine mj_aload_n dX7_perform_412 3 rfl ?_
      refine mj_aload dX7_perform_413 6 rfl ?_
      refine t_bndK hk (fun r40 er40 hk => ?_)
      refine t_callViE dX7_perform_415 M_X7_addUsual (C_X7_addUsual _ _ _ _ er40) ML_X7_299 IM_X7_addUsual SE_X7_addUsual qc_864 rfl (As := [.ref l1, .ref l4]) rfl rfl (Nat.le_of_ble_eq_true rfl) (Nat.le_of_ble_eq_true rfl) (Nat.le_of_ble_eq_true rfl) (Nat.le_of_ble_eq_true rfl) ?_
      exact t_somK hk (fun hf => t_iret dX7_perform_418 rfl rfl ⟨_, rfl, hf⟩ (Nat.le_of_ble_eq_true rfl) (Nat.le_of_ble_eq_true rfl))
  · refine mj_iload dX7_perform_40 0 rfl ?_
    exact t_somK hk (fun hf => t_iret dX7_perform_42 rfl rfl ⟨_, rfl, hf⟩ (Nat.le_of_ble_eq_true rfl) (Nat.le_of_ble_eq_true rfl))
noncomputable def f_X7_perform (x1 : Nat) (x2 : Int32) (x3 : Int32) (s : t_S) : Option (Int32 × t_S) :=
 if t_ix x2 400 = true then
  if (s.1 (445 + 1 * (x2.toNatClampNeg)) ((5 : Int32).toNatClampNeg)) < (0 : Int32) then (k_X7_perform_33 x1 x2 x3 (445 + 1 * (x2.toNatClampNeg)) 0 s)
 else ((f_X0_work (s.1 (445 + 1 * (x2.toNatClampNeg)) ((5 : Int32).toNatClampNeg)) s).bind (fun r2 =>
 k_X7_perform_33 x1 x2 x3 (445 + 1 * (x2.toNatClampNeg)) r2.1 r2.2))
else none
set_option maxRecDepth 4000 in
set_option maxHeartbeats 1000000 in
theorem C_X7_perform (x1 : Nat) (x2 : Int32) (x3 : Int32) (s : t_S) (r : Int32 × t_S) (hr : f_X7_perform x1 x2 x3 s = some r) : t_C yX7_perform cX7_perform 7 (some .int) 406 [.ref 864, .ref x1, .int x2, .int x3] s (fun v s' => v = some (.int r.1) ∧ s' = r.2) := by
  refine t_C.imp (P := fun v s' => ∃ x, v = some (.int x) ∧ (fun q => q = r) ((x, s'))) (t_C.of (by decide +kernel) (Nat.le_of_ble_eq_true rfl) ?_) (fun v s' hp => by obtain ⟨x, rfl, rfl⟩ := hp; exact ⟨rfl, rfl⟩)
  intro D cy ad bs X
  have hk : t_hk (f_X7_perform x1 x2 x3 s) (fun q => q = r) := ⟨r, hr, rfl⟩
  show mj_G D cy ad bs X cX7_perform 7 yX7_perform.cls (some .int) yX7_perform.name 406 0 0 1065 (t_P (fun v s' => ∃ x, v = some (.int x) ∧ (fun q => q = r) ((x, s')))) 0 [(0, .ref 864), (1, .ref x1), (2, .int x2), (3, .int x3)] [] (t_m s) 1065 0 0
  refine mj_aload_n dX7_perform_0 0 rfl ?_
  refine t_getR 428 dX7_perform_1 F_X7_31 qr_864_4 ?_
  refine t_getR 444 dX7_perform_4 F_X7_179 qr_428_17 ?_
  refine mj_iload_n dX7_perform_7 2 rfl ?_
  refine t_chkK hk (fun c0 hk => ?_)
  refine t_aaldI dX7_perform_8 qq_444 (t_ixv c0) ?_
  refine mj_astore (lv2 := [(4, .ref (445 + 1 * (x2.toNatClampNeg))), (0, .ref 864), (1, .ref x1), (2, .int x2), (3, .int x3)]) dX7_perform_9 (by decide) rfl ?_
  refine mj_aload dX7_perform_11 0 rfl ?_
  refine mj_iconst (v := 5) dX7_perform_13 (by decide) ?_
  refine t_iald dX7_perform_14 (t_row445 (t_ixn c0)) (by unfold vp_in; decide) ?_
  refine mj_if_lt 32 dX7_perform_15 (by decide) (fun z => t_posK hk z (fun hk => ?_)) (fun z => t_negK hk z (fun hk => ?_))
  · refine mj_iconst (v := 0) dX7_perform_32 (by decide) ?_
    refine mj_sublv [(0, .ref 864), (1, .ref x1), (2, .int x2), (3, .int x3), (4, .ref (445 + 1 * (x2.toNatClampNeg)))] [1, 2, 3, 4, 0] rfl ?_
    exact B_X7_perform_33 _ _ _ _ _ _ _ hk
  · refine mj_aload_n dX7_perform_18 1 rfl ?_
    refine t_getR 334 dX7_perform_19 F_X7_23 qr_864_2 ?_
    refine mj_aload dX7_perform_22 0 rfl ?_
    refine mj_iconst (v := 5) dX7_perform_24 (by decide) ?_
    refine t_iald dX7_perform_25 (t_row445 (t_ixn c0)) (by unfold vp_in; decide) ?_
    refine t_bndK hk (fun r2 er2 hk => ?_)
    refine t_callViE dX7_perform_26 M_X0_work (C_X0_work _ _ _ er2) ML_X7_124 IM_X0_work SE_X0_work qc_334 rfl (As := [.int (s.1 (445 + 1 * (x2.toNatClampNeg)) ((5 : Int32).toNatClampNeg))]) rfl rfl (Nat.le_of_ble_eq_true rfl) (Nat.le_of_ble_eq_true rfl) (Nat.le_of_ble_eq_true rfl) (Nat.le_of_ble_eq_true rfl) ?_
    refine mj_goto 33 dX7_perform_29 (by decide) ?_
    refine mj_sublv [(0, .ref 864), (1, .ref x1), (2, .int x2), (3, .int x3), (4, .ref (445 + 1 * (x2.toNatClampNeg)))] [1, 2, 3, 4, 0] rfl ?_
    exact B_X7_perform_33 _ _ _ _ _ _ _ hk

theorem dX7_settle_0 : decode cX7_settle 0 = .ok (.iconst 0, 1) := by decide +kernel
theorem dX7_settle_1 : decode cX7_settle 1 = .ok (.istore_n 3, 1) := by decide +kernel
theorem dX7_settle_100 : decode cX7_settle 100 = .ok (.iload 5, 2) := by decide +kernel
theorem dX7_settle_102 : decode cX7_settle 102 = .ok (.ireturn, 1) := by decide +kernel
theorem dX7_settle_103 : decode cX7_settle 103 = .ok (.iinc 3 1, 3) := by decide +kernel
theorem dX7_settle_106 : decode cX7_settle 106 = .ok (.goto (-104), 3) := by decide +kernel
theorem dX7_settle_109 : decode cX7_settle 109 = .ok (.iconst 0, 1) := by decide +kernel
theorem dX7_settle_110 : decode cX7_settle 110 = .ok (.ireturn, 1) := by decide +kernel
theorem dX7_settle_12 : decode cX7_settle 12 = .ok (.iconst 1, 1) := by decide +kernel
theorem dX7_settle_13 : decode cX7_settle 13 = .ok (.if_icmp .ne 96, 3) := by decide +kernel
theorem dX7_settle_16 : decode cX7_settle 16 = .ok (.aload_n 1, 1) := by decide +kernel
theorem dX7_settle_17 : decode cX7_settle 17 = .ok (.invokestatic 176, 3) := by decide +kernel
theorem dX7_settle_2 : decode cX7_settle 2 = .ok (.iload_n 3, 1) := by decide +kernel
theorem dX7_settle_20 : decode cX7_settle 20 = .ok (.ifCond .ge 89, 3) := by decide +kernel
theorem dX7_settle_23 : decode cX7_settle 23 = .ok (.aload_n 1, 1) := by decide +kernel
theorem dX7_settle_24 : decode cX7_settle 24 = .ok (.getfield 191, 3) := by decide +kernel
theorem dX7_settle_27 : decode cX7_settle 27 = .ok (.iconst 1, 1) := by decide +kernel
theorem dX7_settle_28 : decode cX7_settle 28 = .ok (.if_icmp .gt 10, 3) := by decide +kernel
theorem dX7_settle_3 : decode cX7_settle 3 = .ok (.bipush 8, 2) := by decide +kernel
theorem dX7_settle_31 : decode cX7_settle 31 = .ok (.aload_n 0, 1) := by decide +kernel
theorem dX7_settle_32 : decode cX7_settle 32 = .ok (.aload_n 1, 1) := by decide +kernel
theorem dX7_settle_33 : decode cX7_settle 33 = .ok (.invokevirtual 95, 3) := by decide +kernel
theorem dX7_settle_36 : decode cX7_settle 36 = .ok (.iconst 0, 1) := by decide +kernel
theorem dX7_settle_37 : decode cX7_settle 37 = .ok (.ireturn, 1) := by decide +kernel
theorem dX7_settle_38 : decode cX7_settle 38 = .ok (.iload_n 3, 1) := by decide +kernel
theorem dX7_settle_39 : decode cX7_settle 39 = .ok (.ifCond .gt 7, 3) := by decide +kernel
theorem dX7_settle_42 : decode cX7_settle 42 = .ok (.iload_n 2, 1) := by decide +kernel
theorem dX7_settle_43 : decode cX7_settle 43 = .ok (.ifCond .ne 13, 3) := by decide +kernel
theorem dX7_settle_46 : decode cX7_settle 46 = .ok (.aload_n 0, 1) := by decide +kernel
theorem dX7_settle_47 : decode cX7_settle 47 = .ok (.getfield 23, 3) := by decide +kernel
theorem dX7_settle_5 : decode cX7_settle 5 = .ok (.if_icmp .gt 104, 3) := by decide +kernel
theorem dX7_settle_50 : decode cX7_settle 50 = .ok (.ldc2_w 225, 3) := by decide +kernel
theorem dX7_settle_53 : decode cX7_settle 53 = .ok (.invokevirtual 227, 3) := by decide +kernel
theorem dX7_settle_56 : decode cX7_settle 56 = .ok (.aload_n 1, 1) := by decide +kernel
theorem dX7_settle_57 : decode cX7_settle 57 = .ok (.dup, 1) := by decide +kernel
theorem dX7_settle_58 : decode cX7_settle 58 = .ok (.getfield 191, 3) := by decide +kernel
theorem dX7_settle_61 : decode cX7_settle 61 = .ok (.iconst 1, 1) := by decide +kernel
theorem dX7_settle_62 : decode cX7_settle 62 = .ok (.isub, 1) := by decide +kernel
theorem dX7_settle_63 : decode cX7_settle 63 = .ok (.putfield 191, 3) := by decide +kernel
theorem dX7_settle_66 : decode cX7_settle 66 = .ok (.aload_n 1, 1) := by decide +kernel
theorem dX7_settle_67 : decode cX7_settle 67 = .ok (.getfield 231, 3) := by decide +kernel
theorem dX7_settle_70 : decode cX7_settle 70 = .ok (.aload_n 1, 1) := by decide +kernel
theorem dX7_settle_71 : decode cX7_settle 71 = .ok (.getfield 191, 3) := by decide +kernel
theorem dX7_settle_74 : decode cX7_settle 74 = .ok (.iaload, 1) := by decide +kernel
theorem dX7_settle_75 : decode cX7_settle 75 = .ok (.istore 4, 2) := by decide +kernel
theorem dX7_settle_77 : decode cX7_settle 77 = .ok (.iload 4, 2) := by decide +kernel
theorem dX7_settle_79 : decode cX7_settle 79 = .ok (.ifCond .ge 7, 3) := by decide +kernel
theorem dX7_settle_8 : decode cX7_settle 8 = .ok (.aload_n 1, 1) := by decide +kernel
theorem dX7_settle_82 : decode cX7_settle 82 = .ok (.iconst 0, 1) := by decide +kernel
theorem dX7_settle_83 : decode cX7_settle 83 = .ok (.goto 10, 3) := by decide +kernel
theorem dX7_settle_86 : decode cX7_settle 86 = .ok (.aload_n 0, 1) := by decide +kernel
theorem dX7_settle_87 : decode cX7_settle 87 = .ok (.aload_n 1, 1) := by decide +kernel
theorem dX7_settle_88 : decode cX7_settle 88 = .ok (.iload 4, 2) := by decide +kernel
theorem dX7_settle_9 : decode cX7_settle 9 = .ok (.getfield 82, 3) := by decide +kernel
theorem dX7_settle_90 : decode cX7_settle 90 = .ok (.invokevirtual 234, 3) := by decide +kernel
theorem dX7_settle_93 : decode cX7_settle 93 = .ok (.istore 5, 2) := by decide +kernel
theorem dX7_settle_95 : decode cX7_settle 95 = .ok (.iload 5, 2) := by decide +kernel
theorem dX7_settle_97 : decode cX7_settle 97 = .ok (.ifCond .eq 6, 3) := by decide +kernel
noncomputable def k_X7_settle_93 (l1 : Nat) (l2 : Int32) (l3 : Int32) (k0 : Int32) (s : t_S) : Option ((Nat × Int32 × Int32 × t_S) ⊕ (Int32 × t_S)) :=
 if k0 = (0 : Int32) then (some (.inl (l1, l2, (l3 + 1), s)))
 else ((some (k0, s)).map Sum.inr)
set_option maxRecDepth 4000 in
set_option maxHeartbeats 1000000 in
theorem B_X7_settle_93 {D : va_G} {cy : Nat → ClassId} {ad : Nat → Nat} {bs : Nat} {X : State → Heap → Prop} (l1 : Nat) (l2 : Int32) (l3 : Int32) (k0 : Int32) (s : t_S) (Q : (Nat × Int32 × Int32 × t_S) ⊕ (Int32 × t_S) → Prop) (Hb2 : ∀ (y0 : Nat) (y1 : Int32) (y2 : Int32) (y3 : t_S), Q (.inl (y0, y1, y2, y3)) → mj_G D cy ad bs X cX7_settle 6 yX7_settle.cls (some .int) yX7_settle.name 5 0 0 1065 (t_P (fun v s' => ∃ x, v = some (.int x) ∧ Q (.inr ((x, s'))))) 2 [(0, .ref 864), (1, .ref (y0)), (2, .int (y1)), (3, .int (y2))] [] (t_m y3) 1065 0 0) (hk : t_hk (k_X7_settle_93 l1 l2 l3 k0 s) Q) : mj_G D cy ad bs X cX7_settle 6 yX7_settle.cls (some .int) yX7_settle.name 5 0 0 1065 (t_P (fun v s' => ∃ x, v = some (.int x) ∧ Q (.inr ((x, s'))))) 93 [(0, .ref 864), (1, .ref l1), (2, .int l2), (3, .int l3)] [.int k0] (t_m s) 1065 0 0 := by
  refine mj_istore (lv2 := [(5, .int k0), (0, .ref 864), (1, .ref l1), (2, .int l2), (3, .int l3)]) dX7_settle_93 (by decide) rfl ?_
  refine mj_iload dX7_settle_95 0 rfl ?_
  refine mj_if_eq 103 dX7_settle_97 (by decide) (fun z => t_posK hk z (fun hk => ?_)) (fun z => t_negK hk z (fun hk => ?_))
  · refine mj_iinc (k := 4) (v := (l3 + 1)) (lv2 := [(3, .int (l3 + 1)), (5, .int k0), (0, .ref 864), (1, .ref l1), (2, .int l2)]) dX7_settle_103 rfl rfl (by decide) rfl ?_
    refine mj_goto 2 dX7_settle_106 (by decide) ?_
    refine mj_sublv [(0, .ref 864), (1, .ref l1), (2, .int l2), (3, .int (l3 + 1))] [2, 3, 4, 0] rfl ?_
    exact t_somK hk (fun hf => Hb2 l1 l2 (l3 + 1) s hf)
  · refine t_mapK hk (fun hk => ?_)
    refine mj_iload dX7_settle_100 0 rfl ?_
    exact t_somK hk (fun hf => t_iret dX7_settle_102 rfl rfl ⟨_, rfl, hf⟩ (Nat.le_of_ble_eq_true rfl) (Nat.le_of_ble_eq_true rfl))
noncomputable def k_X7_settle_56 (l1 : Nat) (l2 : Int32) (l3 : Int32) (s : t_S) : Option ((Nat × Int32 × Int32 × t_S) ⊕ (Int32 × t_S)) :=
 if t_isP l1 = true then
  t_let (t_setI s l1 6 ((s.1 l1 6) - (1 : Int32))) (fun s1 =>
 if t_ix (s1.1 l1 6) 8 = true then
  if (0 : Int32) ≤ (s1.1 (l1 + 3) ((s1.1 l1 6).toNatClampNeg)) then ((f_X7_assign l1 (s1.1 (l1 + 3) ((s1.1 l1 6).toNatClampNeg)) s1).bind (fun r3 =>
 k_X7_settle_93 l1 l2 l3 r3.1 r3.2))
 else (k_X7_settle_93 l1 l2 l3 0 s1)
else none)
else none
set_option maxRecDepth 4000 in
set_option maxHeartbeats 1000000 in
theorem B_X7_settle_56 {D : va_G} {cy : Nat → ClassId} {ad : Nat → Nat} {bs : Nat} {X : State → Heap → Prop} (l1 : Nat) (l2 : Int32) (l3 : Int32) (s : t_S) (Q : (Nat × Int32 × Int32 × t_S) ⊕ (Int32 × t_S) → Prop) (Hb2 : ∀ (y0 : Nat) (y1 : Int32) (y2 : Int32) (y3 : t_S), Q (.inl (y0, y1, y2, y3)) → mj_G D cy ad bs X cX7_settle 6 yX7_settle.cls (some .int) yX7_settle.name 5 0 0 1065 (t_P (fun v s' => ∃ x, v = some (.int x) ∧ Q (.inr ((x, s'))))) 2 [(0, .ref 864), (1, .ref (y0)), (2, .int (y1)), (3, .int (y2))] [] (t_m y3) 1065 0 0) (hk : t_hk (k_X7_settle_56 l1 l2 l3 s) Q) : mj_G D cy ad bs X cX7_settle 6 yX7_settle.cls (some .int) yX7_settle.name 5 0 0 1065 (t_P (fun v s' => ∃ x, v = some (.int x) ∧ Q (.inr ((x, s'))))) 56 [(0, .ref 864), (1, .ref l1), (2, .int l2), (3, .int l3)] [] (t_m s) 1065 0 0 := by
  refine mj_aload_n dX7_settle_56 1 rfl ?_
  refine mj_dup dX7_settle_57 rfl ?_
  refine t_chkK hk (fun c0 hk => ?_)
  refine t_getI dX7_settle_58 F_X7_191 (t_pf6 c0) ?_
  refine mj_iconst (v := 1) dX7_settle_61 (by decide) ?_
  refine mj_isub dX7_settle_62 ?_
  refine t_putIK dX7_settle_63 F_X7_191 (t_pf6 c0) rfl (fun s1 ws1 => t_letE hk ws1 (fun hk => ?_))
  refine mj_aload_n dX7_settle_66 1 rfl ?_
  refine t_getR (l1 + 3) dX7_settle_67 F_X7_231 (t_pr9 c0) ?_
  refine mj_aload_n dX7_settle_70 1 rfl ?_
  refine t_getI dX7_settle_71 F_X7_191 (t_pf6 c0) ?_
  refine t_chkK hk (fun c1 hk => ?_)
  refine t_iald dX7_settle_74 (t_pa9 c0) (t_ixv c1) ?_
  refine mj_istore (lv2 := [(4, .int (s1.1 (l1 + 3) ((s1.1 l1 6).toNatClampNeg))), (0, .ref 864), (1, .ref l1), (2, .int l2), (3, .int l3)]) dX7_settle_75 (by decide) rfl ?_
  refine mj_iload dX7_settle_77 0 rfl ?_
  refine mj_if_ge 86 dX7_settle_79 (by decide) (fun z => t_posK hk z (fun hk => ?_)) (fun z => t_negK hk z (fun hk => ?_))
  · refine mj_aload_n dX7_settle_86 1 rfl ?_
    refine mj_aload_n dX7_settle_87 2 rfl ?_
    refine mj_iload dX7_settle_88 0 rfl ?_
    refine t_bndK hk (fun r3 er3 hk => ?_)
    refine t_callViE dX7_settle_90 M_X7_assign (C_X7_assign _ _ _ _ er3) ML_X7_234 IM_X7_assign SE_X7_assign qc_864 rfl (As := [.ref l1, .int (s1.1 (l1 + 3) ((s1.1 l1 6).toNatClampNeg))]) rfl rfl (Nat.le_of_ble_eq_true rfl) (Nat.le_of_ble_eq_true rfl) (Nat.le_of_ble_eq_true rfl) (Nat.le_of_ble_eq_true rfl) ?_
    refine mj_sublv [(0, .ref 864), (1, .ref l1), (2, .int l2), (3, .int l3)] [1, 2, 3, 4] rfl ?_
    exact B_X7_settle_93 _ _ _ _ _ _ (fun y0 y1 y2 y3 hx => Hb2 y0 y1 y2 y3 hx) hk
  · refine mj_iconst (v := 0) dX7_settle_82 (by decide) ?_
    refine mj_goto 93 dX7_settle_83 (by decide) ?_
    refine mj_sublv [(0, .ref 864), (1, .ref l1), (2, .int l2), (3, .int l3)] [1, 2, 3, 4] rfl ?_
    exact B_X7_settle_93 _ _ _ _ _ _ (fun y0 y1 y2 y3 hx => Hb2 y0 y1 y2 y3 hx) hk
noncomputable def k_X7_settle_46 (l1 : Nat) (l2 : Int32) (l3 : Int32) (s : t_S) : Option ((Nat × Int32 × Int32 × t_S) ⊕ (Int32 × t_S)) :=
 (f_X0_pushCell (20 : Int64) s).bind (fun r1 =>
 k_X7_settle_56 l1 l2 l3 r1)
set_option maxRecDepth 4000 in
set_option maxHeartbeats 1000000 in
theorem B_X7_settle_46 {D : va_G} {cy : Nat → ClassId} {ad : Nat → Nat} {bs : Nat} {X : State → Heap → Prop} (l1 : Nat) (l2 : Int32) (l3 : Int32) (s : t_S) (Q : (Nat × Int32 × Int32 × t_S) ⊕ (Int32 × t_S) → Prop) (Hb2 : ∀ (y0 : Nat) (y1 : Int32) (y2 : Int32) (y3 : t_S), Q (.inl (y0, y1, y2, y3)) → mj_G D cy ad bs X cX7_settle 6 yX7_settle.cls (some .int) yX7_settle.name 5 0 0 1065 (t_P (fun v s' => ∃ x, v = some (.int x) ∧ Q (.inr ((x, s'))))) 2 [(0, .ref 864), (1, .ref (y0)), (2, .int (y1)), (3, .int (y2))] [] (t_m y3) 1065 0 0) (hk : t_hk (k_X7_settle_46 l1 l2 l3 s) Q) : mj_G D cy ad bs X cX7_settle 6 yX7_settle.cls (some .int) yX7_settle.name 5 0 0 1065 (t_P (fun v s' => ∃ x, v = some (.int x) ∧ Q (.inr ((x, s'))))) 46 [(0, .ref 864), (1, .ref l1), (2, .int l2), (3, .int l3)] [] (t_m s) 1065 0 0 := by
  refine mj_aload_n dX7_settle_46 0 rfl ?_
  refine t_getR 334 dX7_settle_47 F_X7_23 qr_864_2 ?_
  refine mj_ldc2 dX7_settle_50 K_X7_225 ?_
  refine t_bndK hk (fun r1 er1 hk => ?_)
  refine t_callVvE dX7_settle_53 M_X0_pushCell (C_X0_pushCell _ _ _ er1) ML_X7_227 IM_X0_pushCell SE_X0_pushCell qc_334 rfl (As := [.long 20]) rfl rfl (Nat.le_of_ble_eq_true rfl) (Nat.le_of_ble_eq_true rfl) (Nat.le_of_ble_eq_true rfl) (Nat.le_of_ble_eq_true rfl) ?_
  exact B_X7_settle_56 _ _ _ _ _ (fun y0 y1 y2 y3 hx => Hb2 y0 y1 y2 y3 hx) hk
noncomputable def k_X7_settle_2 (l1 : Nat) (l2 : Int32) (l3 : Int32) (s : t_S) : Option ((Nat × Int32 × Int32 × t_S) ⊕ (Int32 × t_S)) :=
 if (8 : Int32) < l3 then ((some ((0 : Int32), s)).map Sum.inr)
 else (if t_isP l1 = true then
  if (s.1 l1 2) = (1 : Int32) then ((f_X7_nextOf l1 s).bind (fun r2 =>
 if (0 : Int32) ≤ r2 then ((some ((0 : Int32), s)).map Sum.inr)
 else (if (1 : Int32) < (s.1 l1 6) then (if (0 : Int32) < l3 then (k_X7_settle_46 l1 l2 l3 s)
 else (if l2 = (0 : Int32) then (k_X7_settle_46 l1 l2 l3 s)
 else (k_X7_settle_56 l1 l2 l3 s)))
 else (((f_X7_finish l1 s).bind (fun r3 =>
 some ((0 : Int32), r3))).map Sum.inr))))
 else ((some ((0 : Int32), s)).map Sum.inr)
else none)
set_option maxRecDepth 4000 in
set_option maxHeartbeats 1000000 in
theorem B_X7_settle_2 {D : va_G} {cy : Nat → ClassId} {ad : Nat → Nat} {bs : Nat} {X : State → Heap → Prop} (l1 : Nat) (l2 : Int32) (l3 : Int32) (s : t_S) (Q : (Nat × Int32 × Int32 × t_S) ⊕ (Int32 × t_S) → Prop) (Hb2 : ∀ (y0 : Nat) (y1 : Int32) (y2 : Int32) (y3 : t_S), Q (.inl (y0, y1, y2, y3)) → mj_G D cy ad bs X cX7_settle 6 yX7_settle.cls (some .int) yX7_settle.name 5 0 0 1065 (t_P (fun v s' => ∃ x, v = some (.int x) ∧ Q (.inr ((x, s'))))) 2 [(0, .ref 864), (1, .ref (y0)), (2, .int (y1)), (3, .int (y2))] [] (t_m y3) 1065 0 0) (hk : t_hk (k_X7_settle_2 l1 l2 l3 s) Q) : mj_G D cy ad bs X cX7_settle 6 yX7_settle.cls (some .int) yX7_settle.name 5 0 0 1065 (t_P (fun v s' => ∃ x, v = some (.int x) ∧ Q (.inr ((x, s'))))) 2 [(0, .ref 864), (1, .ref l1), (2, .int l2), (3, .int l3)] [] (t_m s) 1065 0 0 := by
  refine mj_iload_n dX7_settle_2 3 rfl ?_
  refine mj_bipush (v := 8) dX7_settle_3 (by decide) ?_
  refine mj_icmp_gt 109 dX7_settle_5 (by decide) (fun z => t_posK hk z (fun hk => ?_)) (fun z => t_negK hk z (fun hk => ?_))
  · refine t_mapK hk (fun hk => ?_)
    refine mj_iconst (v := 0) dX7_settle_109 (by decide) ?_
    exact t_somK hk (fun hf => t_iret dX7_settle_110 rfl rfl ⟨_, rfl, hf⟩ (Nat.le_of_ble_eq_true rfl) (Nat.le_of_ble_eq_true rfl))
  · refine mj_aload_n dX7_settle_8 1 rfl ?_
    refine t_chkK hk (fun c0 hk => ?_)
    refine t_getI dX7_settle_9 F_X7_82 (t_pf2 c0) ?_
    refine mj_iconst (v := 1) dX7_settle_12 (by decide) ?_
    refine mj_icmp_ne 109 dX7_settle_13 (by decide) (fun z => t_negK hk z (fun hk => ?_)) (fun z => t_posK hk z (fun hk => ?_))
    · refine t_mapK hk (fun hk => ?_)
      refine mj_iconst (v := 0) dX7_settle_109 (by decide) ?_
      exact t_somK hk (fun hf => t_iret dX7_settle_110 rfl rfl ⟨_, rfl, hf⟩ (Nat.le_of_ble_eq_true rfl) (Nat.le_of_ble_eq_true rfl))
    · refine mj_aload_n dX7_settle_16 1 rfl ?_
      refine t_bndK hk (fun r2 er2 hk => ?_)
      refine t_callSiP dX7_settle_17 M_X7_nextOf (C_X7_nextOf _ _ _ er2) ML_X7_176 SM_X7_nextOf (As := [.ref l1]) rfl rfl (Nat.le_of_ble_eq_true rfl) (Nat.le_of_ble_eq_true rfl) (Nat.le_of_ble_eq_true rfl) (Nat.le_of_ble_eq_true rfl) ?_
      refine mj_if_ge 109 dX7_settle_20 (by decide) (fun z => t_posK hk z (fun hk => ?_)) (fun z => t_negK hk z (fun hk => ?_))
      · refine t_mapK hk (fun hk => ?_)
        refine mj_iconst (v := 0) dX7_settle_109 (by decide) ?_
        exact t_somK hk (fun hf => t_iret dX7_settle_110 rfl rfl ⟨_, rfl, hf⟩ (Nat.le_of_ble_eq_true rfl) (Nat.le_of_ble_eq_true rfl))
      · refine mj_aload_n dX7_settle_23 1 rfl ?_
        refine t_getI dX7_settle_24 F_X7_191 (t_pf6 c0) ?_
        refine mj_iconst (v := 1) dX7_settle_27 (by decide) ?_
        refine mj_icmp_gt 38 dX7_settle_28 (by decide) (fun z => t_posK hk z (fun hk => ?_)) (fun z => t_negK hk z (fun hk => ?_))
        · refine mj_iload_n dX7_settle_38 3 rfl ?_
          refine mj_if_gt 46 dX7_settle_39 (by decide) (fun z => t_posK hk z (fun hk => ?_)) (fun z => t_negK hk z (fun hk => ?_))
          · exact B_X7_settle_46 _ _ _ _ _ (fun y0 y1 y2 y3 hx => Hb2 y0 y1 y2 y3 hx) hk
          · refine mj_iload_n dX7_settle_42 2 rfl ?_
            refine mj_if_ne 56 dX7_settle_43 (by decide) (fun z => t_negK hk z (fun hk => ?_)) (fun z => t_posK hk z (fun hk => ?_))
            · exact B_X7_settle_56 _ _ _ _ _ (fun y0 y1 y2 y3 hx => Hb2 y0 y1 y2 y3 hx) hk
            · exact B_X7_settle_46 _ _ _ _ _ (fun y0 y1 y2 y3 hx => Hb2 y0 y1 y2 y3 hx) hk
        · refine t_mapK hk (fun hk => ?_)
          refine mj_aload_n dX7_settle_31 0 rfl ?_
          refine mj_aload_n dX7_settle_32 1 rfl ?_
          refine t_bndK hk (fun r3 er3 hk => ?_)
          refine t_callVvE dX7_settle_33 M_X7_finish (C_X7_finish _ _ _ er3) ML_X7_95 IM_X7_finish SE_X7_finish qc_864 rfl (As := [.ref l1]) rfl rfl (Nat.le_of_ble_eq_true rfl) (Nat.le_of_ble_eq_true rfl) (Nat.le_of_ble_eq_true rfl) (Nat.le_of_ble_eq_true rfl) ?_
          refine mj_iconst (v := 0) dX7_settle_36 (by decide) ?_
          exact t_somK hk (fun hf => t_iret dX7_settle_37 rfl rfl ⟨_, rfl, hf⟩ (Nat.le_of_ble_eq_true rfl) (Nat.le_of_ble_eq_true rfl))
noncomputable def b_X7_settle_2 (x : Nat × Int32 × Int32 × t_S) : Option ((Nat × Int32 × Int32 × t_S) ⊕ (Int32 × t_S)) := k_X7_settle_2 x.1 x.2.1 x.2.2.1 x.2.2.2
set_option maxRecDepth 4000 in
set_option maxHeartbeats 1000000 in
theorem LH_X7_settle_2 {D : va_G} {cy : Nat → ClassId} {ad : Nat → Nat} {bs : Nat} {X : State → Heap → Prop} : ∀ (n : Nat) (y0 : Nat) (y1 : Int32) (y2 : Int32) (y3 : t_S) (Q : Int32 × t_S → Prop) (hk : t_hk (t_loop (b_X7_settle_2) n (y0, y1, y2, y3)) Q), mj_G D cy ad bs X cX7_settle 6 yX7_settle.cls (some .int) yX7_settle.name 5 0 0 1065 (t_P (fun v s' => ∃ x, v = some (.int x) ∧ Q ((x, s')))) 2 [(0, .ref 864), (1, .ref (y0)), (2, .int (y1)), (3, .int (y2))] [] (t_m y3) 1065 0 0 := by
  intro n
  induction n with
  | zero => intro y0 y1 y2 y3 Q hk; obtain ⟨r, hr, _⟩ := hk; cases hr
  | succ n ih =>
    intro y0 y1 y2 y3 Q hk
    exact B_X7_settle_2 y0 y1 y2 y3 (fun y => t_lq (b_X7_settle_2) n Q y) (fun y0' y1' y2' y3' hy => ih y0' y1' y2' y3' Q hy) (t_lp hk)
noncomputable def f_X7_settle (x1 : Nat) (x2 : Int32) (s : t_S) : Option (Int32 × t_S) :=
 t_loop (b_X7_settle_2) t_N (x1, x2, 0, s)
set_option maxRecDepth 4000 in
set_option maxHeartbeats 1000000 in
theorem C_X7_settle (x1 : Nat) (x2 : Int32) (s : t_S) (r : Int32 × t_S) (hr : f_X7_settle x1 x2 s = some r) : t_C yX7_settle cX7_settle 6 (some .int) 5 [.ref 864, .ref x1, .int x2] s (fun v s' => v = some (.int r.1) ∧ s' = r.2) := by
  refine t_C.imp (P := fun v s' => ∃ x, v = some (.int x) ∧ (fun q => q = r) ((x, s'))) (t_C.of (by decide +kernel) (Nat.le_of_ble_eq_true rfl) ?_) (fun v s' hp => by obtain ⟨x, rfl, rfl⟩ := hp; exact ⟨rfl, rfl⟩)
  intro D cy ad bs X
  have hk : t_hk (f_X7_settle x1 x2 s) (fun q => q = r) := ⟨r, hr, rfl⟩
  show mj_G D cy ad bs X cX7_settle 6 yX7_settle.cls (some .int) yX7_settle.name 5 0 0 1065 (t_P (fun v s' => ∃ x, v = some (.int x) ∧ (fun q => q = r) ((x, s')))) 0 [(0, .ref 864), (1, .ref x1), (2, .int x2)] [] (t_m s) 1065 0 0
  refine mj_iconst (v := 0) dX7_settle_0 (by decide) ?_
  refine mj_istore_n 3 (lv2 := [(3, .int 0), (0, .ref 864), (1, .ref x1), (2, .int x2)]) dX7_settle_1 rfl (by decide) rfl ?_
  refine mj_sublv [(0, .ref 864), (1, .ref x1), (2, .int x2), (3, .int 0)] [1, 2, 3, 0] rfl ?_
  exact LH_X7_settle_2 _ x1 x2 0 s _ hk

