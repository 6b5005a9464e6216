/-! Methods as functions, 40: X7_enter, X7_addUsual, X7_assign, X7_beginTimer, X7_call -/
theorem dX7_enter_0 : decode cX7_enter 0 = .ok (.aload_n 0, 1) := by decide +kernel
theorem dX7_enter_1 : decode cX7_enter 1 = .ok (.getfield 396, 3) := by decide +kernel
theorem dX7_enter_100 : decode cX7_enter 100 = .ok (.bipush 7, 2) := by decide +kernel
theorem dX7_enter_102 : decode cX7_enter 102 = .ok (.iaload, 1) := by decide +kernel
theorem dX7_enter_103 : decode cX7_enter 103 = .ok (.goto 4, 3) := by decide +kernel
theorem dX7_enter_106 : decode cX7_enter 106 = .ok (.iconst (-1), 1) := by decide +kernel
theorem dX7_enter_107 : decode cX7_enter 107 = .ok (.istore 7, 2) := by decide +kernel
theorem dX7_enter_109 : decode cX7_enter 109 = .ok (.iload 7, 2) := by decide +kernel
theorem dX7_enter_11 : decode cX7_enter 11 = .ok (.bipush 8, 2) := by decide +kernel
theorem dX7_enter_111 : decode cX7_enter 111 = .ok (.ifCond .lt 53, 3) := by decide +kernel
theorem dX7_enter_114 : decode cX7_enter 114 = .ok (.aload_n 0, 1) := by decide +kernel
theorem dX7_enter_115 : decode cX7_enter 115 = .ok (.aload_n 1, 1) := by decide +kernel
theorem dX7_enter_116 : decode cX7_enter 116 = .ok (.iload 4, 2) := by decide +kernel
theorem dX7_enter_118 : decode cX7_enter 118 = .ok (.iload 7, 2) := by decide +kernel
theorem dX7_enter_120 : decode cX7_enter 120 = .ok (.invokevirtual 240, 3) := by decide +kernel
theorem dX7_enter_123 : decode cX7_enter 123 = .ok (.istore 8, 2) := by decide +kernel
theorem dX7_enter_125 : decode cX7_enter 125 = .ok (.iload 8, 2) := by decide +kernel
theorem dX7_enter_127 : decode cX7_enter 127 = .ok (.ifCond .lt 37, 3) := by decide +kernel
theorem dX7_enter_13 : decode cX7_enter 13 = .ok (.if_icmp .lt 6, 3) := by decide +kernel
theorem dX7_enter_130 : decode cX7_enter 130 = .ok (.aload_n 0, 1) := by decide +kernel
theorem dX7_enter_131 : decode cX7_enter 131 = .ok (.getfield 19, 3) := by decide +kernel
theorem dX7_enter_134 : decode cX7_enter 134 = .ok (.aload_n 0, 1) := by decide +kernel
theorem dX7_enter_135 : decode cX7_enter 135 = .ok (.getfield 15, 3) := by decide +kernel
theorem dX7_enter_138 : decode cX7_enter 138 = .ok (.getfield 377, 3) := by decide +kernel
theorem dX7_enter_141 : decode cX7_enter 141 = .ok (.iload 6, 2) := by decide +kernel
theorem dX7_enter_143 : decode cX7_enter 143 = .ok (.bipush 120, 2) := by decide +kernel
theorem dX7_enter_145 : decode cX7_enter 145 = .ok (.imul, 1) := by decide +kernel
theorem dX7_enter_146 : decode cX7_enter 146 = .ok (.aload_n 0, 1) := by decide +kernel
theorem dX7_enter_147 : decode cX7_enter 147 = .ok (.getfield 19, 3) := by decide +kernel
theorem dX7_enter_150 : decode cX7_enter 150 = .ok (.getfield 138, 3) := by decide +kernel
theorem dX7_enter_153 : decode cX7_enter 153 = .ok (.iload 8, 2) := by decide +kernel
theorem dX7_enter_155 : decode cX7_enter 155 = .ok (.iaload, 1) := by decide +kernel
theorem dX7_enter_156 : decode cX7_enter 156 = .ok (.invokevirtual 143, 3) := by decide +kernel
theorem dX7_enter_159 : decode cX7_enter 159 = .ok (.ifCond .ne 5, 3) := by decide +kernel
theorem dX7_enter_16 : decode cX7_enter 16 = .ok (.bipush 7, 2) := by decide +kernel
theorem dX7_enter_162 : decode cX7_enter 162 = .ok (.iconst 4, 1) := by decide +kernel
theorem dX7_enter_163 : decode cX7_enter 163 = .ok (.ireturn, 1) := by decide +kernel
theorem dX7_enter_164 : decode cX7_enter 164 = .ok (.aload_n 1, 1) := by decide +kernel
theorem dX7_enter_165 : decode cX7_enter 165 = .ok (.getfield 194, 3) := by decide +kernel
theorem dX7_enter_168 : decode cX7_enter 168 = .ok (.aload_n 1, 1) := by decide +kernel
theorem dX7_enter_169 : decode cX7_enter 169 = .ok (.getfield 191, 3) := by decide +kernel
theorem dX7_enter_172 : decode cX7_enter 172 = .ok (.iconst 1, 1) := by decide +kernel
theorem dX7_enter_173 : decode cX7_enter 173 = .ok (.isub, 1) := by decide +kernel
theorem dX7_enter_174 : decode cX7_enter 174 = .ok (.aload_n 0, 1) := by decide +kernel
theorem dX7_enter_175 : decode cX7_enter 175 = .ok (.getfield 31, 3) := by decide +kernel
theorem dX7_enter_178 : decode cX7_enter 178 = .ok (.iload_n 2, 1) := by decide +kernel
theorem dX7_enter_179 : decode cX7_enter 179 = .ok (.invokevirtual 264, 3) := by decide +kernel
theorem dX7_enter_18 : decode cX7_enter 18 = .ok (.ireturn, 1) := by decide +kernel
theorem dX7_enter_182 : decode cX7_enter 182 = .ok (.iastore, 1) := by decide +kernel
theorem dX7_enter_183 : decode cX7_enter 183 = .ok (.aload_n 0, 1) := by decide +kernel
theorem dX7_enter_184 : decode cX7_enter 184 = .ok (.getfield 396, 3) := by decide +kernel
theorem dX7_enter_187 : decode cX7_enter 187 = .ok (.ifCond .lt 53, 3) := by decide +kernel
theorem dX7_enter_19 : decode cX7_enter 19 = .ok (.aload_n 0, 1) := by decide +kernel
theorem dX7_enter_190 : decode cX7_enter 190 = .ok (.aload_n 1, 1) := by decide +kernel
theorem dX7_enter_191 : decode cX7_enter 191 = .ok (.iload 4, 2) := by decide +kernel
theorem dX7_enter_193 : decode cX7_enter 193 = .ok (.aload_n 3, 1) := by decide +kernel
theorem dX7_enter_194 : decode cX7_enter 194 = .ok (.iconst 3, 1) := by decide +kernel
theorem dX7_enter_195 : decode cX7_enter 195 = .ok (.iaload, 1) := by decide +kernel
theorem dX7_enter_196 : decode cX7_enter 196 = .ok (.invokevirtual 88, 3) := by decide +kernel
theorem dX7_enter_199 : decode cX7_enter 199 = .ok (.pop, 1) := by decide +kernel
theorem dX7_enter_20 : decode cX7_enter 20 = .ok (.getfield 31, 3) := by decide +kernel
theorem dX7_enter_200 : decode cX7_enter 200 = .ok (.iconst 0, 1) := by decide +kernel
theorem dX7_enter_201 : decode cX7_enter 201 = .ok (.istore 8, 2) := by decide +kernel
theorem dX7_enter_203 : decode cX7_enter 203 = .ok (.iload 8, 2) := by decide +kernel
theorem dX7_enter_205 : decode cX7_enter 205 = .ok (.bipush 8, 2) := by decide +kernel
theorem dX7_enter_207 : decode cX7_enter 207 = .ok (.if_icmp .ge 30, 3) := by decide +kernel
theorem dX7_enter_210 : decode cX7_enter 210 = .ok (.aload_n 0, 1) := by decide +kernel
theorem dX7_enter_211 : decode cX7_enter 211 = .ok (.getfield 15, 3) := by decide +kernel
theorem dX7_enter_214 : decode cX7_enter 214 = .ok (.aload_n 0, 1) := by decide +kernel
theorem dX7_enter_215 : decode cX7_enter 215 = .ok (.getfield 399, 3) := by decide +kernel
theorem dX7_enter_218 : decode cX7_enter 218 = .ok (.iload 8, 2) := by decide +kernel
theorem dX7_enter_220 : decode cX7_enter 220 = .ok (.iadd, 1) := by decide +kernel
theorem dX7_enter_221 : decode cX7_enter 221 = .ok (.aload_n 1, 1) := by decide +kernel
theorem dX7_enter_222 : decode cX7_enter 222 = .ok (.invokevirtual 158, 3) := by decide +kernel
theorem dX7_enter_225 : decode cX7_enter 225 = .ok (.iload 8, 2) := by decide +kernel
theorem dX7_enter_227 : decode cX7_enter 227 = .ok (.iadd, 1) := by decide +kernel
theorem dX7_enter_228 : decode cX7_enter 228 = .ok (.invokevirtual 402, 3) := by decide +kernel
theorem dX7_enter_23 : decode cX7_enter 23 = .ok (.getfield 179, 3) := by decide +kernel
theorem dX7_enter_231 : decode cX7_enter 231 = .ok (.iinc 8 1, 3) := by decide +kernel
theorem dX7_enter_234 : decode cX7_enter 234 = .ok (.goto (-31), 3) := by decide +kernel
theorem dX7_enter_237 : decode cX7_enter 237 = .ok (.goto 23, 3) := by decide +kernel
theorem dX7_enter_240 : decode cX7_enter 240 = .ok (.aload_n 3, 1) := by decide +kernel
theorem dX7_enter_241 : decode cX7_enter 241 = .ok (.iconst 3, 1) := by decide +kernel
theorem dX7_enter_242 : decode cX7_enter 242 = .ok (.iaload, 1) := by decide +kernel
theorem dX7_enter_243 : decode cX7_enter 243 = .ok (.ifCond .lt 17, 3) := by decide +kernel
theorem dX7_enter_246 : decode cX7_enter 246 = .ok (.aload_n 1, 1) := by decide +kernel
theorem dX7_enter_247 : decode cX7_enter 247 = .ok (.getfield 194, 3) := by decide +kernel
theorem dX7_enter_250 : decode cX7_enter 250 = .ok (.aload_n 1, 1) := by decide +kernel
theorem dX7_enter_251 : decode cX7_enter 251 = .ok (.getfield 191, 3) := by decide +kernel
theorem dX7_enter_254 : decode cX7_enter 254 = .ok (.iconst 1, 1) := by decide +kernel
theorem dX7_enter_255 : decode cX7_enter 255 = .ok (.isub, 1) := by decide +kernel
theorem dX7_enter_256 : decode cX7_enter 256 = .ok (.aload_n 3, 1) := by decide +kernel
theorem dX7_enter_257 : decode cX7_enter 257 = .ok (.iconst 3, 1) := by decide +kernel
theorem dX7_enter_258 : decode cX7_enter 258 = .ok (.iaload, 1) := by decide +kernel
theorem dX7_enter_259 : decode cX7_enter 259 = .ok (.iastore, 1) := by decide +kernel
theorem dX7_enter_26 : decode cX7_enter 26 = .ok (.aload_n 0, 1) := by decide +kernel
theorem dX7_enter_260 : decode cX7_enter 260 = .ok (.iload 5, 2) := by decide +kernel
theorem dX7_enter_262 : decode cX7_enter 262 = .ok (.ifCond .eq 64, 3) := by decide +kernel
theorem dX7_enter_265 : decode cX7_enter 265 = .ok (.aload_n 3, 1) := by decide +kernel
theorem dX7_enter_266 : decode cX7_enter 266 = .ok (.bipush 6, 2) := by decide +kernel
theorem dX7_enter_268 : decode cX7_enter 268 = .ok (.iaload, 1) := by decide +kernel
theorem dX7_enter_269 : decode cX7_enter 269 = .ok (.istore 8, 2) := by decide +kernel
theorem dX7_enter_27 : decode cX7_enter 27 = .ok (.getfield 393, 3) := by decide +kernel
theorem dX7_enter_271 : decode cX7_enter 271 = .ok (.aload_n 0, 1) := by decide +kernel
theorem dX7_enter_272 : decode cX7_enter 272 = .ok (.getfield 15, 3) := by decide +kernel
theorem dX7_enter_275 : decode cX7_enter 275 = .ok (.iconst 2, 1) := by decide +kernel
theorem dX7_enter_276 : decode cX7_enter 276 = .ok (.aload_n 1, 1) := by decide +kernel
theorem dX7_enter_277 : decode cX7_enter 277 = .ok (.getfield 92, 3) := by decide +kernel
theorem dX7_enter_280 : decode cX7_enter 280 = .ok (.iload 8, 2) := by decide +kernel
theorem dX7_enter_282 : decode cX7_enter 282 = .ok (.aload_n 0, 1) := by decide +kernel
theorem dX7_enter_283 : decode cX7_enter 283 = .ok (.getfield 15, 3) := by decide +kernel
theorem dX7_enter_286 : decode cX7_enter 286 = .ok (.getfield 377, 3) := by decide +kernel
theorem dX7_enter_289 : decode cX7_enter 289 = .ok (.iload 6, 2) := by decide +kernel
theorem dX7_enter_291 : decode cX7_enter 291 = .ok (.bipush 120, 2) := by decide +kernel
theorem dX7_enter_293 : decode cX7_enter 293 = .ok (.imul, 1) := by decide +kernel
theorem dX7_enter_294 : decode cX7_enter 294 = .ok (.invokevirtual 322, 3) := by decide +kernel
theorem dX7_enter_297 : decode cX7_enter 297 = .ok (.iload 7, 2) := by decide +kernel
theorem dX7_enter_299 : decode cX7_enter 299 = .ok (.ifCond .lt 18, 3) := by decide +kernel
theorem dX7_enter_30 : decode cX7_enter 30 = .ok (.aaload, 1) := by decide +kernel
theorem dX7_enter_302 : decode cX7_enter 302 = .ok (.aload_n 0, 1) := by decide +kernel
theorem dX7_enter_303 : decode cX7_enter 303 = .ok (.getfield 15, 3) := by decide +kernel
theorem dX7_enter_306 : decode cX7_enter 306 = .ok (.iload 6, 2) := by decide +kernel
theorem dX7_enter_308 : decode cX7_enter 308 = .ok (.aload_n 1, 1) := by decide +kernel
theorem dX7_enter_309 : decode cX7_enter 309 = .ok (.iload 7, 2) := by decide +kernel
theorem dX7_enter_31 : decode cX7_enter 31 = .ok (.astore_n 3, 1) := by decide +kernel
theorem dX7_enter_311 : decode cX7_enter 311 = .ok (.invokestatic 243, 3) := by decide +kernel
theorem dX7_enter_314 : decode cX7_enter 314 = .ok (.invokevirtual 402, 3) := by decide +kernel
theorem dX7_enter_317 : decode cX7_enter 317 = .ok (.aload_n 1, 1) := by decide +kernel
theorem dX7_enter_318 : decode cX7_enter 318 = .ok (.iload 8, 2) := by decide +kernel
theorem dX7_enter_32 : decode cX7_enter 32 = .ok (.aload_n 0, 1) := by decide +kernel
theorem dX7_enter_320 : decode cX7_enter 320 = .ok (.invokevirtual 405, 3) := by decide +kernel
theorem dX7_enter_323 : decode cX7_enter 323 = .ok (.goto 39, 3) := by decide +kernel
theorem dX7_enter_326 : decode cX7_enter 326 = .ok (.aload_n 3, 1) := by decide +kernel
theorem dX7_enter_327 : decode cX7_enter 327 = .ok (.iconst 0, 1) := by decide +kernel
theorem dX7_enter_328 : decode cX7_enter 328 = .ok (.iaload, 1) := by decide +kernel
theorem dX7_enter_329 : decode cX7_enter 329 = .ok (.bipush 12, 2) := by decide +kernel
theorem dX7_enter_33 : decode cX7_enter 33 = .ok (.getfield 396, 3) := by decide +kernel
theorem dX7_enter_331 : decode cX7_enter 331 = .ok (.if_icmp .ne 31, 3) := by decide +kernel
theorem dX7_enter_334 : decode cX7_enter 334 = .ok (.aload_n 1, 1) := by decide +kernel
theorem dX7_enter_335 : decode cX7_enter 335 = .ok (.getfield 249, 3) := by decide +kernel
theorem dX7_enter_338 : decode cX7_enter 338 = .ok (.aload_n 3, 1) := by decide +kernel
theorem dX7_enter_339 : decode cX7_enter 339 = .ok (.bipush 6, 2) := by decide +kernel
theorem dX7_enter_341 : decode cX7_enter 341 = .ok (.iaload, 1) := by decide +kernel
theorem dX7_enter_342 : decode cX7_enter 342 = .ok (.ldc2_w 252, 3) := by decide +kernel
theorem dX7_enter_345 : decode cX7_enter 345 = .ok (.lastore, 1) := by decide +kernel
theorem dX7_enter_346 : decode cX7_enter 346 = .ok (.aload_n 0, 1) := by decide +kernel
theorem dX7_enter_347 : decode cX7_enter 347 = .ok (.getfield 15, 3) := by decide +kernel
theorem dX7_enter_350 : decode cX7_enter 350 = .ok (.iconst 3, 1) := by decide +kernel
theorem dX7_enter_351 : decode cX7_enter 351 = .ok (.aload_n 1, 1) := by decide +kernel
theorem dX7_enter_352 : decode cX7_enter 352 = .ok (.getfield 92, 3) := by decide +kernel
theorem dX7_enter_355 : decode cX7_enter 355 = .ok (.aload_n 3, 1) := by decide +kernel
theorem dX7_enter_356 : decode cX7_enter 356 = .ok (.bipush 6, 2) := by decide +kernel
theorem dX7_enter_358 : decode cX7_enter 358 = .ok (.iaload, 1) := by decide +kernel
theorem dX7_enter_359 : decode cX7_enter 359 = .ok (.invokevirtual 67, 3) := by decide +kernel
theorem dX7_enter_36 : decode cX7_enter 36 = .ok (.ifCond .lt 10, 3) := by decide +kernel
theorem dX7_enter_362 : decode cX7_enter 362 = .ok (.iconst 0, 1) := by decide +kernel
theorem dX7_enter_363 : decode cX7_enter 363 = .ok (.ireturn, 1) := by decide +kernel
theorem dX7_enter_39 : decode cX7_enter 39 = .ok (.aload_n 0, 1) := by decide +kernel
theorem dX7_enter_4 : decode cX7_enter 4 = .ok (.ifCond .lt 15, 3) := by decide +kernel
theorem dX7_enter_40 : decode cX7_enter 40 = .ok (.getfield 396, 3) := by decide +kernel
theorem dX7_enter_43 : decode cX7_enter 43 = .ok (.goto 14, 3) := by decide +kernel
theorem dX7_enter_46 : decode cX7_enter 46 = .ok (.aload_n 1, 1) := by decide +kernel
theorem dX7_enter_47 : decode cX7_enter 47 = .ok (.getfield 197, 3) := by decide +kernel
theorem dX7_enter_50 : decode cX7_enter 50 = .ok (.aload_n 1, 1) := by decide +kernel
theorem dX7_enter_51 : decode cX7_enter 51 = .ok (.getfield 191, 3) := by decide +kernel
theorem dX7_enter_54 : decode cX7_enter 54 = .ok (.iconst 1, 1) := by decide +kernel
theorem dX7_enter_55 : decode cX7_enter 55 = .ok (.isub, 1) := by decide +kernel
theorem dX7_enter_56 : decode cX7_enter 56 = .ok (.iaload, 1) := by decide +kernel
theorem dX7_enter_57 : decode cX7_enter 57 = .ok (.istore 4, 2) := by decide +kernel
theorem dX7_enter_59 : decode cX7_enter 59 = .ok (.aload_n 3, 1) := by decide +kernel
theorem dX7_enter_60 : decode cX7_enter 60 = .ok (.iconst 0, 1) := by decide +kernel
theorem dX7_enter_61 : decode cX7_enter 61 = .ok (.iaload, 1) := by decide +kernel
theorem dX7_enter_62 : decode cX7_enter 62 = .ok (.bipush 11, 2) := by decide +kernel
theorem dX7_enter_64 : decode cX7_enter 64 = .ok (.if_icmp .ne 7, 3) := by decide +kernel
theorem dX7_enter_67 : decode cX7_enter 67 = .ok (.iconst 1, 1) := by decide +kernel
theorem dX7_enter_68 : decode cX7_enter 68 = .ok (.goto 4, 3) := by decide +kernel
theorem dX7_enter_7 : decode cX7_enter 7 = .ok (.aload_n 1, 1) := by decide +kernel
theorem dX7_enter_71 : decode cX7_enter 71 = .ok (.iconst 0, 1) := by decide +kernel
theorem dX7_enter_72 : decode cX7_enter 72 = .ok (.istore 5, 2) := by decide +kernel
theorem dX7_enter_74 : decode cX7_enter 74 = .ok (.iload 5, 2) := by decide +kernel
theorem dX7_enter_76 : decode cX7_enter 76 = .ok (.ifCond .eq 15, 3) := by decide +kernel
theorem dX7_enter_79 : decode cX7_enter 79 = .ok (.aload_n 1, 1) := by decide +kernel
theorem dX7_enter_8 : decode cX7_enter 8 = .ok (.getfield 191, 3) := by decide +kernel
theorem dX7_enter_80 : decode cX7_enter 80 = .ok (.aload_n 3, 1) := by decide +kernel
theorem dX7_enter_81 : decode cX7_enter 81 = .ok (.bipush 6, 2) := by decide +kernel
theorem dX7_enter_83 : decode cX7_enter 83 = .ok (.iaload, 1) := by decide +kernel
theorem dX7_enter_84 : decode cX7_enter 84 = .ok (.iconst 0, 1) := by decide +kernel
theorem dX7_enter_85 : decode cX7_enter 85 = .ok (.invokevirtual 380, 3) := by decide +kernel
theorem dX7_enter_88 : decode cX7_enter 88 = .ok (.goto 4, 3) := by decide +kernel
theorem dX7_enter_91 : decode cX7_enter 91 = .ok (.iconst (-1), 1) := by decide +kernel
theorem dX7_enter_92 : decode cX7_enter 92 = .ok (.istore 6, 2) := by decide +kernel
theorem dX7_enter_94 : decode cX7_enter 94 = .ok (.iload 5, 2) := by decide +kernel
theorem dX7_enter_96 : decode cX7_enter 96 = .ok (.ifCond .eq 10, 3) := by decide +kernel
theorem dX7_enter_99 : decode cX7_enter 99 = .ok (.aload_n 3, 1) := by decide +kernel
noncomputable def k_X7_enter_317 (l1 : Nat) (l8 : Int32) (s : t_S) : Option (Int32 × t_S) :=
 if t_isP l1 = true then
  (f_X4_dequeue l1 l8 s).bind (fun r2 =>
 some ((0 : Int32), r2))
else none
set_option maxRecDepth 4000 in
set_option maxHeartbeats 1000000 in
theorem B_X7_enter_317 {D : va_G} {cy : Nat → ClassId} {ad : Nat → Nat} {bs : Nat} {X : State → Heap → Prop} (l1 : Nat) (l8 : Int32) (s : t_S) (Q : Int32 × t_S → Prop) (hk : t_hk (k_X7_enter_317 l1 l8 s) Q) : mj_G D cy ad bs X cX7_enter 9 yX7_enter.cls (some .int) yX7_enter.name 4 0 0 1065 (t_P (fun v s' => ∃ x, v = some (.int x) ∧ Q ((x, s')))) 317 [(1, .ref l1), (8, .int l8)] [] (t_m s) 1065 0 0 := by
  refine mj_aload_n dX7_enter_317 0 rfl ?_
  refine mj_iload dX7_enter_318 1 rfl ?_
  refine t_chkK hk (fun c0 hk => ?_)
  refine t_bndK hk (fun r2 er2 hk => ?_)
  refine t_callVvE dX7_enter_320 M_X4_dequeue (C_X4_dequeue _ _ _ _ er2) ML_X7_405 IM_X4_dequeue SE_X4_dequeue (t_pc c0) rfl (As := [.int l8]) rfl rfl (Nat.le_of_ble_eq_true rfl) (Nat.le_of_ble_eq_true rfl) (Nat.le_of_ble_eq_true rfl) (Nat.le_of_ble_eq_true rfl) ?_
  refine mj_goto 362 dX7_enter_323 (by decide) ?_
  refine mj_iconst (v := 0) dX7_enter_362 (by decide) ?_
  exact t_somK hk (fun hf => t_iret dX7_enter_363 rfl rfl ⟨_, rfl, hf⟩ (Nat.le_of_ble_eq_true rfl) (Nat.le_of_ble_eq_true rfl))
noncomputable def k_X7_enter_260 (l1 : Nat) (l3 : Nat) (l5 : Int32) (l6 : Int32) (l7 : Int32) (s : t_S) : Option (Int32 × t_S) :=
 if l5 = (0 : Int32) then (if t_oka l3 1 (t_ln l3) = true then
  if t_ix (0 : Int32) (t_ln l3) = true then
  if (s.1 l3 ((0 : Int32).toNatClampNeg)) = (12 : Int32) then (if t_isP l1 = true then
  if t_ix (6 : Int32) (t_ln l3) = true then
  if t_ix (s.1 l3 ((6 : Int32).toNatClampNeg)) 4 = true then
  t_let (t_setJ s (l1 + 9) ((s.1 l3 ((6 : Int32).toNatClampNeg)).toNatClampNeg) (-1 : Int64)) (fun s1 =>
 (f_X8_note (3 : Int32) (s1.1 l1 0) (s1.1 l3 ((6 : Int32).toNatClampNeg)) s1).bind (fun r6 =>
 some ((0 : Int32), r6)))
else none
else none
else none)
 else (some ((0 : Int32), s))
else none
else none)
 else (if t_oka l3 1 (t_ln l3) = true then
  if t_ix (6 : Int32) (t_ln l3) = true then
  if t_isP l1 = true then
  (f_X8_noteValue (2 : Int32) (s.1 l1 0) (s.1 l3 ((6 : Int32).toNatClampNeg)) 13 (l6 * (120 : Int32)) s).bind (fun r10 =>
 if l7 < (0 : Int32) then (k_X7_enter_317 l1 (s.1 l3 ((6 : Int32).toNatClampNeg)) r10)
 else ((f_X7_slotOf l1 l7 r10).bind (fun r11 =>
 (f_X8_copy l6 r11 r10).bind (fun r12 =>
 k_X7_enter_317 l1 (s.1 l3 ((6 : Int32).toNatClampNeg)) r12))))
else none
else none
else none)
set_option maxRecDepth 4000 in
set_option maxHeartbeats 1000000 in
theorem B_X7_enter_260 {D : va_G} {cy : Nat → ClassId} {ad : Nat → Nat} {bs : Nat} {X : State → Heap → Prop} (l1 : Nat) (l3 : Nat) (l5 : Int32) (l6 : Int32) (l7 : Int32) (s : t_S) (Q : Int32 × t_S → Prop) (hk : t_hk (k_X7_enter_260 l1 l3 l5 l6 l7 s) Q) : mj_G D cy ad bs X cX7_enter 9 yX7_enter.cls (some .int) yX7_enter.name 4 0 0 1065 (t_P (fun v s' => ∃ x, v = some (.int x) ∧ Q ((x, s')))) 260 [(0, .ref 864), (1, .ref l1), (3, .ref l3), (5, .int l5), (6, .int l6), (7, .int l7)] [] (t_m s) 1065 0 0 := by
  refine mj_iload dX7_enter_260 3 rfl ?_
  refine mj_if_eq 326 dX7_enter_262 (by decide) (fun z => t_posK hk z (fun hk => ?_)) (fun z => t_negK hk z (fun hk => ?_))
  · refine mj_aload_n dX7_enter_326 2 rfl ?_
    refine mj_iconst (v := 0) dX7_enter_327 (by decide) ?_
    refine t_chkK hk (fun c0 hk => ?_)
    refine t_chkK hk (fun c1 hk => ?_)
    refine t_iald dX7_enter_328 c0 (t_ixv c1) ?_
    refine mj_bipush (v := 12) dX7_enter_329 (by decide) ?_
    refine mj_icmp_ne 362 dX7_enter_331 (by decide) (fun z => t_negK hk z (fun hk => ?_)) (fun z => t_posK hk z (fun hk => ?_))
    · refine mj_iconst (v := 0) dX7_enter_362 (by decide) ?_
      exact t_somK hk (fun hf => t_iret dX7_enter_363 rfl rfl ⟨_, rfl, hf⟩ (Nat.le_of_ble_eq_true rfl) (Nat.le_of_ble_eq_true rfl))
    · refine mj_aload_n dX7_enter_334 1 rfl ?_
      refine t_chkK hk (fun c2 hk => ?_)
      refine t_getR (l1 + 9) dX7_enter_335 F_X7_249 (t_pr16 c2) ?_
      refine mj_aload_n dX7_enter_338 2 rfl ?_
      refine mj_bipush (v := 6) dX7_enter_339 (by decide) ?_
      refine t_chkK hk (fun c3 hk => ?_)
      refine t_iald dX7_enter_341 c0 (t_ixv c3) ?_
      refine mj_ldc2 dX7_enter_342 K_X7_252 ?_
      refine t_chkK hk (fun c4 hk => ?_)
      refine t_lastK dX7_enter_345 (t_pa16 c2) (t_ixv c4) (fun s1 ws1 => t_letE hk ws1 (fun hk => ?_))
      refine mj_aload_n dX7_enter_346 0 rfl ?_
      refine t_getR 12 dX7_enter_347 F_X7_15 qr_864_0 ?_
      refine mj_iconst (v := 3) dX7_enter_350 (by decide) ?_
      refine mj_aload_n dX7_enter_351 1 rfl ?_
      refine t_getI dX7_enter_352 F_X7_92 (t_pf0 c2) ?_
      refine mj_aload_n dX7_enter_355 2 rfl ?_
      refine mj_bipush (v := 6) dX7_enter_356 (by decide) ?_
      refine t_iald dX7_enter_358 c0 (t_ixv c3) ?_
      refine t_bndK hk (fun r6 er6 hk => ?_)
      refine t_callVvE dX7_enter_359 M_X8_note (C_X8_note _ _ _ _ _ er6) ML_X7_67 IM_X8_note SE_X8_note qc_12 rfl (As := [.int 3, .int (s1.1 l1 0), .int (s1.1 l3 ((6 : Int32).toNatClampNeg))]) rfl rfl (Nat.le_of_ble_eq_true rfl) (Nat.le_of_ble_eq_true rfl) (Nat.le_of_ble_eq_true rfl) (Nat.le_of_ble_eq_true rfl) ?_
      refine mj_iconst (v := 0) dX7_enter_362 (by decide) ?_
      exact t_somK hk (fun hf => t_iret dX7_enter_363 rfl rfl ⟨_, rfl, hf⟩ (Nat.le_of_ble_eq_true rfl) (Nat.le_of_ble_eq_true rfl))
  · refine mj_aload_n dX7_enter_265 2 rfl ?_
    refine mj_bipush (v := 6) dX7_enter_266 (by decide) ?_
    refine t_chkK hk (fun c6 hk => ?_)
    refine t_chkK hk (fun c7 hk => ?_)
    refine t_iald dX7_enter_268 c6 (t_ixv c7) ?_
    refine mj_istore (lv2 := [(8, .int (s.1 l3 ((6 : Int32).toNatClampNeg))), (0, .ref 864), (1, .ref l1), (3, .ref l3), (5, .int l5), (6, .int l6), (7, .int l7)]) dX7_enter_269 (by decide) rfl ?_
    refine mj_aload_n dX7_enter_271 1 rfl ?_
    refine t_getR 12 dX7_enter_272 F_X7_15 qr_864_0 ?_
    refine mj_iconst (v := 2) dX7_enter_275 (by decide) ?_
    refine mj_aload_n dX7_enter_276 2 rfl ?_
    refine t_chkK hk (fun c8 hk => ?_)
    refine t_getI dX7_enter_277 F_X7_92 (t_pf0 c8) ?_
    refine mj_iload dX7_enter_280 0 rfl ?_
    refine mj_aload_n dX7_enter_282 1 rfl ?_
    refine t_getR 12 dX7_enter_283 F_X7_15 qr_864_0 ?_
    refine t_getR 13 dX7_enter_286 F_X7_377 qr_12_0 ?_
    refine mj_iload dX7_enter_289 5 rfl ?_
    refine mj_bipush (v := 120) dX7_enter_291 (by decide) ?_
    refine mj_imul dX7_enter_293 ?_
    refine t_bndK hk (fun r10 er10 hk => ?_)
    refine t_callVvE dX7_enter_294 M_X8_noteValue (C_X8_noteValue _ _ _ _ _ _ _ er10) ML_X7_322 IM_X8_noteValue SE_X8_noteValue qc_12 rfl (As := [.int 2, .int (s.1 l1 0), .int (s.1 l3 ((6 : Int32).toNatClampNeg)), .ref 13, .int (l6 * (120 : Int32))]) rfl rfl (Nat.le_of_ble_eq_true rfl) (Nat.le_of_ble_eq_true rfl) (Nat.le_of_ble_eq_true rfl) (Nat.le_of_ble_eq_true rfl) ?_
    refine mj_iload dX7_enter_297 6 rfl ?_
    refine mj_if_lt 317 dX7_enter_299 (by decide) (fun z => t_posK hk z (fun hk => ?_)) (fun z => t_negK hk z (fun hk => ?_))
    · refine mj_sublv [(1, .ref l1), (8, .int (s.1 l3 ((6 : Int32).toNatClampNeg)))] [2, 0] rfl ?_
      exact B_X7_enter_317 _ _ _ _ hk
    · refine mj_aload_n dX7_enter_302 1 rfl ?_
      refine t_getR 12 dX7_enter_303 F_X7_15 qr_864_0 ?_
      refine mj_iload dX7_enter_306 5 rfl ?_
      refine mj_aload_n dX7_enter_308 2 rfl ?_
      refine mj_iload dX7_enter_309 6 rfl ?_
      refine t_bndK hk (fun r11 er11 hk => ?_)
      refine t_callSiP dX7_enter_311 M_X7_slotOf (C_X7_slotOf _ _ _ _ er11) ML_X7_243 SM_X7_slotOf (As := [.ref l1, .int l7]) rfl rfl (Nat.le_of_ble_eq_true rfl) (Nat.le_of_ble_eq_true rfl) (Nat.le_of_ble_eq_true rfl) (Nat.le_of_ble_eq_true rfl) ?_
      refine t_bndK hk (fun r12 er12 hk => ?_)
      refine t_callVvE dX7_enter_314 M_X8_copy (C_X8_copy _ _ _ _ er12) ML_X7_402 IM_X8_copy SE_X8_copy qc_12 rfl (As := [.int l6, .int r11]) rfl rfl (Nat.le_of_ble_eq_true rfl) (Nat.le_of_ble_eq_true rfl) (Nat.le_of_ble_eq_true rfl) (Nat.le_of_ble_eq_true rfl) ?_
      refine mj_sublv [(1, .ref l1), (8, .int (s.1 l3 ((6 : Int32).toNatClampNeg)))] [2, 0] rfl ?_
      exact B_X7_enter_317 _ _ _ _ hk
noncomputable def k_X7_enter_203 (l1 : Nat) (l3 : Nat) (l5 : Int32) (l6 : Int32) (l7 : Int32) (l8 : Int32) (s : t_S) : Option ((Nat × Nat × Int32 × Int32 × Int32 × Int32 × t_S) ⊕ (Int32 × t_S)) :=
 if (8 : Int32) ≤ l8 then ((k_X7_enter_260 l1 l3 l5 l6 l7 s).map Sum.inr)
 else (if t_isP l1 = true then
  (f_X4_topSlot l1 s).bind (fun r2 =>
 (f_X8_copy ((s.1 864 11) + l8) (r2 + l8) s).bind (fun r3 =>
 some (.inl (l1, l3, l5, l6, l7, (l8 + 1), r3))))
else none)
set_option maxRecDepth 4000 in
set_option maxHeartbeats 1000000 in
theorem B_X7_enter_203 {D : va_G} {cy : Nat → ClassId} {ad : Nat → Nat} {bs : Nat} {X : State → Heap → Prop} (l1 : Nat) (l3 : Nat) (l5 : Int32) (l6 : Int32) (l7 : Int32) (l8 : Int32) (s : t_S) (Q : (Nat × Nat × Int32 × Int32 × Int32 × Int32 × t_S) ⊕ (Int32 × t_S) → Prop) (Hb203 : ∀ (y0 : Nat) (y1 : Nat) (y2 : Int32) (y3 : Int32) (y4 : Int32) (y5 : Int32) (y6 : t_S), Q (.inl (y0, y1, y2, y3, y4, y5, y6)) → mj_G D cy ad bs X cX7_enter 9 yX7_enter.cls (some .int) yX7_enter.name 4 0 0 1065 (t_P (fun v s' => ∃ x, v = some (.int x) ∧ Q (.inr ((x, s'))))) 203 [(0, .ref 864), (1, .ref (y0)), (3, .ref (y1)), (5, .int (y2)), (6, .int (y3)), (7, .int (y4)), (8, .int (y5))] [] (t_m y6) 1065 0 0) (hk : t_hk (k_X7_enter_203 l1 l3 l5 l6 l7 l8 s) Q) : mj_G D cy ad bs X cX7_enter 9 yX7_enter.cls (some .int) yX7_enter.name 4 0 0 1065 (t_P (fun v s' => ∃ x, v = some (.int x) ∧ Q (.inr ((x, s'))))) 203 [(0, .ref 864), (1, .ref l1), (3, .ref l3), (5, .int l5), (6, .int l6), (7, .int l7), (8, .int l8)] [] (t_m s) 1065 0 0 := by
  refine mj_iload dX7_enter_203 6 rfl ?_
  refine mj_bipush (v := 8) dX7_enter_205 (by decide) ?_
  refine mj_icmp_ge 237 dX7_enter_207 (by decide) (fun z => t_posK hk z (fun hk => ?_)) (fun z => t_negK hk z (fun hk => ?_))
  · refine t_mapK hk (fun hk => ?_)
    refine mj_goto 260 dX7_enter_237 (by decide) ?_
    refine mj_sublv [(0, .ref 864), (1, .ref l1), (3, .ref l3), (5, .int l5), (6, .int l6), (7, .int l7)] [0, 1, 2, 3, 4, 5] rfl ?_
    exact B_X7_enter_260 _ _ _ _ _ _ _ hk
  · refine mj_aload_n dX7_enter_210 0 rfl ?_
    refine t_getR 12 dX7_enter_211 F_X7_15 qr_864_0 ?_
    refine mj_aload_n dX7_enter_214 0 rfl ?_
    refine t_getI dX7_enter_215 F_X7_399 qf_864_11 ?_
    refine mj_iload dX7_enter_218 6 rfl ?_
    refine mj_iadd dX7_enter_220 ?_
    refine mj_aload_n dX7_enter_221 1 rfl ?_
    refine t_chkK hk (fun c0 hk => ?_)
    refine t_bndK hk (fun r2 er2 hk => ?_)
    refine t_callViP dX7_enter_222 M_X4_topSlot (C_X4_topSlot _ _ _ er2) ML_X7_158 IM_X4_topSlot SE_X4_topSlot (t_pc c0) rfl (As := []) rfl rfl (Nat.le_of_ble_eq_true rfl) (Nat.le_of_ble_eq_true rfl) (Nat.le_of_ble_eq_true rfl) (Nat.le_of_ble_eq_true rfl) ?_
    refine mj_iload dX7_enter_225 6 rfl ?_
    refine mj_iadd dX7_enter_227 ?_
    refine t_bndK hk (fun r3 er3 hk => ?_)
    refine t_callVvE dX7_enter_228 M_X8_copy (C_X8_copy _ _ _ _ er3) ML_X7_402 IM_X8_copy SE_X8_copy qc_12 rfl (As := [.int ((s.1 864 11) + l8), .int (r2 + l8)]) rfl rfl (Nat.le_of_ble_eq_true rfl) (Nat.le_of_ble_eq_true rfl) (Nat.le_of_ble_eq_true rfl) (Nat.le_of_ble_eq_true rfl) ?_
    refine mj_iinc (k := 6) (v := (l8 + 1)) (lv2 := [(8, .int (l8 + 1)), (0, .ref 864), (1, .ref l1), (3, .ref l3), (5, .int l5), (6, .int l6), (7, .int l7)]) dX7_enter_231 rfl rfl (by decide) rfl ?_
    refine mj_goto 203 dX7_enter_234 (by decide) ?_
    refine mj_sublv [(0, .ref 864), (1, .ref l1), (3, .ref l3), (5, .int l5), (6, .int l6), (7, .int l7), (8, .int (l8 + 1))] [1, 2, 3, 4, 5, 6, 0] rfl ?_
    exact t_somK hk (fun hf => Hb203 l1 l3 l5 l6 l7 (l8 + 1) r3 hf)
noncomputable def b_X7_enter_203 (x : Nat × Nat × Int32 × Int32 × Int32 × Int32 × t_S) : Option ((Nat × Nat × Int32 × Int32 × Int32 × Int32 × t_S) ⊕ (Int32 × t_S)) := k_X7_enter_203 x.1 x.2.1 x.2.2.1 x.2.2.2.1 x.2.2.2.2.1 x.2.2.2.2.2.1 x.2.2.2.2.2.2
set_option maxRecDepth 4000 in
set_option maxHeartbeats 1000000 in
theorem LH_X7_enter_203 {D : va_G} {cy : Nat → ClassId} {ad : Nat → Nat} {bs : Nat} {X : State → Heap → Prop} : ∀ (n : Nat) (y0 : Nat) (y1 : Nat) (y2 : Int32) (y3 : Int32) (y4 : Int32) (y5 : Int32) (y6 : t_S) (Q : Int32 × t_S → Prop) (hk : t_hk (t_loop (b_X7_enter_203) n (y0, y1, y2, y3, y4, y5, y6)) Q), mj_G D cy ad bs X cX7_enter 9 yX7_enter.cls (some .int) yX7_enter.name 4 0 0 1065 (t_P (fun v s' => ∃ x, v = some (.int x) ∧ Q ((x, s')))) 203 [(0, .ref 864), (1, .ref (y0)), (3, .ref (y1)), (5, .int (y2)), (6, .int (y3)), (7, .int (y4)), (8, .int (y5))] [] (t_m y6) 1065 0 0 := by
  intro n
  induction n with
  | zero => intro y0 y1 y2 y3 y4 y5 y6 Q hk; obtain ⟨r, hr, _⟩ := hk; cases hr
  | succ n ih =>
    intro y0 y1 y2 y3 y4 y5 y6 Q hk
    exact B_X7_enter_203 y0 y1 y2 y3 y4 y5 y6 (fun y => t_lq (b_X7_enter_203) n Q y) (fun y0' y1' y2' y3' y4' y5' y6' hy => ih y0' y1' y2' y3' y4' y5' y6' Q hy) (t_lp hk)
noncomputable def k_X7_enter_164 (l1 : Nat) (l2 : Int32) (l3 : Nat) (l4 : Int32) (l5 : Int32) (l6 : Int32) (l7 : Int32) (s : t_S) : Option (Int32 × t_S) :=
 if t_isP l1 = true then
  (f_X5_after l2 s).bind (fun r2 =>
 if t_ix ((s.1 l1 6) - (1 : Int32)) 8 = true then
  t_let (t_setI s (l1 + 2) (((s.1 l1 6) - (1 : Int32)).toNatClampNeg) r2) (fun s1 =>
 if (s1.1 864 10) < (0 : Int32) then (if t_oka l3 1 (t_ln l3) = true then
  if t_ix (3 : Int32) (t_ln l3) = true then
  if (s1.1 l3 ((3 : Int32).toNatClampNeg)) < (0 : Int32) then (k_X7_enter_260 l1 l3 l5 l6 l7 s1)
 else (if t_ix ((s1.1 l1 6) - (1 : Int32)) 8 = true then
  t_let (t_setI s1 (l1 + 2) (((s1.1 l1 6) - (1 : Int32)).toNatClampNeg) (s1.1 l3 ((3 : Int32).toNatClampNeg))) (fun s2 =>
 k_X7_enter_260 l1 l3 l5 l6 l7 s2)
else none)
else none
else none)
 else (if t_oka l3 1 (t_ln l3) = true then
  if t_ix (3 : Int32) (t_ln l3) = true then
  (f_X4_pushFrame l1 l4 (s1.1 l3 ((3 : Int32).toNatClampNeg)) s1).bind (fun r9 =>
 t_loop (b_X7_enter_203) t_N (l1, l3, l5, l6, l7, 0, r9.2))
else none
else none))
else none)
else none
set_option maxRecDepth 4000 in
set_option maxHeartbeats 1000000 in
theorem B_X7_enter_164 {D : va_G} {cy : Nat → ClassId} {ad : Nat → Nat} {bs : Nat} {X : State → Heap → Prop} (l1 : Nat) (l2 : Int32) (l3 : Nat) (l4 : Int32) (l5 : Int32) (l6 : Int32) (l7 : Int32) (s : t_S) (Q : Int32 × t_S → Prop) (hk : t_hk (k_X7_enter_164 l1 l2 l3 l4 l5 l6 l7 s) Q) : mj_G D cy ad bs X cX7_enter 9 yX7_enter.cls (some .int) yX7_enter.name 4 0 0 1065 (t_P (fun v s' => ∃ x, v = some (.int x) ∧ Q ((x, s')))) 164 [(0, .ref 864), (1, .ref l1), (2, .int l2), (3, .ref l3), (4, .int l4), (5, .int l5), (6, .int l6), (7, .int l7)] [] (t_m s) 1065 0 0 := by
  refine mj_aload_n dX7_enter_164 1 rfl ?_
  refine t_chkK hk (fun c0 hk => ?_)
  refine t_getR (l1 + 2) dX7_enter_165 F_X7_194 (t_pr8 c0) ?_
  refine mj_aload_n dX7_enter_168 1 rfl ?_
  refine t_getI dX7_enter_169 F_X7_191 (t_pf6 c0) ?_
  refine mj_iconst (v := 1) dX7_enter_172 (by decide) ?_
  refine mj_isub dX7_enter_173 ?_
  refine mj_aload_n dX7_enter_174 0 rfl ?_
  refine t_getR 428 dX7_enter_175 F_X7_31 qr_864_4 ?_
  refine mj_iload_n dX7_enter_178 2 rfl ?_
  refine t_bndK hk (fun r2 er2 hk => ?_)
  refine t_callViP dX7_enter_179 M_X5_after (C_X5_after _ _ _ er2) ML_X7_264 IM_X5_after SE_X5_after qc_428 rfl (As := [.int l2]) rfl rfl (Nat.le_of_ble_eq_true rfl) (Nat.le_of_ble_eq_true rfl) (Nat.le_of_ble_eq_true rfl) (Nat.le_of_ble_eq_true rfl) ?_
  refine t_chkK hk (fun c2 hk => ?_)
  refine t_iastK dX7_enter_182 (t_pa8 c0) (t_ixv c2) (fun s1 ws1 => t_letE hk ws1 (fun hk => ?_))
  refine mj_aload_n dX7_enter_183 0 rfl ?_
  refine t_getI dX7_enter_184 F_X7_396 qf_864_10 ?_
  refine mj_if_lt 240 dX7_enter_187 (by decide) (fun z => t_posK hk z (fun hk => ?_)) (fun z => t_negK hk z (fun hk => ?_))
  · refine mj_aload_n dX7_enter_240 3 rfl ?_
    refine mj_iconst (v := 3) dX7_enter_241 (by decide) ?_
    refine t_chkK hk (fun c3 hk => ?_)
    refine t_chkK hk (fun c4 hk => ?_)
    refine t_iald dX7_enter_242 c3 (t_ixv c4) ?_
    refine mj_if_lt 260 dX7_enter_243 (by decide) (fun z => t_posK hk z (fun hk => ?_)) (fun z => t_negK hk z (fun hk => ?_))
    · refine mj_sublv [(0, .ref 864), (1, .ref l1), (3, .ref l3), (5, .int l5), (6, .int l6), (7, .int l7)] [0, 1, 3, 5, 6, 7] rfl ?_
      exact B_X7_enter_260 _ _ _ _ _ _ _ hk
    · refine mj_aload_n dX7_enter_246 1 rfl ?_
      refine t_getR (l1 + 2) dX7_enter_247 F_X7_194 (t_pr8 c0) ?_
      refine mj_aload_n dX7_enter_250 1 rfl ?_
      refine t_getI dX7_enter_251 F_X7_191 (t_pf6 c0) ?_
      refine mj_iconst (v := 1) dX7_enter_254 (by decide) ?_
      refine mj_isub dX7_enter_255 ?_
      refine mj_aload_n dX7_enter_256 3 rfl ?_
      refine mj_iconst (v := 3) dX7_enter_257 (by decide) ?_
      refine t_iald dX7_enter_258 c3 (t_ixv c4) ?_
      refine t_chkK hk (fun c5 hk => ?_)
      refine t_iastK dX7_enter_259 (t_pa8 c0) (t_ixv c5) (fun s2 ws2 => t_letE hk ws2 (fun hk => ?_))
      refine mj_sublv [(0, .ref 864), (1, .ref l1), (3, .ref l3), (5, .int l5), (6, .int l6), (7, .int l7)] [0, 1, 3, 5, 6, 7] rfl ?_
      exact B_X7_enter_260 _ _ _ _ _ _ _ hk
  · refine mj_aload_n dX7_enter_190 1 rfl ?_
    refine mj_iload dX7_enter_191 4 rfl ?_
    refine mj_aload_n dX7_enter_193 3 rfl ?_
    refine mj_iconst (v := 3) dX7_enter_194 (by decide) ?_
    refine t_chkK hk (fun c6 hk => ?_)
    refine t_chkK hk (fun c7 hk => ?_)
    refine t_iald dX7_enter_195 c6 (t_ixv c7) ?_
    refine t_bndK hk (fun r9 er9 hk => ?_)
    refine t_callViE dX7_enter_196 M_X4_pushFrame (C_X4_pushFrame _ _ _ _ _ er9) ML_X7_88 IM_X4_pushFrame SE_X4_pushFrame (t_pc c0) rfl (As := [.int l4, .int (s1.1 l3 ((3 : Int32).toNatClampNeg))]) rfl rfl (Nat.le_of_ble_eq_true rfl) (Nat.le_of_ble_eq_true rfl) (Nat.le_of_ble_eq_true rfl) (Nat.le_of_ble_eq_true rfl) ?_
    refine mj_pop dX7_enter_199 rfl ?_
    refine mj_iconst (v := 0) dX7_enter_200 (by decide) ?_
    refine mj_istore (lv2 := [(8, .int 0), (0, .ref 864), (1, .ref l1), (2, .int l2), (3, .ref l3), (4, .int l4), (5, .int l5), (6, .int l6), (7, .int l7)]) dX7_enter_201 (by decide) rfl ?_
    refine mj_sublv [(0, .ref 864), (1, .ref l1), (3, .ref l3), (5, .int l5), (6, .int l6), (7, .int l7), (8, .int 0)] [1, 2, 4, 6, 7, 8, 0] rfl ?_
    exact LH_X7_enter_203 _ l1 l3 l5 l6 l7 0 r9.2 _ hk
noncomputable def k_X7_enter_107 (l1 : Nat) (l2 : Int32) (l3 : Nat) (l4 : Int32) (l5 : Int32) (l6 : Int32) (k0 : Int32) (s : t_S) : Option (Int32 × t_S) :=
 if k0 < (0 : Int32) then (k_X7_enter_164 l1 l2 l3 l4 l5 l6 k0 s)
 else ((f_X7_typeOf l1 l4 k0 s).bind (fun r1 =>
 if r1 < (0 : Int32) then (k_X7_enter_164 l1 l2 l3 l4 l5 l6 k0 s)
 else (if t_ix r1 60 = true then
  (f_X11_holds 13 (l6 * (120 : Int32)) (s.1 326 (r1.toNatClampNeg)) s).bind (fun r3 =>
 if r3.1 = (0 : Int32) then (some ((4 : Int32), r3.2))
 else (k_X7_enter_164 l1 l2 l3 l4 l5 l6 k0 r3.2))
else none)))
set_option maxRecDepth 4000 in
set_option maxHeartbeats 1000000 in
theorem B_X7_enter_107 {D : va_G} {cy : Nat → ClassId} {ad : Nat → Nat} {bs : Nat} {X : State → Heap → Prop} (l1 : Nat) (l2 : Int32) (l3 : Nat) (l4 : Int32) (l5 : Int32) (l6 : Int32) (k0 : Int32) (s : t_S) (Q : Int32 × t_S → Prop) (hk : t_hk (k_X7_enter_107 l1 l2 l3 l4 l5 l6 k0 s) Q) : mj_G D cy ad bs X cX7_enter 9 yX7_enter.cls (some .int) yX7_enter.name 4 0 0 1065 (t_P (fun v s' => ∃ x, v = some (.int x) ∧ Q ((x, s')))) 107 [(0, .ref 864), (1, .ref l1), (2, .int l2), (3, .ref l3), (4, .int l4), (5, .int l5), (6, .int l6)] [.int k0] (t_m s) 1065 0 0 := by
  refine mj_istore (lv2 := [(7, .int k0), (0, .ref 864), (1, .ref l1), (2, .int l2), (3, .ref l3), (4, .int l4), (5, .int l5), (6, .int l6)]) dX7_enter_107 (by decide) rfl ?_
  refine mj_iload dX7_enter_109 0 rfl ?_
  refine mj_if_lt 164 dX7_enter_111 (by decide) (fun z => t_posK hk z (fun hk => ?_)) (fun z => t_negK hk z (fun hk => ?_))
  · refine mj_sublv [(0, .ref 864), (1, .ref l1), (2, .int l2), (3, .ref l3), (4, .int l4), (5, .int l5), (6, .int l6), (7, .int k0)] [1, 2, 3, 4, 5, 6, 7, 0] rfl ?_
    exact B_X7_enter_164 _ _ _ _ _ _ _ _ _ hk
  · refine mj_aload_n dX7_enter_114 1 rfl ?_
    refine mj_aload_n dX7_enter_115 2 rfl ?_
    refine mj_iload dX7_enter_116 5 rfl ?_
    refine mj_iload dX7_enter_118 0 rfl ?_
    refine t_bndK hk (fun r1 er1 hk => ?_)
    refine t_callViP dX7_enter_120 M_X7_typeOf (C_X7_typeOf _ _ _ _ _ er1) ML_X7_240 IM_X7_typeOf SE_X7_typeOf qc_864 rfl (As := [.ref l1, .int l4, .int k0]) rfl rfl (Nat.le_of_ble_eq_true rfl) (Nat.le_of_ble_eq_true rfl) (Nat.le_of_ble_eq_true rfl) (Nat.le_of_ble_eq_true rfl) ?_
    refine mj_istore (lv2 := [(8, .int r1), (7, .int k0), (0, .ref 864), (1, .ref l1), (2, .int l2), (3, .ref l3), (4, .int l4), (5, .int l5), (6, .int l6)]) dX7_enter_123 (by decide) rfl ?_
    refine mj_iload dX7_enter_125 0 rfl ?_
    refine mj_if_lt 164 dX7_enter_127 (by decide) (fun z => t_posK hk z (fun hk => ?_)) (fun z => t_negK hk z (fun hk => ?_))
    · refine mj_sublv [(0, .ref 864), (1, .ref l1), (2, .int l2), (3, .ref l3), (4, .int l4), (5, .int l5), (6, .int l6), (7, .int k0)] [2, 3, 4, 5, 6, 7, 8, 1] rfl ?_
      exact B_X7_enter_164 _ _ _ _ _ _ _ _ _ hk
    · refine mj_aload_n dX7_enter_130 2 rfl ?_
      refine t_getR 316 dX7_enter_131 F_X7_19 qr_864_1 ?_
      refine mj_aload_n dX7_enter_134 2 rfl ?_
      refine t_getR 12 dX7_enter_135 F_X7_15 qr_864_0 ?_
      refine t_getR 13 dX7_enter_138 F_X7_377 qr_12_0 ?_
      refine mj_iload dX7_enter_141 8 rfl ?_
      refine mj_bipush (v := 120) dX7_enter_143 (by decide) ?_
      refine mj_imul dX7_enter_145 ?_
      refine mj_aload_n dX7_enter_146 2 rfl ?_
      refine t_getR 316 dX7_enter_147 F_X7_19 qr_864_1 ?_
      refine t_getR 326 dX7_enter_150 F_X7_138 qr_316_11 ?_
      refine mj_iload dX7_enter_153 0 rfl ?_
      refine t_chkK hk (fun c1 hk => ?_)
      refine t_iald dX7_enter_155 qa_326 (t_ixv c1) ?_
      refine t_bndK hk (fun r3 er3 hk => ?_)
      refine t_callViE dX7_enter_156 M_X11_holds (C_X11_holds _ _ _ _ _ er3) ML_X7_143 IM_X11_holds SE_X11_holds qc_316 rfl (As := [.ref 13, .int (l6 * (120 : Int32)), .int (s.1 326 (r1.toNatClampNeg))]) rfl rfl (Nat.le_of_ble_eq_true rfl) (Nat.le_of_ble_eq_true rfl) (Nat.le_of_ble_eq_true rfl) (Nat.le_of_ble_eq_true rfl) ?_
      refine mj_if_ne 164 dX7_enter_159 (by decide) (fun z => t_negK hk z (fun hk => ?_)) (fun z => t_posK hk z (fun hk => ?_))
      · refine mj_sublv [(0, .ref 864), (1, .ref l1), (2, .int l2), (3, .ref l3), (4, .int l4), (5, .int l5), (6, .int l6), (7, .int k0)] [2, 3, 4, 5, 6, 7, 8, 1] rfl ?_
        exact B_X7_enter_164 _ _ _ _ _ _ _ _ _ hk
      · refine mj_iconst (v := 4) dX7_enter_162 (by decide) ?_
        exact t_somK hk (fun hf => t_iret dX7_enter_163 rfl rfl ⟨_, rfl, hf⟩ (Nat.le_of_ble_eq_true rfl) (Nat.le_of_ble_eq_true rfl))
noncomputable def k_X7_enter_92 (l1 : Nat) (l2 : Int32) (l3 : Nat) (l4 : Int32) (l5 : Int32) (k0 : Int32) (s : t_S) : Option (Int32 × t_S) :=
 if l5 = (0 : Int32) then (k_X7_enter_107 l1 l2 l3 l4 l5 k0 (-1) s)
 else (if t_oka l3 1 (t_ln l3) = true then
  if t_ix (7 : Int32) (t_ln l3) = true then
  k_X7_enter_107 l1 l2 l3 l4 l5 k0 (s.1 l3 ((7 : Int32).toNatClampNeg)) s
else none
else none)
set_option maxRecDepth 4000 in
set_option maxHeartbeats 1000000 in
theorem B_X7_enter_92 {D : va_G} {cy : Nat → ClassId} {ad : Nat → Nat} {bs : Nat} {X : State → Heap → Prop} (l1 : Nat) (l2 : Int32) (l3 : Nat) (l4 : Int32) (l5 : Int32) (k0 : Int32) (s : t_S) (Q : Int32 × t_S → Prop) (hk : t_hk (k_X7_enter_92 l1 l2 l3 l4 l5 k0 s) Q) : mj_G D cy ad bs X cX7_enter 9 yX7_enter.cls (some .int) yX7_enter.name 4 0 0 1065 (t_P (fun v s' => ∃ x, v = some (.int x) ∧ Q ((x, s')))) 92 [(0, .ref 864), (1, .ref l1), (2, .int l2), (3, .ref l3), (4, .int l4), (5, .int l5)] [.int k0] (t_m s) 1065 0 0 := by
  refine mj_istore (lv2 := [(6, .int k0), (0, .ref 864), (1, .ref l1), (2, .int l2), (3, .ref l3), (4, .int l4), (5, .int l5)]) dX7_enter_92 (by decide) rfl ?_
  refine mj_iload dX7_enter_94 6 rfl ?_
  refine mj_if_eq 106 dX7_enter_96 (by decide) (fun z => t_posK hk z (fun hk => ?_)) (fun z => t_negK hk z (fun hk => ?_))
  · refine mj_iconst (v := (-1)) dX7_enter_106 (by decide) ?_
    refine mj_sublv [(0, .ref 864), (1, .ref l1), (2, .int l2), (3, .ref l3), (4, .int l4), (5, .int l5), (6, .int k0)] [1, 2, 3, 4, 5, 6, 0] rfl ?_
    exact B_X7_enter_107 _ _ _ _ _ _ _ _ _ hk
  · refine mj_aload_n dX7_enter_99 4 rfl ?_
    refine mj_bipush (v := 7) dX7_enter_100 (by decide) ?_
    refine t_chkK hk (fun c0 hk => ?_)
    refine t_chkK hk (fun c1 hk => ?_)
    refine t_iald dX7_enter_102 c0 (t_ixv c1) ?_
    refine mj_goto 107 dX7_enter_103 (by decide) ?_
    refine mj_sublv [(0, .ref 864), (1, .ref l1), (2, .int l2), (3, .ref l3), (4, .int l4), (5, .int l5), (6, .int k0)] [1, 2, 3, 4, 5, 6, 0] rfl ?_
    exact B_X7_enter_107 _ _ _ _ _ _ _ _ _ hk
noncomputable def k_X7_enter_72 (l1 : Nat) (l2 : Int32) (l3 : Nat) (l4 : Int32) (k0 : Int32) (s : t_S) : Option (Int32 × t_S) :=
 if k0 = (0 : Int32) then (k_X7_enter_92 l1 l2 l3 l4 k0 (-1) s)
 else (if t_oka l3 1 (t_ln l3) = true then
  if t_ix (6 : Int32) (t_ln l3) = true then
  if t_isP l1 = true then
  (f_X4_queueSlot l1 (s.1 l3 ((6 : Int32).toNatClampNeg)) (0 : Int32) s).bind (fun r4 =>
 k_X7_enter_92 l1 l2 l3 l4 k0 r4 s)
else none
else none
else none)
set_option maxRecDepth 4000 in
set_option maxHeartbeats 1000000 in
theorem B_X7_enter_72 {D : va_G} {cy : Nat → ClassId} {ad : Nat → Nat} {bs : Nat} {X : State → Heap → Prop} (l1 : Nat) (l2 : Int32) (l3 : Nat) (l4 : Int32) (k0 : Int32) (s : t_S) (Q : Int32 × t_S → Prop) (hk : t_hk (k_X7_enter_72 l1 l2 l3 l4 k0 s) Q) : mj_G D cy ad bs X cX7_enter 9 yX7_enter.cls (some .int) yX7_enter.name 4 0 0 1065 (t_P (fun v s' => ∃ x, v = some (.int x) ∧ Q ((x, s')))) 72 [(0, .ref 864), (1, .ref l1), (2, .int l2), (3, .ref l3), (4, .int l4)] [.int k0] (t_m s) 1065 0 0 := by
  refine mj_istore (lv2 := [(5, .int k0), (0, .ref 864), (1, .ref l1), (2, .int l2), (3, .ref l3), (4, .int l4)]) dX7_enter_72 (by decide) rfl ?_
  refine mj_iload dX7_enter_74 0 rfl ?_
  refine mj_if_eq 91 dX7_enter_76 (by decide) (fun z => t_posK hk z (fun hk => ?_)) (fun z => t_negK hk z (fun hk => ?_))
  · refine mj_iconst (v := (-1)) dX7_enter_91 (by decide) ?_
    refine mj_sublv [(0, .ref 864), (1, .ref l1), (2, .int l2), (3, .ref l3), (4, .int l4), (5, .int k0)] [1, 2, 3, 4, 5, 0] rfl ?_
    exact B_X7_enter_92 _ _ _ _ _ _ _ _ hk
  · refine mj_aload_n dX7_enter_79 2 rfl ?_
    refine mj_aload_n dX7_enter_80 4 rfl ?_
    refine mj_bipush (v := 6) dX7_enter_81 (by decide) ?_
    refine t_chkK hk (fun c0 hk => ?_)
    refine t_chkK hk (fun c1 hk => ?_)
    refine t_iald dX7_enter_83 c0 (t_ixv c1) ?_
    refine mj_iconst (v := 0) dX7_enter_84 (by decide) ?_
    refine t_chkK hk (fun c2 hk => ?_)
    refine t_bndK hk (fun r4 er4 hk => ?_)
    refine t_callViP dX7_enter_85 M_X4_queueSlot (C_X4_queueSlot _ _ _ _ _ er4) ML_X7_380 IM_X4_queueSlot SE_X4_queueSlot (t_pc c2) rfl (As := [.int (s.1 l3 ((6 : Int32).toNatClampNeg)), .int 0]) rfl rfl (Nat.le_of_ble_eq_true rfl) (Nat.le_of_ble_eq_true rfl) (Nat.le_of_ble_eq_true rfl) (Nat.le_of_ble_eq_true rfl) ?_
    refine mj_goto 92 dX7_enter_88 (by decide) ?_
    refine mj_sublv [(0, .ref 864), (1, .ref l1), (2, .int l2), (3, .ref l3), (4, .int l4), (5, .int k0)] [1, 2, 3, 4, 5, 0] rfl ?_
    exact B_X7_enter_92 _ _ _ _ _ _ _ _ hk
noncomputable def k_X7_enter_57 (l1 : Nat) (l2 : Int32) (l3 : Nat) (k0 : Int32) (s : t_S) : Option (Int32 × t_S) :=
 if t_oka l3 1 (t_ln l3) = true then
  if t_ix (0 : Int32) (t_ln l3) = true then
  if (s.1 l3 ((0 : Int32).toNatClampNeg)) = (11 : Int32) then (k_X7_enter_72 l1 l2 l3 k0 1 s)
 else (k_X7_enter_72 l1 l2 l3 k0 0 s)
else none
else none
set_option maxRecDepth 4000 in
set_option maxHeartbeats 1000000 in
theorem B_X7_enter_57 {D : va_G} {cy : Nat → ClassId} {ad : Nat → Nat} {bs : Nat} {X : State → Heap → Prop} (l1 : Nat) (l2 : Int32) (l3 : Nat) (k0 : Int32) (s : t_S) (Q : Int32 × t_S → Prop) (hk : t_hk (k_X7_enter_57 l1 l2 l3 k0 s) Q) : mj_G D cy ad bs X cX7_enter 9 yX7_enter.cls (some .int) yX7_enter.name 4 0 0 1065 (t_P (fun v s' => ∃ x, v = some (.int x) ∧ Q ((x, s')))) 57 [(0, .ref 864), (1, .ref l1), (2, .int l2), (3, .ref l3)] [.int k0] (t_m s) 1065 0 0 := by
  refine mj_istore (lv2 := [(4, .int k0), (0, .ref 864), (1, .ref l1), (2, .int l2), (3, .ref l3)]) dX7_enter_57 (by decide) rfl ?_
  refine mj_aload_n dX7_enter_59 4 rfl ?_
  refine mj_iconst (v := 0) dX7_enter_60 (by decide) ?_
  refine t_chkK hk (fun c0 hk => ?_)
  refine t_chkK hk (fun c1 hk => ?_)
  refine t_iald dX7_enter_61 c0 (t_ixv c1) ?_
  refine mj_bipush (v := 11) dX7_enter_62 (by decide) ?_
  refine mj_icmp_ne 71 dX7_enter_64 (by decide) (fun z => t_negK hk z (fun hk => ?_)) (fun z => t_posK hk z (fun hk => ?_))
  · refine mj_iconst (v := 0) dX7_enter_71 (by decide) ?_
    refine mj_sublv [(0, .ref 864), (1, .ref l1), (2, .int l2), (3, .ref l3), (4, .int k0)] [1, 2, 3, 4, 0] rfl ?_
    exact B_X7_enter_72 _ _ _ _ _ _ _ hk
  · refine mj_iconst (v := 1) dX7_enter_67 (by decide) ?_
    refine mj_goto 72 dX7_enter_68 (by decide) ?_
    refine mj_sublv [(0, .ref 864), (1, .ref l1), (2, .int l2), (3, .ref l3), (4, .int k0)] [1, 2, 3, 4, 0] rfl ?_
    exact B_X7_enter_72 _ _ _ _ _ _ _ hk
noncomputable def k_X7_enter_19 (l1 : Nat) (l2 : Int32) (s : t_S) : Option (Int32 × t_S) :=
 if t_ix (s.1 864 9) 400 = true then
  if (s.1 864 10) < (0 : Int32) then (if t_isP l1 = true then
  if t_ix ((s.1 l1 6) - (1 : Int32)) 8 = true then
  k_X7_enter_57 l1 l2 (445 + 1 * ((s.1 864 9).toNatClampNeg)) (s.1 (l1 + 1) (((s.1 l1 6) - (1 : Int32)).toNatClampNeg)) s
else none
else none)
 else (k_X7_enter_57 l1 l2 (445 + 1 * ((s.1 864 9).toNatClampNeg)) (s.1 864 10) s)
else none
set_option maxRecDepth 4000 in
set_option maxHeartbeats 1000000 in
theorem B_X7_enter_19 {D : va_G} {cy : Nat → ClassId} {ad : Nat → Nat} {bs : Nat} {X : State → Heap → Prop} (l1 : Nat) (l2 : Int32) (s : t_S) (Q : Int32 × t_S → Prop) (hk : t_hk (k_X7_enter_19 l1 l2 s) Q) : mj_G D cy ad bs X cX7_enter 9 yX7_enter.cls (some .int) yX7_enter.name 4 0 0 1065 (t_P (fun v s' => ∃ x, v = some (.int x) ∧ Q ((x, s')))) 19 [(0, .ref 864), (1, .ref l1), (2, .int l2)] [] (t_m s) 1065 0 0 := by
  refine mj_aload_n dX7_enter_19 0 rfl ?_
  refine t_getR 428 dX7_enter_20 F_X7_31 qr_864_4 ?_
  refine t_getR 444 dX7_enter_23 F_X7_179 qr_428_17 ?_
  refine mj_aload_n dX7_enter_26 0 rfl ?_
  refine t_getI dX7_enter_27 F_X7_393 qf_864_9 ?_
  refine t_chkK hk (fun c0 hk => ?_)
  refine t_aaldI dX7_enter_30 qq_444 (t_ixv c0) ?_
  refine mj_astore_n 3 (lv2 := [(3, .ref (445 + 1 * ((s.1 864 9).toNatClampNeg))), (0, .ref 864), (1, .ref l1), (2, .int l2)]) dX7_enter_31 rfl (by decide) rfl ?_
  refine mj_aload_n dX7_enter_32 1 rfl ?_
  refine t_getI dX7_enter_33 F_X7_396 qf_864_10 ?_
  refine mj_if_lt 46 dX7_enter_36 (by decide) (fun z => t_posK hk z (fun hk => ?_)) (fun z => t_negK hk z (fun hk => ?_))
  · refine mj_aload_n dX7_enter_46 2 rfl ?_
    refine t_chkK hk (fun c1 hk => ?_)
    refine t_getR (l1 + 1) dX7_enter_47 F_X7_197 (t_pr7 c1) ?_
    refine mj_aload_n dX7_enter_50 2 rfl ?_
    refine t_getI dX7_enter_51 F_X7_191 (t_pf6 c1) ?_
    refine mj_iconst (v := 1) dX7_enter_54 (by decide) ?_
    refine mj_isub dX7_enter_55 ?_
    refine t_chkK hk (fun c2 hk => ?_)
    refine t_iald dX7_enter_56 (t_pa7 c1) (t_ixv c2) ?_
    refine mj_sublv [(0, .ref 864), (1, .ref l1), (2, .int l2), (3, .ref (445 + 1 * ((s.1 864 9).toNatClampNeg)))] [1, 2, 3, 0] rfl ?_
    exact B_X7_enter_57 _ _ _ _ _ _ hk
  · refine mj_aload_n dX7_enter_39 1 rfl ?_
    refine t_getI dX7_enter_40 F_X7_396 qf_864_10 ?_
    refine mj_goto 57 dX7_enter_43 (by decide) ?_
    refine mj_sublv [(0, .ref 864), (1, .ref l1), (2, .int l2), (3, .ref (445 + 1 * ((s.1 864 9).toNatClampNeg)))] [1, 2, 3, 0] rfl ?_
    exact B_X7_enter_57 _ _ _ _ _ _ hk
noncomputable def f_X7_enter (x1 : Nat) (x2 : Int32) (s : t_S) : Option (Int32 × t_S) :=
 if (s.1 864 10) < (0 : Int32) then (k_X7_enter_19 x1 x2 s)
 else (if t_isP x1 = true then
  if (s.1 x1 6) < (8 : Int32) then (k_X7_enter_19 x1 x2 s)
 else (some ((7 : Int32), s))
else none)
set_option maxRecDepth 4000 in
set_option maxHeartbeats 1000000 in
theorem C_X7_enter (x1 : Nat) (x2 : Int32) (s : t_S) (r : Int32 × t_S) (hr : f_X7_enter x1 x2 s = some r) : t_C yX7_enter cX7_enter 9 (some .int) 4 [.ref 864, .ref x1, .int x2] s (fun v s' => v = some (.int r.1) ∧ s' = r.2) := by
  refine t_C.imp (P := fun v s' => ∃ x, v = some (.int x) ∧ (fun q => q = r) ((x, s'))) (t_C.of (by decide +kernel) (Nat.le_of_ble_eq_true rfl) ?_) (fun v s' hp => by obtain ⟨x, rfl, rfl⟩ := hp; exact ⟨rfl, rfl⟩)
  intro D cy ad bs X
  have hk : t_hk (f_X7_enter x1 x2 s) (fun q => q = r) := ⟨r, hr, rfl⟩
  show mj_G D cy ad bs X cX7_enter 9 yX7_enter.cls (some .int) yX7_enter.name 4 0 0 1065 (t_P (fun v s' => ∃ x, v = some (.int x) ∧ (fun q => q = r) ((x, s')))) 0 [(0, .ref 864), (1, .ref x1), (2, .int x2)] [] (t_m s) 1065 0 0
  refine mj_aload_n dX7_enter_0 0 rfl ?_
  refine t_getI dX7_enter_1 F_X7_396 qf_864_10 ?_
  refine mj_if_lt 19 dX7_enter_4 (by decide) (fun z => t_posK hk z (fun hk => ?_)) (fun z => t_negK hk z (fun hk => ?_))
  · exact B_X7_enter_19 _ _ _ _ hk
  · refine mj_aload_n dX7_enter_7 1 rfl ?_
    refine t_chkK hk (fun c0 hk => ?_)
    refine t_getI dX7_enter_8 F_X7_191 (t_pf6 c0) ?_
    refine mj_bipush (v := 8) dX7_enter_11 (by decide) ?_
    refine mj_icmp_lt 19 dX7_enter_13 (by decide) (fun z => t_posK hk z (fun hk => ?_)) (fun z => t_negK hk z (fun hk => ?_))
    · exact B_X7_enter_19 _ _ _ _ hk
    · refine mj_bipush (v := 7) dX7_enter_16 (by decide) ?_
      exact t_somK hk (fun hf => t_iret dX7_enter_18 rfl rfl ⟨_, rfl, hf⟩ (Nat.le_of_ble_eq_true rfl) (Nat.le_of_ble_eq_true rfl))

theorem dX7_addUsual_0 : decode cX7_addUsual 0 = .ok (.aload_n 1, 1) := by decide +kernel
theorem dX7_addUsual_1 : decode cX7_addUsual 1 = .ok (.getfield 246, 3) := by decide +kernel
theorem dX7_addUsual_10 : decode cX7_addUsual 10 = .ok (.ireturn, 1) := by decide +kernel
theorem dX7_addUsual_11 : decode cX7_addUsual 11 = .ok (.aload_n 0, 1) := by decide +kernel
theorem dX7_addUsual_12 : decode cX7_addUsual 12 = .ok (.aload_n 1, 1) := by decide +kernel
theorem dX7_addUsual_13 : decode cX7_addUsual 13 = .ok (.aload_n 1, 1) := by decide +kernel
theorem dX7_addUsual_14 : decode cX7_addUsual 14 = .ok (.getfield 246, 3) := by decide +kernel
theorem dX7_addUsual_17 : decode cX7_addUsual 17 = .ok (.invokevirtual 352, 3) := by decide +kernel
theorem dX7_addUsual_20 : decode cX7_addUsual 20 = .ok (.iconst 0, 1) := by decide +kernel
theorem dX7_addUsual_21 : decode cX7_addUsual 21 = .ok (.invokevirtual 319, 3) := by decide +kernel
theorem dX7_addUsual_24 : decode cX7_addUsual 24 = .ok (.aload_n 1, 1) := by decide +kernel
theorem dX7_addUsual_25 : decode cX7_addUsual 25 = .ok (.getfield 355, 3) := by decide +kernel
theorem dX7_addUsual_28 : decode cX7_addUsual 28 = .ok (.aload_n 1, 1) := by decide +kernel
theorem dX7_addUsual_29 : decode cX7_addUsual 29 = .ok (.getfield 246, 3) := by decide +kernel
theorem dX7_addUsual_32 : decode cX7_addUsual 32 = .ok (.aload_n 2, 1) := by decide +kernel
theorem dX7_addUsual_33 : decode cX7_addUsual 33 = .ok (.bipush 6, 2) := by decide +kernel
theorem dX7_addUsual_35 : decode cX7_addUsual 35 = .ok (.iaload, 1) := by decide +kernel
theorem dX7_addUsual_36 : decode cX7_addUsual 36 = .ok (.iastore, 1) := by decide +kernel
theorem dX7_addUsual_37 : decode cX7_addUsual 37 = .ok (.aload_n 1, 1) := by decide +kernel
theorem dX7_addUsual_38 : decode cX7_addUsual 38 = .ok (.dup, 1) := by decide +kernel
theorem dX7_addUsual_39 : decode cX7_addUsual 39 = .ok (.getfield 246, 3) := by decide +kernel
theorem dX7_addUsual_4 : decode cX7_addUsual 4 = .ok (.iconst 4, 1) := by decide +kernel
theorem dX7_addUsual_42 : decode cX7_addUsual 42 = .ok (.iconst 1, 1) := by decide +kernel
theorem dX7_addUsual_43 : decode cX7_addUsual 43 = .ok (.iadd, 1) := by decide +kernel
theorem dX7_addUsual_44 : decode cX7_addUsual 44 = .ok (.putfield 246, 3) := by decide +kernel
theorem dX7_addUsual_47 : decode cX7_addUsual 47 = .ok (.iconst 0, 1) := by decide +kernel
theorem dX7_addUsual_48 : decode cX7_addUsual 48 = .ok (.ireturn, 1) := by decide +kernel
theorem dX7_addUsual_5 : decode cX7_addUsual 5 = .ok (.if_icmp .lt 6, 3) := by decide +kernel
theorem dX7_addUsual_8 : decode cX7_addUsual 8 = .ok (.bipush 7, 2) := by decide +kernel
noncomputable def f_X7_addUsual (x1 : Nat) (x2 : Nat) (s : t_S) : Option (Int32 × t_S) :=
 if t_isP x1 = true then
  if (s.1 x1 10) < (4 : Int32) then ((f_X4_usualSlot x1 (s.1 x1 10) s).bind (fun r2 =>
 (f_X7_putArguments r2 (0 : Int32) s).bind (fun r3 =>
 if t_oka x2 1 (t_ln x2) = true then
  if t_ix (6 : Int32) (t_ln x2) = true then
  if t_ix (r3.1 x1 10) 4 = true then
  t_let (t_setI r3 (x1 + 4) ((r3.1 x1 10).toNatClampNeg) (r3.1 x2 ((6 : Int32).toNatClampNeg))) (fun s1 =>
 t_let (t_setI s1 x1 10 ((s1.1 x1 10) + (1 : Int32))) (fun s2 =>
 some ((0 : Int32), s2)))
else none
else none
else none)))
 else (some ((7 : Int32), s))
else none
set_option maxRecDepth 4000 in
set_option maxHeartbeats 1000000 in
theorem C_X7_addUsual (x1 : Nat) (x2 : Nat) (s : t_S) (r : Int32 × t_S) (hr : f_X7_addUsual x1 x2 s = some r) : t_C yX7_addUsual cX7_addUsual 3 (some .int) 3 [.ref 864, .ref x1, .ref x2] s (fun v s' => v = some (.int r.1) ∧ s' = r.2) := by
  refine t_C.imp (P := fun v s' => ∃ x, v = some (.int x) ∧ (fun q => q = r) ((x, s'))) (t_C.of (by decide +kernel) (Nat.le_of_ble_eq_true rfl) ?_) (fun v s' hp => by obtain ⟨x, rfl, rfl⟩ := hp; exact ⟨rfl, rfl⟩)
  intro D cy ad bs X
  have hk : t_hk (f_X7_addUsual x1 x2 s) (fun q => q = r) := ⟨r, hr, rfl⟩
  show mj_G D cy ad bs X cX7_addUsual 3 yX7_addUsual.cls (some .int) yX7_addUsual.name 3 0 0 1065 (t_P (fun v s' => ∃ x, v = some (.int x) ∧ (fun q => q = r) ((x, s')))) 0 [(0, .ref 864), (1, .ref x1), (2, .ref x2)] [] (t_m s) 1065 0 0
  refine mj_aload_n dX7_addUsual_0 1 rfl ?_
  refine t_chkK hk (fun c0 hk => ?_)
  refine t_getI dX7_addUsual_1 F_X7_246 (t_pf10 c0) ?_
  refine mj_iconst (v := 4) dX7_addUsual_4 (by decide) ?_
  refine mj_icmp_lt 11 dX7_addUsual_5 (by decide) (fun z => t_posK hk z (fun hk => ?_)) (fun z => t_negK hk z (fun hk => ?_))
  · refine mj_aload_n dX7_addUsual_11 0 rfl ?_
    refine mj_aload_n dX7_addUsual_12 1 rfl ?_
    refine mj_aload_n dX7_addUsual_13 1 rfl ?_
    refine t_getI dX7_addUsual_14 F_X7_246 (t_pf10 c0) ?_
    refine t_bndK hk (fun r2 er2 hk => ?_)
    refine t_callViP dX7_addUsual_17 M_X4_usualSlot (C_X4_usualSlot _ _ _ _ er2) ML_X7_352 IM_X4_usualSlot SE_X4_usualSlot (t_pc c0) rfl (As := [.int (s.1 x1 10)]) rfl rfl (Nat.le_of_ble_eq_true rfl) (Nat.le_of_ble_eq_true rfl) (Nat.le_of_ble_eq_true rfl) (Nat.le_of_ble_eq_true rfl) ?_
    refine mj_iconst (v := 0) dX7_addUsual_20 (by decide) ?_
    refine t_bndK hk (fun r3 er3 hk => ?_)
    refine t_callVvE dX7_addUsual_21 M_X7_putArguments (C_X7_putArguments _ _ _ _ er3) ML_X7_319 IM_X7_putArguments SE_X7_putArguments qc_864 rfl (As := [.int r2, .int 0]) rfl rfl (Nat.le_of_ble_eq_true rfl) (Nat.le_of_ble_eq_true rfl) (Nat.le_of_ble_eq_true rfl) (Nat.le_of_ble_eq_true rfl) ?_
    refine mj_aload_n dX7_addUsual_24 1 rfl ?_
    refine t_getR (x1 + 4) dX7_addUsual_25 F_X7_355 (t_pr11 c0) ?_
    refine mj_aload_n dX7_addUsual_28 1 rfl ?_
    refine t_getI dX7_addUsual_29 F_X7_246 (t_pf10 c0) ?_
    refine mj_aload_n dX7_addUsual_32 2 rfl ?_
    refine mj_bipush (v := 6) dX7_addUsual_33 (by decide) ?_
    refine t_chkK hk (fun c3 hk => ?_)
    refine t_chkK hk (fun c4 hk => ?_)
    refine t_iald dX7_addUsual_35 c3 (t_ixv c4) ?_
    refine t_chkK hk (fun c5 hk => ?_)
    refine t_iastK dX7_addUsual_36 (t_pa11 c0) (t_ixv c5) (fun s1 ws1 => t_letE hk ws1 (fun hk => ?_))
    refine mj_aload_n dX7_addUsual_37 1 rfl ?_
    refine mj_dup dX7_addUsual_38 rfl ?_
    refine t_getI dX7_addUsual_39 F_X7_246 (t_pf10 c0) ?_
    refine mj_iconst (v := 1) dX7_addUsual_42 (by decide) ?_
    refine mj_iadd dX7_addUsual_43 ?_
    refine t_putIK dX7_addUsual_44 F_X7_246 (t_pf10 c0) rfl (fun s2 ws2 => t_letE hk ws2 (fun hk => ?_))
    refine mj_iconst (v := 0) dX7_addUsual_47 (by decide) ?_
    exact t_somK hk (fun hf => t_iret dX7_addUsual_48 rfl rfl ⟨_, rfl, hf⟩ (Nat.le_of_ble_eq_true rfl) (Nat.le_of_ble_eq_true rfl))
  · refine mj_bipush (v := 7) dX7_addUsual_8 (by decide) ?_
    exact t_somK hk (fun hf => t_iret dX7_addUsual_10 rfl rfl ⟨_, rfl, hf⟩ (Nat.le_of_ble_eq_true rfl) (Nat.le_of_ble_eq_true rfl))

theorem dX7_assign_0 : decode cX7_assign 0 = .ok (.aload_n 0, 1) := by decide +kernel
theorem dX7_assign_1 : decode cX7_assign 1 = .ok (.aload_n 1, 1) := by decide +kernel
theorem dX7_assign_10 : decode cX7_assign 10 = .ok (.iconst 1, 1) := by decide +kernel
theorem dX7_assign_11 : decode cX7_assign 11 = .ok (.isub, 1) := by decide +kernel
theorem dX7_assign_12 : decode cX7_assign 12 = .ok (.iaload, 1) := by decide +kernel
theorem dX7_assign_13 : decode cX7_assign 13 = .ok (.iload_n 2, 1) := by decide +kernel
theorem dX7_assign_14 : decode cX7_assign 14 = .ok (.invokevirtual 240, 3) := by decide +kernel
theorem dX7_assign_17 : decode cX7_assign 17 = .ok (.istore_n 3, 1) := by decide +kernel
theorem dX7_assign_18 : decode cX7_assign 18 = .ok (.iload_n 3, 1) := by decide +kernel
theorem dX7_assign_19 : decode cX7_assign 19 = .ok (.ifCond .lt 38, 3) := by decide +kernel
theorem dX7_assign_2 : decode cX7_assign 2 = .ok (.aload_n 1, 1) := by decide +kernel
theorem dX7_assign_22 : decode cX7_assign 22 = .ok (.aload_n 0, 1) := by decide +kernel
theorem dX7_assign_23 : decode cX7_assign 23 = .ok (.getfield 19, 3) := by decide +kernel
theorem dX7_assign_26 : decode cX7_assign 26 = .ok (.aload_n 0, 1) := by decide +kernel
theorem dX7_assign_27 : decode cX7_assign 27 = .ok (.getfield 23, 3) := by decide +kernel
theorem dX7_assign_3 : decode cX7_assign 3 = .ok (.getfield 197, 3) := by decide +kernel
theorem dX7_assign_30 : decode cX7_assign 30 = .ok (.getfield 130, 3) := by decide +kernel
theorem dX7_assign_33 : decode cX7_assign 33 = .ok (.aload_n 0, 1) := by decide +kernel
theorem dX7_assign_34 : decode cX7_assign 34 = .ok (.getfield 23, 3) := by decide +kernel
theorem dX7_assign_37 : decode cX7_assign 37 = .ok (.invokevirtual 134, 3) := by decide +kernel
theorem dX7_assign_40 : decode cX7_assign 40 = .ok (.aload_n 0, 1) := by decide +kernel
theorem dX7_assign_41 : decode cX7_assign 41 = .ok (.getfield 19, 3) := by decide +kernel
theorem dX7_assign_44 : decode cX7_assign 44 = .ok (.getfield 138, 3) := by decide +kernel
theorem dX7_assign_47 : decode cX7_assign 47 = .ok (.iload_n 3, 1) := by decide +kernel
theorem dX7_assign_48 : decode cX7_assign 48 = .ok (.iaload, 1) := by decide +kernel
theorem dX7_assign_49 : decode cX7_assign 49 = .ok (.invokevirtual 143, 3) := by decide +kernel
theorem dX7_assign_52 : decode cX7_assign 52 = .ok (.ifCond .ne 5, 3) := by decide +kernel
theorem dX7_assign_55 : decode cX7_assign 55 = .ok (.iconst 4, 1) := by decide +kernel
theorem dX7_assign_56 : decode cX7_assign 56 = .ok (.ireturn, 1) := by decide +kernel
theorem dX7_assign_57 : decode cX7_assign 57 = .ok (.aload_n 0, 1) := by decide +kernel
theorem dX7_assign_58 : decode cX7_assign 58 = .ok (.getfield 15, 3) := by decide +kernel
theorem dX7_assign_6 : decode cX7_assign 6 = .ok (.aload_n 1, 1) := by decide +kernel
theorem dX7_assign_61 : decode cX7_assign 61 = .ok (.aload_n 1, 1) := by decide +kernel
theorem dX7_assign_62 : decode cX7_assign 62 = .ok (.iload_n 2, 1) := by decide +kernel
theorem dX7_assign_63 : decode cX7_assign 63 = .ok (.invokestatic 243, 3) := by decide +kernel
theorem dX7_assign_66 : decode cX7_assign 66 = .ok (.aload_n 0, 1) := by decide +kernel
theorem dX7_assign_67 : decode cX7_assign 67 = .ok (.getfield 23, 3) := by decide +kernel
theorem dX7_assign_7 : decode cX7_assign 7 = .ok (.getfield 191, 3) := by decide +kernel
theorem dX7_assign_70 : decode cX7_assign 70 = .ok (.getfield 130, 3) := by decide +kernel
theorem dX7_assign_73 : decode cX7_assign 73 = .ok (.aload_n 0, 1) := by decide +kernel
theorem dX7_assign_74 : decode cX7_assign 74 = .ok (.getfield 23, 3) := by decide +kernel
theorem dX7_assign_77 : decode cX7_assign 77 = .ok (.invokevirtual 134, 3) := by decide +kernel
theorem dX7_assign_80 : decode cX7_assign 80 = .ok (.invokevirtual 147, 3) := by decide +kernel
theorem dX7_assign_83 : decode cX7_assign 83 = .ok (.iconst 0, 1) := by decide +kernel
theorem dX7_assign_84 : decode cX7_assign 84 = .ok (.ireturn, 1) := by decide +kernel
noncomputable def k_X7_assign_57 (l1 : Nat) (l2 : Int32) (s : t_S) : Option (Int32 × t_S) :=
 (f_X7_slotOf l1 l2 s).bind (fun r1 =>
 (f_X0_topAt s).bind (fun r2 =>
 (f_X8_put r1 338 r2 s).bind (fun r3 =>
 some ((0 : Int32), r3))))
set_option maxRecDepth 4000 in
set_option maxHeartbeats 1000000 in
theorem B_X7_assign_57 {D : va_G} {cy : Nat → ClassId} {ad : Nat → Nat} {bs : Nat} {X : State → Heap → Prop} (l1 : Nat) (l2 : Int32) (s : t_S) (Q : Int32 × t_S → Prop) (hk : t_hk (k_X7_assign_57 l1 l2 s) Q) : mj_G D cy ad bs X cX7_assign 4 yX7_assign.cls (some .int) yX7_assign.name 4 0 0 1065 (t_P (fun v s' => ∃ x, v = some (.int x) ∧ Q ((x, s')))) 57 [(0, .ref 864), (1, .ref l1), (2, .int l2)] [] (t_m s) 1065 0 0 := by
  refine mj_aload_n dX7_assign_57 0 rfl ?_
  refine t_getR 12 dX7_assign_58 F_X7_15 qr_864_0 ?_
  refine mj_aload_n dX7_assign_61 1 rfl ?_
  refine mj_iload_n dX7_assign_62 2 rfl ?_
  refine t_bndK hk (fun r1 er1 hk => ?_)
  refine t_callSiP dX7_assign_63 M_X7_slotOf (C_X7_slotOf _ _ _ _ er1) ML_X7_243 SM_X7_slotOf (As := [.ref l1, .int l2]) rfl rfl (Nat.le_of_ble_eq_true rfl) (Nat.le_of_ble_eq_true rfl) (Nat.le_of_ble_eq_true rfl) (Nat.le_of_ble_eq_true rfl) ?_
  refine mj_aload_n dX7_assign_66 0 rfl ?_
  refine t_getR 334 dX7_assign_67 F_X7_23 qr_864_2 ?_
  refine t_getR 338 dX7_assign_70 F_X7_130 qr_334_5 ?_
  refine mj_aload_n dX7_assign_73 0 rfl ?_
  refine t_getR 334 dX7_assign_74 F_X7_23 qr_864_2 ?_
  refine t_bndK hk (fun r2 er2 hk => ?_)
  refine t_callViP dX7_assign_77 M_X0_topAt (C_X0_topAt _ _ er2) ML_X7_134 IM_X0_topAt SE_X0_topAt qc_334 rfl (As := []) rfl rfl (Nat.le_of_ble_eq_true rfl) (Nat.le_of_ble_eq_true rfl) (Nat.le_of_ble_eq_true rfl) (Nat.le_of_ble_eq_true rfl) ?_
  refine t_bndK hk (fun r3 er3 hk => ?_)
  refine t_callVvE dX7_assign_80 M_X8_put (C_X8_put _ _ _ _ _ er3) ML_X7_147 IM_X8_put SE_X8_put qc_12 rfl (As := [.int r1, .ref 338, .int r2]) rfl rfl (Nat.le_of_ble_eq_true rfl) (Nat.le_of_ble_eq_true rfl) (Nat.le_of_ble_eq_true rfl) (Nat.le_of_ble_eq_true rfl) ?_
  refine mj_iconst (v := 0) dX7_assign_83 (by decide) ?_
  exact t_somK hk (fun hf => t_iret dX7_assign_84 rfl rfl ⟨_, rfl, hf⟩ (Nat.le_of_ble_eq_true rfl) (Nat.le_of_ble_eq_true rfl))
noncomputable def f_X7_assign (x1 : Nat) (x2 : Int32) (s : t_S) : Option (Int32 × t_S) :=
 if t_isP x1 = true then
  if t_ix ((s.1 x1 6) - (1 : Int32)) 8 = true then
  (f_X7_typeOf x1 (s.1 (x1 + 1) (((s.1 x1 6) - (1 : Int32)).toNatClampNeg)) x2 s).bind (fun r3 =>
 if r3 < (0 : Int32) then (k_X7_assign_57 x1 x2 s)
 else ((f_X0_topAt s).bind (fun r4 =>
 if t_ix r3 60 = true then
  (f_X11_holds 338 r4 (s.1 326 (r3.toNatClampNeg)) s).bind (fun r6 =>
 if r6.1 = (0 : Int32) then (some ((4 : Int32), r6.2))
 else (k_X7_assign_57 x1 x2 r6.2))
else none)))
else none
else none
set_option maxRecDepth 4000 in
set_option maxHeartbeats 1000000 in
theorem C_X7_assign (x1 : Nat) (x2 : Int32) (s : t_S) (r : Int32 × t_S) (hr : f_X7_assign x1 x2 s = some r) : t_C yX7_assign cX7_assign 4 (some .int) 4 [.ref 864, .ref x1, .int x2] s (fun v s' => v = some (.int r.1) ∧ s' = r.2) := by
  refine t_C.imp (P := fun v s' => ∃ x, v = some (.int x) ∧ (fun q => q = r) ((x, s'))) (t_C.of (by decide +kernel) (Nat.le_of_ble_eq_true rfl) ?_) (fun v s' hp => by obtain ⟨x, rfl, rfl⟩ := hp; exact ⟨rfl, rfl⟩)
  intro D cy ad bs X
  have hk : t_hk (f_X7_assign x1 x2 s) (fun q => q = r) := ⟨r, hr, rfl⟩
  show mj_G D cy ad bs X cX7_assign 4 yX7_assign.cls (some .int) yX7_assign.name 4 0 0 1065 (t_P (fun v s' => ∃ x, v = some (.int x) ∧ (fun q => q = r) ((x, s')))) 0 [(0, .ref 864), (1, .ref x1), (2, .int x2)] [] (t_m s) 1065 0 0
  refine mj_aload_n dX7_assign_0 0 rfl ?_
  refine mj_aload_n dX7_assign_1 1 rfl ?_
  refine mj_aload_n dX7_assign_2 1 rfl ?_
  refine t_chkK hk (fun c0 hk => ?_)
  refine t_getR (x1 + 1) dX7_assign_3 F_X7_197 (t_pr7 c0) ?_
  refine mj_aload_n dX7_assign_6 1 rfl ?_
  refine t_getI dX7_assign_7 F_X7_191 (t_pf6 c0) ?_
  refine mj_iconst (v := 1) dX7_assign_10 (by decide) ?_
  refine mj_isub dX7_assign_11 ?_
  refine t_chkK hk (fun c1 hk => ?_)
  refine t_iald dX7_assign_12 (t_pa7 c0) (t_ixv c1) ?_
  refine mj_iload_n dX7_assign_13 2 rfl ?_
  refine t_bndK hk (fun r3 er3 hk => ?_)
  refine t_callViP dX7_assign_14 M_X7_typeOf (C_X7_typeOf _ _ _ _ _ er3) ML_X7_240 IM_X7_typeOf SE_X7_typeOf qc_864 rfl (As := [.ref x1, .int (s.1 (x1 + 1) (((s.1 x1 6) - (1 : Int32)).toNatClampNeg)), .int x2]) rfl rfl (Nat.le_of_ble_eq_true rfl) (Nat.le_of_ble_eq_true rfl) (Nat.le_of_ble_eq_true rfl) (Nat.le_of_ble_eq_true rfl) ?_
  refine mj_istore_n 3 (lv2 := [(3, .int r3), (0, .ref 864), (1, .ref x1), (2, .int x2)]) dX7_assign_17 rfl (by decide) rfl ?_
  refine mj_iload_n dX7_assign_18 0 rfl ?_
  refine mj_if_lt 57 dX7_assign_19 (by decide) (fun z => t_posK hk z (fun hk => ?_)) (fun z => t_negK hk z (fun hk => ?_))
  · refine mj_sublv [(0, .ref 864), (1, .ref x1), (2, .int x2)] [1, 2, 3] rfl ?_
    exact B_X7_assign_57 _ _ _ _ hk
  · refine mj_aload_n dX7_assign_22 1 rfl ?_
    refine t_getR 316 dX7_assign_23 F_X7_19 qr_864_1 ?_
    refine mj_aload_n dX7_assign_26 1 rfl ?_
    refine t_getR 334 dX7_assign_27 F_X7_23 qr_864_2 ?_
    refine t_getR 338 dX7_assign_30 F_X7_130 qr_334_5 ?_
    refine mj_aload_n dX7_assign_33 1 rfl ?_
    refine t_getR 334 dX7_assign_34 F_X7_23 qr_864_2 ?_
    refine t_bndK hk (fun r4 er4 hk => ?_)
    refine t_callViP dX7_assign_37 M_X0_topAt (C_X0_topAt _ _ er4) ML_X7_134 IM_X0_topAt SE_X0_topAt qc_334 rfl (As := []) rfl rfl (Nat.le_of_ble_eq_true rfl) (Nat.le_of_ble_eq_true rfl) (Nat.le_of_ble_eq_true rfl) (Nat.le_of_ble_eq_true rfl) ?_
    refine mj_aload_n dX7_assign_40 1 rfl ?_
    refine t_getR 316 dX7_assign_41 F_X7_19 qr_864_1 ?_
    refine t_getR 326 dX7_assign_44 F_X7_138 qr_316_11 ?_
    refine mj_iload_n dX7_assign_47 0 rfl ?_
    refine t_chkK hk (fun c4 hk => ?_)
    refine t_iald dX7_assign_48 qa_326 (t_ixv c4) ?_
    refine t_bndK hk (fun r6 er6 hk => ?_)
    refine t_callViE dX7_assign_49 M_X11_holds (C_X11_holds _ _ _ _ _ er6) ML_X7_143 IM_X11_holds SE_X11_holds qc_316 rfl (As := [.ref 338, .int r4, .int (s.1 326 (r3.toNatClampNeg))]) rfl rfl (Nat.le_of_ble_eq_true rfl) (Nat.le_of_ble_eq_true rfl) (Nat.le_of_ble_eq_true rfl) (Nat.le_of_ble_eq_true rfl) ?_
    refine mj_if_ne 57 dX7_assign_52 (by decide) (fun z => t_negK hk z (fun hk => ?_)) (fun z => t_posK hk z (fun hk => ?_))
    · refine mj_sublv [(0, .ref 864), (1, .ref x1), (2, .int x2)] [1, 2, 3] rfl ?_
      exact B_X7_assign_57 _ _ _ _ hk
    · refine mj_iconst (v := 4) dX7_assign_55 (by decide) ?_
      exact t_somK hk (fun hf => t_iret dX7_assign_56 rfl rfl ⟨_, rfl, hf⟩ (Nat.le_of_ble_eq_true rfl) (Nat.le_of_ble_eq_true rfl))

theorem dX7_beginTimer_0 : decode cX7_beginTimer 0 = .ok (.aload_n 0, 1) := by decide +kernel
theorem dX7_beginTimer_1 : decode cX7_beginTimer 1 = .ok (.getfield 23, 3) := by decide +kernel
theorem dX7_beginTimer_10 : decode cX7_beginTimer 10 = .ok (.ifCond .eq 5, 3) := by decide +kernel
theorem dX7_beginTimer_13 : decode cX7_beginTimer 13 = .ok (.iconst 1, 1) := by decide +kernel
theorem dX7_beginTimer_14 : decode cX7_beginTimer 14 = .ok (.ireturn, 1) := by decide +kernel
theorem dX7_beginTimer_15 : decode cX7_beginTimer 15 = .ok (.aload_n 0, 1) := by decide +kernel
theorem dX7_beginTimer_16 : decode cX7_beginTimer 16 = .ok (.getfield 23, 3) := by decide +kernel
theorem dX7_beginTimer_19 : decode cX7_beginTimer 19 = .ok (.invokevirtual 302, 3) := by decide +kernel
theorem dX7_beginTimer_22 : decode cX7_beginTimer 22 = .ok (.invokestatic 309, 3) := by decide +kernel
theorem dX7_beginTimer_25 : decode cX7_beginTimer 25 = .ok (.lstore_n 3, 1) := by decide +kernel
theorem dX7_beginTimer_26 : decode cX7_beginTimer 26 = .ok (.lload_n 3, 1) := by decide +kernel
theorem dX7_beginTimer_27 : decode cX7_beginTimer 27 = .ok (.lconst 1, 1) := by decide +kernel
theorem dX7_beginTimer_28 : decode cX7_beginTimer 28 = .ok (.lcmp, 1) := by decide +kernel
theorem dX7_beginTimer_29 : decode cX7_beginTimer 29 = .ok (.ifCond .lt 11, 3) := by decide +kernel
theorem dX7_beginTimer_32 : decode cX7_beginTimer 32 = .ok (.lload_n 3, 1) := by decide +kernel
theorem dX7_beginTimer_33 : decode cX7_beginTimer 33 = .ok (.ldc2_w 336, 3) := by decide +kernel
theorem dX7_beginTimer_36 : decode cX7_beginTimer 36 = .ok (.lcmp, 1) := by decide +kernel
theorem dX7_beginTimer_37 : decode cX7_beginTimer 37 = .ok (.ifCond .le 5, 3) := by decide +kernel
theorem dX7_beginTimer_4 : decode cX7_beginTimer 4 = .ok (.invokevirtual 302, 3) := by decide +kernel
theorem dX7_beginTimer_40 : decode cX7_beginTimer 40 = .ok (.iconst 3, 1) := by decide +kernel
theorem dX7_beginTimer_41 : decode cX7_beginTimer 41 = .ok (.ireturn, 1) := by decide +kernel
theorem dX7_beginTimer_42 : decode cX7_beginTimer 42 = .ok (.aload_n 1, 1) := by decide +kernel
theorem dX7_beginTimer_43 : decode cX7_beginTimer 43 = .ok (.getfield 249, 3) := by decide +kernel
theorem dX7_beginTimer_46 : decode cX7_beginTimer 46 = .ok (.iload_n 2, 1) := by decide +kernel
theorem dX7_beginTimer_47 : decode cX7_beginTimer 47 = .ok (.aload_n 0, 1) := by decide +kernel
theorem dX7_beginTimer_48 : decode cX7_beginTimer 48 = .ok (.getfield 46, 3) := by decide +kernel
theorem dX7_beginTimer_51 : decode cX7_beginTimer 51 = .ok (.lload_n 3, 1) := by decide +kernel
theorem dX7_beginTimer_52 : decode cX7_beginTimer 52 = .ok (.ladd, 1) := by decide +kernel
theorem dX7_beginTimer_53 : decode cX7_beginTimer 53 = .ok (.lastore, 1) := by decide +kernel
theorem dX7_beginTimer_54 : decode cX7_beginTimer 54 = .ok (.iconst 0, 1) := by decide +kernel
theorem dX7_beginTimer_55 : decode cX7_beginTimer 55 = .ok (.ireturn, 1) := by decide +kernel
theorem dX7_beginTimer_7 : decode cX7_beginTimer 7 = .ok (.invokestatic 306, 3) := by decide +kernel
noncomputable def f_X7_beginTimer (x1 : Nat) (x2 : Int32) (s : t_S) : Option (Int32 × t_S) :=
 (f_X0_top s).bind (fun r1 =>
 if (f_X8_kind r1 s) = (0 : Int32) then ((f_X0_top s).bind (fun r3 =>
 if (lg_cmp (f_X8_told r3 s) (1 : Int64)) < (0 : Int32) then (some ((3 : Int32), s))
 else (if (lg_cmp (f_X8_told r3 s) (1000000000 : Int64)) ≤ (0 : Int32) then (if t_isP x1 = true then
  if t_ix x2 4 = true then
  t_let (t_setJ s (x1 + 9) (x2.toNatClampNeg) ((s.2.1 864 7) + (f_X8_told r3 s))) (fun s1 =>
 some ((0 : Int32), s1))
else none
else none)
 else (some ((3 : Int32), s)))))
 else (some ((1 : Int32), s)))
set_option maxRecDepth 4000 in
set_option maxHeartbeats 1000000 in
theorem C_X7_beginTimer (x1 : Nat) (x2 : Int32) (s : t_S) (r : Int32 × t_S) (hr : f_X7_beginTimer x1 x2 s = some r) : t_C yX7_beginTimer cX7_beginTimer 5 (some .int) 2 [.ref 864, .ref x1, .int x2] s (fun v s' => v = some (.int r.1) ∧ s' = r.2) := by
  refine t_C.imp (P := fun v s' => ∃ x, v = some (.int x) ∧ (fun q => q = r) ((x, s'))) (t_C.of (by decide +kernel) (Nat.le_of_ble_eq_true rfl) ?_) (fun v s' hp => by obtain ⟨x, rfl, rfl⟩ := hp; exact ⟨rfl, rfl⟩)
  intro D cy ad bs X
  have hk : t_hk (f_X7_beginTimer x1 x2 s) (fun q => q = r) := ⟨r, hr, rfl⟩
  show mj_G D cy ad bs X cX7_beginTimer 5 yX7_beginTimer.cls (some .int) yX7_beginTimer.name 2 0 0 1065 (t_P (fun v s' => ∃ x, v = some (.int x) ∧ (fun q => q = r) ((x, s')))) 0 [(0, .ref 864), (1, .ref x1), (2, .int x2)] [] (t_m s) 1065 0 0
  refine mj_aload_n dX7_beginTimer_0 0 rfl ?_
  refine t_getR 334 dX7_beginTimer_1 F_X7_23 qr_864_2 ?_
  refine t_bndK hk (fun r1 er1 hk => ?_)
  refine t_callVlP dX7_beginTimer_4 M_X0_top (C_X0_top _ _ er1) ML_X7_302 IM_X0_top SE_X0_top qc_334 rfl (As := []) rfl rfl (Nat.le_of_ble_eq_true rfl) (Nat.le_of_ble_eq_true rfl) (Nat.le_of_ble_eq_true rfl) (Nat.le_of_ble_eq_true rfl) ?_
  refine t_callSiP dX7_beginTimer_7 M_X8_kind (C_X8_kind _ _) ML_X7_306 SM_X8_kind (As := [.long r1]) rfl rfl (Nat.le_of_ble_eq_true rfl) (Nat.le_of_ble_eq_true rfl) (Nat.le_of_ble_eq_true rfl) (Nat.le_of_ble_eq_true rfl) ?_
  refine mj_if_eq 15 dX7_beginTimer_10 (by decide) (fun z => t_posK hk z (fun hk => ?_)) (fun z => t_negK hk z (fun hk => ?_))
  · refine mj_aload_n dX7_beginTimer_15 0 rfl ?_
    refine t_getR 334 dX7_beginTimer_16 F_X7_23 qr_864_2 ?_
    refine t_bndK hk (fun r3 er3 hk => ?_)
    refine t_callVlP dX7_beginTimer_19 M_X0_top (C_X0_top _ _ er3) ML_X7_302 IM_X0_top SE_X0_top qc_334 rfl (As := []) rfl rfl (Nat.le_of_ble_eq_true rfl) (Nat.le_of_ble_eq_true rfl) (Nat.le_of_ble_eq_true rfl) (Nat.le_of_ble_eq_true rfl) ?_
    refine t_callSlP dX7_beginTimer_22 M_X8_told (C_X8_told _ _) ML_X7_309 SM_X8_told (As := [.long r3]) rfl rfl (Nat.le_of_ble_eq_true rfl) (Nat.le_of_ble_eq_true rfl) (Nat.le_of_ble_eq_true rfl) (Nat.le_of_ble_eq_true rfl) ?_
    refine mj_lstore_n 3 (lv2 := [(3, .long (f_X8_told r3 s)), (0, .ref 864), (1, .ref x1), (2, .int x2)]) dX7_beginTimer_25 rfl (by decide) rfl ?_
    refine mj_lload_n dX7_beginTimer_26 0 rfl ?_
    refine mj_lconst (v := 1) dX7_beginTimer_27 (by decide) ?_
    refine mj_lcmp dX7_beginTimer_28 ?_
    refine mj_if_lt 40 dX7_beginTimer_29 (by decide) (fun z => t_posK hk z (fun hk => ?_)) (fun z => t_negK hk z (fun hk => ?_))
    · refine mj_iconst (v := 3) dX7_beginTimer_40 (by decide) ?_
      exact t_somK hk (fun hf => t_iret dX7_beginTimer_41 rfl rfl ⟨_, rfl, hf⟩ (Nat.le_of_ble_eq_true rfl) (Nat.le_of_ble_eq_true rfl))
    · refine mj_lload_n dX7_beginTimer_32 0 rfl ?_
      refine mj_ldc2 dX7_beginTimer_33 K_X7_336 ?_
      refine mj_lcmp dX7_beginTimer_36 ?_
      refine mj_if_le 42 dX7_beginTimer_37 (by decide) (fun z => t_posK hk z (fun hk => ?_)) (fun z => t_negK hk z (fun hk => ?_))
      · refine mj_aload_n dX7_beginTimer_42 2 rfl ?_
        refine t_chkK hk (fun c4 hk => ?_)
        refine t_getR (x1 + 9) dX7_beginTimer_43 F_X7_249 (t_pr16 c4) ?_
        refine mj_iload_n dX7_beginTimer_46 3 rfl ?_
        refine mj_aload_n dX7_beginTimer_47 1 rfl ?_
        refine t_getJ dX7_beginTimer_48 F_X7_46 qf_864_7 ?_
        refine mj_lload_n dX7_beginTimer_51 0 rfl ?_
        refine mj_ladd dX7_beginTimer_52 ?_
        refine t_chkK hk (fun c5 hk => ?_)
        refine t_lastK dX7_beginTimer_53 (t_pa16 c4) (t_ixv c5) (fun s1 ws1 => t_letE hk ws1 (fun hk => ?_))
        refine mj_iconst (v := 0) dX7_beginTimer_54 (by decide) ?_
        exact t_somK hk (fun hf => t_iret dX7_beginTimer_55 rfl rfl ⟨_, rfl, hf⟩ (Nat.le_of_ble_eq_true rfl) (Nat.le_of_ble_eq_true rfl))
      · refine mj_iconst (v := 3) dX7_beginTimer_40 (by decide) ?_
        exact t_somK hk (fun hf => t_iret dX7_beginTimer_41 rfl rfl ⟨_, rfl, hf⟩ (Nat.le_of_ble_eq_true rfl) (Nat.le_of_ble_eq_true rfl))
  · refine mj_iconst (v := 1) dX7_beginTimer_13 (by decide) ?_
    exact t_somK hk (fun hf => t_iret dX7_beginTimer_14 rfl rfl ⟨_, rfl, hf⟩ (Nat.le_of_ble_eq_true rfl) (Nat.le_of_ble_eq_true rfl))

theorem dX7_call_0 : decode cX7_call 0 = .ok (.aload_n 2, 1) := by decide +kernel
theorem dX7_call_1 : decode cX7_call 1 = .ok (.bipush 6, 2) := by decide +kernel
theorem dX7_call_11 : decode cX7_call 11 = .ok (.getfield 85, 3) := by decide +kernel
theorem dX7_call_14 : decode cX7_call 14 = .ok (.iload_n 3, 1) := by decide +kernel
theorem dX7_call_15 : decode cX7_call 15 = .ok (.iaload, 1) := by decide +kernel
theorem dX7_call_16 : decode cX7_call 16 = .ok (.invokevirtual 88, 3) := by decide +kernel
theorem dX7_call_19 : decode cX7_call 19 = .ok (.ifCond .ne 6, 3) := by decide +kernel
theorem dX7_call_22 : decode cX7_call 22 = .ok (.bipush 7, 2) := by decide +kernel
theorem dX7_call_24 : decode cX7_call 24 = .ok (.ireturn, 1) := by decide +kernel
theorem dX7_call_25 : decode cX7_call 25 = .ok (.aload_n 1, 1) := by decide +kernel
theorem dX7_call_26 : decode cX7_call 26 = .ok (.getfield 231, 3) := by decide +kernel
theorem dX7_call_29 : decode cX7_call 29 = .ok (.aload_n 1, 1) := by decide +kernel
theorem dX7_call_3 : decode cX7_call 3 = .ok (.iaload, 1) := by decide +kernel
theorem dX7_call_30 : decode cX7_call 30 = .ok (.getfield 191, 3) := by decide +kernel
theorem dX7_call_33 : decode cX7_call 33 = .ok (.iconst 1, 1) := by decide +kernel
theorem dX7_call_34 : decode cX7_call 34 = .ok (.isub, 1) := by decide +kernel
theorem dX7_call_35 : decode cX7_call 35 = .ok (.aload_n 2, 1) := by decide +kernel
theorem dX7_call_36 : decode cX7_call 36 = .ok (.bipush 7, 2) := by decide +kernel
theorem dX7_call_38 : decode cX7_call 38 = .ok (.iaload, 1) := by decide +kernel
theorem dX7_call_39 : decode cX7_call 39 = .ok (.iastore, 1) := by decide +kernel
theorem dX7_call_4 : decode cX7_call 4 = .ok (.istore_n 3, 1) := by decide +kernel
theorem dX7_call_40 : decode cX7_call 40 = .ok (.aload_n 0, 1) := by decide +kernel
theorem dX7_call_41 : decode cX7_call 41 = .ok (.aload_n 1, 1) := by decide +kernel
theorem dX7_call_42 : decode cX7_call 42 = .ok (.invokevirtual 158, 3) := by decide +kernel
theorem dX7_call_45 : decode cX7_call 45 = .ok (.iconst 0, 1) := by decide +kernel
theorem dX7_call_46 : decode cX7_call 46 = .ok (.invokevirtual 319, 3) := by decide +kernel
theorem dX7_call_49 : decode cX7_call 49 = .ok (.iconst 0, 1) := by decide +kernel
theorem dX7_call_5 : decode cX7_call 5 = .ok (.aload_n 1, 1) := by decide +kernel
theorem dX7_call_50 : decode cX7_call 50 = .ok (.ireturn, 1) := by decide +kernel
theorem dX7_call_6 : decode cX7_call 6 = .ok (.iload_n 3, 1) := by decide +kernel
theorem dX7_call_7 : decode cX7_call 7 = .ok (.aload_n 0, 1) := by decide +kernel
theorem dX7_call_8 : decode cX7_call 8 = .ok (.getfield 31, 3) := by decide +kernel
noncomputable def f_X7_call (x1 : Nat) (x2 : Nat) (s : t_S) : Option (Int32 × t_S) :=
 if t_oka x2 1 (t_ln x2) = true then
  if t_ix (6 : Int32) (t_ln x2) = true then
  if t_ix (s.1 x2 ((6 : Int32).toNatClampNeg)) 40 = true then
  if t_isP x1 = true then
  (f_X4_pushFrame x1 (s.1 x2 ((6 : Int32).toNatClampNeg)) (s.1 441 ((s.1 x2 ((6 : Int32).toNatClampNeg)).toNatClampNeg)) s).bind (fun r5 =>
 if r5.1 = (0 : Int32) then (some ((7 : Int32), r5.2))
 else (if t_ix (7 : Int32) (t_ln x2) = true then
  if t_ix ((r5.2.1 x1 6) - (1 : Int32)) 8 = true then
  t_let (t_setI r5.2 (x1 + 3) (((r5.2.1 x1 6) - (1 : Int32)).toNatClampNeg) (r5.2.1 x2 ((7 : Int32).toNatClampNeg))) (fun s1 =>
 (f_X4_topSlot x1 s1).bind (fun r8 =>
 (f_X7_putArguments r8 (0 : Int32) s1).bind (fun r9 =>
 some ((0 : Int32), r9))))
else none
else none))
else none
else none
else none
else none
set_option maxRecDepth 4000 in
set_option maxHeartbeats 1000000 in
theorem C_X7_call (x1 : Nat) (x2 : Nat) (s : t_S) (r : Int32 × t_S) (hr : f_X7_call x1 x2 s = some r) : t_C yX7_call cX7_call 4 (some .int) 3 [.ref 864, .ref x1, .ref x2] s (fun v s' => v = some (.int r.1) ∧ s' = r.2) := by
  refine t_C.imp (P := fun v s' => ∃ x, v = some (.int x) ∧ (fun q => q = r) ((x, s'))) (t_C.of (by decide +kernel) (Nat.le_of_ble_eq_true rfl) ?_) (fun v s' hp => by obtain ⟨x, rfl, rfl⟩ := hp; exact ⟨rfl, rfl⟩)
  intro D cy ad bs X
  have hk : t_hk (f_X7_call x1 x2 s) (fun q => q = r) := ⟨r, hr, rfl⟩
  show mj_G D cy ad bs X cX7_call 4 yX7_call.cls (some .int) yX7_call.name 3 0 0 1065 (t_P (fun v s' => ∃ x, v = some (.int x) ∧ (fun q => q = r) ((x, s')))) 0 [(0, .ref 864), (1, .ref x1), (2, .ref x2)] [] (t_m s) 1065 0 0
  refine mj_aload_n dX7_call_0 2 rfl ?_
  refine mj_bipush (v := 6) dX7_call_1 (by decide) ?_
  refine t_chkK hk (fun c0 hk => ?_)
  refine t_chkK hk (fun c1 hk => ?_)
  refine t_iald dX7_call_3 c0 (t_ixv c1) ?_
  refine mj_istore_n 3 (lv2 := [(3, .int (s.1 x2 ((6 : Int32).toNatClampNeg))), (0, .ref 864), (1, .ref x1), (2, .ref x2)]) dX7_call_4 rfl (by decide) rfl ?_
  refine mj_aload_n dX7_call_5 2 rfl ?_
  refine mj_iload_n dX7_call_6 0 rfl ?_
  refine mj_aload_n dX7_call_7 1 rfl ?_
  refine t_getR 428 dX7_call_8 F_X7_31 qr_864_4 ?_
  refine t_getR 441 dX7_call_11 F_X7_85 qr_428_14 ?_
  refine mj_iload_n dX7_call_14 0 rfl ?_
  refine t_chkK hk (fun c2 hk => ?_)
  refine t_iald dX7_call_15 qa_441 (t_ixv c2) ?_
  refine t_chkK hk (fun c3 hk => ?_)
  refine t_bndK hk (fun r5 er5 hk => ?_)
  refine t_callViE dX7_call_16 M_X4_pushFrame (C_X4_pushFrame _ _ _ _ _ er5) ML_X7_88 IM_X4_pushFrame SE_X4_pushFrame (t_pc c3) rfl (As := [.int (s.1 x2 ((6 : Int32).toNatClampNeg)), .int (s.1 441 ((s.1 x2 ((6 : Int32).toNatClampNeg)).toNatClampNeg))]) rfl rfl (Nat.le_of_ble_eq_true rfl) (Nat.le_of_ble_eq_true rfl) (Nat.le_of_ble_eq_true rfl) (Nat.le_of_ble_eq_true rfl) ?_
  refine mj_if_ne 25 dX7_call_19 (by decide) (fun z => t_negK hk z (fun hk => ?_)) (fun z => t_posK hk z (fun hk => ?_))
  · refine mj_aload_n dX7_call_25 2 rfl ?_
    refine t_getR (x1 + 3) dX7_call_26 F_X7_231 (t_pr9 c3) ?_
    refine mj_aload_n dX7_call_29 2 rfl ?_
    refine t_getI dX7_call_30 F_X7_191 (t_pf6 c3) ?_
    refine mj_iconst (v := 1) dX7_call_33 (by decide) ?_
    refine mj_isub dX7_call_34 ?_
    refine mj_aload_n dX7_call_35 3 rfl ?_
    refine mj_bipush (v := 7) dX7_call_36 (by decide) ?_
    refine t_chkK hk (fun c5 hk => ?_)
    refine t_iald dX7_call_38 c0 (t_ixv c5) ?_
    refine t_chkK hk (fun c6 hk => ?_)
    refine t_iastK dX7_call_39 (t_pa9 c3) (t_ixv c6) (fun s1 ws1 => t_letE hk ws1 (fun hk => ?_))
    refine mj_aload_n dX7_call_40 1 rfl ?_
    refine mj_aload_n dX7_call_41 2 rfl ?_
    refine t_bndK hk (fun r8 er8 hk => ?_)
    refine t_callViP dX7_call_42 M_X4_topSlot (C_X4_topSlot _ _ _ er8) ML_X7_158 IM_X4_topSlot SE_X4_topSlot (t_pc c3) rfl (As := []) rfl rfl (Nat.le_of_ble_eq_true rfl) (Nat.le_of_ble_eq_true rfl) (Nat.le_of_ble_eq_true rfl) (Nat.le_of_ble_eq_true rfl) ?_
    refine mj_iconst (v := 0) dX7_call_45 (by decide) ?_
    refine t_bndK hk (fun r9 er9 hk => ?_)
    refine t_callVvE dX7_call_46 M_X7_putArguments (C_X7_putArguments _ _ _ _ er9) ML_X7_319 IM_X7_putArguments SE_X7_putArguments qc_864 rfl (As := [.int r8, .int 0]) rfl rfl (Nat.le_of_ble_eq_true rfl) (Nat.le_of_ble_eq_true rfl) (Nat.le_of_ble_eq_true rfl) (Nat.le_of_ble_eq_true rfl) ?_
    refine mj_iconst (v := 0) dX7_call_49 (by decide) ?_
    exact t_somK hk (fun hf => t_iret dX7_call_50 rfl rfl ⟨_, rfl, hf⟩ (Nat.le_of_ble_eq_true rfl) (Nat.le_of_ble_eq_true rfl))
  · refine mj_bipush (v := 7) dX7_call_22 (by decide) ?_
    exact t_somK hk (fun hf => t_iret dX7_call_24 rfl rfl ⟨_, rfl, hf⟩ (Nat.le_of_ble_eq_true rfl) (Nat.le_of_ble_eq_true rfl))

