/-! Methods as functions, 29: X6_readVarType, X6_readOwn, X6_takeName, X6_readComponentItem, X6_readTemplateItem, X6_beginsType -/
theorem qr_845_1 : t_okr 845 6 1 316 = true := by decide +kernel
theorem dX6_readVarType_0 : decode cX6_readVarType 0 = .ok (.aload_n 0, 1) := by decide +kernel
theorem dX6_readVarType_1 : decode cX6_readVarType 1 = .ok (.getfield 28, 3) := by decide +kernel
theorem dX6_readVarType_12 : decode cX6_readVarType 12 = .ok (.return_, 1) := by decide +kernel
theorem dX6_readVarType_13 : decode cX6_readVarType 13 = .ok (.aload_n 0, 1) := by decide +kernel
theorem dX6_readVarType_14 : decode cX6_readVarType 14 = .ok (.iload_n 1, 1) := by decide +kernel
theorem dX6_readVarType_15 : decode cX6_readVarType 15 = .ok (.iload_n 2, 1) := by decide +kernel
theorem dX6_readVarType_16 : decode cX6_readVarType 16 = .ok (.iconst 0, 1) := by decide +kernel
theorem dX6_readVarType_17 : decode cX6_readVarType 17 = .ok (.invokevirtual 250, 3) := by decide +kernel
theorem dX6_readVarType_20 : decode cX6_readVarType 20 = .ok (.return_, 1) := by decide +kernel
theorem dX6_readVarType_4 : decode cX6_readVarType 4 = .ok (.bipush 58, 2) := by decide +kernel
theorem dX6_readVarType_6 : decode cX6_readVarType 6 = .ok (.invokevirtual 246, 3) := by decide +kernel
theorem dX6_readVarType_9 : decode cX6_readVarType 9 = .ok (.ifCond .ne 4, 3) := by decide +kernel
noncomputable def f_X6_readVarType (x1 : Int32) (x2 : Int32) (s : t_S) : Option (t_S) :=
 (f_X2_take (58 : Int32) s).bind (fun r1 =>
 if r1.1 = (0 : Int32) then (some (r1.2))
 else ((f_X6_link x1 x2 (0 : Int32) r1.2).bind (fun r2 =>
 some (r2))))
set_option maxRecDepth 4000 in
set_option maxHeartbeats 1000000 in
theorem C_X6_readVarType (x1 : Int32) (x2 : Int32) (s : t_S) (r : t_S) (hr : f_X6_readVarType x1 x2 s = some r) : t_C yX6_readVarType cX6_readVarType 3 none 2 [.ref 845, .int x1, .int x2] s (fun v s' => v = none ∧ s' = r) := by
  refine t_C.imp (P := fun v s' => v = none ∧ (fun q => q = r) (s')) (t_C.of (by decide +kernel) (Nat.le_of_ble_eq_true rfl) ?_) (fun v s' hp => hp)
  intro D cy ad bs X
  have hk : t_hk (f_X6_readVarType x1 x2 s) (fun q => q = r) := ⟨r, hr, rfl⟩
  show mj_G D cy ad bs X cX6_readVarType 3 yX6_readVarType.cls none yX6_readVarType.name 2 0 0 1065 (t_P (fun v s' => v = none ∧ (fun q => q = r) (s'))) 0 [(0, .ref 845), (1, .int x1), (2, .int x2)] [] (t_m s) 1065 0 0
  refine mj_aload_n dX6_readVarType_0 0 rfl ?_
  refine t_getR 1 dX6_readVarType_1 F_X6_28 qr_845_0 ?_
  refine mj_bipush (v := 58) dX6_readVarType_4 (by decide) ?_
  refine t_bndK hk (fun r1 er1 hk => ?_)
  refine t_callViE dX6_readVarType_6 M_X2_take (C_X2_take _ _ _ er1) ML_X6_246 IM_X2_take SE_X2_take qc_1 rfl (As := [.int 58]) rfl rfl (Nat.le_of_ble_eq_true rfl) (Nat.le_of_ble_eq_true rfl) (Nat.le_of_ble_eq_true rfl) (Nat.le_of_ble_eq_true rfl) ?_
  refine mj_if_ne 13 dX6_readVarType_9 (by decide) (fun z => t_negK hk z (fun hk => ?_)) (fun z => t_posK hk z (fun hk => ?_))
  · refine mj_aload_n dX6_readVarType_13 0 rfl ?_
    refine mj_iload_n dX6_readVarType_14 1 rfl ?_
    refine mj_iload_n dX6_readVarType_15 2 rfl ?_
    refine mj_iconst (v := 0) dX6_readVarType_16 (by decide) ?_
    refine t_bndK hk (fun r2 er2 hk => ?_)
    refine t_callVvE dX6_readVarType_17 M_X6_link (C_X6_link _ _ _ _ _ er2) ML_X6_250 IM_X6_link SE_X6_link qc_845 rfl (As := [.int x1, .int x2, .int 0]) rfl rfl (Nat.le_of_ble_eq_true rfl) (Nat.le_of_ble_eq_true rfl) (Nat.le_of_ble_eq_true rfl) (Nat.le_of_ble_eq_true rfl) ?_
    exact t_somK hk (fun hf => t_vret dX6_readVarType_20 rfl ⟨rfl, hf⟩ (Nat.le_of_ble_eq_true rfl) (Nat.le_of_ble_eq_true rfl))
  · exact t_somK hk (fun hf => t_vret dX6_readVarType_12 rfl ⟨rfl, hf⟩ (Nat.le_of_ble_eq_true rfl) (Nat.le_of_ble_eq_true rfl))

theorem dX6_readOwn_0 : decode cX6_readOwn 0 = .ok (.aload_n 0, 1) := by decide +kernel
theorem dX6_readOwn_1 : decode cX6_readOwn 1 = .ok (.getfield 28, 3) := by decide +kernel
theorem dX6_readOwn_102 : decode cX6_readOwn 102 = .ok (.if_icmp .ne 7, 3) := by decide +kernel
theorem dX6_readOwn_105 : decode cX6_readOwn 105 = .ok (.iconst 4, 1) := by decide +kernel
theorem dX6_readOwn_106 : decode cX6_readOwn 106 = .ok (.goto 5, 3) := by decide +kernel
theorem dX6_readOwn_109 : decode cX6_readOwn 109 = .ok (.bipush 8, 2) := by decide +kernel
theorem dX6_readOwn_111 : decode cX6_readOwn 111 = .ok (.istore_n 3, 1) := by decide +kernel
theorem dX6_readOwn_112 : decode cX6_readOwn 112 = .ok (.iload_n 1, 1) := by decide +kernel
theorem dX6_readOwn_113 : decode cX6_readOwn 113 = .ok (.sipush 207, 3) := by decide +kernel
theorem dX6_readOwn_116 : decode cX6_readOwn 116 = .ok (.if_icmp .ne 13, 3) := by decide +kernel
theorem dX6_readOwn_119 : decode cX6_readOwn 119 = .ok (.aload_n 0, 1) := by decide +kernel
theorem dX6_readOwn_12 : decode cX6_readOwn 12 = .ok (.if_icmp .eq 25, 3) := by decide +kernel
theorem dX6_readOwn_120 : decode cX6_readOwn 120 = .ok (.getfield 48, 3) := by decide +kernel
theorem dX6_readOwn_123 : decode cX6_readOwn 123 = .ok (.getfield 223, 3) := by decide +kernel
theorem dX6_readOwn_126 : decode cX6_readOwn 126 = .ok (.goto 27, 3) := by decide +kernel
theorem dX6_readOwn_129 : decode cX6_readOwn 129 = .ok (.iload_n 1, 1) := by decide +kernel
theorem dX6_readOwn_130 : decode cX6_readOwn 130 = .ok (.sipush 208, 3) := by decide +kernel
theorem dX6_readOwn_133 : decode cX6_readOwn 133 = .ok (.if_icmp .ne 13, 3) := by decide +kernel
theorem dX6_readOwn_136 : decode cX6_readOwn 136 = .ok (.aload_n 0, 1) := by decide +kernel
theorem dX6_readOwn_137 : decode cX6_readOwn 137 = .ok (.getfield 48, 3) := by decide +kernel
theorem dX6_readOwn_140 : decode cX6_readOwn 140 = .ok (.getfield 226, 3) := by decide +kernel
theorem dX6_readOwn_143 : decode cX6_readOwn 143 = .ok (.goto 10, 3) := by decide +kernel
theorem dX6_readOwn_146 : decode cX6_readOwn 146 = .ok (.aload_n 0, 1) := by decide +kernel
theorem dX6_readOwn_147 : decode cX6_readOwn 147 = .ok (.getfield 48, 3) := by decide +kernel
theorem dX6_readOwn_15 : decode cX6_readOwn 15 = .ok (.iload_n 1, 1) := by decide +kernel
theorem dX6_readOwn_150 : decode cX6_readOwn 150 = .ok (.getfield 229, 3) := by decide +kernel
theorem dX6_readOwn_153 : decode cX6_readOwn 153 = .ok (.astore 4, 2) := by decide +kernel
theorem dX6_readOwn_155 : decode cX6_readOwn 155 = .ok (.aload_n 0, 1) := by decide +kernel
theorem dX6_readOwn_156 : decode cX6_readOwn 156 = .ok (.getfield 28, 3) := by decide +kernel
theorem dX6_readOwn_159 : decode cX6_readOwn 159 = .ok (.getfield 85, 3) := by decide +kernel
theorem dX6_readOwn_16 : decode cX6_readOwn 16 = .ok (.sipush 208, 3) := by decide +kernel
theorem dX6_readOwn_162 : decode cX6_readOwn 162 = .ok (.iconst 1, 1) := by decide +kernel
theorem dX6_readOwn_163 : decode cX6_readOwn 163 = .ok (.if_icmp .eq 14, 3) := by decide +kernel
theorem dX6_readOwn_166 : decode cX6_readOwn 166 = .ok (.aload_n 0, 1) := by decide +kernel
theorem dX6_readOwn_167 : decode cX6_readOwn 167 = .ok (.getfield 28, 3) := by decide +kernel
theorem dX6_readOwn_170 : decode cX6_readOwn 170 = .ok (.iconst 2, 1) := by decide +kernel
theorem dX6_readOwn_171 : decode cX6_readOwn 171 = .ok (.invokevirtual 100, 3) := by decide +kernel
theorem dX6_readOwn_174 : decode cX6_readOwn 174 = .ok (.goto 53, 3) := by decide +kernel
theorem dX6_readOwn_177 : decode cX6_readOwn 177 = .ok (.aload_n 0, 1) := by decide +kernel
theorem dX6_readOwn_178 : decode cX6_readOwn 178 = .ok (.getfield 48, 3) := by decide +kernel
theorem dX6_readOwn_181 : decode cX6_readOwn 181 = .ok (.aload_n 0, 1) := by decide +kernel
theorem dX6_readOwn_182 : decode cX6_readOwn 182 = .ok (.getfield 137, 3) := by decide +kernel
theorem dX6_readOwn_185 : decode cX6_readOwn 185 = .ok (.aload_n 0, 1) := by decide +kernel
theorem dX6_readOwn_186 : decode cX6_readOwn 186 = .ok (.getfield 28, 3) := by decide +kernel
theorem dX6_readOwn_189 : decode cX6_readOwn 189 = .ok (.invokevirtual 166, 3) := by decide +kernel
theorem dX6_readOwn_19 : decode cX6_readOwn 19 = .ok (.if_icmp .eq 18, 3) := by decide +kernel
theorem dX6_readOwn_192 : decode cX6_readOwn 192 = .ok (.invokevirtual 232, 3) := by decide +kernel
theorem dX6_readOwn_195 : decode cX6_readOwn 195 = .ok (.ifCond .eq 14, 3) := by decide +kernel
theorem dX6_readOwn_198 : decode cX6_readOwn 198 = .ok (.aload_n 0, 1) := by decide +kernel
theorem dX6_readOwn_199 : decode cX6_readOwn 199 = .ok (.getfield 28, 3) := by decide +kernel
theorem dX6_readOwn_202 : decode cX6_readOwn 202 = .ok (.iconst 3, 1) := by decide +kernel
theorem dX6_readOwn_203 : decode cX6_readOwn 203 = .ok (.invokevirtual 100, 3) := by decide +kernel
theorem dX6_readOwn_206 : decode cX6_readOwn 206 = .ok (.goto 21, 3) := by decide +kernel
theorem dX6_readOwn_209 : decode cX6_readOwn 209 = .ok (.aload_n 2, 1) := by decide +kernel
theorem dX6_readOwn_210 : decode cX6_readOwn 210 = .ok (.aload_n 0, 1) := by decide +kernel
theorem dX6_readOwn_211 : decode cX6_readOwn 211 = .ok (.getfield 137, 3) := by decide +kernel
theorem dX6_readOwn_214 : decode cX6_readOwn 214 = .ok (.iaload, 1) := by decide +kernel
theorem dX6_readOwn_215 : decode cX6_readOwn 215 = .ok (.iload_n 3, 1) := by decide +kernel
theorem dX6_readOwn_216 : decode cX6_readOwn 216 = .ok (.if_icmp .lt 11, 3) := by decide +kernel
theorem dX6_readOwn_219 : decode cX6_readOwn 219 = .ok (.aload_n 0, 1) := by decide +kernel
theorem dX6_readOwn_22 : decode cX6_readOwn 22 = .ok (.iload_n 1, 1) := by decide +kernel
theorem dX6_readOwn_220 : decode cX6_readOwn 220 = .ok (.getfield 28, 3) := by decide +kernel
theorem dX6_readOwn_223 : decode cX6_readOwn 223 = .ok (.iconst 5, 1) := by decide +kernel
theorem dX6_readOwn_224 : decode cX6_readOwn 224 = .ok (.invokevirtual 100, 3) := by decide +kernel
theorem dX6_readOwn_227 : decode cX6_readOwn 227 = .ok (.aload_n 0, 1) := by decide +kernel
theorem dX6_readOwn_228 : decode cX6_readOwn 228 = .ok (.getfield 28, 3) := by decide +kernel
theorem dX6_readOwn_23 : decode cX6_readOwn 23 = .ok (.sipush 209, 3) := by decide +kernel
theorem dX6_readOwn_231 : decode cX6_readOwn 231 = .ok (.getfield 82, 3) := by decide +kernel
theorem dX6_readOwn_234 : decode cX6_readOwn 234 = .ok (.ifCond .eq 4, 3) := by decide +kernel
theorem dX6_readOwn_237 : decode cX6_readOwn 237 = .ok (.return_, 1) := by decide +kernel
theorem dX6_readOwn_238 : decode cX6_readOwn 238 = .ok (.aload_n 0, 1) := by decide +kernel
theorem dX6_readOwn_239 : decode cX6_readOwn 239 = .ok (.getfield 137, 3) := by decide +kernel
theorem dX6_readOwn_242 : decode cX6_readOwn 242 = .ok (.iload_n 3, 1) := by decide +kernel
theorem dX6_readOwn_243 : decode cX6_readOwn 243 = .ok (.imul, 1) := by decide +kernel
theorem dX6_readOwn_244 : decode cX6_readOwn 244 = .ok (.aload_n 2, 1) := by decide +kernel
theorem dX6_readOwn_245 : decode cX6_readOwn 245 = .ok (.aload_n 0, 1) := by decide +kernel
theorem dX6_readOwn_246 : decode cX6_readOwn 246 = .ok (.getfield 137, 3) := by decide +kernel
theorem dX6_readOwn_249 : decode cX6_readOwn 249 = .ok (.iaload, 1) := by decide +kernel
theorem dX6_readOwn_250 : decode cX6_readOwn 250 = .ok (.iadd, 1) := by decide +kernel
theorem dX6_readOwn_251 : decode cX6_readOwn 251 = .ok (.istore 5, 2) := by decide +kernel
theorem dX6_readOwn_253 : decode cX6_readOwn 253 = .ok (.aload 4, 2) := by decide +kernel
theorem dX6_readOwn_255 : decode cX6_readOwn 255 = .ok (.iload 5, 2) := by decide +kernel
theorem dX6_readOwn_257 : decode cX6_readOwn 257 = .ok (.aload_n 0, 1) := by decide +kernel
theorem dX6_readOwn_258 : decode cX6_readOwn 258 = .ok (.getfield 28, 3) := by decide +kernel
theorem dX6_readOwn_26 : decode cX6_readOwn 26 = .ok (.if_icmp .eq 11, 3) := by decide +kernel
theorem dX6_readOwn_261 : decode cX6_readOwn 261 = .ok (.invokevirtual 166, 3) := by decide +kernel
theorem dX6_readOwn_264 : decode cX6_readOwn 264 = .ok (.iastore, 1) := by decide +kernel
theorem dX6_readOwn_265 : decode cX6_readOwn 265 = .ok (.aload_n 0, 1) := by decide +kernel
theorem dX6_readOwn_266 : decode cX6_readOwn 266 = .ok (.getfield 28, 3) := by decide +kernel
theorem dX6_readOwn_269 : decode cX6_readOwn 269 = .ok (.invokevirtual 170, 3) := by decide +kernel
theorem dX6_readOwn_272 : decode cX6_readOwn 272 = .ok (.iload_n 1, 1) := by decide +kernel
theorem dX6_readOwn_273 : decode cX6_readOwn 273 = .ok (.sipush 209, 3) := by decide +kernel
theorem dX6_readOwn_276 : decode cX6_readOwn 276 = .ok (.if_icmp .ne 45, 3) := by decide +kernel
theorem dX6_readOwn_279 : decode cX6_readOwn 279 = .ok (.aload_n 0, 1) := by decide +kernel
theorem dX6_readOwn_280 : decode cX6_readOwn 280 = .ok (.getfield 48, 3) := by decide +kernel
theorem dX6_readOwn_283 : decode cX6_readOwn 283 = .ok (.getfield 236, 3) := by decide +kernel
theorem dX6_readOwn_286 : decode cX6_readOwn 286 = .ok (.iload 5, 2) := by decide +kernel
theorem dX6_readOwn_288 : decode cX6_readOwn 288 = .ok (.iconst (-1), 1) := by decide +kernel
theorem dX6_readOwn_289 : decode cX6_readOwn 289 = .ok (.iastore, 1) := by decide +kernel
theorem dX6_readOwn_29 : decode cX6_readOwn 29 = .ok (.aload_n 0, 1) := by decide +kernel
theorem dX6_readOwn_290 : decode cX6_readOwn 290 = .ok (.aload_n 0, 1) := by decide +kernel
theorem dX6_readOwn_291 : decode cX6_readOwn 291 = .ok (.iconst 2, 1) := by decide +kernel
theorem dX6_readOwn_292 : decode cX6_readOwn 292 = .ok (.iload 5, 2) := by decide +kernel
theorem dX6_readOwn_294 : decode cX6_readOwn 294 = .ok (.invokevirtual 239, 3) := by decide +kernel
theorem dX6_readOwn_297 : decode cX6_readOwn 297 = .ok (.aload_n 0, 1) := by decide +kernel
theorem dX6_readOwn_298 : decode cX6_readOwn 298 = .ok (.getfield 28, 3) := by decide +kernel
theorem dX6_readOwn_30 : decode cX6_readOwn 30 = .ok (.getfield 28, 3) := by decide +kernel
theorem dX6_readOwn_301 : decode cX6_readOwn 301 = .ok (.bipush 11, 2) := by decide +kernel
theorem dX6_readOwn_303 : decode cX6_readOwn 303 = .ok (.invokevirtual 184, 3) := by decide +kernel
theorem dX6_readOwn_306 : decode cX6_readOwn 306 = .ok (.aload_n 0, 1) := by decide +kernel
theorem dX6_readOwn_307 : decode cX6_readOwn 307 = .ok (.getfield 48, 3) := by decide +kernel
theorem dX6_readOwn_310 : decode cX6_readOwn 310 = .ok (.getfield 243, 3) := by decide +kernel
theorem dX6_readOwn_313 : decode cX6_readOwn 313 = .ok (.iload 5, 2) := by decide +kernel
theorem dX6_readOwn_315 : decode cX6_readOwn 315 = .ok (.aload_n 0, 1) := by decide +kernel
theorem dX6_readOwn_316 : decode cX6_readOwn 316 = .ok (.iconst (-1), 1) := by decide +kernel
theorem dX6_readOwn_317 : decode cX6_readOwn 317 = .ok (.invokevirtual 120, 3) := by decide +kernel
theorem dX6_readOwn_320 : decode cX6_readOwn 320 = .ok (.iastore, 1) := by decide +kernel
theorem dX6_readOwn_321 : decode cX6_readOwn 321 = .ok (.aload_n 0, 1) := by decide +kernel
theorem dX6_readOwn_322 : decode cX6_readOwn 322 = .ok (.getfield 28, 3) := by decide +kernel
theorem dX6_readOwn_325 : decode cX6_readOwn 325 = .ok (.bipush 59, 2) := by decide +kernel
theorem dX6_readOwn_327 : decode cX6_readOwn 327 = .ok (.invokevirtual 184, 3) := by decide +kernel
theorem dX6_readOwn_33 : decode cX6_readOwn 33 = .ok (.iconst 2, 1) := by decide +kernel
theorem dX6_readOwn_330 : decode cX6_readOwn 330 = .ok (.aload_n 2, 1) := by decide +kernel
theorem dX6_readOwn_331 : decode cX6_readOwn 331 = .ok (.aload_n 0, 1) := by decide +kernel
theorem dX6_readOwn_332 : decode cX6_readOwn 332 = .ok (.getfield 137, 3) := by decide +kernel
theorem dX6_readOwn_335 : decode cX6_readOwn 335 = .ok (.dup2, 1) := by decide +kernel
theorem dX6_readOwn_336 : decode cX6_readOwn 336 = .ok (.iaload, 1) := by decide +kernel
theorem dX6_readOwn_337 : decode cX6_readOwn 337 = .ok (.iconst 1, 1) := by decide +kernel
theorem dX6_readOwn_338 : decode cX6_readOwn 338 = .ok (.iadd, 1) := by decide +kernel
theorem dX6_readOwn_339 : decode cX6_readOwn 339 = .ok (.iastore, 1) := by decide +kernel
theorem dX6_readOwn_34 : decode cX6_readOwn 34 = .ok (.invokevirtual 100, 3) := by decide +kernel
theorem dX6_readOwn_340 : decode cX6_readOwn 340 = .ok (.return_, 1) := by decide +kernel
theorem dX6_readOwn_37 : decode cX6_readOwn 37 = .ok (.aload_n 0, 1) := by decide +kernel
theorem dX6_readOwn_38 : decode cX6_readOwn 38 = .ok (.getfield 28, 3) := by decide +kernel
theorem dX6_readOwn_4 : decode cX6_readOwn 4 = .ok (.getfield 85, 3) := by decide +kernel
theorem dX6_readOwn_41 : decode cX6_readOwn 41 = .ok (.invokevirtual 170, 3) := by decide +kernel
theorem dX6_readOwn_44 : decode cX6_readOwn 44 = .ok (.iload_n 1, 1) := by decide +kernel
theorem dX6_readOwn_45 : decode cX6_readOwn 45 = .ok (.sipush 207, 3) := by decide +kernel
theorem dX6_readOwn_48 : decode cX6_readOwn 48 = .ok (.if_icmp .ne 13, 3) := by decide +kernel
theorem dX6_readOwn_51 : decode cX6_readOwn 51 = .ok (.aload_n 0, 1) := by decide +kernel
theorem dX6_readOwn_52 : decode cX6_readOwn 52 = .ok (.getfield 48, 3) := by decide +kernel
theorem dX6_readOwn_55 : decode cX6_readOwn 55 = .ok (.getfield 214, 3) := by decide +kernel
theorem dX6_readOwn_58 : decode cX6_readOwn 58 = .ok (.goto 27, 3) := by decide +kernel
theorem dX6_readOwn_61 : decode cX6_readOwn 61 = .ok (.iload_n 1, 1) := by decide +kernel
theorem dX6_readOwn_62 : decode cX6_readOwn 62 = .ok (.sipush 208, 3) := by decide +kernel
theorem dX6_readOwn_65 : decode cX6_readOwn 65 = .ok (.if_icmp .ne 13, 3) := by decide +kernel
theorem dX6_readOwn_68 : decode cX6_readOwn 68 = .ok (.aload_n 0, 1) := by decide +kernel
theorem dX6_readOwn_69 : decode cX6_readOwn 69 = .ok (.getfield 48, 3) := by decide +kernel
theorem dX6_readOwn_7 : decode cX6_readOwn 7 = .ok (.istore_n 1, 1) := by decide +kernel
theorem dX6_readOwn_72 : decode cX6_readOwn 72 = .ok (.getfield 217, 3) := by decide +kernel
theorem dX6_readOwn_75 : decode cX6_readOwn 75 = .ok (.goto 10, 3) := by decide +kernel
theorem dX6_readOwn_78 : decode cX6_readOwn 78 = .ok (.aload_n 0, 1) := by decide +kernel
theorem dX6_readOwn_79 : decode cX6_readOwn 79 = .ok (.getfield 48, 3) := by decide +kernel
theorem dX6_readOwn_8 : decode cX6_readOwn 8 = .ok (.iload_n 1, 1) := by decide +kernel
theorem dX6_readOwn_82 : decode cX6_readOwn 82 = .ok (.getfield 220, 3) := by decide +kernel
theorem dX6_readOwn_85 : decode cX6_readOwn 85 = .ok (.astore_n 2, 1) := by decide +kernel
theorem dX6_readOwn_86 : decode cX6_readOwn 86 = .ok (.iload_n 1, 1) := by decide +kernel
theorem dX6_readOwn_87 : decode cX6_readOwn 87 = .ok (.sipush 207, 3) := by decide +kernel
theorem dX6_readOwn_9 : decode cX6_readOwn 9 = .ok (.sipush 207, 3) := by decide +kernel
theorem dX6_readOwn_90 : decode cX6_readOwn 90 = .ok (.if_icmp .ne 8, 3) := by decide +kernel
theorem dX6_readOwn_93 : decode cX6_readOwn 93 = .ok (.bipush 6, 2) := by decide +kernel
theorem dX6_readOwn_95 : decode cX6_readOwn 95 = .ok (.goto 16, 3) := by decide +kernel
theorem dX6_readOwn_98 : decode cX6_readOwn 98 = .ok (.iload_n 1, 1) := by decide +kernel
theorem dX6_readOwn_99 : decode cX6_readOwn 99 = .ok (.sipush 208, 3) := by decide +kernel
noncomputable def k_X6_readOwn_321 (l2 : Nat) (s : t_S) : Option (t_S) :=
 (f_X2_need (59 : Int32) s).bind (fun r1 =>
 if t_oka l2 1 (t_ln l2) = true then
  if t_ix (r1.1 845 13) (t_ln l2) = true then
  t_let (t_setI r1 l2 ((r1.1 845 13).toNatClampNeg) ((r1.1 l2 ((r1.1 845 13).toNatClampNeg)) + (1 : Int32))) (fun s1 =>
 some (s1))
else none
else none)
set_option maxRecDepth 4000 in
set_option maxHeartbeats 1000000 in
theorem B_X6_readOwn_321 {D : va_G} {cy : Nat → ClassId} {ad : Nat → Nat} {bs : Nat} {X : State → Heap → Prop} (l2 : Nat) (s : t_S) (Q : t_S → Prop) (hk : t_hk (k_X6_readOwn_321 l2 s) Q) : mj_G D cy ad bs X cX6_readOwn 6 yX6_readOwn.cls none yX6_readOwn.name 254 0 0 1065 (t_P (fun v s' => v = none ∧ Q (s'))) 321 [(0, .ref 845), (2, .ref l2)] [] (t_m s) 1065 0 0 := by
  refine mj_aload_n dX6_readOwn_321 0 rfl ?_
  refine t_getR 1 dX6_readOwn_322 F_X6_28 qr_845_0 ?_
  refine mj_bipush (v := 59) dX6_readOwn_325 (by decide) ?_
  refine t_bndK hk (fun r1 er1 hk => ?_)
  refine t_callVvE dX6_readOwn_327 M_X2_need (C_X2_need _ _ _ er1) ML_X6_184 IM_X2_need SE_X2_need qc_1 rfl (As := [.int 59]) rfl rfl (Nat.le_of_ble_eq_true rfl) (Nat.le_of_ble_eq_true rfl) (Nat.le_of_ble_eq_true rfl) (Nat.le_of_ble_eq_true rfl) ?_
  refine mj_aload_n dX6_readOwn_330 1 rfl ?_
  refine mj_aload_n dX6_readOwn_331 0 rfl ?_
  refine t_getI dX6_readOwn_332 F_X6_137 qf_845_13 ?_
  refine mj_dup2 dX6_readOwn_335 rfl rfl ?_
  refine t_chkK hk (fun c1 hk => ?_)
  refine t_chkK hk (fun c2 hk => ?_)
  refine t_iald dX6_readOwn_336 c1 (t_ixv c2) ?_
  refine mj_iconst (v := 1) dX6_readOwn_337 (by decide) ?_
  refine mj_iadd dX6_readOwn_338 ?_
  refine t_iastK dX6_readOwn_339 c1 (t_ixv c2) (fun s1 ws1 => t_letE hk ws1 (fun hk => ?_))
  exact t_somK hk (fun hf => t_vret dX6_readOwn_340 rfl ⟨rfl, hf⟩ (Nat.le_of_ble_eq_true rfl) (Nat.le_of_ble_eq_true rfl))
noncomputable def k_X6_readOwn_227 (l1 : Int32) (l2 : Nat) (l3 : Int32) (l4 : Nat) (s : t_S) : Option (t_S) :=
 if (s.1 1 11) = (0 : Int32) then (if t_oka l2 1 (t_ln l2) = true then
  if t_ix (s.1 845 13) (t_ln l2) = true then
  if t_oka l4 1 (t_ln l4) = true then
  if t_ix (((s.1 845 13) * l3) + (s.1 l2 ((s.1 845 13).toNatClampNeg))) (t_ln l4) = true then
  t_let (t_setI s l4 ((((s.1 845 13) * l3) + (s.1 l2 ((s.1 845 13).toNatClampNeg))).toNatClampNeg) (f_X2_word s)) (fun s1 =>
 (f_X2_advance s1).bind (fun r6 =>
 if l1 = (209 : Int32) then (if t_ix (((s.1 845 13) * l3) + (s.1 l2 ((s.1 845 13).toNatClampNeg))) 64 = true then
  t_let (t_setI r6 435 ((((s.1 845 13) * l3) + (s.1 l2 ((s.1 845 13).toNatClampNeg))).toNatClampNeg) (-1 : Int32)) (fun s2 =>
 (f_X6_readVarType (2 : Int32) (((s.1 845 13) * l3) + (s.1 l2 ((s.1 845 13).toNatClampNeg))) s2).bind (fun r8 =>
 (f_X2_need (11 : Int32) r8).bind (fun r9 =>
 (f_X6_readExp (-1 : Int32) r9).bind (fun r10 =>
 t_let (t_setI r10.2 436 ((((s.1 845 13) * l3) + (s.1 l2 ((s.1 845 13).toNatClampNeg))).toNatClampNeg) r10.1) (fun s3 =>
 k_X6_readOwn_321 l2 s3)))))
else none)
 else (k_X6_readOwn_321 l2 r6)))
else none
else none
else none
else none)
 else (some (s))
set_option maxRecDepth 4000 in
set_option maxHeartbeats 1000000 in
theorem B_X6_readOwn_227 {D : va_G} {cy : Nat → ClassId} {ad : Nat → Nat} {bs : Nat} {X : State → Heap → Prop} (l1 : Int32) (l2 : Nat) (l3 : Int32) (l4 : Nat) (s : t_S) (Q : t_S → Prop) (hk : t_hk (k_X6_readOwn_227 l1 l2 l3 l4 s) Q) : mj_G D cy ad bs X cX6_readOwn 6 yX6_readOwn.cls none yX6_readOwn.name 254 0 0 1065 (t_P (fun v s' => v = none ∧ Q (s'))) 227 [(0, .ref 845), (1, .int l1), (2, .ref l2), (3, .int l3), (4, .ref l4)] [] (t_m s) 1065 0 0 := by
  refine mj_aload_n dX6_readOwn_227 0 rfl ?_
  refine t_getR 1 dX6_readOwn_228 F_X6_28 qr_845_0 ?_
  refine t_getI dX6_readOwn_231 F_X6_82 qf_1_11 ?_
  refine mj_if_eq 238 dX6_readOwn_234 (by decide) (fun z => t_posK hk z (fun hk => ?_)) (fun z => t_negK hk z (fun hk => ?_))
  · refine mj_aload_n dX6_readOwn_238 0 rfl ?_
    refine t_getI dX6_readOwn_239 F_X6_137 qf_845_13 ?_
    refine mj_iload_n dX6_readOwn_242 3 rfl ?_
    refine mj_imul dX6_readOwn_243 ?_
    refine mj_aload_n dX6_readOwn_244 2 rfl ?_
    refine mj_aload_n dX6_readOwn_245 0 rfl ?_
    refine t_getI dX6_readOwn_246 F_X6_137 qf_845_13 ?_
    refine t_chkK hk (fun c0 hk => ?_)
    refine t_chkK hk (fun c1 hk => ?_)
    refine t_iald dX6_readOwn_249 c0 (t_ixv c1) ?_
    refine mj_iadd dX6_readOwn_250 ?_
    refine mj_istore (lv2 := [(5, .int (((s.1 845 13) * l3) + (s.1 l2 ((s.1 845 13).toNatClampNeg)))), (0, .ref 845), (1, .int l1), (2, .ref l2), (3, .int l3), (4, .ref l4)]) dX6_readOwn_251 (by decide) rfl ?_
    refine mj_aload dX6_readOwn_253 5 rfl ?_
    refine mj_iload dX6_readOwn_255 0 rfl ?_
    refine mj_aload_n dX6_readOwn_257 1 rfl ?_
    refine t_getR 1 dX6_readOwn_258 F_X6_28 qr_845_0 ?_
    refine t_callViP dX6_readOwn_261 M_X2_word (C_X2_word _) ML_X6_166 IM_X2_word SE_X2_word qc_1 rfl (As := []) rfl rfl (Nat.le_of_ble_eq_true rfl) (Nat.le_of_ble_eq_true rfl) (Nat.le_of_ble_eq_true rfl) (Nat.le_of_ble_eq_true rfl) ?_
    refine t_chkK hk (fun c3 hk => ?_)
    refine t_chkK hk (fun c4 hk => ?_)
    refine t_iastK dX6_readOwn_264 c3 (t_ixv c4) (fun s1 ws1 => t_letE hk ws1 (fun hk => ?_))
    refine mj_aload_n dX6_readOwn_265 1 rfl ?_
    refine t_getR 1 dX6_readOwn_266 F_X6_28 qr_845_0 ?_
    refine t_bndK hk (fun r6 er6 hk => ?_)
    refine t_callVvE dX6_readOwn_269 M_X2_advance (C_X2_advance _ _ er6) ML_X6_170 IM_X2_advance SE_X2_advance qc_1 rfl (As := []) rfl rfl (Nat.le_of_ble_eq_true rfl) (Nat.le_of_ble_eq_true rfl) (Nat.le_of_ble_eq_true rfl) (Nat.le_of_ble_eq_true rfl) ?_
    refine mj_iload_n dX6_readOwn_272 2 rfl ?_
    refine mj_sipush (v := 209) dX6_readOwn_273 (by decide) ?_
    refine mj_icmp_ne 321 dX6_readOwn_276 (by decide) (fun z => t_negK hk z (fun hk => ?_)) (fun z => t_posK hk z (fun hk => ?_))
    · refine mj_sublv [(0, .ref 845), (2, .ref l2)] [1, 3] rfl ?_
      exact B_X6_readOwn_321 _ _ _ hk
    · refine mj_aload_n dX6_readOwn_279 1 rfl ?_
      refine t_getR 428 dX6_readOwn_280 F_X6_48 qr_845_4 ?_
      refine t_getR 435 dX6_readOwn_283 F_X6_236 qr_428_7 ?_
      refine mj_iload dX6_readOwn_286 0 rfl ?_
      refine mj_iconst (v := (-1)) dX6_readOwn_288 (by decide) ?_
      refine t_chkK hk (fun c6 hk => ?_)
      refine t_iastK dX6_readOwn_289 qa_435 (t_ixv c6) (fun s2 ws2 => t_letE hk ws2 (fun hk => ?_))
      refine mj_aload_n dX6_readOwn_290 1 rfl ?_
      refine mj_iconst (v := 2) dX6_readOwn_291 (by decide) ?_
      refine mj_iload dX6_readOwn_292 0 rfl ?_
      refine t_bndK hk (fun r8 er8 hk => ?_)
      refine t_callVvE dX6_readOwn_294 M_X6_readVarType (C_X6_readVarType _ _ _ _ er8) ML_X6_239 IM_X6_readVarType SE_X6_readVarType qc_845 rfl (As := [.int 2, .int (((s.1 845 13) * l3) + (s.1 l2 ((s.1 845 13).toNatClampNeg)))]) rfl rfl (Nat.le_of_ble_eq_true rfl) (Nat.le_of_ble_eq_true rfl) (Nat.le_of_ble_eq_true rfl) (Nat.le_of_ble_eq_true rfl) ?_
      refine mj_aload_n dX6_readOwn_297 1 rfl ?_
      refine t_getR 1 dX6_readOwn_298 F_X6_28 qr_845_0 ?_
      refine mj_bipush (v := 11) dX6_readOwn_301 (by decide) ?_
      refine t_bndK hk (fun r9 er9 hk => ?_)
      refine t_callVvE dX6_readOwn_303 M_X2_need (C_X2_need _ _ _ er9) ML_X6_184 IM_X2_need SE_X2_need qc_1 rfl (As := [.int 11]) rfl rfl (Nat.le_of_ble_eq_true rfl) (Nat.le_of_ble_eq_true rfl) (Nat.le_of_ble_eq_true rfl) (Nat.le_of_ble_eq_true rfl) ?_
      refine mj_aload_n dX6_readOwn_306 1 rfl ?_
      refine t_getR 428 dX6_readOwn_307 F_X6_48 qr_845_4 ?_
      refine t_getR 436 dX6_readOwn_310 F_X6_243 qr_428_8 ?_
      refine mj_iload dX6_readOwn_313 0 rfl ?_
      refine mj_aload_n dX6_readOwn_315 1 rfl ?_
      refine mj_iconst (v := (-1)) dX6_readOwn_316 (by decide) ?_
      refine t_bndK hk (fun r10 er10 hk => ?_)
      refine t_callViE dX6_readOwn_317 M_X6_readExp (C_X6_readExp _ _ _ er10) ML_X6_120 IM_X6_readExp SE_X6_readExp qc_845 rfl (As := [.int (-1)]) rfl rfl (Nat.le_of_ble_eq_true rfl) (Nat.le_of_ble_eq_true rfl) (Nat.le_of_ble_eq_true rfl) (Nat.le_of_ble_eq_true rfl) ?_
      refine t_iastK dX6_readOwn_320 qa_436 (t_ixv c6) (fun s3 ws3 => t_letE hk ws3 (fun hk => ?_))
      refine mj_sublv [(0, .ref 845), (2, .ref l2)] [1, 3] rfl ?_
      exact B_X6_readOwn_321 _ _ _ hk
  · exact t_somK hk (fun hf => t_vret dX6_readOwn_237 rfl ⟨rfl, hf⟩ (Nat.le_of_ble_eq_true rfl) (Nat.le_of_ble_eq_true rfl))
noncomputable def k_X6_readOwn_153 (l1 : Int32) (l2 : Nat) (l3 : Int32) (k0 : Nat) (s : t_S) : Option (t_S) :=
 if (s.1 1 8) = (1 : Int32) then ((f_X5_hasOwn (s.1 845 13) (f_X2_word s) s).bind (fun r2 =>
 if r2 = (0 : Int32) then (if t_oka l2 1 (t_ln l2) = true then
  if t_ix (s.1 845 13) (t_ln l2) = true then
  if (s.1 l2 ((s.1 845 13).toNatClampNeg)) < l3 then (k_X6_readOwn_227 l1 l2 l3 k0 s)
 else ((f_X2_fail (5 : Int32) s).bind (fun r5 =>
 k_X6_readOwn_227 l1 l2 l3 k0 r5))
else none
else none)
 else ((f_X2_fail (3 : Int32) s).bind (fun r6 =>
 k_X6_readOwn_227 l1 l2 l3 k0 r6))))
 else ((f_X2_fail (2 : Int32) s).bind (fun r7 =>
 k_X6_readOwn_227 l1 l2 l3 k0 r7))
set_option maxRecDepth 4000 in
set_option maxHeartbeats 1000000 in
theorem B_X6_readOwn_153 {D : va_G} {cy : Nat → ClassId} {ad : Nat → Nat} {bs : Nat} {X : State → Heap → Prop} (l1 : Int32) (l2 : Nat) (l3 : Int32) (k0 : Nat) (s : t_S) (Q : t_S → Prop) (hk : t_hk (k_X6_readOwn_153 l1 l2 l3 k0 s) Q) : mj_G D cy ad bs X cX6_readOwn 6 yX6_readOwn.cls none yX6_readOwn.name 254 0 0 1065 (t_P (fun v s' => v = none ∧ Q (s'))) 153 [(0, .ref 845), (1, .int l1), (2, .ref l2), (3, .int l3)] [.ref k0] (t_m s) 1065 0 0 := by
  refine mj_astore (lv2 := [(4, .ref k0), (0, .ref 845), (1, .int l1), (2, .ref l2), (3, .int l3)]) dX6_readOwn_153 (by decide) rfl ?_
  refine mj_aload_n dX6_readOwn_155 1 rfl ?_
  refine t_getR 1 dX6_readOwn_156 F_X6_28 qr_845_0 ?_
  refine t_getI dX6_readOwn_159 F_X6_85 qf_1_8 ?_
  refine mj_iconst (v := 1) dX6_readOwn_162 (by decide) ?_
  refine mj_icmp_eq 177 dX6_readOwn_163 (by decide) (fun z => t_posK hk z (fun hk => ?_)) (fun z => t_negK hk z (fun hk => ?_))
  · refine mj_aload_n dX6_readOwn_177 1 rfl ?_
    refine t_getR 428 dX6_readOwn_178 F_X6_48 qr_845_4 ?_
    refine mj_aload_n dX6_readOwn_181 1 rfl ?_
    refine t_getI dX6_readOwn_182 F_X6_137 qf_845_13 ?_
    refine mj_aload_n dX6_readOwn_185 1 rfl ?_
    refine t_getR 1 dX6_readOwn_186 F_X6_28 qr_845_0 ?_
    refine t_callViP dX6_readOwn_189 M_X2_word (C_X2_word _) ML_X6_166 IM_X2_word SE_X2_word qc_1 rfl (As := []) rfl rfl (Nat.le_of_ble_eq_true rfl) (Nat.le_of_ble_eq_true rfl) (Nat.le_of_ble_eq_true rfl) (Nat.le_of_ble_eq_true rfl) ?_
    refine t_bndK hk (fun r2 er2 hk => ?_)
    refine t_callViP dX6_readOwn_192 M_X5_hasOwn (C_X5_hasOwn _ _ _ _ er2) ML_X6_232 IM_X5_hasOwn SE_X5_hasOwn qc_428 rfl (As := [.int (s.1 845 13), .int (f_X2_word s)]) rfl rfl (Nat.le_of_ble_eq_true rfl) (Nat.le_of_ble_eq_true rfl) (Nat.le_of_ble_eq_true rfl) (Nat.le_of_ble_eq_true rfl) ?_
    refine mj_if_eq 209 dX6_readOwn_195 (by decide) (fun z => t_posK hk z (fun hk => ?_)) (fun z => t_negK hk z (fun hk => ?_))
    · refine mj_aload_n dX6_readOwn_209 3 rfl ?_
      refine mj_aload_n dX6_readOwn_210 1 rfl ?_
      refine t_getI dX6_readOwn_211 F_X6_137 qf_845_13 ?_
      refine t_chkK hk (fun c2 hk => ?_)
      refine t_chkK hk (fun c3 hk => ?_)
      refine t_iald dX6_readOwn_214 c2 (t_ixv c3) ?_
      refine mj_iload_n dX6_readOwn_215 4 rfl ?_
      refine mj_icmp_lt 227 dX6_readOwn_216 (by decide) (fun z => t_posK hk z (fun hk => ?_)) (fun z => t_negK hk z (fun hk => ?_))
      · refine mj_sublv [(0, .ref 845), (1, .int l1), (2, .ref l2), (3, .int l3), (4, .ref k0)] [1, 2, 3, 4, 0] rfl ?_
        exact B_X6_readOwn_227 _ _ _ _ _ _ hk
      · refine mj_aload_n dX6_readOwn_219 1 rfl ?_
        refine t_getR 1 dX6_readOwn_220 F_X6_28 qr_845_0 ?_
        refine mj_iconst (v := 5) dX6_readOwn_223 (by decide) ?_
        refine t_bndK hk (fun r5 er5 hk => ?_)
        refine t_callVvE dX6_readOwn_224 M_X2_fail (C_X2_fail _ _ _ er5) ML_X6_100 IM_X2_fail SE_X2_fail qc_1 rfl (As := [.int 5]) rfl rfl (Nat.le_of_ble_eq_true rfl) (Nat.le_of_ble_eq_true rfl) (Nat.le_of_ble_eq_true rfl) (Nat.le_of_ble_eq_true rfl) ?_
        refine mj_sublv [(0, .ref 845), (1, .int l1), (2, .ref l2), (3, .int l3), (4, .ref k0)] [1, 2, 3, 4, 0] rfl ?_
        exact B_X6_readOwn_227 _ _ _ _ _ _ hk
    · refine mj_aload_n dX6_readOwn_198 1 rfl ?_
      refine t_getR 1 dX6_readOwn_199 F_X6_28 qr_845_0 ?_
      refine mj_iconst (v := 3) dX6_readOwn_202 (by decide) ?_
      refine t_bndK hk (fun r6 er6 hk => ?_)
      refine t_callVvE dX6_readOwn_203 M_X2_fail (C_X2_fail _ _ _ er6) ML_X6_100 IM_X2_fail SE_X2_fail qc_1 rfl (As := [.int 3]) rfl rfl (Nat.le_of_ble_eq_true rfl) (Nat.le_of_ble_eq_true rfl) (Nat.le_of_ble_eq_true rfl) (Nat.le_of_ble_eq_true rfl) ?_
      refine mj_goto 227 dX6_readOwn_206 (by decide) ?_
      refine mj_sublv [(0, .ref 845), (1, .int l1), (2, .ref l2), (3, .int l3), (4, .ref k0)] [1, 2, 3, 4, 0] rfl ?_
      exact B_X6_readOwn_227 _ _ _ _ _ _ hk
  · refine mj_aload_n dX6_readOwn_166 1 rfl ?_
    refine t_getR 1 dX6_readOwn_167 F_X6_28 qr_845_0 ?_
    refine mj_iconst (v := 2) dX6_readOwn_170 (by decide) ?_
    refine t_bndK hk (fun r7 er7 hk => ?_)
    refine t_callVvE dX6_readOwn_171 M_X2_fail (C_X2_fail _ _ _ er7) ML_X6_100 IM_X2_fail SE_X2_fail qc_1 rfl (As := [.int 2]) rfl rfl (Nat.le_of_ble_eq_true rfl) (Nat.le_of_ble_eq_true rfl) (Nat.le_of_ble_eq_true rfl) (Nat.le_of_ble_eq_true rfl) ?_
    refine mj_goto 227 dX6_readOwn_174 (by decide) ?_
    refine mj_sublv [(0, .ref 845), (1, .int l1), (2, .ref l2), (3, .int l3), (4, .ref k0)] [1, 2, 3, 4, 0] rfl ?_
    exact B_X6_readOwn_227 _ _ _ _ _ _ hk
noncomputable def k_X6_readOwn_111 (l1 : Int32) (l2 : Nat) (k0 : Int32) (s : t_S) : Option (t_S) :=
 if l1 = (207 : Int32) then (k_X6_readOwn_153 l1 l2 k0 430 s)
 else (if l1 = (208 : Int32) then (k_X6_readOwn_153 l1 l2 k0 432 s)
 else (k_X6_readOwn_153 l1 l2 k0 434 s))
set_option maxRecDepth 4000 in
set_option maxHeartbeats 1000000 in
theorem B_X6_readOwn_111 {D : va_G} {cy : Nat → ClassId} {ad : Nat → Nat} {bs : Nat} {X : State → Heap → Prop} (l1 : Int32) (l2 : Nat) (k0 : Int32) (s : t_S) (Q : t_S → Prop) (hk : t_hk (k_X6_readOwn_111 l1 l2 k0 s) Q) : mj_G D cy ad bs X cX6_readOwn 6 yX6_readOwn.cls none yX6_readOwn.name 254 0 0 1065 (t_P (fun v s' => v = none ∧ Q (s'))) 111 [(0, .ref 845), (1, .int l1), (2, .ref l2)] [.int k0] (t_m s) 1065 0 0 := by
  refine mj_istore_n 3 (lv2 := [(3, .int k0), (0, .ref 845), (1, .int l1), (2, .ref l2)]) dX6_readOwn_111 rfl (by decide) rfl ?_
  refine mj_iload_n dX6_readOwn_112 2 rfl ?_
  refine mj_sipush (v := 207) dX6_readOwn_113 (by decide) ?_
  refine mj_icmp_ne 129 dX6_readOwn_116 (by decide) (fun z => t_negK hk z (fun hk => ?_)) (fun z => t_posK hk z (fun hk => ?_))
  · refine mj_iload_n dX6_readOwn_129 2 rfl ?_
    refine mj_sipush (v := 208) dX6_readOwn_130 (by decide) ?_
    refine mj_icmp_ne 146 dX6_readOwn_133 (by decide) (fun z => t_negK hk z (fun hk => ?_)) (fun z => t_posK hk z (fun hk => ?_))
    · refine mj_aload_n dX6_readOwn_146 1 rfl ?_
      refine t_getR 428 dX6_readOwn_147 F_X6_48 qr_845_4 ?_
      refine t_getR 434 dX6_readOwn_150 F_X6_229 qr_428_6 ?_
      refine mj_sublv [(0, .ref 845), (1, .int l1), (2, .ref l2), (3, .int k0)] [1, 2, 3, 0] rfl ?_
      exact B_X6_readOwn_153 _ _ _ _ _ _ hk
    · refine mj_aload_n dX6_readOwn_136 1 rfl ?_
      refine t_getR 428 dX6_readOwn_137 F_X6_48 qr_845_4 ?_
      refine t_getR 432 dX6_readOwn_140 F_X6_226 qr_428_4 ?_
      refine mj_goto 153 dX6_readOwn_143 (by decide) ?_
      refine mj_sublv [(0, .ref 845), (1, .int l1), (2, .ref l2), (3, .int k0)] [1, 2, 3, 0] rfl ?_
      exact B_X6_readOwn_153 _ _ _ _ _ _ hk
  · refine mj_aload_n dX6_readOwn_119 1 rfl ?_
    refine t_getR 428 dX6_readOwn_120 F_X6_48 qr_845_4 ?_
    refine t_getR 430 dX6_readOwn_123 F_X6_223 qr_428_2 ?_
    refine mj_goto 153 dX6_readOwn_126 (by decide) ?_
    refine mj_sublv [(0, .ref 845), (1, .int l1), (2, .ref l2), (3, .int k0)] [1, 2, 3, 0] rfl ?_
    exact B_X6_readOwn_153 _ _ _ _ _ _ hk
noncomputable def k_X6_readOwn_85 (l1 : Int32) (k0 : Nat) (s : t_S) : Option (t_S) :=
 if l1 = (207 : Int32) then (k_X6_readOwn_111 l1 k0 6 s)
 else (if l1 = (208 : Int32) then (k_X6_readOwn_111 l1 k0 4 s)
 else (k_X6_readOwn_111 l1 k0 8 s))
set_option maxRecDepth 4000 in
set_option maxHeartbeats 1000000 in
theorem B_X6_readOwn_85 {D : va_G} {cy : Nat → ClassId} {ad : Nat → Nat} {bs : Nat} {X : State → Heap → Prop} (l1 : Int32) (k0 : Nat) (s : t_S) (Q : t_S → Prop) (hk : t_hk (k_X6_readOwn_85 l1 k0 s) Q) : mj_G D cy ad bs X cX6_readOwn 6 yX6_readOwn.cls none yX6_readOwn.name 254 0 0 1065 (t_P (fun v s' => v = none ∧ Q (s'))) 85 [(0, .ref 845), (1, .int l1)] [.ref k0] (t_m s) 1065 0 0 := by
  refine mj_astore_n 2 (lv2 := [(2, .ref k0), (0, .ref 845), (1, .int l1)]) dX6_readOwn_85 rfl (by decide) rfl ?_
  refine mj_iload_n dX6_readOwn_86 2 rfl ?_
  refine mj_sipush (v := 207) dX6_readOwn_87 (by decide) ?_
  refine mj_icmp_ne 98 dX6_readOwn_90 (by decide) (fun z => t_negK hk z (fun hk => ?_)) (fun z => t_posK hk z (fun hk => ?_))
  · refine mj_iload_n dX6_readOwn_98 2 rfl ?_
    refine mj_sipush (v := 208) dX6_readOwn_99 (by decide) ?_
    refine mj_icmp_ne 109 dX6_readOwn_102 (by decide) (fun z => t_negK hk z (fun hk => ?_)) (fun z => t_posK hk z (fun hk => ?_))
    · refine mj_bipush (v := 8) dX6_readOwn_109 (by decide) ?_
      refine mj_sublv [(0, .ref 845), (1, .int l1), (2, .ref k0)] [1, 2, 0] rfl ?_
      exact B_X6_readOwn_111 _ _ _ _ _ hk
    · refine mj_iconst (v := 4) dX6_readOwn_105 (by decide) ?_
      refine mj_goto 111 dX6_readOwn_106 (by decide) ?_
      refine mj_sublv [(0, .ref 845), (1, .int l1), (2, .ref k0)] [1, 2, 0] rfl ?_
      exact B_X6_readOwn_111 _ _ _ _ _ hk
  · refine mj_bipush (v := 6) dX6_readOwn_93 (by decide) ?_
    refine mj_goto 111 dX6_readOwn_95 (by decide) ?_
    refine mj_sublv [(0, .ref 845), (1, .int l1), (2, .ref k0)] [1, 2, 0] rfl ?_
    exact B_X6_readOwn_111 _ _ _ _ _ hk
noncomputable def k_X6_readOwn_37 (l1 : Int32) (s : t_S) : Option (t_S) :=
 (f_X2_advance s).bind (fun r1 =>
 if l1 = (207 : Int32) then (k_X6_readOwn_85 l1 429 r1)
 else (if l1 = (208 : Int32) then (k_X6_readOwn_85 l1 431 r1)
 else (k_X6_readOwn_85 l1 433 r1)))
set_option maxRecDepth 4000 in
set_option maxHeartbeats 1000000 in
theorem B_X6_readOwn_37 {D : va_G} {cy : Nat → ClassId} {ad : Nat → Nat} {bs : Nat} {X : State → Heap → Prop} (l1 : Int32) (s : t_S) (Q : t_S → Prop) (hk : t_hk (k_X6_readOwn_37 l1 s) Q) : mj_G D cy ad bs X cX6_readOwn 6 yX6_readOwn.cls none yX6_readOwn.name 254 0 0 1065 (t_P (fun v s' => v = none ∧ Q (s'))) 37 [(0, .ref 845), (1, .int l1)] [] (t_m s) 1065 0 0 := by
  refine mj_aload_n dX6_readOwn_37 0 rfl ?_
  refine t_getR 1 dX6_readOwn_38 F_X6_28 qr_845_0 ?_
  refine t_bndK hk (fun r1 er1 hk => ?_)
  refine t_callVvE dX6_readOwn_41 M_X2_advance (C_X2_advance _ _ er1) ML_X6_170 IM_X2_advance SE_X2_advance qc_1 rfl (As := []) rfl rfl (Nat.le_of_ble_eq_true rfl) (Nat.le_of_ble_eq_true rfl) (Nat.le_of_ble_eq_true rfl) (Nat.le_of_ble_eq_true rfl) ?_
  refine mj_iload_n dX6_readOwn_44 1 rfl ?_
  refine mj_sipush (v := 207) dX6_readOwn_45 (by decide) ?_
  refine mj_icmp_ne 61 dX6_readOwn_48 (by decide) (fun z => t_negK hk z (fun hk => ?_)) (fun z => t_posK hk z (fun hk => ?_))
  · refine mj_iload_n dX6_readOwn_61 1 rfl ?_
    refine mj_sipush (v := 208) dX6_readOwn_62 (by decide) ?_
    refine mj_icmp_ne 78 dX6_readOwn_65 (by decide) (fun z => t_negK hk z (fun hk => ?_)) (fun z => t_posK hk z (fun hk => ?_))
    · refine mj_aload_n dX6_readOwn_78 0 rfl ?_
      refine t_getR 428 dX6_readOwn_79 F_X6_48 qr_845_4 ?_
      refine t_getR 433 dX6_readOwn_82 F_X6_220 qr_428_5 ?_
      exact B_X6_readOwn_85 _ _ _ _ hk
    · refine mj_aload_n dX6_readOwn_68 0 rfl ?_
      refine t_getR 428 dX6_readOwn_69 F_X6_48 qr_845_4 ?_
      refine t_getR 431 dX6_readOwn_72 F_X6_217 qr_428_3 ?_
      refine mj_goto 85 dX6_readOwn_75 (by decide) ?_
      exact B_X6_readOwn_85 _ _ _ _ hk
  · refine mj_aload_n dX6_readOwn_51 0 rfl ?_
    refine t_getR 428 dX6_readOwn_52 F_X6_48 qr_845_4 ?_
    refine t_getR 429 dX6_readOwn_55 F_X6_214 qr_428_1 ?_
    refine mj_goto 85 dX6_readOwn_58 (by decide) ?_
    exact B_X6_readOwn_85 _ _ _ _ hk
noncomputable def f_X6_readOwn (s : t_S) : Option (t_S) :=
 if (s.1 1 8) = (207 : Int32) then (k_X6_readOwn_37 (s.1 1 8) s)
 else (if (s.1 1 8) = (208 : Int32) then (k_X6_readOwn_37 (s.1 1 8) s)
 else (if (s.1 1 8) = (209 : Int32) then (k_X6_readOwn_37 (s.1 1 8) s)
 else ((f_X2_fail (2 : Int32) s).bind (fun r1 =>
 k_X6_readOwn_37 (s.1 1 8) r1))))
set_option maxRecDepth 4000 in
set_option maxHeartbeats 1000000 in
theorem C_X6_readOwn (s : t_S) (r : t_S) (hr : f_X6_readOwn s = some r) : t_C yX6_readOwn cX6_readOwn 6 none 254 [.ref 845] s (fun v s' => v = none ∧ s' = r) := by
  refine t_C.imp (P := fun v s' => v = none ∧ (fun q => q = r) (s')) (t_C.of (by decide +kernel) (Nat.le_of_ble_eq_true rfl) ?_) (fun v s' hp => hp)
  intro D cy ad bs X
  have hk : t_hk (f_X6_readOwn s) (fun q => q = r) := ⟨r, hr, rfl⟩
  show mj_G D cy ad bs X cX6_readOwn 6 yX6_readOwn.cls none yX6_readOwn.name 254 0 0 1065 (t_P (fun v s' => v = none ∧ (fun q => q = r) (s'))) 0 [(0, .ref 845)] [] (t_m s) 1065 0 0
  refine mj_aload_n dX6_readOwn_0 0 rfl ?_
  refine t_getR 1 dX6_readOwn_1 F_X6_28 qr_845_0 ?_
  refine t_getI dX6_readOwn_4 F_X6_85 qf_1_8 ?_
  refine mj_istore_n 1 (lv2 := [(1, .int (s.1 1 8)), (0, .ref 845)]) dX6_readOwn_7 rfl (by decide) rfl ?_
  refine mj_iload_n dX6_readOwn_8 0 rfl ?_
  refine mj_sipush (v := 207) dX6_readOwn_9 (by decide) ?_
  refine mj_icmp_eq 37 dX6_readOwn_12 (by decide) (fun z => t_posK hk z (fun hk => ?_)) (fun z => t_negK hk z (fun hk => ?_))
  · refine mj_sublv [(0, .ref 845), (1, .int (s.1 1 8))] [1, 0] rfl ?_
    exact B_X6_readOwn_37 _ _ _ hk
  · refine mj_iload_n dX6_readOwn_15 0 rfl ?_
    refine mj_sipush (v := 208) dX6_readOwn_16 (by decide) ?_
    refine mj_icmp_eq 37 dX6_readOwn_19 (by decide) (fun z => t_posK hk z (fun hk => ?_)) (fun z => t_negK hk z (fun hk => ?_))
    · refine mj_sublv [(0, .ref 845), (1, .int (s.1 1 8))] [1, 0] rfl ?_
      exact B_X6_readOwn_37 _ _ _ hk
    · refine mj_iload_n dX6_readOwn_22 0 rfl ?_
      refine mj_sipush (v := 209) dX6_readOwn_23 (by decide) ?_
      refine mj_icmp_eq 37 dX6_readOwn_26 (by decide) (fun z => t_posK hk z (fun hk => ?_)) (fun z => t_negK hk z (fun hk => ?_))
      · refine mj_sublv [(0, .ref 845), (1, .int (s.1 1 8))] [1, 0] rfl ?_
        exact B_X6_readOwn_37 _ _ _ hk
      · refine mj_aload_n dX6_readOwn_29 1 rfl ?_
        refine t_getR 1 dX6_readOwn_30 F_X6_28 qr_845_0 ?_
        refine mj_iconst (v := 2) dX6_readOwn_33 (by decide) ?_
        refine t_bndK hk (fun r1 er1 hk => ?_)
        refine t_callVvE dX6_readOwn_34 M_X2_fail (C_X2_fail _ _ _ er1) ML_X6_100 IM_X2_fail SE_X2_fail qc_1 rfl (As := [.int 2]) rfl rfl (Nat.le_of_ble_eq_true rfl) (Nat.le_of_ble_eq_true rfl) (Nat.le_of_ble_eq_true rfl) (Nat.le_of_ble_eq_true rfl) ?_
        refine mj_sublv [(0, .ref 845), (1, .int (s.1 1 8))] [1, 0] rfl ?_
        exact B_X6_readOwn_37 _ _ _ hk

theorem dX6_takeName_0 : decode cX6_takeName 0 = .ok (.aload_n 0, 1) := by decide +kernel
theorem dX6_takeName_1 : decode cX6_takeName 1 = .ok (.getfield 28, 3) := by decide +kernel
theorem dX6_takeName_100 : decode cX6_takeName 100 = .ok (.ireturn, 1) := by decide +kernel
theorem dX6_takeName_11 : decode cX6_takeName 11 = .ok (.aload_n 0, 1) := by decide +kernel
theorem dX6_takeName_12 : decode cX6_takeName 12 = .ok (.getfield 28, 3) := by decide +kernel
theorem dX6_takeName_15 : decode cX6_takeName 15 = .ok (.iconst 2, 1) := by decide +kernel
theorem dX6_takeName_16 : decode cX6_takeName 16 = .ok (.invokevirtual 100, 3) := by decide +kernel
theorem dX6_takeName_19 : decode cX6_takeName 19 = .ok (.goto 45, 3) := by decide +kernel
theorem dX6_takeName_22 : decode cX6_takeName 22 = .ok (.aload_n 0, 1) := by decide +kernel
theorem dX6_takeName_23 : decode cX6_takeName 23 = .ok (.getfield 28, 3) := by decide +kernel
theorem dX6_takeName_26 : decode cX6_takeName 26 = .ok (.getfield 163, 3) := by decide +kernel
theorem dX6_takeName_29 : decode cX6_takeName 29 = .ok (.aload_n 0, 1) := by decide +kernel
theorem dX6_takeName_30 : decode cX6_takeName 30 = .ok (.getfield 28, 3) := by decide +kernel
theorem dX6_takeName_33 : decode cX6_takeName 33 = .ok (.invokevirtual 166, 3) := by decide +kernel
theorem dX6_takeName_36 : decode cX6_takeName 36 = .ok (.iaload, 1) := by decide +kernel
theorem dX6_takeName_37 : decode cX6_takeName 37 = .ok (.ifCond .eq 14, 3) := by decide +kernel
theorem dX6_takeName_4 : decode cX6_takeName 4 = .ok (.getfield 85, 3) := by decide +kernel
theorem dX6_takeName_40 : decode cX6_takeName 40 = .ok (.aload_n 0, 1) := by decide +kernel
theorem dX6_takeName_41 : decode cX6_takeName 41 = .ok (.getfield 28, 3) := by decide +kernel
theorem dX6_takeName_44 : decode cX6_takeName 44 = .ok (.iconst 3, 1) := by decide +kernel
theorem dX6_takeName_45 : decode cX6_takeName 45 = .ok (.invokevirtual 100, 3) := by decide +kernel
theorem dX6_takeName_48 : decode cX6_takeName 48 = .ok (.goto 16, 3) := by decide +kernel
theorem dX6_takeName_51 : decode cX6_takeName 51 = .ok (.iload_n 2, 1) := by decide +kernel
theorem dX6_takeName_52 : decode cX6_takeName 52 = .ok (.iload_n 3, 1) := by decide +kernel
theorem dX6_takeName_53 : decode cX6_takeName 53 = .ok (.if_icmp .lt 11, 3) := by decide +kernel
theorem dX6_takeName_56 : decode cX6_takeName 56 = .ok (.aload_n 0, 1) := by decide +kernel
theorem dX6_takeName_57 : decode cX6_takeName 57 = .ok (.getfield 28, 3) := by decide +kernel
theorem dX6_takeName_60 : decode cX6_takeName 60 = .ok (.iconst 5, 1) := by decide +kernel
theorem dX6_takeName_61 : decode cX6_takeName 61 = .ok (.invokevirtual 100, 3) := by decide +kernel
theorem dX6_takeName_64 : decode cX6_takeName 64 = .ok (.aload_n 0, 1) := by decide +kernel
theorem dX6_takeName_65 : decode cX6_takeName 65 = .ok (.getfield 28, 3) := by decide +kernel
theorem dX6_takeName_68 : decode cX6_takeName 68 = .ok (.getfield 82, 3) := by decide +kernel
theorem dX6_takeName_7 : decode cX6_takeName 7 = .ok (.iconst 1, 1) := by decide +kernel
theorem dX6_takeName_71 : decode cX6_takeName 71 = .ok (.ifCond .eq 5, 3) := by decide +kernel
theorem dX6_takeName_74 : decode cX6_takeName 74 = .ok (.iconst 0, 1) := by decide +kernel
theorem dX6_takeName_75 : decode cX6_takeName 75 = .ok (.ireturn, 1) := by decide +kernel
theorem dX6_takeName_76 : decode cX6_takeName 76 = .ok (.aload_n 0, 1) := by decide +kernel
theorem dX6_takeName_77 : decode cX6_takeName 77 = .ok (.getfield 28, 3) := by decide +kernel
theorem dX6_takeName_8 : decode cX6_takeName 8 = .ok (.if_icmp .eq 14, 3) := by decide +kernel
theorem dX6_takeName_80 : decode cX6_takeName 80 = .ok (.getfield 163, 3) := by decide +kernel
theorem dX6_takeName_83 : decode cX6_takeName 83 = .ok (.aload_n 0, 1) := by decide +kernel
theorem dX6_takeName_84 : decode cX6_takeName 84 = .ok (.getfield 28, 3) := by decide +kernel
theorem dX6_takeName_87 : decode cX6_takeName 87 = .ok (.invokevirtual 166, 3) := by decide +kernel
theorem dX6_takeName_90 : decode cX6_takeName 90 = .ok (.iconst 1, 1) := by decide +kernel
theorem dX6_takeName_91 : decode cX6_takeName 91 = .ok (.bipush 100, 2) := by decide +kernel
theorem dX6_takeName_93 : decode cX6_takeName 93 = .ok (.iload_n 1, 1) := by decide +kernel
theorem dX6_takeName_94 : decode cX6_takeName 94 = .ok (.imul, 1) := by decide +kernel
theorem dX6_takeName_95 : decode cX6_takeName 95 = .ok (.iadd, 1) := by decide +kernel
theorem dX6_takeName_96 : decode cX6_takeName 96 = .ok (.iload_n 2, 1) := by decide +kernel
theorem dX6_takeName_97 : decode cX6_takeName 97 = .ok (.iadd, 1) := by decide +kernel
theorem dX6_takeName_98 : decode cX6_takeName 98 = .ok (.iastore, 1) := by decide +kernel
theorem dX6_takeName_99 : decode cX6_takeName 99 = .ok (.iconst 1, 1) := by decide +kernel
noncomputable def k_X6_takeName_64 (l1 : Int32) (l2 : Int32) (s : t_S) : Option (Int32 × t_S) :=
 if (s.1 1 11) = (0 : Int32) then (if t_ix (f_X2_word s) 8000 = true then
  t_let (t_setI s 6 ((f_X2_word s).toNatClampNeg) (((1 : Int32) + ((100 : Int32) * l1)) + l2)) (fun s1 =>
 some ((1 : Int32), s1))
else none)
 else (some ((0 : Int32), s))
set_option maxRecDepth 4000 in
set_option maxHeartbeats 1000000 in
theorem B_X6_takeName_64 {D : va_G} {cy : Nat → ClassId} {ad : Nat → Nat} {bs : Nat} {X : State → Heap → Prop} (l1 : Int32) (l2 : Int32) (s : t_S) (Q : Int32 × t_S → Prop) (hk : t_hk (k_X6_takeName_64 l1 l2 s) Q) : mj_G D cy ad bs X cX6_takeName 4 yX6_takeName.cls (some .boolean) yX6_takeName.name 1 0 0 1065 (t_P (fun v s' => ∃ x, v = some (.int x) ∧ Q ((x, s')))) 64 [(0, .ref 845), (1, .int l1), (2, .int l2)] [] (t_m s) 1065 0 0 := by
  refine mj_aload_n dX6_takeName_64 0 rfl ?_
  refine t_getR 1 dX6_takeName_65 F_X6_28 qr_845_0 ?_
  refine t_getI dX6_takeName_68 F_X6_82 qf_1_11 ?_
  refine mj_if_eq 76 dX6_takeName_71 (by decide) (fun z => t_posK hk z (fun hk => ?_)) (fun z => t_negK hk z (fun hk => ?_))
  · refine mj_aload_n dX6_takeName_76 0 rfl ?_
    refine t_getR 1 dX6_takeName_77 F_X6_28 qr_845_0 ?_
    refine t_getR 6 dX6_takeName_80 F_X6_163 qr_1_14 ?_
    refine mj_aload_n dX6_takeName_83 0 rfl ?_
    refine t_getR 1 dX6_takeName_84 F_X6_28 qr_845_0 ?_
    refine t_callViP dX6_takeName_87 M_X2_word (C_X2_word _) ML_X6_166 IM_X2_word SE_X2_word qc_1 rfl (As := []) rfl rfl (Nat.le_of_ble_eq_true rfl) (Nat.le_of_ble_eq_true rfl) (Nat.le_of_ble_eq_true rfl) (Nat.le_of_ble_eq_true rfl) ?_
    refine mj_iconst (v := 1) dX6_takeName_90 (by decide) ?_
    refine mj_bipush (v := 100) dX6_takeName_91 (by decide) ?_
    refine mj_iload_n dX6_takeName_93 1 rfl ?_
    refine mj_imul dX6_takeName_94 ?_
    refine mj_iadd dX6_takeName_95 ?_
    refine mj_iload_n dX6_takeName_96 2 rfl ?_
    refine mj_iadd dX6_takeName_97 ?_
    refine t_chkK hk (fun c1 hk => ?_)
    refine t_iastK dX6_takeName_98 qa_6 (t_ixv c1) (fun s1 ws1 => t_letE hk ws1 (fun hk => ?_))
    refine mj_iconst (v := 1) dX6_takeName_99 (by decide) ?_
    exact t_somK hk (fun hf => t_iret dX6_takeName_100 rfl (by decide) ⟨_, rfl, hf⟩ (Nat.le_of_ble_eq_true rfl) (Nat.le_of_ble_eq_true rfl))
  · refine mj_iconst (v := 0) dX6_takeName_74 (by decide) ?_
    exact t_somK hk (fun hf => t_iret dX6_takeName_75 rfl (by decide) ⟨_, rfl, hf⟩ (Nat.le_of_ble_eq_true rfl) (Nat.le_of_ble_eq_true rfl))
noncomputable def f_X6_takeName (x1 : Int32) (x2 : Int32) (x3 : Int32) (s : t_S) : Option (Int32 × t_S) :=
 if (s.1 1 8) = (1 : Int32) then (if t_ix (f_X2_word s) 8000 = true then
  if (s.1 6 ((f_X2_word s).toNatClampNeg)) = (0 : Int32) then (if x2 < x3 then (k_X6_takeName_64 x1 x2 s)
 else ((f_X2_fail (5 : Int32) s).bind (fun r3 =>
 k_X6_takeName_64 x1 x2 r3)))
 else ((f_X2_fail (3 : Int32) s).bind (fun r4 =>
 k_X6_takeName_64 x1 x2 r4))
else none)
 else ((f_X2_fail (2 : Int32) s).bind (fun r5 =>
 k_X6_takeName_64 x1 x2 r5))
set_option maxRecDepth 4000 in
set_option maxHeartbeats 1000000 in
theorem C_X6_takeName (x1 : Int32) (x2 : Int32) (x3 : Int32) (s : t_S) (r : Int32 × t_S) (hr : f_X6_takeName x1 x2 x3 s = some r) : t_C yX6_takeName cX6_takeName 4 (some .boolean) 1 [.ref 845, .int x1, .int x2, .int x3] s (fun v s' => v = some (.int r.1) ∧ s' = r.2) := by
  refine t_C.imp (P := fun v s' => ∃ x, v = some (.int x) ∧ (fun q => q = r) ((x, s'))) (t_C.of (by decide +kernel) (Nat.le_of_ble_eq_true rfl) ?_) (fun v s' hp => by obtain ⟨x, rfl, rfl⟩ := hp; exact ⟨rfl, rfl⟩)
  intro D cy ad bs X
  have hk : t_hk (f_X6_takeName x1 x2 x3 s) (fun q => q = r) := ⟨r, hr, rfl⟩
  show mj_G D cy ad bs X cX6_takeName 4 yX6_takeName.cls (some .boolean) yX6_takeName.name 1 0 0 1065 (t_P (fun v s' => ∃ x, v = some (.int x) ∧ (fun q => q = r) ((x, s')))) 0 [(0, .ref 845), (1, .int x1), (2, .int x2), (3, .int x3)] [] (t_m s) 1065 0 0
  refine mj_aload_n dX6_takeName_0 0 rfl ?_
  refine t_getR 1 dX6_takeName_1 F_X6_28 qr_845_0 ?_
  refine t_getI dX6_takeName_4 F_X6_85 qf_1_8 ?_
  refine mj_iconst (v := 1) dX6_takeName_7 (by decide) ?_
  refine mj_icmp_eq 22 dX6_takeName_8 (by decide) (fun z => t_posK hk z (fun hk => ?_)) (fun z => t_negK hk z (fun hk => ?_))
  · refine mj_aload_n dX6_takeName_22 0 rfl ?_
    refine t_getR 1 dX6_takeName_23 F_X6_28 qr_845_0 ?_
    refine t_getR 6 dX6_takeName_26 F_X6_163 qr_1_14 ?_
    refine mj_aload_n dX6_takeName_29 0 rfl ?_
    refine t_getR 1 dX6_takeName_30 F_X6_28 qr_845_0 ?_
    refine t_callViP dX6_takeName_33 M_X2_word (C_X2_word _) ML_X6_166 IM_X2_word SE_X2_word qc_1 rfl (As := []) rfl rfl (Nat.le_of_ble_eq_true rfl) (Nat.le_of_ble_eq_true rfl) (Nat.le_of_ble_eq_true rfl) (Nat.le_of_ble_eq_true rfl) ?_
    refine t_chkK hk (fun c1 hk => ?_)
    refine t_iald dX6_takeName_36 qa_6 (t_ixv c1) ?_
    refine mj_if_eq 51 dX6_takeName_37 (by decide) (fun z => t_posK hk z (fun hk => ?_)) (fun z => t_negK hk z (fun hk => ?_))
    · refine mj_iload_n dX6_takeName_51 2 rfl ?_
      refine mj_iload_n dX6_takeName_52 3 rfl ?_
      refine mj_icmp_lt 64 dX6_takeName_53 (by decide) (fun z => t_posK hk z (fun hk => ?_)) (fun z => t_negK hk z (fun hk => ?_))
      · refine mj_sublv [(0, .ref 845), (1, .int x1), (2, .int x2)] [0, 1, 2] rfl ?_
        exact B_X6_takeName_64 _ _ _ _ hk
      · refine mj_aload_n dX6_takeName_56 0 rfl ?_
        refine t_getR 1 dX6_takeName_57 F_X6_28 qr_845_0 ?_
        refine mj_iconst (v := 5) dX6_takeName_60 (by decide) ?_
        refine t_bndK hk (fun r3 er3 hk => ?_)
        refine t_callVvE dX6_takeName_61 M_X2_fail (C_X2_fail _ _ _ er3) ML_X6_100 IM_X2_fail SE_X2_fail qc_1 rfl (As := [.int 5]) rfl rfl (Nat.le_of_ble_eq_true rfl) (Nat.le_of_ble_eq_true rfl) (Nat.le_of_ble_eq_true rfl) (Nat.le_of_ble_eq_true rfl) ?_
        refine mj_sublv [(0, .ref 845), (1, .int x1), (2, .int x2)] [0, 1, 2] rfl ?_
        exact B_X6_takeName_64 _ _ _ _ hk
    · refine mj_aload_n dX6_takeName_40 0 rfl ?_
      refine t_getR 1 dX6_takeName_41 F_X6_28 qr_845_0 ?_
      refine mj_iconst (v := 3) dX6_takeName_44 (by decide) ?_
      refine t_bndK hk (fun r4 er4 hk => ?_)
      refine t_callVvE dX6_takeName_45 M_X2_fail (C_X2_fail _ _ _ er4) ML_X6_100 IM_X2_fail SE_X2_fail qc_1 rfl (As := [.int 3]) rfl rfl (Nat.le_of_ble_eq_true rfl) (Nat.le_of_ble_eq_true rfl) (Nat.le_of_ble_eq_true rfl) (Nat.le_of_ble_eq_true rfl) ?_
      refine mj_goto 64 dX6_takeName_48 (by decide) ?_
      refine mj_sublv [(0, .ref 845), (1, .int x1), (2, .int x2)] [0, 1, 2] rfl ?_
      exact B_X6_takeName_64 _ _ _ _ hk
  · refine mj_aload_n dX6_takeName_11 0 rfl ?_
    refine t_getR 1 dX6_takeName_12 F_X6_28 qr_845_0 ?_
    refine mj_iconst (v := 2) dX6_takeName_15 (by decide) ?_
    refine t_bndK hk (fun r5 er5 hk => ?_)
    refine t_callVvE dX6_takeName_16 M_X2_fail (C_X2_fail _ _ _ er5) ML_X6_100 IM_X2_fail SE_X2_fail qc_1 rfl (As := [.int 2]) rfl rfl (Nat.le_of_ble_eq_true rfl) (Nat.le_of_ble_eq_true rfl) (Nat.le_of_ble_eq_true rfl) (Nat.le_of_ble_eq_true rfl) ?_
    refine mj_goto 64 dX6_takeName_19 (by decide) ?_
    refine mj_sublv [(0, .ref 845), (1, .int x1), (2, .int x2)] [0, 1, 2] rfl ?_
    exact B_X6_takeName_64 _ _ _ _ hk

theorem dX6_readComponentItem_0 : decode cX6_readComponentItem 0 = .ok (.aload_n 0, 1) := by decide +kernel
theorem dX6_readComponentItem_1 : decode cX6_readComponentItem 1 = .ok (.getfield 28, 3) := by decide +kernel
theorem dX6_readComponentItem_10 : decode cX6_readComponentItem 10 = .ok (.getfield 48, 3) := by decide +kernel
theorem dX6_readComponentItem_101 : decode cX6_readComponentItem 101 = .ok (.goto (-36), 3) := by decide +kernel
theorem dX6_readComponentItem_104 : decode cX6_readComponentItem 104 = .ok (.aload_n 0, 1) := by decide +kernel
theorem dX6_readComponentItem_105 : decode cX6_readComponentItem 105 = .ok (.getfield 28, 3) := by decide +kernel
theorem dX6_readComponentItem_108 : decode cX6_readComponentItem 108 = .ok (.bipush 125, 2) := by decide +kernel
theorem dX6_readComponentItem_110 : decode cX6_readComponentItem 110 = .ok (.invokevirtual 184, 3) := by decide +kernel
theorem dX6_readComponentItem_113 : decode cX6_readComponentItem 113 = .ok (.aload_n 0, 1) := by decide +kernel
theorem dX6_readComponentItem_114 : decode cX6_readComponentItem 114 = .ok (.iconst (-1), 1) := by decide +kernel
theorem dX6_readComponentItem_115 : decode cX6_readComponentItem 115 = .ok (.putfield 137, 3) := by decide +kernel
theorem dX6_readComponentItem_118 : decode cX6_readComponentItem 118 = .ok (.return_, 1) := by decide +kernel
theorem dX6_readComponentItem_13 : decode cX6_readComponentItem 13 = .ok (.getfield 205, 3) := by decide +kernel
theorem dX6_readComponentItem_16 : decode cX6_readComponentItem 16 = .ok (.bipush 8, 2) := by decide +kernel
theorem dX6_readComponentItem_18 : decode cX6_readComponentItem 18 = .ok (.invokevirtual 176, 3) := by decide +kernel
theorem dX6_readComponentItem_21 : decode cX6_readComponentItem 21 = .ok (.ifCond .ne 4, 3) := by decide +kernel
theorem dX6_readComponentItem_24 : decode cX6_readComponentItem 24 = .ok (.return_, 1) := by decide +kernel
theorem dX6_readComponentItem_25 : decode cX6_readComponentItem 25 = .ok (.aload_n 0, 1) := by decide +kernel
theorem dX6_readComponentItem_26 : decode cX6_readComponentItem 26 = .ok (.aload_n 0, 1) := by decide +kernel
theorem dX6_readComponentItem_27 : decode cX6_readComponentItem 27 = .ok (.getfield 48, 3) := by decide +kernel
theorem dX6_readComponentItem_30 : decode cX6_readComponentItem 30 = .ok (.getfield 205, 3) := by decide +kernel
theorem dX6_readComponentItem_33 : decode cX6_readComponentItem 33 = .ok (.putfield 137, 3) := by decide +kernel
theorem dX6_readComponentItem_36 : decode cX6_readComponentItem 36 = .ok (.aload_n 0, 1) := by decide +kernel
theorem dX6_readComponentItem_37 : decode cX6_readComponentItem 37 = .ok (.getfield 48, 3) := by decide +kernel
theorem dX6_readComponentItem_4 : decode cX6_readComponentItem 4 = .ok (.invokevirtual 170, 3) := by decide +kernel
theorem dX6_readComponentItem_40 : decode cX6_readComponentItem 40 = .ok (.aload_n 0, 1) := by decide +kernel
theorem dX6_readComponentItem_41 : decode cX6_readComponentItem 41 = .ok (.getfield 137, 3) := by decide +kernel
theorem dX6_readComponentItem_44 : decode cX6_readComponentItem 44 = .ok (.invokevirtual 208, 3) := by decide +kernel
theorem dX6_readComponentItem_47 : decode cX6_readComponentItem 47 = .ok (.aload_n 0, 1) := by decide +kernel
theorem dX6_readComponentItem_48 : decode cX6_readComponentItem 48 = .ok (.getfield 28, 3) := by decide +kernel
theorem dX6_readComponentItem_51 : decode cX6_readComponentItem 51 = .ok (.invokevirtual 170, 3) := by decide +kernel
theorem dX6_readComponentItem_54 : decode cX6_readComponentItem 54 = .ok (.aload_n 0, 1) := by decide +kernel
theorem dX6_readComponentItem_55 : decode cX6_readComponentItem 55 = .ok (.getfield 28, 3) := by decide +kernel
theorem dX6_readComponentItem_58 : decode cX6_readComponentItem 58 = .ok (.bipush 123, 2) := by decide +kernel
theorem dX6_readComponentItem_60 : decode cX6_readComponentItem 60 = .ok (.invokevirtual 184, 3) := by decide +kernel
theorem dX6_readComponentItem_63 : decode cX6_readComponentItem 63 = .ok (.iconst 0, 1) := by decide +kernel
theorem dX6_readComponentItem_64 : decode cX6_readComponentItem 64 = .ok (.istore_n 1, 1) := by decide +kernel
theorem dX6_readComponentItem_65 : decode cX6_readComponentItem 65 = .ok (.iload_n 1, 1) := by decide +kernel
theorem dX6_readComponentItem_66 : decode cX6_readComponentItem 66 = .ok (.sipush 12002, 3) := by decide +kernel
theorem dX6_readComponentItem_69 : decode cX6_readComponentItem 69 = .ok (.if_icmp .ge 35, 3) := by decide +kernel
theorem dX6_readComponentItem_7 : decode cX6_readComponentItem 7 = .ok (.aload_n 0, 1) := by decide +kernel
theorem dX6_readComponentItem_72 : decode cX6_readComponentItem 72 = .ok (.aload_n 0, 1) := by decide +kernel
theorem dX6_readComponentItem_73 : decode cX6_readComponentItem 73 = .ok (.getfield 28, 3) := by decide +kernel
theorem dX6_readComponentItem_76 : decode cX6_readComponentItem 76 = .ok (.getfield 82, 3) := by decide +kernel
theorem dX6_readComponentItem_79 : decode cX6_readComponentItem 79 = .ok (.ifCond .ne 25, 3) := by decide +kernel
theorem dX6_readComponentItem_8 : decode cX6_readComponentItem 8 = .ok (.iconst 2, 1) := by decide +kernel
theorem dX6_readComponentItem_82 : decode cX6_readComponentItem 82 = .ok (.aload_n 0, 1) := by decide +kernel
theorem dX6_readComponentItem_83 : decode cX6_readComponentItem 83 = .ok (.getfield 28, 3) := by decide +kernel
theorem dX6_readComponentItem_86 : decode cX6_readComponentItem 86 = .ok (.getfield 85, 3) := by decide +kernel
theorem dX6_readComponentItem_89 : decode cX6_readComponentItem 89 = .ok (.bipush 125, 2) := by decide +kernel
theorem dX6_readComponentItem_9 : decode cX6_readComponentItem 9 = .ok (.aload_n 0, 1) := by decide +kernel
theorem dX6_readComponentItem_91 : decode cX6_readComponentItem 91 = .ok (.if_icmp .eq 13, 3) := by decide +kernel
theorem dX6_readComponentItem_94 : decode cX6_readComponentItem 94 = .ok (.aload_n 0, 1) := by decide +kernel
theorem dX6_readComponentItem_95 : decode cX6_readComponentItem 95 = .ok (.invokevirtual 211, 3) := by decide +kernel
theorem dX6_readComponentItem_98 : decode cX6_readComponentItem 98 = .ok (.iinc 1 1, 3) := by decide +kernel
noncomputable def k_X6_readComponentItem_104 (s : t_S) : Option (t_S) :=
 (f_X2_need (125 : Int32) s).bind (fun r1 =>
 t_let (t_setI r1 845 13 (-1 : Int32)) (fun s1 =>
 some (s1)))
set_option maxRecDepth 4000 in
set_option maxHeartbeats 1000000 in
theorem B_X6_readComponentItem_104 {D : va_G} {cy : Nat → ClassId} {ad : Nat → Nat} {bs : Nat} {X : State → Heap → Prop} (s : t_S) (Q : t_S → Prop) (hk : t_hk (k_X6_readComponentItem_104 s) Q) : mj_G D cy ad bs X cX6_readComponentItem 2 yX6_readComponentItem.cls none yX6_readComponentItem.name 255 0 0 1065 (t_P (fun v s' => v = none ∧ Q (s'))) 104 [(0, .ref 845)] [] (t_m s) 1065 0 0 := by
  refine mj_aload_n dX6_readComponentItem_104 0 rfl ?_
  refine t_getR 1 dX6_readComponentItem_105 F_X6_28 qr_845_0 ?_
  refine mj_bipush (v := 125) dX6_readComponentItem_108 (by decide) ?_
  refine t_bndK hk (fun r1 er1 hk => ?_)
  refine t_callVvE dX6_readComponentItem_110 M_X2_need (C_X2_need _ _ _ er1) ML_X6_184 IM_X2_need SE_X2_need qc_1 rfl (As := [.int 125]) rfl rfl (Nat.le_of_ble_eq_true rfl) (Nat.le_of_ble_eq_true rfl) (Nat.le_of_ble_eq_true rfl) (Nat.le_of_ble_eq_true rfl) ?_
  refine mj_aload_n dX6_readComponentItem_113 0 rfl ?_
  refine mj_iconst (v := (-1)) dX6_readComponentItem_114 (by decide) ?_
  refine t_putIK dX6_readComponentItem_115 F_X6_137 qf_845_13 rfl (fun s1 ws1 => t_letE hk ws1 (fun hk => ?_))
  exact t_somK hk (fun hf => t_vret dX6_readComponentItem_118 rfl ⟨rfl, hf⟩ (Nat.le_of_ble_eq_true rfl) (Nat.le_of_ble_eq_true rfl))
noncomputable def k_X6_readComponentItem_65 (l1 : Int32) (s : t_S) : Option ((Int32 × t_S) ⊕ (t_S)) :=
 if (12002 : Int32) ≤ l1 then ((k_X6_readComponentItem_104 s).map Sum.inr)
 else (if (s.1 1 11) = (0 : Int32) then (if (s.1 1 8) = (125 : Int32) then ((k_X6_readComponentItem_104 s).map Sum.inr)
 else ((f_X6_readOwn s).bind (fun r1 =>
 some (.inl ((l1 + 1), r1)))))
 else ((k_X6_readComponentItem_104 s).map Sum.inr))
set_option maxRecDepth 4000 in
set_option maxHeartbeats 1000000 in
theorem B_X6_readComponentItem_65 {D : va_G} {cy : Nat → ClassId} {ad : Nat → Nat} {bs : Nat} {X : State → Heap → Prop} (l1 : Int32) (s : t_S) (Q : (Int32 × t_S) ⊕ (t_S) → Prop) (Hb65 : ∀ (y0 : Int32) (y1 : t_S), Q (.inl (y0, y1)) → mj_G D cy ad bs X cX6_readComponentItem 2 yX6_readComponentItem.cls none yX6_readComponentItem.name 255 0 0 1065 (t_P (fun v s' => v = none ∧ Q (.inr (s')))) 65 [(0, .ref 845), (1, .int (y0))] [] (t_m y1) 1065 0 0) (hk : t_hk (k_X6_readComponentItem_65 l1 s) Q) : mj_G D cy ad bs X cX6_readComponentItem 2 yX6_readComponentItem.cls none yX6_readComponentItem.name 255 0 0 1065 (t_P (fun v s' => v = none ∧ Q (.inr (s')))) 65 [(0, .ref 845), (1, .int l1)] [] (t_m s) 1065 0 0 := by
  refine mj_iload_n dX6_readComponentItem_65 1 rfl ?_
  refine mj_sipush (v := 12002) dX6_readComponentItem_66 (by decide) ?_
  refine mj_icmp_ge 104 dX6_readComponentItem_69 (by decide) (fun z => t_posK hk z (fun hk => ?_)) (fun z => t_negK hk z (fun hk => ?_))
  · refine mj_sublv [(0, .ref 845)] [0] rfl ?_
    refine t_mapK hk (fun hk => ?_)
    exact B_X6_readComponentItem_104 _ _ hk
  · refine mj_aload_n dX6_readComponentItem_72 0 rfl ?_
    refine t_getR 1 dX6_readComponentItem_73 F_X6_28 qr_845_0 ?_
    refine t_getI dX6_readComponentItem_76 F_X6_82 qf_1_11 ?_
    refine mj_if_ne 104 dX6_readComponentItem_79 (by decide) (fun z => t_negK hk z (fun hk => ?_)) (fun z => t_posK hk z (fun hk => ?_))
    · refine mj_sublv [(0, .ref 845)] [0] rfl ?_
      refine t_mapK hk (fun hk => ?_)
      exact B_X6_readComponentItem_104 _ _ hk
    · refine mj_aload_n dX6_readComponentItem_82 0 rfl ?_
      refine t_getR 1 dX6_readComponentItem_83 F_X6_28 qr_845_0 ?_
      refine t_getI dX6_readComponentItem_86 F_X6_85 qf_1_8 ?_
      refine mj_bipush (v := 125) dX6_readComponentItem_89 (by decide) ?_
      refine mj_icmp_eq 104 dX6_readComponentItem_91 (by decide) (fun z => t_posK hk z (fun hk => ?_)) (fun z => t_negK hk z (fun hk => ?_))
      · refine mj_sublv [(0, .ref 845)] [0] rfl ?_
        refine t_mapK hk (fun hk => ?_)
        exact B_X6_readComponentItem_104 _ _ hk
      · refine mj_aload_n dX6_readComponentItem_94 0 rfl ?_
        refine t_bndK hk (fun r1 er1 hk => ?_)
        refine t_callVvE dX6_readComponentItem_95 M_X6_readOwn (C_X6_readOwn _ _ er1) ML_X6_211 IM_X6_readOwn SE_X6_readOwn qc_845 rfl (As := []) rfl rfl (Nat.le_of_ble_eq_true rfl) (Nat.le_of_ble_eq_true rfl) (Nat.le_of_ble_eq_true rfl) (Nat.le_of_ble_eq_true rfl) ?_
        refine mj_iinc (k := 1) (v := (l1 + 1)) (lv2 := [(1, .int (l1 + 1)), (0, .ref 845)]) dX6_readComponentItem_98 rfl rfl (by decide) rfl ?_
        refine mj_goto 65 dX6_readComponentItem_101 (by decide) ?_
        refine mj_sublv [(0, .ref 845), (1, .int (l1 + 1))] [1, 0] rfl ?_
        exact t_somK hk (fun hf => Hb65 (l1 + 1) r1 hf)
noncomputable def b_X6_readComponentItem_65 (x : Int32 × t_S) : Option ((Int32 × t_S) ⊕ (t_S)) := k_X6_readComponentItem_65 x.1 x.2
set_option maxRecDepth 4000 in
set_option maxHeartbeats 1000000 in
theorem LH_X6_readComponentItem_65 {D : va_G} {cy : Nat → ClassId} {ad : Nat → Nat} {bs : Nat} {X : State → Heap → Prop} : ∀ (n : Nat) (y0 : Int32) (y1 : t_S) (Q : t_S → Prop) (hk : t_hk (t_loop (b_X6_readComponentItem_65) n (y0, y1)) Q), mj_G D cy ad bs X cX6_readComponentItem 2 yX6_readComponentItem.cls none yX6_readComponentItem.name 255 0 0 1065 (t_P (fun v s' => v = none ∧ Q (s'))) 65 [(0, .ref 845), (1, .int (y0))] [] (t_m y1) 1065 0 0 := by
  intro n
  induction n with
  | zero => intro y0 y1 Q hk; obtain ⟨r, hr, _⟩ := hk; cases hr
  | succ n ih =>
    intro y0 y1 Q hk
    exact B_X6_readComponentItem_65 y0 y1 (fun y => t_lq (b_X6_readComponentItem_65) n Q y) (fun y0' y1' hy => ih y0' y1' Q hy) (t_lp hk)
noncomputable def f_X6_readComponentItem (s : t_S) : Option (t_S) :=
 (f_X2_advance s).bind (fun r1 =>
 (f_X6_takeName (2 : Int32) (r1.1 428 0) (8 : Int32) r1).bind (fun r2 =>
 if r2.1 = (0 : Int32) then (some (r2.2))
 else (t_let (t_setI r2.2 845 13 (r2.2.1 428 0)) (fun s1 =>
 (f_X5_addKind (s1.1 845 13) s1).bind (fun r3 =>
 (f_X2_advance r3).bind (fun r4 =>
 (f_X2_need (123 : Int32) r4).bind (fun r5 =>
 t_loop (b_X6_readComponentItem_65) t_N (0, r5))))))))
set_option maxRecDepth 4000 in
set_option maxHeartbeats 1000000 in
theorem C_X6_readComponentItem (s : t_S) (r : t_S) (hr : f_X6_readComponentItem s = some r) : t_C yX6_readComponentItem cX6_readComponentItem 2 none 255 [.ref 845] s (fun v s' => v = none ∧ s' = r) := by
  refine t_C.imp (P := fun v s' => v = none ∧ (fun q => q = r) (s')) (t_C.of (by decide +kernel) (Nat.le_of_ble_eq_true rfl) ?_) (fun v s' hp => hp)
  intro D cy ad bs X
  have hk : t_hk (f_X6_readComponentItem s) (fun q => q = r) := ⟨r, hr, rfl⟩
  show mj_G D cy ad bs X cX6_readComponentItem 2 yX6_readComponentItem.cls none yX6_readComponentItem.name 255 0 0 1065 (t_P (fun v s' => v = none ∧ (fun q => q = r) (s'))) 0 [(0, .ref 845)] [] (t_m s) 1065 0 0
  refine mj_aload_n dX6_readComponentItem_0 0 rfl ?_
  refine t_getR 1 dX6_readComponentItem_1 F_X6_28 qr_845_0 ?_
  refine t_bndK hk (fun r1 er1 hk => ?_)
  refine t_callVvE dX6_readComponentItem_4 M_X2_advance (C_X2_advance _ _ er1) ML_X6_170 IM_X2_advance SE_X2_advance qc_1 rfl (As := []) rfl rfl (Nat.le_of_ble_eq_true rfl) (Nat.le_of_ble_eq_true rfl) (Nat.le_of_ble_eq_true rfl) (Nat.le_of_ble_eq_true rfl) ?_
  refine mj_aload_n dX6_readComponentItem_7 0 rfl ?_
  refine mj_iconst (v := 2) dX6_readComponentItem_8 (by decide) ?_
  refine mj_aload_n dX6_readComponentItem_9 0 rfl ?_
  refine t_getR 428 dX6_readComponentItem_10 F_X6_48 qr_845_4 ?_
  refine t_getI dX6_readComponentItem_13 F_X6_205 qf_428_0 ?_
  refine mj_bipush (v := 8) dX6_readComponentItem_16 (by decide) ?_
  refine t_bndK hk (fun r2 er2 hk => ?_)
  refine t_callViE dX6_readComponentItem_18 M_X6_takeName (C_X6_takeName _ _ _ _ _ er2) ML_X6_176 IM_X6_takeName SE_X6_takeName qc_845 rfl (As := [.int 2, .int (r1.1 428 0), .int 8]) rfl rfl (Nat.le_of_ble_eq_true rfl) (Nat.le_of_ble_eq_true rfl) (Nat.le_of_ble_eq_true rfl) (Nat.le_of_ble_eq_true rfl) ?_
  refine mj_if_ne 25 dX6_readComponentItem_21 (by decide) (fun z => t_negK hk z (fun hk => ?_)) (fun z => t_posK hk z (fun hk => ?_))
  · refine mj_aload_n dX6_readComponentItem_25 0 rfl ?_
    refine mj_aload_n dX6_readComponentItem_26 0 rfl ?_
    refine t_getR 428 dX6_readComponentItem_27 F_X6_48 qr_845_4 ?_
    refine t_getI dX6_readComponentItem_30 F_X6_205 qf_428_0 ?_
    refine t_putIK dX6_readComponentItem_33 F_X6_137 qf_845_13 rfl (fun s1 ws1 => t_letE hk ws1 (fun hk => ?_))
    refine mj_aload_n dX6_readComponentItem_36 0 rfl ?_
    refine t_getR 428 dX6_readComponentItem_37 F_X6_48 qr_845_4 ?_
    refine mj_aload_n dX6_readComponentItem_40 0 rfl ?_
    refine t_getI dX6_readComponentItem_41 F_X6_137 qf_845_13 ?_
    refine t_bndK hk (fun r3 er3 hk => ?_)
    refine t_callVvE dX6_readComponentItem_44 M_X5_addKind (C_X5_addKind _ _ _ er3) ML_X6_208 IM_X5_addKind SE_X5_addKind qc_428 rfl (As := [.int (s1.1 845 13)]) rfl rfl (Nat.le_of_ble_eq_true rfl) (Nat.le_of_ble_eq_true rfl) (Nat.le_of_ble_eq_true rfl) (Nat.le_of_ble_eq_true rfl) ?_
    refine mj_aload_n dX6_readComponentItem_47 0 rfl ?_
    refine t_getR 1 dX6_readComponentItem_48 F_X6_28 qr_845_0 ?_
    refine t_bndK hk (fun r4 er4 hk => ?_)
    refine t_callVvE dX6_readComponentItem_51 M_X2_advance (C_X2_advance _ _ er4) ML_X6_170 IM_X2_advance SE_X2_advance qc_1 rfl (As := []) rfl rfl (Nat.le_of_ble_eq_true rfl) (Nat.le_of_ble_eq_true rfl) (Nat.le_of_ble_eq_true rfl) (Nat.le_of_ble_eq_true rfl) ?_
    refine mj_aload_n dX6_readComponentItem_54 0 rfl ?_
    refine t_getR 1 dX6_readComponentItem_55 F_X6_28 qr_845_0 ?_
    refine mj_bipush (v := 123) dX6_readComponentItem_58 (by decide) ?_
    refine t_bndK hk (fun r5 er5 hk => ?_)
    refine t_callVvE dX6_readComponentItem_60 M_X2_need (C_X2_need _ _ _ er5) ML_X6_184 IM_X2_need SE_X2_need qc_1 rfl (As := [.int 123]) rfl rfl (Nat.le_of_ble_eq_true rfl) (Nat.le_of_ble_eq_true rfl) (Nat.le_of_ble_eq_true rfl) (Nat.le_of_ble_eq_true rfl) ?_
    refine mj_iconst (v := 0) dX6_readComponentItem_63 (by decide) ?_
    refine mj_istore_n 1 (lv2 := [(1, .int 0), (0, .ref 845)]) dX6_readComponentItem_64 rfl (by decide) rfl ?_
    refine mj_sublv [(0, .ref 845), (1, .int 0)] [1, 0] rfl ?_
    exact LH_X6_readComponentItem_65 _ 0 r5 _ hk
  · exact t_somK hk (fun hf => t_vret dX6_readComponentItem_24 rfl ⟨rfl, hf⟩ (Nat.le_of_ble_eq_true rfl) (Nat.le_of_ble_eq_true rfl))

theorem dX6_readTemplateItem_0 : decode cX6_readTemplateItem 0 = .ok (.aload_n 0, 1) := by decide +kernel
theorem dX6_readTemplateItem_1 : decode cX6_readTemplateItem 1 = .ok (.getfield 28, 3) := by decide +kernel
theorem dX6_readTemplateItem_100 : decode cX6_readTemplateItem 100 = .ok (.iastore, 1) := by decide +kernel
theorem dX6_readTemplateItem_101 : decode cX6_readTemplateItem 101 = .ok (.aload_n 2, 1) := by decide +kernel
theorem dX6_readTemplateItem_102 : decode cX6_readTemplateItem 102 = .ok (.iconst 0, 1) := by decide +kernel
theorem dX6_readTemplateItem_103 : decode cX6_readTemplateItem 103 = .ok (.aload_n 0, 1) := by decide +kernel
theorem dX6_readTemplateItem_104 : decode cX6_readTemplateItem 104 = .ok (.iconst 0, 1) := by decide +kernel
theorem dX6_readTemplateItem_105 : decode cX6_readTemplateItem 105 = .ok (.iconst 1, 1) := by decide +kernel
theorem dX6_readTemplateItem_106 : decode cX6_readTemplateItem 106 = .ok (.invokevirtual 198, 3) := by decide +kernel
theorem dX6_readTemplateItem_109 : decode cX6_readTemplateItem 109 = .ok (.iastore, 1) := by decide +kernel
theorem dX6_readTemplateItem_11 : decode cX6_readTemplateItem 11 = .ok (.getfield 193, 3) := by decide +kernel
theorem dX6_readTemplateItem_110 : decode cX6_readTemplateItem 110 = .ok (.aload_n 2, 1) := by decide +kernel
theorem dX6_readTemplateItem_111 : decode cX6_readTemplateItem 111 = .ok (.iconst 4, 1) := by decide +kernel
theorem dX6_readTemplateItem_112 : decode cX6_readTemplateItem 112 = .ok (.aload_n 0, 1) := by decide +kernel
theorem dX6_readTemplateItem_113 : decode cX6_readTemplateItem 113 = .ok (.getfield 38, 3) := by decide +kernel
theorem dX6_readTemplateItem_116 : decode cX6_readTemplateItem 116 = .ok (.getfield 112, 3) := by decide +kernel
theorem dX6_readTemplateItem_119 : decode cX6_readTemplateItem 119 = .ok (.iastore, 1) := by decide +kernel
theorem dX6_readTemplateItem_120 : decode cX6_readTemplateItem 120 = .ok (.aload_n 0, 1) := by decide +kernel
theorem dX6_readTemplateItem_121 : decode cX6_readTemplateItem 121 = .ok (.getfield 43, 3) := by decide +kernel
theorem dX6_readTemplateItem_124 : decode cX6_readTemplateItem 124 = .ok (.iconst 0, 1) := by decide +kernel
theorem dX6_readTemplateItem_125 : decode cX6_readTemplateItem 125 = .ok (.iconst 0, 1) := by decide +kernel
theorem dX6_readTemplateItem_126 : decode cX6_readTemplateItem 126 = .ok (.invokevirtual 202, 3) := by decide +kernel
theorem dX6_readTemplateItem_129 : decode cX6_readTemplateItem 129 = .ok (.pop, 1) := by decide +kernel
theorem dX6_readTemplateItem_130 : decode cX6_readTemplateItem 130 = .ok (.aload_n 0, 1) := by decide +kernel
theorem dX6_readTemplateItem_131 : decode cX6_readTemplateItem 131 = .ok (.iconst 0, 1) := by decide +kernel
theorem dX6_readTemplateItem_132 : decode cX6_readTemplateItem 132 = .ok (.putfield 116, 3) := by decide +kernel
theorem dX6_readTemplateItem_135 : decode cX6_readTemplateItem 135 = .ok (.aload_n 0, 1) := by decide +kernel
theorem dX6_readTemplateItem_136 : decode cX6_readTemplateItem 136 = .ok (.getfield 28, 3) := by decide +kernel
theorem dX6_readTemplateItem_139 : decode cX6_readTemplateItem 139 = .ok (.bipush 59, 2) := by decide +kernel
theorem dX6_readTemplateItem_14 : decode cX6_readTemplateItem 14 = .ok (.istore_n 1, 1) := by decide +kernel
theorem dX6_readTemplateItem_141 : decode cX6_readTemplateItem 141 = .ok (.invokevirtual 184, 3) := by decide +kernel
theorem dX6_readTemplateItem_144 : decode cX6_readTemplateItem 144 = .ok (.return_, 1) := by decide +kernel
theorem dX6_readTemplateItem_15 : decode cX6_readTemplateItem 15 = .ok (.aload_n 0, 1) := by decide +kernel
theorem dX6_readTemplateItem_16 : decode cX6_readTemplateItem 16 = .ok (.iconst 1, 1) := by decide +kernel
theorem dX6_readTemplateItem_17 : decode cX6_readTemplateItem 17 = .ok (.iload_n 1, 1) := by decide +kernel
theorem dX6_readTemplateItem_18 : decode cX6_readTemplateItem 18 = .ok (.bipush 60, 2) := by decide +kernel
theorem dX6_readTemplateItem_20 : decode cX6_readTemplateItem 20 = .ok (.invokevirtual 176, 3) := by decide +kernel
theorem dX6_readTemplateItem_23 : decode cX6_readTemplateItem 23 = .ok (.ifCond .ne 4, 3) := by decide +kernel
theorem dX6_readTemplateItem_26 : decode cX6_readTemplateItem 26 = .ok (.return_, 1) := by decide +kernel
theorem dX6_readTemplateItem_27 : decode cX6_readTemplateItem 27 = .ok (.aload_n 0, 1) := by decide +kernel
theorem dX6_readTemplateItem_28 : decode cX6_readTemplateItem 28 = .ok (.getfield 38, 3) := by decide +kernel
theorem dX6_readTemplateItem_31 : decode cX6_readTemplateItem 31 = .ok (.getfield 194, 3) := by decide +kernel
theorem dX6_readTemplateItem_34 : decode cX6_readTemplateItem 34 = .ok (.iload_n 1, 1) := by decide +kernel
theorem dX6_readTemplateItem_35 : decode cX6_readTemplateItem 35 = .ok (.aaload, 1) := by decide +kernel
theorem dX6_readTemplateItem_36 : decode cX6_readTemplateItem 36 = .ok (.astore_n 2, 1) := by decide +kernel
theorem dX6_readTemplateItem_37 : decode cX6_readTemplateItem 37 = .ok (.aload_n 2, 1) := by decide +kernel
theorem dX6_readTemplateItem_38 : decode cX6_readTemplateItem 38 = .ok (.iconst 1, 1) := by decide +kernel
theorem dX6_readTemplateItem_39 : decode cX6_readTemplateItem 39 = .ok (.aload_n 0, 1) := by decide +kernel
theorem dX6_readTemplateItem_4 : decode cX6_readTemplateItem 4 = .ok (.invokevirtual 170, 3) := by decide +kernel
theorem dX6_readTemplateItem_40 : decode cX6_readTemplateItem 40 = .ok (.getfield 28, 3) := by decide +kernel
theorem dX6_readTemplateItem_43 : decode cX6_readTemplateItem 43 = .ok (.getfield 183, 3) := by decide +kernel
theorem dX6_readTemplateItem_46 : decode cX6_readTemplateItem 46 = .ok (.iastore, 1) := by decide +kernel
theorem dX6_readTemplateItem_47 : decode cX6_readTemplateItem 47 = .ok (.aload_n 0, 1) := by decide +kernel
theorem dX6_readTemplateItem_48 : decode cX6_readTemplateItem 48 = .ok (.getfield 38, 3) := by decide +kernel
theorem dX6_readTemplateItem_51 : decode cX6_readTemplateItem 51 = .ok (.dup, 1) := by decide +kernel
theorem dX6_readTemplateItem_52 : decode cX6_readTemplateItem 52 = .ok (.getfield 193, 3) := by decide +kernel
theorem dX6_readTemplateItem_55 : decode cX6_readTemplateItem 55 = .ok (.iconst 1, 1) := by decide +kernel
theorem dX6_readTemplateItem_56 : decode cX6_readTemplateItem 56 = .ok (.iadd, 1) := by decide +kernel
theorem dX6_readTemplateItem_57 : decode cX6_readTemplateItem 57 = .ok (.putfield 193, 3) := by decide +kernel
theorem dX6_readTemplateItem_60 : decode cX6_readTemplateItem 60 = .ok (.aload_n 0, 1) := by decide +kernel
theorem dX6_readTemplateItem_61 : decode cX6_readTemplateItem 61 = .ok (.getfield 28, 3) := by decide +kernel
theorem dX6_readTemplateItem_64 : decode cX6_readTemplateItem 64 = .ok (.invokevirtual 170, 3) := by decide +kernel
theorem dX6_readTemplateItem_67 : decode cX6_readTemplateItem 67 = .ok (.aload_n 0, 1) := by decide +kernel
theorem dX6_readTemplateItem_68 : decode cX6_readTemplateItem 68 = .ok (.getfield 28, 3) := by decide +kernel
theorem dX6_readTemplateItem_7 : decode cX6_readTemplateItem 7 = .ok (.aload_n 0, 1) := by decide +kernel
theorem dX6_readTemplateItem_71 : decode cX6_readTemplateItem 71 = .ok (.bipush 61, 2) := by decide +kernel
theorem dX6_readTemplateItem_73 : decode cX6_readTemplateItem 73 = .ok (.invokevirtual 184, 3) := by decide +kernel
theorem dX6_readTemplateItem_76 : decode cX6_readTemplateItem 76 = .ok (.aload_n 0, 1) := by decide +kernel
theorem dX6_readTemplateItem_77 : decode cX6_readTemplateItem 77 = .ok (.iconst 1, 1) := by decide +kernel
theorem dX6_readTemplateItem_78 : decode cX6_readTemplateItem 78 = .ok (.putfield 116, 3) := by decide +kernel
theorem dX6_readTemplateItem_8 : decode cX6_readTemplateItem 8 = .ok (.getfield 38, 3) := by decide +kernel
theorem dX6_readTemplateItem_81 : decode cX6_readTemplateItem 81 = .ok (.aload_n 2, 1) := by decide +kernel
theorem dX6_readTemplateItem_82 : decode cX6_readTemplateItem 82 = .ok (.iconst 2, 1) := by decide +kernel
theorem dX6_readTemplateItem_83 : decode cX6_readTemplateItem 83 = .ok (.aload_n 0, 1) := by decide +kernel
theorem dX6_readTemplateItem_84 : decode cX6_readTemplateItem 84 = .ok (.getfield 43, 3) := by decide +kernel
theorem dX6_readTemplateItem_87 : decode cX6_readTemplateItem 87 = .ok (.getfield 64, 3) := by decide +kernel
theorem dX6_readTemplateItem_90 : decode cX6_readTemplateItem 90 = .ok (.iastore, 1) := by decide +kernel
theorem dX6_readTemplateItem_91 : decode cX6_readTemplateItem 91 = .ok (.aload_n 2, 1) := by decide +kernel
theorem dX6_readTemplateItem_92 : decode cX6_readTemplateItem 92 = .ok (.iconst 3, 1) := by decide +kernel
theorem dX6_readTemplateItem_93 : decode cX6_readTemplateItem 93 = .ok (.aload_n 0, 1) := by decide +kernel
theorem dX6_readTemplateItem_94 : decode cX6_readTemplateItem 94 = .ok (.getfield 38, 3) := by decide +kernel
theorem dX6_readTemplateItem_97 : decode cX6_readTemplateItem 97 = .ok (.getfield 112, 3) := by decide +kernel
noncomputable def f_X6_readTemplateItem (s : t_S) : Option (t_S) :=
 (f_X2_advance s).bind (fun r1 =>
 (f_X6_takeName (1 : Int32) (r1.1 353 11) (60 : Int32) r1).bind (fun r2 =>
 if r2.1 = (0 : Int32) then (some (r2.2))
 else (if t_ix (r1.1 353 11) 60 = true then
  t_let (t_setI r2.2 (364 + 1 * ((r1.1 353 11).toNatClampNeg)) ((1 : Int32).toNatClampNeg) (r2.2.1 1 9)) (fun s1 =>
 t_let (t_setI s1 353 11 ((s1.1 353 11) + (1 : Int32))) (fun s2 =>
 (f_X2_advance s2).bind (fun r4 =>
 (f_X2_need (61 : Int32) r4).bind (fun r5 =>
 t_let (t_setI r5 845 15 (1 : Int32)) (fun s3 =>
 t_let (t_setI s3 (364 + 1 * ((r1.1 353 11).toNatClampNeg)) ((2 : Int32).toNatClampNeg) (s3.1 334 2)) (fun s4 =>
 t_let (t_setI s4 (364 + 1 * ((r1.1 353 11).toNatClampNeg)) ((3 : Int32).toNatClampNeg) (s4.1 353 9)) (fun s5 =>
 (f_X6_readTempl (0 : Int32) (1 : Int32) s5).bind (fun r6 =>
 t_let (t_setI r6.2 (364 + 1 * ((r1.1 353 11).toNatClampNeg)) ((0 : Int32).toNatClampNeg) r6.1) (fun s6 =>
 t_let (t_setI s6 (364 + 1 * ((r1.1 353 11).toNatClampNeg)) ((4 : Int32).toNatClampNeg) (s6.1 353 9)) (fun s7 =>
 (f_X0_emit (0 : Int32) (0 : Int32) s7).bind (fun r7 =>
 t_let (t_setI r7.2 845 15 (0 : Int32)) (fun s8 =>
 (f_X2_need (59 : Int32) s8).bind (fun r8 =>
 some (r8))))))))))))))
else none)))
set_option maxRecDepth 4000 in
set_option maxHeartbeats 1000000 in
theorem C_X6_readTemplateItem (s : t_S) (r : t_S) (hr : f_X6_readTemplateItem s = some r) : t_C yX6_readTemplateItem cX6_readTemplateItem 3 none 254 [.ref 845] s (fun v s' => v = none ∧ s' = r) := by
  refine t_C.imp (P := fun v s' => v = none ∧ (fun q => q = r) (s')) (t_C.of (by decide +kernel) (Nat.le_of_ble_eq_true rfl) ?_) (fun v s' hp => hp)
  intro D cy ad bs X
  have hk : t_hk (f_X6_readTemplateItem s) (fun q => q = r) := ⟨r, hr, rfl⟩
  show mj_G D cy ad bs X cX6_readTemplateItem 3 yX6_readTemplateItem.cls none yX6_readTemplateItem.name 254 0 0 1065 (t_P (fun v s' => v = none ∧ (fun q => q = r) (s'))) 0 [(0, .ref 845)] [] (t_m s) 1065 0 0
  refine mj_aload_n dX6_readTemplateItem_0 0 rfl ?_
  refine t_getR 1 dX6_readTemplateItem_1 F_X6_28 qr_845_0 ?_
  refine t_bndK hk (fun r1 er1 hk => ?_)
  refine t_callVvE dX6_readTemplateItem_4 M_X2_advance (C_X2_advance _ _ er1) ML_X6_170 IM_X2_advance SE_X2_advance qc_1 rfl (As := []) rfl rfl (Nat.le_of_ble_eq_true rfl) (Nat.le_of_ble_eq_true rfl) (Nat.le_of_ble_eq_true rfl) (Nat.le_of_ble_eq_true rfl) ?_
  refine mj_aload_n dX6_readTemplateItem_7 0 rfl ?_
  refine t_getR 353 dX6_readTemplateItem_8 F_X6_38 qr_845_2 ?_
  refine t_getI dX6_readTemplateItem_11 F_X6_193 qf_353_11 ?_
  refine mj_istore_n 1 (lv2 := [(1, .int (r1.1 353 11)), (0, .ref 845)]) dX6_readTemplateItem_14 rfl (by decide) rfl ?_
  refine mj_aload_n dX6_readTemplateItem_15 1 rfl ?_
  refine mj_iconst (v := 1) dX6_readTemplateItem_16 (by decide) ?_
  refine mj_iload_n dX6_readTemplateItem_17 0 rfl ?_
  refine mj_bipush (v := 60) dX6_readTemplateItem_18 (by decide) ?_
  refine t_bndK hk (fun r2 er2 hk => ?_)
  refine t_callViE dX6_readTemplateItem_20 M_X6_takeName (C_X6_takeName _ _ _ _ _ er2) ML_X6_176 IM_X6_takeName SE_X6_takeName qc_845 rfl (As := [.int 1, .int (r1.1 353 11), .int 60]) rfl rfl (Nat.le_of_ble_eq_true rfl) (Nat.le_of_ble_eq_true rfl) (Nat.le_of_ble_eq_true rfl) (Nat.le_of_ble_eq_true rfl) ?_
  refine mj_if_ne 27 dX6_readTemplateItem_23 (by decide) (fun z => t_negK hk z (fun hk => ?_)) (fun z => t_posK hk z (fun hk => ?_))
  · refine mj_aload_n dX6_readTemplateItem_27 1 rfl ?_
    refine t_getR 353 dX6_readTemplateItem_28 F_X6_38 qr_845_2 ?_
    refine t_getR 363 dX6_readTemplateItem_31 F_X6_194 qr_353_10 ?_
    refine mj_iload_n dX6_readTemplateItem_34 0 rfl ?_
    refine t_chkK hk (fun c2 hk => ?_)
    refine t_aaldI dX6_readTemplateItem_35 qq_363 (t_ixv c2) ?_
    refine mj_astore_n 2 (lv2 := [(2, .ref (364 + 1 * ((r1.1 353 11).toNatClampNeg))), (1, .int (r1.1 353 11)), (0, .ref 845)]) dX6_readTemplateItem_36 rfl (by decide) rfl ?_
    refine mj_aload_n dX6_readTemplateItem_37 0 rfl ?_
    refine mj_iconst (v := 1) dX6_readTemplateItem_38 (by decide) ?_
    refine mj_aload_n dX6_readTemplateItem_39 2 rfl ?_
    refine t_getR 1 dX6_readTemplateItem_40 F_X6_28 qr_845_0 ?_
    refine t_getI dX6_readTemplateItem_43 F_X6_183 qf_1_9 ?_
    refine t_iastK dX6_readTemplateItem_46 (t_row364 (t_ixn c2)) (by unfold vp_in; decide) (fun s1 ws1 => t_letE hk ws1 (fun hk => ?_))
    refine mj_aload_n dX6_readTemplateItem_47 2 rfl ?_
    refine t_getR 353 dX6_readTemplateItem_48 F_X6_38 qr_845_2 ?_
    refine mj_dup dX6_readTemplateItem_51 rfl ?_
    refine t_getI dX6_readTemplateItem_52 F_X6_193 qf_353_11 ?_
    refine mj_iconst (v := 1) dX6_readTemplateItem_55 (by decide) ?_
    refine mj_iadd dX6_readTemplateItem_56 ?_
    refine t_putIK dX6_readTemplateItem_57 F_X6_193 qf_353_11 rfl (fun s2 ws2 => t_letE hk ws2 (fun hk => ?_))
    refine mj_aload_n dX6_readTemplateItem_60 2 rfl ?_
    refine t_getR 1 dX6_readTemplateItem_61 F_X6_28 qr_845_0 ?_
    refine t_bndK hk (fun r4 er4 hk => ?_)
    refine t_callVvE dX6_readTemplateItem_64 M_X2_advance (C_X2_advance _ _ er4) ML_X6_170 IM_X2_advance SE_X2_advance qc_1 rfl (As := []) rfl rfl (Nat.le_of_ble_eq_true rfl) (Nat.le_of_ble_eq_true rfl) (Nat.le_of_ble_eq_true rfl) (Nat.le_of_ble_eq_true rfl) ?_
    refine mj_aload_n dX6_readTemplateItem_67 2 rfl ?_
    refine t_getR 1 dX6_readTemplateItem_68 F_X6_28 qr_845_0 ?_
    refine mj_bipush (v := 61) dX6_readTemplateItem_71 (by decide) ?_
    refine t_bndK hk (fun r5 er5 hk => ?_)
    refine t_callVvE dX6_readTemplateItem_73 M_X2_need (C_X2_need _ _ _ er5) ML_X6_184 IM_X2_need SE_X2_need qc_1 rfl (As := [.int 61]) rfl rfl (Nat.le_of_ble_eq_true rfl) (Nat.le_of_ble_eq_true rfl) (Nat.le_of_ble_eq_true rfl) (Nat.le_of_ble_eq_true rfl) ?_
    refine mj_aload_n dX6_readTemplateItem_76 2 rfl ?_
    refine mj_iconst (v := 1) dX6_readTemplateItem_77 (by decide) ?_
    refine t_putIK dX6_readTemplateItem_78 F_X6_116 qf_845_15 (by decide) (fun s3 ws3 => t_letE hk ws3 (fun hk => ?_))
    refine mj_aload_n dX6_readTemplateItem_81 0 rfl ?_
    refine mj_iconst (v := 2) dX6_readTemplateItem_82 (by decide) ?_
    refine mj_aload_n dX6_readTemplateItem_83 2 rfl ?_
    refine t_getR 334 dX6_readTemplateItem_84 F_X6_43 qr_845_3 ?_
    refine t_getI dX6_readTemplateItem_87 F_X6_64 qf_334_2 ?_
    refine t_iastK dX6_readTemplateItem_90 (t_row364 (t_ixn c2)) (by unfold vp_in; decide) (fun s4 ws4 => t_letE hk ws4 (fun hk => ?_))
    refine mj_aload_n dX6_readTemplateItem_91 0 rfl ?_
    refine mj_iconst (v := 3) dX6_readTemplateItem_92 (by decide) ?_
    refine mj_aload_n dX6_readTemplateItem_93 2 rfl ?_
    refine t_getR 353 dX6_readTemplateItem_94 F_X6_38 qr_845_2 ?_
    refine t_getI dX6_readTemplateItem_97 F_X6_112 qf_353_9 ?_
    refine t_iastK dX6_readTemplateItem_100 (t_row364 (t_ixn c2)) (by unfold vp_in; decide) (fun s5 ws5 => t_letE hk ws5 (fun hk => ?_))
    refine mj_aload_n dX6_readTemplateItem_101 0 rfl ?_
    refine mj_iconst (v := 0) dX6_readTemplateItem_102 (by decide) ?_
    refine mj_aload_n dX6_readTemplateItem_103 2 rfl ?_
    refine mj_iconst (v := 0) dX6_readTemplateItem_104 (by decide) ?_
    refine mj_iconst (v := 1) dX6_readTemplateItem_105 (by decide) ?_
    refine t_bndK hk (fun r6 er6 hk => ?_)
    refine t_callViE dX6_readTemplateItem_106 M_X6_readTempl (C_X6_readTempl _ _ _ _ er6) ML_X6_198 IM_X6_readTempl SE_X6_readTempl qc_845 rfl (As := [.int 0, .int 1]) rfl rfl (Nat.le_of_ble_eq_true rfl) (Nat.le_of_ble_eq_true rfl) (Nat.le_of_ble_eq_true rfl) (Nat.le_of_ble_eq_true rfl) ?_
    refine t_iastK dX6_readTemplateItem_109 (t_row364 (t_ixn c2)) (by unfold vp_in; decide) (fun s6 ws6 => t_letE hk ws6 (fun hk => ?_))
    refine mj_aload_n dX6_readTemplateItem_110 0 rfl ?_
    refine mj_iconst (v := 4) dX6_readTemplateItem_111 (by decide) ?_
    refine mj_aload_n dX6_readTemplateItem_112 2 rfl ?_
    refine t_getR 353 dX6_readTemplateItem_113 F_X6_38 qr_845_2 ?_
    refine t_getI dX6_readTemplateItem_116 F_X6_112 qf_353_9 ?_
    refine t_iastK dX6_readTemplateItem_119 (t_row364 (t_ixn c2)) (by unfold vp_in; decide) (fun s7 ws7 => t_letE hk ws7 (fun hk => ?_))
    refine mj_aload_n dX6_readTemplateItem_120 2 rfl ?_
    refine t_getR 334 dX6_readTemplateItem_121 F_X6_43 qr_845_3 ?_
    refine mj_iconst (v := 0) dX6_readTemplateItem_124 (by decide) ?_
    refine mj_iconst (v := 0) dX6_readTemplateItem_125 (by decide) ?_
    refine t_bndK hk (fun r7 er7 hk => ?_)
    refine t_callViE dX6_readTemplateItem_126 M_X0_emit (C_X0_emit _ _ _ _ er7) ML_X6_202 IM_X0_emit SE_X0_emit qc_334 rfl (As := [.int 0, .int 0]) rfl rfl (Nat.le_of_ble_eq_true rfl) (Nat.le_of_ble_eq_true rfl) (Nat.le_of_ble_eq_true rfl) (Nat.le_of_ble_eq_true rfl) ?_
    refine mj_pop dX6_readTemplateItem_129 rfl ?_
    refine mj_aload_n dX6_readTemplateItem_130 2 rfl ?_
    refine mj_iconst (v := 0) dX6_readTemplateItem_131 (by decide) ?_
    refine t_putIK dX6_readTemplateItem_132 F_X6_116 qf_845_15 (by decide) (fun s8 ws8 => t_letE hk ws8 (fun hk => ?_))
    refine mj_aload_n dX6_readTemplateItem_135 2 rfl ?_
    refine t_getR 1 dX6_readTemplateItem_136 F_X6_28 qr_845_0 ?_
    refine mj_bipush (v := 59) dX6_readTemplateItem_139 (by decide) ?_
    refine t_bndK hk (fun r8 er8 hk => ?_)
    refine t_callVvE dX6_readTemplateItem_141 M_X2_need (C_X2_need _ _ _ er8) ML_X6_184 IM_X2_need SE_X2_need qc_1 rfl (As := [.int 59]) rfl rfl (Nat.le_of_ble_eq_true rfl) (Nat.le_of_ble_eq_true rfl) (Nat.le_of_ble_eq_true rfl) (Nat.le_of_ble_eq_true rfl) ?_
    exact t_somK hk (fun hf => t_vret dX6_readTemplateItem_144 rfl ⟨rfl, hf⟩ (Nat.le_of_ble_eq_true rfl) (Nat.le_of_ble_eq_true rfl))
  · exact t_somK hk (fun hf => t_vret dX6_readTemplateItem_26 rfl ⟨rfl, hf⟩ (Nat.le_of_ble_eq_true rfl) (Nat.le_of_ble_eq_true rfl))

theorem dX6_beginsType_0 : decode cX6_beginsType 0 = .ok (.iload_n 0, 1) := by decide +kernel
theorem dX6_beginsType_1 : decode cX6_beginsType 1 = .ok (.sipush 210, 3) := by decide +kernel
theorem dX6_beginsType_11 : decode cX6_beginsType 11 = .ok (.if_icmp .le 8, 3) := by decide +kernel
theorem dX6_beginsType_14 : decode cX6_beginsType 14 = .ok (.iload_n 0, 1) := by decide +kernel
theorem dX6_beginsType_15 : decode cX6_beginsType 15 = .ok (.iconst 1, 1) := by decide +kernel
theorem dX6_beginsType_16 : decode cX6_beginsType 16 = .ok (.if_icmp .ne 7, 3) := by decide +kernel
theorem dX6_beginsType_19 : decode cX6_beginsType 19 = .ok (.iconst 1, 1) := by decide +kernel
theorem dX6_beginsType_20 : decode cX6_beginsType 20 = .ok (.goto 4, 3) := by decide +kernel
theorem dX6_beginsType_23 : decode cX6_beginsType 23 = .ok (.iconst 0, 1) := by decide +kernel
theorem dX6_beginsType_24 : decode cX6_beginsType 24 = .ok (.ireturn, 1) := by decide +kernel
theorem dX6_beginsType_4 : decode cX6_beginsType 4 = .ok (.if_icmp .lt 10, 3) := by decide +kernel
theorem dX6_beginsType_7 : decode cX6_beginsType 7 = .ok (.iload_n 0, 1) := by decide +kernel
theorem dX6_beginsType_8 : decode cX6_beginsType 8 = .ok (.sipush 216, 3) := by decide +kernel
noncomputable def k_X6_beginsType_19 (s : t_S) : Int32 :=
 (1 : Int32)
set_option maxRecDepth 4000 in
set_option maxHeartbeats 1000000 in
theorem B_X6_beginsType_19 {D : va_G} {cy : Nat → ClassId} {ad : Nat → Nat} {bs : Nat} {X : State → Heap → Prop} (s : t_S) (Q : Int32 → Prop) (hk : t_ht (k_X6_beginsType_19 s) Q) : mj_G D cy ad bs X cX6_beginsType 1 yX6_beginsType.cls (some .boolean) yX6_beginsType.name 0 0 0 1065 (t_P (fun v s' => s' = s ∧ ∃ x, v = some (.int x) ∧ Q (x))) 19 [] [] (t_m s) 1065 0 0 := by
  refine mj_iconst (v := 1) dX6_beginsType_19 (by decide) ?_
  refine mj_goto 24 dX6_beginsType_20 (by decide) ?_
  exact t_iret dX6_beginsType_24 rfl (by decide) ⟨rfl, _, rfl, hk⟩ (Nat.le_of_ble_eq_true rfl) (Nat.le_of_ble_eq_true rfl)
noncomputable def k_X6_beginsType_14 (l0 : Int32) (s : t_S) : Int32 :=
 if l0 = (1 : Int32) then (k_X6_beginsType_19 s)
 else ((0 : Int32))
set_option maxRecDepth 4000 in
set_option maxHeartbeats 1000000 in
theorem B_X6_beginsType_14 {D : va_G} {cy : Nat → ClassId} {ad : Nat → Nat} {bs : Nat} {X : State → Heap → Prop} (l0 : Int32) (s : t_S) (Q : Int32 → Prop) (hk : t_ht (k_X6_beginsType_14 l0 s) Q) : mj_G D cy ad bs X cX6_beginsType 1 yX6_beginsType.cls (some .boolean) yX6_beginsType.name 0 0 0 1065 (t_P (fun v s' => s' = s ∧ ∃ x, v = some (.int x) ∧ Q (x))) 14 [(0, .int l0)] [] (t_m s) 1065 0 0 := by
  refine mj_iload_n dX6_beginsType_14 0 rfl ?_
  refine mj_iconst (v := 1) dX6_beginsType_15 (by decide) ?_
  refine mj_icmp_ne 23 dX6_beginsType_16 (by decide) (fun z => t_negTK hk z (fun hk => ?_)) (fun z => t_posTK hk z (fun hk => ?_))
  · refine mj_iconst (v := 0) dX6_beginsType_23 (by decide) ?_
    exact t_iret dX6_beginsType_24 rfl (by decide) ⟨rfl, _, rfl, hk⟩ (Nat.le_of_ble_eq_true rfl) (Nat.le_of_ble_eq_true rfl)
  · refine mj_sublv [] [] rfl ?_
    exact B_X6_beginsType_19 _ _ hk
noncomputable def f_X6_beginsType (x1 : Int32) (s : t_S) : Int32 :=
 if x1 < (210 : Int32) then (k_X6_beginsType_14 x1 s)
 else (if x1 ≤ (216 : Int32) then (k_X6_beginsType_19 s)
 else (k_X6_beginsType_14 x1 s))
set_option maxRecDepth 4000 in
set_option maxHeartbeats 1000000 in
theorem C_X6_beginsType (x1 : Int32) (s : t_S) : t_C yX6_beginsType cX6_beginsType 1 (some .boolean) 0 [.int x1] s (fun v s' => v = some (.int (f_X6_beginsType x1 s)) ∧ s' = s) := by
  refine t_C.imp (P := fun v s' => s' = s ∧ ∃ x, v = some (.int x) ∧ (fun r => r = f_X6_beginsType x1 s) (x)) (t_C.of (by decide +kernel) (Nat.le_of_ble_eq_true rfl) ?_) (fun v s' hp => by obtain ⟨rfl, x, rfl, rfl⟩ := hp; exact ⟨rfl, rfl⟩)
  intro D cy ad bs X
  have hk : t_ht (f_X6_beginsType x1 s) (fun r => r = f_X6_beginsType x1 s) := rfl
  show mj_G D cy ad bs X cX6_beginsType 1 yX6_beginsType.cls (some .boolean) yX6_beginsType.name 0 0 0 1065 (t_P (fun v s' => s' = s ∧ ∃ x, v = some (.int x) ∧ (fun r => r = f_X6_beginsType x1 s) (x))) 0 [(0, .int x1)] [] (t_m s) 1065 0 0
  refine mj_iload_n dX6_beginsType_0 0 rfl ?_
  refine mj_sipush (v := 210) dX6_beginsType_1 (by decide) ?_
  refine mj_icmp_lt 14 dX6_beginsType_4 (by decide) (fun z => t_posTK hk z (fun hk => ?_)) (fun z => t_negTK hk z (fun hk => ?_))
  · exact B_X6_beginsType_14 _ _ _ hk
  · refine mj_iload_n dX6_beginsType_7 0 rfl ?_
    refine mj_sipush (v := 216) dX6_beginsType_8 (by decide) ?_
    refine mj_icmp_le 19 dX6_beginsType_11 (by decide) (fun z => t_posTK hk z (fun hk => ?_)) (fun z => t_negTK hk z (fun hk => ?_))
    · refine mj_sublv [] [] rfl ?_
      exact B_X6_beginsType_19 _ _ hk
    · exact B_X6_beginsType_14 _ _ _ hk

