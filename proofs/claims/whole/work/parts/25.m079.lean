/-! Methods as functions, 79: X13_checkNode -/
theorem qa_1005 : t_oka 1005 1 60 = true := by decide +kernel
theorem qr_950_92 : t_okr 950 13 92 1005 = true := by decide +kernel
theorem dX13_checkNode_0 : decode cX13_checkNode 0 = .ok (.aload_n 0, 1) := by decide +kernel
theorem dX13_checkNode_1 : decode cX13_checkNode 1 = .ok (.getfield 26, 3) := by decide +kernel
theorem dX13_checkNode_102 : decode cX13_checkNode 102 = .ok (.iload_n 1, 1) := by decide +kernel
theorem dX13_checkNode_103 : decode cX13_checkNode 103 = .ok (.laload, 1) := by decide +kernel
theorem dX13_checkNode_104 : decode cX13_checkNode 104 = .ok (.l2i, 1) := by decide +kernel
theorem dX13_checkNode_105 : decode cX13_checkNode 105 = .ok (.invokevirtual 788, 3) := by decide +kernel
theorem dX13_checkNode_108 : decode cX13_checkNode 108 = .ok (.ifCond .ge 257, 3) := by decide +kernel
theorem dX13_checkNode_111 : decode cX13_checkNode 111 = .ok (.aload_n 0, 1) := by decide +kernel
theorem dX13_checkNode_112 : decode cX13_checkNode 112 = .ok (.iconst 4, 1) := by decide +kernel
theorem dX13_checkNode_113 : decode cX13_checkNode 113 = .ok (.aload_n 0, 1) := by decide +kernel
theorem dX13_checkNode_114 : decode cX13_checkNode 114 = .ok (.getfield 29, 3) := by decide +kernel
theorem dX13_checkNode_117 : decode cX13_checkNode 117 = .ok (.iload_n 1, 1) := by decide +kernel
theorem dX13_checkNode_118 : decode cX13_checkNode 118 = .ok (.iaload, 1) := by decide +kernel
theorem dX13_checkNode_119 : decode cX13_checkNode 119 = .ok (.invokevirtual 795, 3) := by decide +kernel
theorem dX13_checkNode_122 : decode cX13_checkNode 122 = .ok (.goto 243, 3) := by decide +kernel
theorem dX13_checkNode_125 : decode cX13_checkNode 125 = .ok (.aload_n 0, 1) := by decide +kernel
theorem dX13_checkNode_126 : decode cX13_checkNode 126 = .ok (.aload_n 0, 1) := by decide +kernel
theorem dX13_checkNode_127 : decode cX13_checkNode 127 = .ok (.getfield 63, 3) := by decide +kernel
theorem dX13_checkNode_130 : decode cX13_checkNode 130 = .ok (.iconst 0, 1) := by decide +kernel
theorem dX13_checkNode_131 : decode cX13_checkNode 131 = .ok (.aload_n 0, 1) := by decide +kernel
theorem dX13_checkNode_132 : decode cX13_checkNode 132 = .ok (.getfield 627, 3) := by decide +kernel
theorem dX13_checkNode_135 : decode cX13_checkNode 135 = .ok (.aload_n 0, 1) := by decide +kernel
theorem dX13_checkNode_136 : decode cX13_checkNode 136 = .ok (.getfield 32, 3) := by decide +kernel
theorem dX13_checkNode_139 : decode cX13_checkNode 139 = .ok (.iload_n 1, 1) := by decide +kernel
theorem dX13_checkNode_140 : decode cX13_checkNode 140 = .ok (.laload, 1) := by decide +kernel
theorem dX13_checkNode_141 : decode cX13_checkNode 141 = .ok (.l2i, 1) := by decide +kernel
theorem dX13_checkNode_142 : decode cX13_checkNode 142 = .ok (.invokevirtual 788, 3) := by decide +kernel
theorem dX13_checkNode_145 : decode cX13_checkNode 145 = .ok (.ifCond .ge 220, 3) := by decide +kernel
theorem dX13_checkNode_148 : decode cX13_checkNode 148 = .ok (.aload_n 0, 1) := by decide +kernel
theorem dX13_checkNode_149 : decode cX13_checkNode 149 = .ok (.aload_n 0, 1) := by decide +kernel
theorem dX13_checkNode_150 : decode cX13_checkNode 150 = .ok (.getfield 32, 3) := by decide +kernel
theorem dX13_checkNode_153 : decode cX13_checkNode 153 = .ok (.iload_n 1, 1) := by decide +kernel
theorem dX13_checkNode_154 : decode cX13_checkNode 154 = .ok (.laload, 1) := by decide +kernel
theorem dX13_checkNode_155 : decode cX13_checkNode 155 = .ok (.l2i, 1) := by decide +kernel
theorem dX13_checkNode_156 : decode cX13_checkNode 156 = .ok (.invokevirtual 798, 3) := by decide +kernel
theorem dX13_checkNode_159 : decode cX13_checkNode 159 = .ok (.ifCond .ne 206, 3) := by decide +kernel
theorem dX13_checkNode_162 : decode cX13_checkNode 162 = .ok (.aload_n 0, 1) := by decide +kernel
theorem dX13_checkNode_163 : decode cX13_checkNode 163 = .ok (.iconst 4, 1) := by decide +kernel
theorem dX13_checkNode_164 : decode cX13_checkNode 164 = .ok (.aload_n 0, 1) := by decide +kernel
theorem dX13_checkNode_165 : decode cX13_checkNode 165 = .ok (.getfield 29, 3) := by decide +kernel
theorem dX13_checkNode_168 : decode cX13_checkNode 168 = .ok (.iload_n 1, 1) := by decide +kernel
theorem dX13_checkNode_169 : decode cX13_checkNode 169 = .ok (.iaload, 1) := by decide +kernel
theorem dX13_checkNode_170 : decode cX13_checkNode 170 = .ok (.invokevirtual 795, 3) := by decide +kernel
theorem dX13_checkNode_173 : decode cX13_checkNode 173 = .ok (.goto 192, 3) := by decide +kernel
theorem dX13_checkNode_176 : decode cX13_checkNode 176 = .ok (.aload_n 0, 1) := by decide +kernel
theorem dX13_checkNode_177 : decode cX13_checkNode 177 = .ok (.getfield 36, 3) := by decide +kernel
theorem dX13_checkNode_180 : decode cX13_checkNode 180 = .ok (.iload_n 1, 1) := by decide +kernel
theorem dX13_checkNode_181 : decode cX13_checkNode 181 = .ok (.laload, 1) := by decide +kernel
theorem dX13_checkNode_182 : decode cX13_checkNode 182 = .ok (.lconst 0, 1) := by decide +kernel
theorem dX13_checkNode_183 : decode cX13_checkNode 183 = .ok (.lcmp, 1) := by decide +kernel
theorem dX13_checkNode_184 : decode cX13_checkNode 184 = .ok (.ifCond .ne 20, 3) := by decide +kernel
theorem dX13_checkNode_187 : decode cX13_checkNode 187 = .ok (.aload_n 0, 1) := by decide +kernel
theorem dX13_checkNode_188 : decode cX13_checkNode 188 = .ok (.getfield 45, 3) := by decide +kernel
theorem dX13_checkNode_191 : decode cX13_checkNode 191 = .ok (.iload_n 1, 1) := by decide +kernel
theorem dX13_checkNode_192 : decode cX13_checkNode 192 = .ok (.iaload, 1) := by decide +kernel
theorem dX13_checkNode_193 : decode cX13_checkNode 193 = .ok (.ifCond .ne 11, 3) := by decide +kernel
theorem dX13_checkNode_196 : decode cX13_checkNode 196 = .ok (.aload_n 0, 1) := by decide +kernel
theorem dX13_checkNode_197 : decode cX13_checkNode 197 = .ok (.iload_n 1, 1) := by decide +kernel
theorem dX13_checkNode_198 : decode cX13_checkNode 198 = .ok (.invokevirtual 801, 3) := by decide +kernel
theorem dX13_checkNode_201 : decode cX13_checkNode 201 = .ok (.ifCond .ne 164, 3) := by decide +kernel
theorem dX13_checkNode_204 : decode cX13_checkNode 204 = .ok (.aload_n 0, 1) := by decide +kernel
theorem dX13_checkNode_205 : decode cX13_checkNode 205 = .ok (.aload_n 0, 1) := by decide +kernel
theorem dX13_checkNode_206 : decode cX13_checkNode 206 = .ok (.getfield 32, 3) := by decide +kernel
theorem dX13_checkNode_209 : decode cX13_checkNode 209 = .ok (.iload_n 1, 1) := by decide +kernel
theorem dX13_checkNode_210 : decode cX13_checkNode 210 = .ok (.laload, 1) := by decide +kernel
theorem dX13_checkNode_211 : decode cX13_checkNode 211 = .ok (.l2i, 1) := by decide +kernel
theorem dX13_checkNode_212 : decode cX13_checkNode 212 = .ok (.aload_n 0, 1) := by decide +kernel
theorem dX13_checkNode_213 : decode cX13_checkNode 213 = .ok (.getfield 36, 3) := by decide +kernel
theorem dX13_checkNode_216 : decode cX13_checkNode 216 = .ok (.iload_n 1, 1) := by decide +kernel
theorem dX13_checkNode_217 : decode cX13_checkNode 217 = .ok (.laload, 1) := by decide +kernel
theorem dX13_checkNode_218 : decode cX13_checkNode 218 = .ok (.l2i, 1) := by decide +kernel
theorem dX13_checkNode_219 : decode cX13_checkNode 219 = .ok (.aload_n 0, 1) := by decide +kernel
theorem dX13_checkNode_220 : decode cX13_checkNode 220 = .ok (.getfield 45, 3) := by decide +kernel
theorem dX13_checkNode_223 : decode cX13_checkNode 223 = .ok (.iload_n 1, 1) := by decide +kernel
theorem dX13_checkNode_224 : decode cX13_checkNode 224 = .ok (.iaload, 1) := by decide +kernel
theorem dX13_checkNode_225 : decode cX13_checkNode 225 = .ok (.invokevirtual 804, 3) := by decide +kernel
theorem dX13_checkNode_228 : decode cX13_checkNode 228 = .ok (.ifCond .ge 137, 3) := by decide +kernel
theorem dX13_checkNode_231 : decode cX13_checkNode 231 = .ok (.aload_n 0, 1) := by decide +kernel
theorem dX13_checkNode_232 : decode cX13_checkNode 232 = .ok (.aload_n 0, 1) := by decide +kernel
theorem dX13_checkNode_233 : decode cX13_checkNode 233 = .ok (.getfield 32, 3) := by decide +kernel
theorem dX13_checkNode_236 : decode cX13_checkNode 236 = .ok (.iload_n 1, 1) := by decide +kernel
theorem dX13_checkNode_237 : decode cX13_checkNode 237 = .ok (.laload, 1) := by decide +kernel
theorem dX13_checkNode_238 : decode cX13_checkNode 238 = .ok (.l2i, 1) := by decide +kernel
theorem dX13_checkNode_239 : decode cX13_checkNode 239 = .ok (.invokevirtual 798, 3) := by decide +kernel
theorem dX13_checkNode_242 : decode cX13_checkNode 242 = .ok (.ifCond .ne 123, 3) := by decide +kernel
theorem dX13_checkNode_245 : decode cX13_checkNode 245 = .ok (.aload_n 0, 1) := by decide +kernel
theorem dX13_checkNode_246 : decode cX13_checkNode 246 = .ok (.iconst 4, 1) := by decide +kernel
theorem dX13_checkNode_247 : decode cX13_checkNode 247 = .ok (.aload_n 0, 1) := by decide +kernel
theorem dX13_checkNode_248 : decode cX13_checkNode 248 = .ok (.getfield 29, 3) := by decide +kernel
theorem dX13_checkNode_251 : decode cX13_checkNode 251 = .ok (.iload_n 1, 1) := by decide +kernel
theorem dX13_checkNode_252 : decode cX13_checkNode 252 = .ok (.iaload, 1) := by decide +kernel
theorem dX13_checkNode_253 : decode cX13_checkNode 253 = .ok (.invokevirtual 795, 3) := by decide +kernel
theorem dX13_checkNode_256 : decode cX13_checkNode 256 = .ok (.goto 109, 3) := by decide +kernel
theorem dX13_checkNode_259 : decode cX13_checkNode 259 = .ok (.aload_n 0, 1) := by decide +kernel
theorem dX13_checkNode_260 : decode cX13_checkNode 260 = .ok (.getfield 36, 3) := by decide +kernel
theorem dX13_checkNode_263 : decode cX13_checkNode 263 = .ok (.iload_n 1, 1) := by decide +kernel
theorem dX13_checkNode_264 : decode cX13_checkNode 264 = .ok (.laload, 1) := by decide +kernel
theorem dX13_checkNode_265 : decode cX13_checkNode 265 = .ok (.lconst 0, 1) := by decide +kernel
theorem dX13_checkNode_266 : decode cX13_checkNode 266 = .ok (.lcmp, 1) := by decide +kernel
theorem dX13_checkNode_267 : decode cX13_checkNode 267 = .ok (.ifCond .eq 16, 3) := by decide +kernel
theorem dX13_checkNode_270 : decode cX13_checkNode 270 = .ok (.aload_n 0, 1) := by decide +kernel
theorem dX13_checkNode_271 : decode cX13_checkNode 271 = .ok (.getfield 36, 3) := by decide +kernel
theorem dX13_checkNode_274 : decode cX13_checkNode 274 = .ok (.iload_n 1, 1) := by decide +kernel
theorem dX13_checkNode_275 : decode cX13_checkNode 275 = .ok (.laload, 1) := by decide +kernel
theorem dX13_checkNode_276 : decode cX13_checkNode 276 = .ok (.ldc2_w 807, 3) := by decide +kernel
theorem dX13_checkNode_279 : decode cX13_checkNode 279 = .ok (.lcmp, 1) := by decide +kernel
theorem dX13_checkNode_280 : decode cX13_checkNode 280 = .ok (.ifCond .lt 17, 3) := by decide +kernel
theorem dX13_checkNode_283 : decode cX13_checkNode 283 = .ok (.aload_n 0, 1) := by decide +kernel
theorem dX13_checkNode_284 : decode cX13_checkNode 284 = .ok (.iconst 4, 1) := by decide +kernel
theorem dX13_checkNode_285 : decode cX13_checkNode 285 = .ok (.aload_n 0, 1) := by decide +kernel
theorem dX13_checkNode_286 : decode cX13_checkNode 286 = .ok (.getfield 29, 3) := by decide +kernel
theorem dX13_checkNode_289 : decode cX13_checkNode 289 = .ok (.iload_n 1, 1) := by decide +kernel
theorem dX13_checkNode_290 : decode cX13_checkNode 290 = .ok (.iaload, 1) := by decide +kernel
theorem dX13_checkNode_291 : decode cX13_checkNode 291 = .ok (.invokevirtual 795, 3) := by decide +kernel
theorem dX13_checkNode_294 : decode cX13_checkNode 294 = .ok (.goto 71, 3) := by decide +kernel
theorem dX13_checkNode_297 : decode cX13_checkNode 297 = .ok (.aload_n 0, 1) := by decide +kernel
theorem dX13_checkNode_298 : decode cX13_checkNode 298 = .ok (.getfield 26, 3) := by decide +kernel
theorem dX13_checkNode_301 : decode cX13_checkNode 301 = .ok (.iload_n 1, 1) := by decide +kernel
theorem dX13_checkNode_302 : decode cX13_checkNode 302 = .ok (.iaload, 1) := by decide +kernel
theorem dX13_checkNode_303 : decode cX13_checkNode 303 = .ok (.bipush 63, 2) := by decide +kernel
theorem dX13_checkNode_305 : decode cX13_checkNode 305 = .ok (.if_icmp .ne 60, 3) := by decide +kernel
theorem dX13_checkNode_308 : decode cX13_checkNode 308 = .ok (.aload_n 0, 1) := by decide +kernel
theorem dX13_checkNode_309 : decode cX13_checkNode 309 = .ok (.aload_n 0, 1) := by decide +kernel
theorem dX13_checkNode_310 : decode cX13_checkNode 310 = .ok (.getfield 36, 3) := by decide +kernel
theorem dX13_checkNode_313 : decode cX13_checkNode 313 = .ok (.iload_n 1, 1) := by decide +kernel
theorem dX13_checkNode_314 : decode cX13_checkNode 314 = .ok (.laload, 1) := by decide +kernel
theorem dX13_checkNode_315 : decode cX13_checkNode 315 = .ok (.l2i, 1) := by decide +kernel
theorem dX13_checkNode_316 : decode cX13_checkNode 316 = .ok (.invokevirtual 792, 3) := by decide +kernel
theorem dX13_checkNode_319 : decode cX13_checkNode 319 = .ok (.istore_n 2, 1) := by decide +kernel
theorem dX13_checkNode_320 : decode cX13_checkNode 320 = .ok (.iload_n 2, 1) := by decide +kernel
theorem dX13_checkNode_321 : decode cX13_checkNode 321 = .ok (.ifCond .lt 30, 3) := by decide +kernel
theorem dX13_checkNode_324 : decode cX13_checkNode 324 = .ok (.aload_n 0, 1) := by decide +kernel
theorem dX13_checkNode_325 : decode cX13_checkNode 325 = .ok (.aload_n 0, 1) := by decide +kernel
theorem dX13_checkNode_326 : decode cX13_checkNode 326 = .ok (.getfield 81, 3) := by decide +kernel
theorem dX13_checkNode_329 : decode cX13_checkNode 329 = .ok (.iconst 4, 1) := by decide +kernel
theorem dX13_checkNode_330 : decode cX13_checkNode 330 = .ok (.iload_n 2, 1) := by decide +kernel
theorem dX13_checkNode_331 : decode cX13_checkNode 331 = .ok (.imul, 1) := by decide +kernel
theorem dX13_checkNode_332 : decode cX13_checkNode 332 = .ok (.aload_n 0, 1) := by decide +kernel
theorem dX13_checkNode_333 : decode cX13_checkNode 333 = .ok (.getfield 84, 3) := by decide +kernel
theorem dX13_checkNode_336 : decode cX13_checkNode 336 = .ok (.iload_n 2, 1) := by decide +kernel
theorem dX13_checkNode_337 : decode cX13_checkNode 337 = .ok (.iaload, 1) := by decide +kernel
theorem dX13_checkNode_338 : decode cX13_checkNode 338 = .ok (.aload_n 0, 1) := by decide +kernel
theorem dX13_checkNode_339 : decode cX13_checkNode 339 = .ok (.getfield 32, 3) := by decide +kernel
theorem dX13_checkNode_342 : decode cX13_checkNode 342 = .ok (.iload_n 1, 1) := by decide +kernel
theorem dX13_checkNode_343 : decode cX13_checkNode 343 = .ok (.laload, 1) := by decide +kernel
theorem dX13_checkNode_344 : decode cX13_checkNode 344 = .ok (.l2i, 1) := by decide +kernel
theorem dX13_checkNode_345 : decode cX13_checkNode 345 = .ok (.invokevirtual 788, 3) := by decide +kernel
theorem dX13_checkNode_348 : decode cX13_checkNode 348 = .ok (.ifCond .ge 14, 3) := by decide +kernel
theorem dX13_checkNode_351 : decode cX13_checkNode 351 = .ok (.aload_n 0, 1) := by decide +kernel
theorem dX13_checkNode_352 : decode cX13_checkNode 352 = .ok (.iconst 4, 1) := by decide +kernel
theorem dX13_checkNode_353 : decode cX13_checkNode 353 = .ok (.aload_n 0, 1) := by decide +kernel
theorem dX13_checkNode_354 : decode cX13_checkNode 354 = .ok (.getfield 45, 3) := by decide +kernel
theorem dX13_checkNode_357 : decode cX13_checkNode 357 = .ok (.iload_n 1, 1) := by decide +kernel
theorem dX13_checkNode_358 : decode cX13_checkNode 358 = .ok (.iaload, 1) := by decide +kernel
theorem dX13_checkNode_359 : decode cX13_checkNode 359 = .ok (.invokevirtual 795, 3) := by decide +kernel
theorem dX13_checkNode_362 : decode cX13_checkNode 362 = .ok (.goto 3, 3) := by decide +kernel
theorem dX13_checkNode_365 : decode cX13_checkNode 365 = .ok (.return_, 1) := by decide +kernel
theorem dX13_checkNode_4 : decode cX13_checkNode 4 = .ok (.iload_n 1, 1) := by decide +kernel
theorem dX13_checkNode_5 : decode cX13_checkNode 5 = .ok (.iaload, 1) := by decide +kernel
theorem dX13_checkNode_6 : decode cX13_checkNode 6 = .ok (.lookupswitch 359 #[(8, 82), (28, 119), (55, 253), (56, 253), (57, 253), (58, 170), (61, 253), (62, 253), (63, 253)], 82) := by decide +kernel
theorem dX13_checkNode_88 : decode cX13_checkNode 88 = .ok (.aload_n 0, 1) := by decide +kernel
theorem dX13_checkNode_89 : decode cX13_checkNode 89 = .ok (.aload_n 0, 1) := by decide +kernel
theorem dX13_checkNode_90 : decode cX13_checkNode 90 = .ok (.getfield 54, 3) := by decide +kernel
theorem dX13_checkNode_93 : decode cX13_checkNode 93 = .ok (.iconst 0, 1) := by decide +kernel
theorem dX13_checkNode_94 : decode cX13_checkNode 94 = .ok (.aload_n 0, 1) := by decide +kernel
theorem dX13_checkNode_95 : decode cX13_checkNode 95 = .ok (.getfield 624, 3) := by decide +kernel
theorem dX13_checkNode_98 : decode cX13_checkNode 98 = .ok (.aload_n 0, 1) := by decide +kernel
theorem dX13_checkNode_99 : decode cX13_checkNode 99 = .ok (.getfield 32, 3) := by decide +kernel
noncomputable def k_X13_checkNode_362 (s : t_S) : Option (t_S) :=
 some (s)
set_option maxRecDepth 4000 in
set_option maxHeartbeats 1000000 in
theorem B_X13_checkNode_362 {D : va_G} {cy : Nat → ClassId} {ad : Nat → Nat} {bs : Nat} {X : State → Heap → Prop} (s : t_S) (Q : t_S → Prop) (hk : t_hk (k_X13_checkNode_362 s) Q) : mj_G D cy ad bs X cX13_checkNode 3 yX13_checkNode.cls none yX13_checkNode.name 3 0 0 1065 (t_P (fun v s' => v = none ∧ Q (s'))) 362 [] [] (t_m s) 1065 0 0 := by
  refine mj_goto 365 dX13_checkNode_362 (by decide) ?_
  exact t_somK hk (fun hf => t_vret dX13_checkNode_365 rfl ⟨rfl, hf⟩ (Nat.le_of_ble_eq_true rfl) (Nat.le_of_ble_eq_true rfl))
noncomputable def k_X13_checkNode_283 (l1 : Int32) (s : t_S) : Option (t_S) :=
 if t_ix l1 13000 = true then
  (f_X13_wrong (4 : Int32) (s.1 956 (l1.toNatClampNeg)) s).bind (fun r2 =>
 some (r2))
else none
set_option maxRecDepth 4000 in
set_option maxHeartbeats 1000000 in
theorem B_X13_checkNode_283 {D : va_G} {cy : Nat → ClassId} {ad : Nat → Nat} {bs : Nat} {X : State → Heap → Prop} (l1 : Int32) (s : t_S) (Q : t_S → Prop) (hk : t_hk (k_X13_checkNode_283 l1 s) Q) : mj_G D cy ad bs X cX13_checkNode 3 yX13_checkNode.cls none yX13_checkNode.name 3 0 0 1065 (t_P (fun v s' => v = none ∧ Q (s'))) 283 [(0, .ref 950), (1, .int l1)] [] (t_m s) 1065 0 0 := by
  refine mj_aload_n dX13_checkNode_283 0 rfl ?_
  refine mj_iconst (v := 4) dX13_checkNode_284 (by decide) ?_
  refine mj_aload_n dX13_checkNode_285 0 rfl ?_
  refine t_getR 956 dX13_checkNode_286 F_X13_29 qr_950_18 ?_
  refine mj_iload_n dX13_checkNode_289 1 rfl ?_
  refine t_chkK hk (fun c0 hk => ?_)
  refine t_iald dX13_checkNode_290 qa_956 (t_ixv c0) ?_
  refine t_bndK hk (fun r2 er2 hk => ?_)
  refine t_callVvE dX13_checkNode_291 M_X13_wrong (C_X13_wrong _ _ _ _ er2) ML_X13_795 IM_X13_wrong SE_X13_wrong qc_950 rfl (As := [.int 4, .int (s.1 956 (l1.toNatClampNeg))]) rfl rfl (Nat.le_of_ble_eq_true rfl) (Nat.le_of_ble_eq_true rfl) (Nat.le_of_ble_eq_true rfl) (Nat.le_of_ble_eq_true rfl) ?_
  refine mj_goto 365 dX13_checkNode_294 (by decide) ?_
  exact t_somK hk (fun hf => t_vret dX13_checkNode_365 rfl ⟨rfl, hf⟩ (Nat.le_of_ble_eq_true rfl) (Nat.le_of_ble_eq_true rfl))
noncomputable def k_X13_checkNode_204 (l1 : Int32) (s : t_S) : Option (t_S) :=
 if t_ix l1 13000 = true then
  (f_X13_varOf ((s.2.1 957 (l1.toNatClampNeg)).toInt32) ((s.2.1 958 (l1.toNatClampNeg)).toInt32) (s.1 961 (l1.toNatClampNeg)) s).bind (fun r2 =>
 if (0 : Int32) ≤ r2 then (some (s))
 else ((f_X13_isEnumWord ((s.2.1 957 (l1.toNatClampNeg)).toInt32) s).bind (fun r3 =>
 if r3 = (0 : Int32) then ((f_X13_wrong (4 : Int32) (s.1 956 (l1.toNatClampNeg)) s).bind (fun r4 =>
 some (r4)))
 else (some (s)))))
else none
set_option maxRecDepth 4000 in
set_option maxHeartbeats 1000000 in
theorem B_X13_checkNode_204 {D : va_G} {cy : Nat → ClassId} {ad : Nat → Nat} {bs : Nat} {X : State → Heap → Prop} (l1 : Int32) (s : t_S) (Q : t_S → Prop) (hk : t_hk (k_X13_checkNode_204 l1 s) Q) : mj_G D cy ad bs X cX13_checkNode 3 yX13_checkNode.cls none yX13_checkNode.name 3 0 0 1065 (t_P (fun v s' => v = none ∧ Q (s'))) 204 [(0, .ref 950), (1, .int l1)] [] (t_m s) 1065 0 0 := by
  refine mj_aload_n dX13_checkNode_204 0 rfl ?_
  refine mj_aload_n dX13_checkNode_205 0 rfl ?_
  refine t_getR 957 dX13_checkNode_206 F_X13_32 qr_950_19 ?_
  refine mj_iload_n dX13_checkNode_209 1 rfl ?_
  refine t_chkK hk (fun c0 hk => ?_)
  refine t_lald dX13_checkNode_210 qa_957 (t_ixv c0) ?_
  refine mj_l2i (v := (s.2.1 957 (l1.toNatClampNeg)).toInt32) dX13_checkNode_211 rfl ?_
  refine mj_aload_n dX13_checkNode_212 0 rfl ?_
  refine t_getR 958 dX13_checkNode_213 F_X13_36 qr_950_20 ?_
  refine mj_iload_n dX13_checkNode_216 1 rfl ?_
  refine t_lald dX13_checkNode_217 qa_958 (t_ixv c0) ?_
  refine mj_l2i (v := (s.2.1 958 (l1.toNatClampNeg)).toInt32) dX13_checkNode_218 rfl ?_
  refine mj_aload_n dX13_checkNode_219 0 rfl ?_
  refine t_getR 961 dX13_checkNode_220 F_X13_45 qr_950_23 ?_
  refine mj_iload_n dX13_checkNode_223 1 rfl ?_
  refine t_iald dX13_checkNode_224 qa_961 (t_ixv c0) ?_
  refine t_bndK hk (fun r2 er2 hk => ?_)
  refine t_callViP dX13_checkNode_225 M_X13_varOf (C_X13_varOf _ _ _ _ _ er2) ML_X13_804 IM_X13_varOf SE_X13_varOf qc_950 rfl (As := [.int ((s.2.1 957 (l1.toNatClampNeg)).toInt32), .int ((s.2.1 958 (l1.toNatClampNeg)).toInt32), .int (s.1 961 (l1.toNatClampNeg))]) rfl rfl (Nat.le_of_ble_eq_true rfl) (Nat.le_of_ble_eq_true rfl) (Nat.le_of_ble_eq_true rfl) (Nat.le_of_ble_eq_true rfl) ?_
  refine mj_if_ge 365 dX13_checkNode_228 (by decide) (fun z => t_posK hk z (fun hk => ?_)) (fun z => t_negK hk z (fun hk => ?_))
  · exact t_somK hk (fun hf => t_vret dX13_checkNode_365 rfl ⟨rfl, hf⟩ (Nat.le_of_ble_eq_true rfl) (Nat.le_of_ble_eq_true rfl))
  · refine mj_aload_n dX13_checkNode_231 0 rfl ?_
    refine mj_aload_n dX13_checkNode_232 0 rfl ?_
    refine t_getR 957 dX13_checkNode_233 F_X13_32 qr_950_19 ?_
    refine mj_iload_n dX13_checkNode_236 1 rfl ?_
    refine t_lald dX13_checkNode_237 qa_957 (t_ixv c0) ?_
    refine mj_l2i (v := (s.2.1 957 (l1.toNatClampNeg)).toInt32) dX13_checkNode_238 rfl ?_
    refine t_bndK hk (fun r3 er3 hk => ?_)
    refine t_callViP dX13_checkNode_239 M_X13_isEnumWord (C_X13_isEnumWord _ _ _ er3) ML_X13_798 IM_X13_isEnumWord SE_X13_isEnumWord qc_950 rfl (As := [.int ((s.2.1 957 (l1.toNatClampNeg)).toInt32)]) rfl rfl (Nat.le_of_ble_eq_true rfl) (Nat.le_of_ble_eq_true rfl) (Nat.le_of_ble_eq_true rfl) (Nat.le_of_ble_eq_true rfl) ?_
    refine mj_if_ne 365 dX13_checkNode_242 (by decide) (fun z => t_negK hk z (fun hk => ?_)) (fun z => t_posK hk z (fun hk => ?_))
    · exact t_somK hk (fun hf => t_vret dX13_checkNode_365 rfl ⟨rfl, hf⟩ (Nat.le_of_ble_eq_true rfl) (Nat.le_of_ble_eq_true rfl))
    · refine mj_aload_n dX13_checkNode_245 0 rfl ?_
      refine mj_iconst (v := 4) dX13_checkNode_246 (by decide) ?_
      refine mj_aload_n dX13_checkNode_247 0 rfl ?_
      refine t_getR 956 dX13_checkNode_248 F_X13_29 qr_950_18 ?_
      refine mj_iload_n dX13_checkNode_251 1 rfl ?_
      refine t_iald dX13_checkNode_252 qa_956 (t_ixv c0) ?_
      refine t_bndK hk (fun r4 er4 hk => ?_)
      refine t_callVvE dX13_checkNode_253 M_X13_wrong (C_X13_wrong _ _ _ _ er4) ML_X13_795 IM_X13_wrong SE_X13_wrong qc_950 rfl (As := [.int 4, .int (s.1 956 (l1.toNatClampNeg))]) rfl rfl (Nat.le_of_ble_eq_true rfl) (Nat.le_of_ble_eq_true rfl) (Nat.le_of_ble_eq_true rfl) (Nat.le_of_ble_eq_true rfl) ?_
      refine mj_goto 365 dX13_checkNode_256 (by decide) ?_
      exact t_somK hk (fun hf => t_vret dX13_checkNode_365 rfl ⟨rfl, hf⟩ (Nat.le_of_ble_eq_true rfl) (Nat.le_of_ble_eq_true rfl))
noncomputable def k_X13_checkNode_351 (l1 : Int32) (s : t_S) : Option (t_S) :=
 if t_ix l1 13000 = true then
  (f_X13_wrong (4 : Int32) (s.1 961 (l1.toNatClampNeg)) s).bind (fun r2 =>
 k_X13_checkNode_362 r2)
else none
set_option maxRecDepth 4000 in
set_option maxHeartbeats 1000000 in
theorem B_X13_checkNode_351 {D : va_G} {cy : Nat → ClassId} {ad : Nat → Nat} {bs : Nat} {X : State → Heap → Prop} (l1 : Int32) (s : t_S) (Q : t_S → Prop) (hk : t_hk (k_X13_checkNode_351 l1 s) Q) : mj_G D cy ad bs X cX13_checkNode 3 yX13_checkNode.cls none yX13_checkNode.name 3 0 0 1065 (t_P (fun v s' => v = none ∧ Q (s'))) 351 [(0, .ref 950), (1, .int l1)] [] (t_m s) 1065 0 0 := by
  refine mj_aload_n dX13_checkNode_351 0 rfl ?_
  refine mj_iconst (v := 4) dX13_checkNode_352 (by decide) ?_
  refine mj_aload_n dX13_checkNode_353 0 rfl ?_
  refine t_getR 961 dX13_checkNode_354 F_X13_45 qr_950_23 ?_
  refine mj_iload_n dX13_checkNode_357 1 rfl ?_
  refine t_chkK hk (fun c0 hk => ?_)
  refine t_iald dX13_checkNode_358 qa_961 (t_ixv c0) ?_
  refine t_bndK hk (fun r2 er2 hk => ?_)
  refine t_callVvE dX13_checkNode_359 M_X13_wrong (C_X13_wrong _ _ _ _ er2) ML_X13_795 IM_X13_wrong SE_X13_wrong qc_950 rfl (As := [.int 4, .int (s.1 961 (l1.toNatClampNeg))]) rfl rfl (Nat.le_of_ble_eq_true rfl) (Nat.le_of_ble_eq_true rfl) (Nat.le_of_ble_eq_true rfl) (Nat.le_of_ble_eq_true rfl) ?_
  refine mj_sublv [] [] rfl ?_
  exact B_X13_checkNode_362 _ _ hk
noncomputable def f_X13_checkNode (x1 : Int32) (s : t_S) : Option (t_S) :=
 if t_ix x1 13000 = true then
  if (s.1 955 (x1.toNatClampNeg)).toInt = 8 then ((f_X13_find 964 (0 : Int32) (s.1 950 40) ((s.2.1 957 (x1.toNatClampNeg)).toInt32) s).bind (fun r2 =>
 if (0 : Int32) ≤ r2 then (some (s))
 else ((f_X13_wrong (4 : Int32) (s.1 956 (x1.toNatClampNeg)) s).bind (fun r3 =>
 some (r3)))))
 else if (s.1 955 (x1.toNatClampNeg)).toInt = 28 then ((f_X13_find 967 (0 : Int32) (s.1 950 44) ((s.2.1 957 (x1.toNatClampNeg)).toInt32) s).bind (fun r4 =>
 if (0 : Int32) ≤ r4 then (some (s))
 else ((f_X13_isEnumWord ((s.2.1 957 (x1.toNatClampNeg)).toInt32) s).bind (fun r5 =>
 if r5 = (0 : Int32) then ((f_X13_wrong (4 : Int32) (s.1 956 (x1.toNatClampNeg)) s).bind (fun r6 =>
 some (r6)))
 else (some (s))))))
 else if (s.1 955 (x1.toNatClampNeg)).toInt = 55 then (if (lg_cmp (s.2.1 958 (x1.toNatClampNeg)) (0 : Int64)) = (0 : Int32) then (k_X13_checkNode_283 x1 s)
 else (if (lg_cmp (s.2.1 958 (x1.toNatClampNeg)) (3000 : Int64)) < (0 : Int32) then (if (s.1 955 (x1.toNatClampNeg)) = (63 : Int32) then ((f_X13_componentOf ((s.2.1 958 (x1.toNatClampNeg)).toInt32) s).bind (fun r7 =>
 if r7 < (0 : Int32) then (k_X13_checkNode_351 x1 s)
 else (if t_ix r7 8 = true then
  (f_X13_find 973 ((4 : Int32) * r7) (s.1 974 (r7.toNatClampNeg)) ((s.2.1 957 (x1.toNatClampNeg)).toInt32) s).bind (fun r9 =>
 if (0 : Int32) ≤ r9 then (k_X13_checkNode_362 s)
 else (k_X13_checkNode_351 x1 s))
else none)))
 else (some (s)))
 else (k_X13_checkNode_283 x1 s)))
 else if (s.1 955 (x1.toNatClampNeg)).toInt = 56 then (if (lg_cmp (s.2.1 958 (x1.toNatClampNeg)) (0 : Int64)) = (0 : Int32) then (k_X13_checkNode_283 x1 s)
 else (if (lg_cmp (s.2.1 958 (x1.toNatClampNeg)) (3000 : Int64)) < (0 : Int32) then (if (s.1 955 (x1.toNatClampNeg)) = (63 : Int32) then ((f_X13_componentOf ((s.2.1 958 (x1.toNatClampNeg)).toInt32) s).bind (fun r10 =>
 if r10 < (0 : Int32) then (k_X13_checkNode_351 x1 s)
 else (if t_ix r10 8 = true then
  (f_X13_find 973 ((4 : Int32) * r10) (s.1 974 (r10.toNatClampNeg)) ((s.2.1 957 (x1.toNatClampNeg)).toInt32) s).bind (fun r12 =>
 if (0 : Int32) ≤ r12 then (k_X13_checkNode_362 s)
 else (k_X13_checkNode_351 x1 s))
else none)))
 else (some (s)))
 else (k_X13_checkNode_283 x1 s)))
 else if (s.1 955 (x1.toNatClampNeg)).toInt = 57 then (if (lg_cmp (s.2.1 958 (x1.toNatClampNeg)) (0 : Int64)) = (0 : Int32) then (k_X13_checkNode_283 x1 s)
 else (if (lg_cmp (s.2.1 958 (x1.toNatClampNeg)) (3000 : Int64)) < (0 : Int32) then (if (s.1 955 (x1.toNatClampNeg)) = (63 : Int32) then ((f_X13_componentOf ((s.2.1 958 (x1.toNatClampNeg)).toInt32) s).bind (fun r13 =>
 if r13 < (0 : Int32) then (k_X13_checkNode_351 x1 s)
 else (if t_ix r13 8 = true then
  (f_X13_find 973 ((4 : Int32) * r13) (s.1 974 (r13.toNatClampNeg)) ((s.2.1 957 (x1.toNatClampNeg)).toInt32) s).bind (fun r15 =>
 if (0 : Int32) ≤ r15 then (k_X13_checkNode_362 s)
 else (k_X13_checkNode_351 x1 s))
else none)))
 else (some (s)))
 else (k_X13_checkNode_283 x1 s)))
 else if (s.1 955 (x1.toNatClampNeg)).toInt = 58 then (if (lg_cmp (s.2.1 958 (x1.toNatClampNeg)) (0 : Int64)) = (0 : Int32) then (if (s.1 961 (x1.toNatClampNeg)) = (0 : Int32) then ((f_X13_isWay x1 s).bind (fun r16 =>
 if r16 = (0 : Int32) then (k_X13_checkNode_204 x1 s)
 else (some (s))))
 else (k_X13_checkNode_204 x1 s))
 else (k_X13_checkNode_204 x1 s))
 else if (s.1 955 (x1.toNatClampNeg)).toInt = 61 then (if (lg_cmp (s.2.1 958 (x1.toNatClampNeg)) (0 : Int64)) = (0 : Int32) then (k_X13_checkNode_283 x1 s)
 else (if (lg_cmp (s.2.1 958 (x1.toNatClampNeg)) (3000 : Int64)) < (0 : Int32) then (if (s.1 955 (x1.toNatClampNeg)) = (63 : Int32) then ((f_X13_componentOf ((s.2.1 958 (x1.toNatClampNeg)).toInt32) s).bind (fun r17 =>
 if r17 < (0 : Int32) then (k_X13_checkNode_351 x1 s)
 else (if t_ix r17 8 = true then
  (f_X13_find 973 ((4 : Int32) * r17) (s.1 974 (r17.toNatClampNeg)) ((s.2.1 957 (x1.toNatClampNeg)).toInt32) s).bind (fun r19 =>
 if (0 : Int32) ≤ r19 then (k_X13_checkNode_362 s)
 else (k_X13_checkNode_351 x1 s))
else none)))
 else (some (s)))
 else (k_X13_checkNode_283 x1 s)))
 else if (s.1 955 (x1.toNatClampNeg)).toInt = 62 then (if (lg_cmp (s.2.1 958 (x1.toNatClampNeg)) (0 : Int64)) = (0 : Int32) then (k_X13_checkNode_283 x1 s)
 else (if (lg_cmp (s.2.1 958 (x1.toNatClampNeg)) (3000 : Int64)) < (0 : Int32) then (if (s.1 955 (x1.toNatClampNeg)) = (63 : Int32) then ((f_X13_componentOf ((s.2.1 958 (x1.toNatClampNeg)).toInt32) s).bind (fun r20 =>
 if r20 < (0 : Int32) then (k_X13_checkNode_351 x1 s)
 else (if t_ix r20 8 = true then
  (f_X13_find 973 ((4 : Int32) * r20) (s.1 974 (r20.toNatClampNeg)) ((s.2.1 957 (x1.toNatClampNeg)).toInt32) s).bind (fun r22 =>
 if (0 : Int32) ≤ r22 then (k_X13_checkNode_362 s)
 else (k_X13_checkNode_351 x1 s))
else none)))
 else (some (s)))
 else (k_X13_checkNode_283 x1 s)))
 else if (s.1 955 (x1.toNatClampNeg)).toInt = 63 then (if (lg_cmp (s.2.1 958 (x1.toNatClampNeg)) (0 : Int64)) = (0 : Int32) then (k_X13_checkNode_283 x1 s)
 else (if (lg_cmp (s.2.1 958 (x1.toNatClampNeg)) (3000 : Int64)) < (0 : Int32) then (if (s.1 955 (x1.toNatClampNeg)) = (63 : Int32) then ((f_X13_componentOf ((s.2.1 958 (x1.toNatClampNeg)).toInt32) s).bind (fun r23 =>
 if r23 < (0 : Int32) then (k_X13_checkNode_351 x1 s)
 else (if t_ix r23 8 = true then
  (f_X13_find 973 ((4 : Int32) * r23) (s.1 974 (r23.toNatClampNeg)) ((s.2.1 957 (x1.toNatClampNeg)).toInt32) s).bind (fun r25 =>
 if (0 : Int32) ≤ r25 then (k_X13_checkNode_362 s)
 else (k_X13_checkNode_351 x1 s))
else none)))
 else (some (s)))
 else (k_X13_checkNode_283 x1 s)))
 else (some (s))
else none
set_option maxRecDepth 4000 in
set_option maxHeartbeats 1000000 in
theorem C_X13_checkNode (x1 : Int32) (s : t_S) (r : t_S) (hr : f_X13_checkNode x1 s = some r) : t_C yX13_checkNode cX13_checkNode 3 none 3 [.ref 950, .int x1] s (fun v s' => v = none ∧ s' = r) := by
  refine t_C.imp (P := fun v s' => v = none ∧ (fun q => q = r) (s')) (t_C.of (by decide +kernel) (Nat.le_of_ble_eq_true rfl) ?_) (fun v s' hp => hp)
  intro D cy ad bs X
  have hk : t_hk (f_X13_checkNode x1 s) (fun q => q = r) := ⟨r, hr, rfl⟩
  show mj_G D cy ad bs X cX13_checkNode 3 yX13_checkNode.cls none yX13_checkNode.name 3 0 0 1065 (t_P (fun v s' => v = none ∧ (fun q => q = r) (s'))) 0 [(0, .ref 950), (1, .int x1)] [] (t_m s) 1065 0 0
  refine mj_aload_n dX13_checkNode_0 0 rfl ?_
  refine t_getR 955 dX13_checkNode_1 F_X13_26 qr_950_17 ?_
  refine mj_iload_n dX13_checkNode_4 1 rfl ?_
  refine t_chkK hk (fun c0 hk => ?_)
  refine t_iald dX13_checkNode_5 qa_955 (t_ixv c0) ?_
  by_cases h0 : (s.1 955 (x1.toNatClampNeg)).toInt = 8
  · replace hk := t_pos hk h0
    refine mj_lookup 88 dX13_checkNode_6 (by decide) (by rw [h0] <;> rfl) (by decide) ?_
    refine mj_aload_n dX13_checkNode_88 0 rfl ?_
    refine mj_aload_n dX13_checkNode_89 0 rfl ?_
    refine t_getR 964 dX13_checkNode_90 F_X13_54 qr_950_37 ?_
    refine mj_iconst (v := 0) dX13_checkNode_93 (by decide) ?_
    refine mj_aload_n dX13_checkNode_94 0 rfl ?_
    refine t_getI dX13_checkNode_95 F_X13_624 qf_950_40 ?_
    refine mj_aload_n dX13_checkNode_98 0 rfl ?_
    refine t_getR 957 dX13_checkNode_99 F_X13_32 qr_950_19 ?_
    refine mj_iload_n dX13_checkNode_102 1 rfl ?_
    refine t_lald dX13_checkNode_103 qa_957 (t_ixv c0) ?_
    refine mj_l2i (v := (s.2.1 957 (x1.toNatClampNeg)).toInt32) dX13_checkNode_104 rfl ?_
    refine t_bndK hk (fun r2 er2 hk => ?_)
    refine t_callViP dX13_checkNode_105 M_X13_find (C_X13_find _ _ _ _ _ _ er2) ML_X13_788 IM_X13_find SE_X13_find qc_950 rfl (As := [.ref 964, .int 0, .int (s.1 950 40), .int ((s.2.1 957 (x1.toNatClampNeg)).toInt32)]) rfl rfl (Nat.le_of_ble_eq_true rfl) (Nat.le_of_ble_eq_true rfl) (Nat.le_of_ble_eq_true rfl) (Nat.le_of_ble_eq_true rfl) ?_
    refine mj_if_ge 365 dX13_checkNode_108 (by decide) (fun z => t_posK hk z (fun hk => ?_)) (fun z => t_negK hk z (fun hk => ?_))
    · exact t_somK hk (fun hf => t_vret dX13_checkNode_365 rfl ⟨rfl, hf⟩ (Nat.le_of_ble_eq_true rfl) (Nat.le_of_ble_eq_true rfl))
    · refine mj_aload_n dX13_checkNode_111 0 rfl ?_
      refine mj_iconst (v := 4) dX13_checkNode_112 (by decide) ?_
      refine mj_aload_n dX13_checkNode_113 0 rfl ?_
      refine t_getR 956 dX13_checkNode_114 F_X13_29 qr_950_18 ?_
      refine mj_iload_n dX13_checkNode_117 1 rfl ?_
      refine t_iald dX13_checkNode_118 qa_956 (t_ixv c0) ?_
      refine t_bndK hk (fun r3 er3 hk => ?_)
      refine t_callVvE dX13_checkNode_119 M_X13_wrong (C_X13_wrong _ _ _ _ er3) ML_X13_795 IM_X13_wrong SE_X13_wrong qc_950 rfl (As := [.int 4, .int (s.1 956 (x1.toNatClampNeg))]) rfl rfl (Nat.le_of_ble_eq_true rfl) (Nat.le_of_ble_eq_true rfl) (Nat.le_of_ble_eq_true rfl) (Nat.le_of_ble_eq_true rfl) ?_
      refine mj_goto 365 dX13_checkNode_122 (by decide) ?_
      exact t_somK hk (fun hf => t_vret dX13_checkNode_365 rfl ⟨rfl, hf⟩ (Nat.le_of_ble_eq_true rfl) (Nat.le_of_ble_eq_true rfl))
  replace hk := t_neg hk h0
  by_cases h1 : (s.1 955 (x1.toNatClampNeg)).toInt = 28
  · replace hk := t_pos hk h1
    refine mj_lookup 125 dX13_checkNode_6 (by decide) (by rw [h1] <;> rfl) (by decide) ?_
    refine mj_aload_n dX13_checkNode_125 0 rfl ?_
    refine mj_aload_n dX13_checkNode_126 0 rfl ?_
    refine t_getR 967 dX13_checkNode_127 F_X13_63 qr_950_41 ?_
    refine mj_iconst (v := 0) dX13_checkNode_130 (by decide) ?_
    refine mj_aload_n dX13_checkNode_131 0 rfl ?_
    refine t_getI dX13_checkNode_132 F_X13_627 qf_950_44 ?_
    refine mj_aload_n dX13_checkNode_135 0 rfl ?_
    refine t_getR 957 dX13_checkNode_136 F_X13_32 qr_950_19 ?_
    refine mj_iload_n dX13_checkNode_139 1 rfl ?_
    refine t_lald dX13_checkNode_140 qa_957 (t_ixv c0) ?_
    refine mj_l2i (v := (s.2.1 957 (x1.toNatClampNeg)).toInt32) dX13_checkNode_141 rfl ?_
    refine t_bndK hk (fun r4 er4 hk => ?_)
    refine t_callViP dX13_checkNode_142 M_X13_find (C_X13_find _ _ _ _ _ _ er4) ML_X13_788 IM_X13_find SE_X13_find qc_950 rfl (As := [.ref 967, .int 0, .int (s.1 950 44), .int ((s.2.1 957 (x1.toNatClampNeg)).toInt32)]) rfl rfl (Nat.le_of_ble_eq_true rfl) (Nat.le_of_ble_eq_true rfl) (Nat.le_of_ble_eq_true rfl) (Nat.le_of_ble_eq_true rfl) ?_
    refine mj_if_ge 365 dX13_checkNode_145 (by decide) (fun z => t_posK hk z (fun hk => ?_)) (fun z => t_negK hk z (fun hk => ?_))
    · exact t_somK hk (fun hf => t_vret dX13_checkNode_365 rfl ⟨rfl, hf⟩ (Nat.le_of_ble_eq_true rfl) (Nat.le_of_ble_eq_true rfl))
    · refine mj_aload_n dX13_checkNode_148 0 rfl ?_
      refine mj_aload_n dX13_checkNode_149 0 rfl ?_
      refine t_getR 957 dX13_checkNode_150 F_X13_32 qr_950_19 ?_
      refine mj_iload_n dX13_checkNode_153 1 rfl ?_
      refine t_lald dX13_checkNode_154 qa_957 (t_ixv c0) ?_
      refine mj_l2i (v := (s.2.1 957 (x1.toNatClampNeg)).toInt32) dX13_checkNode_155 rfl ?_
      refine t_bndK hk (fun r5 er5 hk => ?_)
      refine t_callViP dX13_checkNode_156 M_X13_isEnumWord (C_X13_isEnumWord _ _ _ er5) ML_X13_798 IM_X13_isEnumWord SE_X13_isEnumWord qc_950 rfl (As := [.int ((s.2.1 957 (x1.toNatClampNeg)).toInt32)]) rfl rfl (Nat.le_of_ble_eq_true rfl) (Nat.le_of_ble_eq_true rfl) (Nat.le_of_ble_eq_true rfl) (Nat.le_of_ble_eq_true rfl) ?_
      refine mj_if_ne 365 dX13_checkNode_159 (by decide) (fun z => t_negK hk z (fun hk => ?_)) (fun z => t_posK hk z (fun hk => ?_))
      · exact t_somK hk (fun hf => t_vret dX13_checkNode_365 rfl ⟨rfl, hf⟩ (Nat.le_of_ble_eq_true rfl) (Nat.le_of_ble_eq_true rfl))
      · refine mj_aload_n dX13_checkNode_162 0 rfl ?_
        refine mj_iconst (v := 4) dX13_checkNode_163 (by decide) ?_
        refine mj_aload_n dX13_checkNode_164 0 rfl ?_
        refine t_getR 956 dX13_checkNode_165 F_X13_29 qr_950_18 ?_
        refine mj_iload_n dX13_checkNode_168 1 rfl ?_
        refine t_iald dX13_checkNode_169 qa_956 (t_ixv c0) ?_
        refine t_bndK hk (fun r6 er6 hk => ?_)
        refine t_callVvE dX13_checkNode_170 M_X13_wrong (C_X13_wrong _ _ _ _ er6) ML_X13_795 IM_X13_wrong SE_X13_wrong qc_950 rfl (As := [.int 4, .int (s.1 956 (x1.toNatClampNeg))]) rfl rfl (Nat.le_of_ble_eq_true rfl) (Nat.le_of_ble_eq_true rfl) (Nat.le_of_ble_eq_true rfl) (Nat.le_of_ble_eq_true rfl) ?_
        refine mj_goto 365 dX13_checkNode_173 (by decide) ?_
        exact t_somK hk (fun hf => t_vret dX13_checkNode_365 rfl ⟨rfl, hf⟩ (Nat.le_of_ble_eq_true rfl) (Nat.le_of_ble_eq_true rfl))
  replace hk := t_neg hk h1
  by_cases h2 : (s.1 955 (x1.toNatClampNeg)).toInt = 55
  · replace hk := t_pos hk h2
    refine mj_lookup 259 dX13_checkNode_6 (by decide) (by rw [h2] <;> rfl) (by decide) ?_
    refine mj_aload_n dX13_checkNode_259 0 rfl ?_
    refine t_getR 958 dX13_checkNode_260 F_X13_36 qr_950_20 ?_
    refine mj_iload_n dX13_checkNode_263 1 rfl ?_
    refine t_lald dX13_checkNode_264 qa_958 (t_ixv c0) ?_
    refine mj_lconst (v := 0) dX13_checkNode_265 (by decide) ?_
    refine mj_lcmp dX13_checkNode_266 ?_
    refine mj_if_eq 283 dX13_checkNode_267 (by decide) (fun z => t_posK hk z (fun hk => ?_)) (fun z => t_negK hk z (fun hk => ?_))
    · exact B_X13_checkNode_283 _ _ _ hk
    · refine mj_aload_n dX13_checkNode_270 0 rfl ?_
      refine t_getR 958 dX13_checkNode_271 F_X13_36 qr_950_20 ?_
      refine mj_iload_n dX13_checkNode_274 1 rfl ?_
      refine t_lald dX13_checkNode_275 qa_958 (t_ixv c0) ?_
      refine mj_ldc2 dX13_checkNode_276 K_X13_807 ?_
      refine mj_lcmp dX13_checkNode_279 ?_
      refine mj_if_lt 297 dX13_checkNode_280 (by decide) (fun z => t_posK hk z (fun hk => ?_)) (fun z => t_negK hk z (fun hk => ?_))
      · refine mj_aload_n dX13_checkNode_297 0 rfl ?_
        refine t_getR 955 dX13_checkNode_298 F_X13_26 qr_950_17 ?_
        refine mj_iload_n dX13_checkNode_301 1 rfl ?_
        refine t_iald dX13_checkNode_302 qa_955 (t_ixv c0) ?_
        refine mj_bipush (v := 63) dX13_checkNode_303 (by decide) ?_
        refine mj_icmp_ne 365 dX13_checkNode_305 (by decide) (fun z => t_negK hk z (fun hk => ?_)) (fun z => t_posK hk z (fun hk => ?_))
        · exact t_somK hk (fun hf => t_vret dX13_checkNode_365 rfl ⟨rfl, hf⟩ (Nat.le_of_ble_eq_true rfl) (Nat.le_of_ble_eq_true rfl))
        · refine mj_aload_n dX13_checkNode_308 0 rfl ?_
          refine mj_aload_n dX13_checkNode_309 0 rfl ?_
          refine t_getR 958 dX13_checkNode_310 F_X13_36 qr_950_20 ?_
          refine mj_iload_n dX13_checkNode_313 1 rfl ?_
          refine t_lald dX13_checkNode_314 qa_958 (t_ixv c0) ?_
          refine mj_l2i (v := (s.2.1 958 (x1.toNatClampNeg)).toInt32) dX13_checkNode_315 rfl ?_
          refine t_bndK hk (fun r7 er7 hk => ?_)
          refine t_callViP dX13_checkNode_316 M_X13_componentOf (C_X13_componentOf _ _ _ er7) ML_X13_792 IM_X13_componentOf SE_X13_componentOf qc_950 rfl (As := [.int ((s.2.1 958 (x1.toNatClampNeg)).toInt32)]) rfl rfl (Nat.le_of_ble_eq_true rfl) (Nat.le_of_ble_eq_true rfl) (Nat.le_of_ble_eq_true rfl) (Nat.le_of_ble_eq_true rfl) ?_
          refine mj_istore_n 2 (lv2 := [(2, .int r7), (0, .ref 950), (1, .int x1)]) dX13_checkNode_319 rfl (by decide) rfl ?_
          refine mj_iload_n dX13_checkNode_320 0 rfl ?_
          refine mj_if_lt 351 dX13_checkNode_321 (by decide) (fun z => t_posK hk z (fun hk => ?_)) (fun z => t_negK hk z (fun hk => ?_))
          · refine mj_sublv [(0, .ref 950), (1, .int x1)] [1, 2] rfl ?_
            exact B_X13_checkNode_351 _ _ _ hk
          · refine mj_aload_n dX13_checkNode_324 1 rfl ?_
            refine mj_aload_n dX13_checkNode_325 1 rfl ?_
            refine t_getR 973 dX13_checkNode_326 F_X13_81 qr_950_48 ?_
            refine mj_iconst (v := 4) dX13_checkNode_329 (by decide) ?_
            refine mj_iload_n dX13_checkNode_330 0 rfl ?_
            refine mj_imul dX13_checkNode_331 ?_
            refine mj_aload_n dX13_checkNode_332 1 rfl ?_
            refine t_getR 974 dX13_checkNode_333 F_X13_84 qr_950_49 ?_
            refine mj_iload_n dX13_checkNode_336 0 rfl ?_
            refine t_chkK hk (fun c7 hk => ?_)
            refine t_iald dX13_checkNode_337 qa_974 (t_ixv c7) ?_
            refine mj_aload_n dX13_checkNode_338 1 rfl ?_
            refine t_getR 957 dX13_checkNode_339 F_X13_32 qr_950_19 ?_
            refine mj_iload_n dX13_checkNode_342 2 rfl ?_
            refine t_lald dX13_checkNode_343 qa_957 (t_ixv c0) ?_
            refine mj_l2i (v := (s.2.1 957 (x1.toNatClampNeg)).toInt32) dX13_checkNode_344 rfl ?_
            refine t_bndK hk (fun r9 er9 hk => ?_)
            refine t_callViP dX13_checkNode_345 M_X13_find (C_X13_find _ _ _ _ _ _ er9) ML_X13_788 IM_X13_find SE_X13_find qc_950 rfl (As := [.ref 973, .int ((4 : Int32) * r7), .int (s.1 974 (r7.toNatClampNeg)), .int ((s.2.1 957 (x1.toNatClampNeg)).toInt32)]) rfl rfl (Nat.le_of_ble_eq_true rfl) (Nat.le_of_ble_eq_true rfl) (Nat.le_of_ble_eq_true rfl) (Nat.le_of_ble_eq_true rfl) ?_
            refine mj_if_ge 362 dX13_checkNode_348 (by decide) (fun z => t_posK hk z (fun hk => ?_)) (fun z => t_negK hk z (fun hk => ?_))
            · refine mj_sublv [] [] rfl ?_
              exact B_X13_checkNode_362 _ _ hk
            · refine mj_sublv [(0, .ref 950), (1, .int x1)] [1, 2] rfl ?_
              exact B_X13_checkNode_351 _ _ _ hk
      · exact B_X13_checkNode_283 _ _ _ hk
  replace hk := t_neg hk h2
  by_cases h3 : (s.1 955 (x1.toNatClampNeg)).toInt = 56
  · replace hk := t_pos hk h3
    refine mj_lookup 259 dX13_checkNode_6 (by decide) (by rw [h3] <;> rfl) (by decide) ?_
    refine mj_aload_n dX13_checkNode_259 0 rfl ?_
    refine t_getR 958 dX13_checkNode_260 F_X13_36 qr_950_20 ?_
    refine mj_iload_n dX13_checkNode_263 1 rfl ?_
    refine t_lald dX13_checkNode_264 qa_958 (t_ixv c0) ?_
    refine mj_lconst (v := 0) dX13_checkNode_265 (by decide) ?_
    refine mj_lcmp dX13_checkNode_266 ?_
    refine mj_if_eq 283 dX13_checkNode_267 (by decide) (fun z => t_posK hk z (fun hk => ?_)) (fun z => t_negK hk z (fun hk => ?_))
    · exact B_X13_checkNode_283 _ _ _ hk
    · refine mj_aload_n dX13_checkNode_270 0 rfl ?_
      refine t_getR 958 dX13_checkNode_271 F_X13_36 qr_950_20 ?_
      refine mj_iload_n dX13_checkNode_274 1 rfl ?_
      refine t_lald dX13_checkNode_275 qa_958 (t_ixv c0) ?_
      refine mj_ldc2 dX13_checkNode_276 K_X13_807 ?_
      refine mj_lcmp dX13_checkNode_279 ?_
      refine mj_if_lt 297 dX13_checkNode_280 (by decide) (fun z => t_posK hk z (fun hk => ?_)) (fun z => t_negK hk z (fun hk => ?_))
      · refine mj_aload_n dX13_checkNode_297 0 rfl ?_
        refine t_getR 955 dX13_checkNode_298 F_X13_26 qr_950_17 ?_
        refine mj_iload_n dX13_checkNode_301 1 rfl ?_
        refine t_iald dX13_checkNode_302 qa_955 (t_ixv c0) ?_
        refine mj_bipush (v := 63) dX13_checkNode_303 (by decide) ?_
        refine mj_icmp_ne 365 dX13_checkNode_305 (by decide) (fun z => t_negK hk z (fun hk => ?_)) (fun z => t_posK hk z (fun hk => ?_))
        · exact t_somK hk (fun hf => t_vret dX13_checkNode_365 rfl ⟨rfl, hf⟩ (Nat.le_of_ble_eq_true rfl) (Nat.le_of_ble_eq_true rfl))
        · refine mj_aload_n dX13_checkNode_308 0 rfl ?_
          refine mj_aload_n dX13_checkNode_309 0 rfl ?_
          refine t_getR 958 dX13_checkNode_310 F_X13_36 qr_950_20 ?_
          refine mj_iload_n dX13_checkNode_313 1 rfl ?_
          refine t_lald dX13_checkNode_314 qa_958 (t_ixv c0) ?_
          refine mj_l2i (v := (s.2.1 958 (x1.toNatClampNeg)).toInt32) dX13_checkNode_315 rfl ?_
          refine t_bndK hk (fun r10 er10 hk => ?_)
          refine t_callViP dX13_checkNode_316 M_X13_componentOf (C_X13_componentOf _ _ _ er10) ML_X13_792 IM_X13_componentOf SE_X13_componentOf qc_950 rfl (As := [.int ((s.2.1 958 (x1.toNatClampNeg)).toInt32)]) rfl rfl (Nat.le_of_ble_eq_true rfl) (Nat.le_of_ble_eq_true rfl) (Nat.le_of_ble_eq_true rfl) (Nat.le_of_ble_eq_true rfl) ?_
          refine mj_istore_n 2 (lv2 := [(2, .int r10), (0, .ref 950), (1, .int x1)]) dX13_checkNode_319 rfl (by decide) rfl ?_
          refine mj_iload_n dX13_checkNode_320 0 rfl ?_
          refine mj_if_lt 351 dX13_checkNode_321 (by decide) (fun z => t_posK hk z (fun hk => ?_)) (fun z => t_negK hk z (fun hk => ?_))
          · refine mj_sublv [(0, .ref 950), (1, .int x1)] [1, 2] rfl ?_
            exact B_X13_checkNode_351 _ _ _ hk
          · refine mj_aload_n dX13_checkNode_324 1 rfl ?_
            refine mj_aload_n dX13_checkNode_325 1 rfl ?_
            refine t_getR 973 dX13_checkNode_326 F_X13_81 qr_950_48 ?_
            refine mj_iconst (v := 4) dX13_checkNode_329 (by decide) ?_
            refine mj_iload_n dX13_checkNode_330 0 rfl ?_
            refine mj_imul dX13_checkNode_331 ?_
            refine mj_aload_n dX13_checkNode_332 1 rfl ?_
            refine t_getR 974 dX13_checkNode_333 F_X13_84 qr_950_49 ?_
            refine mj_iload_n dX13_checkNode_336 0 rfl ?_
            refine t_chkK hk (fun c10 hk => ?_)
            refine t_iald dX13_checkNode_337 qa_974 (t_ixv c10) ?_
            refine mj_aload_n dX13_checkNode_338 1 rfl ?_
            refine t_getR 957 dX13_checkNode_339 F_X13_32 qr_950_19 ?_
            refine mj_iload_n dX13_checkNode_342 2 rfl ?_
            refine t_lald dX13_checkNode_343 qa_957 (t_ixv c0) ?_
            refine mj_l2i (v := (s.2.1 957 (x1.toNatClampNeg)).toInt32) dX13_checkNode_344 rfl ?_
            refine t_bndK hk (fun r12 er12 hk => ?_)
            refine t_callViP dX13_checkNode_345 M_X13_find (C_X13_find _ _ _ _ _ _ er12) ML_X13_788 IM_X13_find SE_X13_find qc_950 rfl (As := [.ref 973, .int ((4 : Int32) * r10), .int (s.1 974 (r10.toNatClampNeg)), .int ((s.2.1 957 (x1.toNatClampNeg)).toInt32)]) rfl rfl (Nat.le_of_ble_eq_true rfl) (Nat.le_of_ble_eq_true rfl) (Nat.le_of_ble_eq_true rfl) (Nat.le_of_ble_eq_true rfl) ?_
            refine mj_if_ge 362 dX13_checkNode_348 (by decide) (fun z => t_posK hk z (fun hk => ?_)) (fun z => t_negK hk z (fun hk => ?_))
            · refine mj_sublv [] [] rfl ?_
              exact B_X13_checkNode_362 _ _ hk
            · refine mj_sublv [(0, .ref 950), (1, .int x1)] [1, 2] rfl ?_
              exact B_X13_checkNode_351 _ _ _ hk
      · exact B_X13_checkNode_283 _ _ _ hk
  replace hk := t_neg hk h3
  by_cases h4 : (s.1 955 (x1.toNatClampNeg)).toInt = 57
  · replace hk := t_pos hk h4
    refine mj_lookup 259 dX13_checkNode_6 (by decide) (by rw [h4] <;> rfl) (by decide) ?_
    refine mj_aload_n dX13_checkNode_259 0 rfl ?_
    refine t_getR 958 dX13_checkNode_260 F_X13_36 qr_950_20 ?_
    refine mj_iload_n dX13_checkNode_263 1 rfl ?_
    refine t_lald dX13_checkNode_264 qa_958 (t_ixv c0) ?_
    refine mj_lconst (v := 0) dX13_checkNode_265 (by decide) ?_
    refine mj_lcmp dX13_checkNode_266 ?_
    refine mj_if_eq 283 dX13_checkNode_267 (by decide) (fun z => t_posK hk z (fun hk => ?_)) (fun z => t_negK hk z (fun hk => ?_))
    · exact B_X13_checkNode_283 _ _ _ hk
    · refine mj_aload_n dX13_checkNode_270 0 rfl ?_
      refine t_getR 958 dX13_checkNode_271 F_X13_36 qr_950_20 ?_
      refine mj_iload_n dX13_checkNode_274 1 rfl ?_
      refine t_lald dX13_checkNode_275 qa_958 (t_ixv c0) ?_
      refine mj_ldc2 dX13_checkNode_276 K_X13_807 ?_
      refine mj_lcmp dX13_checkNode_279 ?_
      refine mj_if_lt 297 dX13_checkNode_280 (by decide) (fun z => t_posK hk z (fun hk => ?_)) (fun z => t_negK hk z (fun hk => ?_))
      · refine mj_aload_n dX13_checkNode_297 0 rfl ?_
        refine t_getR 955 dX13_checkNode_298 F_X13_26 qr_950_17 ?_
        refine mj_iload_n dX13_checkNode_301 1 rfl ?_
        refine t_iald dX13_checkNode_302 qa_955 (t_ixv c0) ?_
        refine mj_bipush (v := 63) dX13_checkNode_303 (by decide) ?_
        refine mj_icmp_ne 365 dX13_checkNode_305 (by decide) (fun z => t_negK hk z (fun hk => ?_)) (fun z => t_posK hk z (fun hk => ?_))
        · exact t_somK hk (fun hf => t_vret dX13_checkNode_365 rfl ⟨rfl, hf⟩ (Nat.le_of_ble_eq_true rfl) (Nat.le_of_ble_eq_true rfl))
        · refine mj_aload_n dX13_checkNode_308 0 rfl ?_
          refine mj_aload_n dX13_checkNode_309 0 rfl ?_
          refine t_getR 958 dX13_checkNode_310 F_X13_36 qr_950_20 ?_
          refine mj_iload_n dX13_checkNode_313 1 rfl ?_
          refine t_lald dX13_checkNode_314 qa_958 (t_ixv c0) ?_
          refine mj_l2i (v := (s.2.1 958 (x1.toNatClampNeg)).toInt32) dX13_checkNode_315 rfl ?_
          refine t_bndK hk (fun r13 er13 hk => ?_)
          refine t_callViP dX13_checkNode_316 M_X13_componentOf (C_X13_componentOf _ _ _ er13) ML_X13_792 IM_X13_componentOf SE_X13_componentOf qc_950 rfl (As := [.int ((s.2.1 958 (x1.toNatClampNeg)).toInt32)]) rfl rfl (Nat.le_of_ble_eq_true rfl) (Nat.le_of_ble_eq_true rfl) (Nat.le_of_ble_eq_true rfl) (Nat.le_of_ble_eq_true rfl) ?_
          refine mj_istore_n 2 (lv2 := [(2, .int r13), (0, .ref 950), (1, .int x1)]) dX13_checkNode_319 rfl (by decide) rfl ?_
          refine mj_iload_n dX13_checkNode_320 0 rfl ?_
          refine mj_if_lt 351 dX13_checkNode_321 (by decide) (fun z => t_posK hk z (fun hk => ?_)) (fun z => t_negK hk z (fun hk => ?_))
          · refine mj_sublv [(0, .ref 950), (1, .int x1)] [1, 2] rfl ?_
            exact B_X13_checkNode_351 _ _ _ hk
          · refine mj_aload_n dX13_checkNode_324 1 rfl ?_
            refine mj_aload_n dX13_checkNode_325 1 rfl ?_
            refine t_getR 973 dX13_checkNode_326 F_X13_81 qr_950_48 ?_
            refine mj_iconst (v := 4) dX13_checkNode_329 (by decide) ?_
            refine mj_iload_n dX13_checkNode_330 0 rfl ?_
            refine mj_imul dX13_checkNode_331 ?_
            refine mj_aload_n dX13_checkNode_332 1 rfl ?_
            refine t_getR 974 dX13_checkNode_333 F_X13_84 qr_950_49 ?_
            refine mj_iload_n dX13_checkNode_336 0 rfl ?_
            refine t_chkK hk (fun c13 hk => ?_)
            refine t_iald dX13_checkNode_337 qa_974 (t_ixv c13) ?_
            refine mj_aload_n dX13_checkNode_338 1 rfl ?_
            refine t_getR 957 dX13_checkNode_339 F_X13_32 qr_950_19 ?_
            refine mj_iload_n dX13_checkNode_342 2 rfl ?_
            refine t_lald dX13_checkNode_343 qa_957 (t_ixv c0) ?_
            refine mj_l2i (v := (s.2.1 957 (x1.toNatClampNeg)).toInt32) dX13_checkNode_344 rfl ?_
            refine t_bndK hk (fun r15 er15 hk => ?_)
            refine t_callViP dX13_checkNode_345 M_X13_find (C_X13_find _ _ _ _ _ _ er15) ML_X13_788 IM_X13_find SE_X13_find qc_950 rfl (As := [.ref 973, .int ((4 : Int32) * r13), .int (s.1 974 (r13.toNatClampNeg)), .int ((s.2.1 957 (x1.toNatClampNeg)).toInt32)]) rfl rfl (Nat.le_of_ble_eq_true rfl) (Nat.le_of_ble_eq_true rfl) (Nat.le_of_ble_eq_true rfl) (Nat.le_of_ble_eq_true rfl) ?_
            refine mj_if_ge 362 dX13_checkNode_348 (by decide) (fun z => t_posK hk z (fun hk => ?_)) (fun z => t_negK hk z (fun hk => ?_))
            · refine mj_sublv [] [] rfl ?_
              exact B_X13_checkNode_362 _ _ hk
            · refine mj_sublv [(0, .ref 950), (1, .int x1)] [1, 2] rfl ?_
              exact B_X13_checkNode_351 _ _ _ hk
      · exact B_X13_checkNode_283 _ _ _ hk
  replace hk := t_neg hk h4
  by_cases h5 : (s.1 955 (x1.toNatClampNeg)).toInt = 58
  · replace hk := t_pos hk h5
    refine mj_lookup 176 dX13_checkNode_6 (by decide) (by rw [h5] <;> rfl) (by decide) ?_
    refine mj_aload_n dX13_checkNode_176 0 rfl ?_
    refine t_getR 958 dX13_checkNode_177 F_X13_36 qr_950_20 ?_
    refine mj_iload_n dX13_checkNode_180 1 rfl ?_
    refine t_lald dX13_checkNode_181 qa_958 (t_ixv c0) ?_
    refine mj_lconst (v := 0) dX13_checkNode_182 (by decide) ?_
    refine mj_lcmp dX13_checkNode_183 ?_
    refine mj_if_ne 204 dX13_checkNode_184 (by decide) (fun z => t_negK hk z (fun hk => ?_)) (fun z => t_posK hk z (fun hk => ?_))
    · exact B_X13_checkNode_204 _ _ _ hk
    · refine mj_aload_n dX13_checkNode_187 0 rfl ?_
      refine t_getR 961 dX13_checkNode_188 F_X13_45 qr_950_23 ?_
      refine mj_iload_n dX13_checkNode_191 1 rfl ?_
      refine t_iald dX13_checkNode_192 qa_961 (t_ixv c0) ?_
      refine mj_if_ne 204 dX13_checkNode_193 (by decide) (fun z => t_negK hk z (fun hk => ?_)) (fun z => t_posK hk z (fun hk => ?_))
      · exact B_X13_checkNode_204 _ _ _ hk
      · refine mj_aload_n dX13_checkNode_196 0 rfl ?_
        refine mj_iload_n dX13_checkNode_197 1 rfl ?_
        refine t_bndK hk (fun r16 er16 hk => ?_)
        refine t_callViP dX13_checkNode_198 M_X13_isWay (C_X13_isWay _ _ _ er16) ML_X13_801 IM_X13_isWay SE_X13_isWay qc_950 rfl (As := [.int x1]) rfl rfl (Nat.le_of_ble_eq_true rfl) (Nat.le_of_ble_eq_true rfl) (Nat.le_of_ble_eq_true rfl) (Nat.le_of_ble_eq_true rfl) ?_
        refine mj_if_ne 365 dX13_checkNode_201 (by decide) (fun z => t_negK hk z (fun hk => ?_)) (fun z => t_posK hk z (fun hk => ?_))
        · exact t_somK hk (fun hf => t_vret dX13_checkNode_365 rfl ⟨rfl, hf⟩ (Nat.le_of_ble_eq_true rfl) (Nat.le_of_ble_eq_true rfl))
        · exact B_X13_checkNode_204 _ _ _ hk
  replace hk := t_neg hk h5
  by_cases h6 : (s.1 955 (x1.toNatClampNeg)).toInt = 61
  · replace hk := t_pos hk h6
    refine mj_lookup 259 dX13_checkNode_6 (by decide) (by rw [h6] <;> rfl) (by decide) ?_
    refine mj_aload_n dX13_checkNode_259 0 rfl ?_
    refine t_getR 958 dX13_checkNode_260 F_X13_36 qr_950_20 ?_
    refine mj_iload_n dX13_checkNode_263 1 rfl ?_
    refine t_lald dX13_checkNode_264 qa_958 (t_ixv c0) ?_
    refine mj_lconst (v := 0) dX13_checkNode_265 (by decide) ?_
    refine mj_lcmp dX13_checkNode_266 ?_
    refine mj_if_eq 283 dX13_checkNode_267 (by decide) (fun z => t_posK hk z (fun hk => ?_)) (fun z => t_negK hk z (fun hk => ?_))
    · exact B_X13_checkNode_283 _ _ _ hk
    · refine mj_aload_n dX13_checkNode_270 0 rfl ?_
      refine t_getR 958 dX13_checkNode_271 F_X13_36 qr_950_20 ?_
      refine mj_iload_n dX13_checkNode_274 1 rfl ?_
      refine t_lald dX13_checkNode_275 qa_958 (t_ixv c0) ?_
      refine mj_ldc2 dX13_checkNode_276 K_X13_807 ?_
      refine mj_lcmp dX13_checkNode_279 ?_
      refine mj_if_lt 297 dX13_checkNode_280 (by decide) (fun z => t_posK hk z (fun hk => ?_)) (fun z => t_negK hk z (fun hk => ?_))
      · refine mj_aload_n dX13_checkNode_297 0 rfl ?_
        refine t_getR 955 dX13_checkNode_298 F_X13_26 qr_950_17 ?_
        refine mj_iload_n dX13_checkNode_301 1 rfl ?_
        refine t_iald dX13_checkNode_302 qa_955 (t_ixv c0) ?_
        refine mj_bipush (v := 63) dX13_checkNode_303 (by decide) ?_
        refine mj_icmp_ne 365 dX13_checkNode_305 (by decide) (fun z => t_negK hk z (fun hk => ?_)) (fun z => t_posK hk z (fun hk => ?_))
        · exact t_somK hk (fun hf => t_vret dX13_checkNode_365 rfl ⟨rfl, hf⟩ (Nat.le_of_ble_eq_true rfl) (Nat.le_of_ble_eq_true rfl))
        · refine mj_aload_n dX13_checkNode_308 0 rfl ?_
          refine mj_aload_n dX13_checkNode_309 0 rfl ?_
          refine t_getR 958 dX13_checkNode_310 F_X13_36 qr_950_20 ?_
          refine mj_iload_n dX13_checkNode_313 1 rfl ?_
          refine t_lald dX13_checkNode_314 qa_958 (t_ixv c0) ?_
          refine mj_l2i (v := (s.2.1 958 (x1.toNatClampNeg)).toInt32) dX13_checkNode_315 rfl ?_
          refine t_bndK hk (fun r17 er17 hk => ?_)
          refine t_callViP dX13_checkNode_316 M_X13_componentOf (C_X13_componentOf _ _ _ er17) ML_X13_792 IM_X13_componentOf SE_X13_componentOf qc_950 rfl (As := [.int ((s.2.1 958 (x1.toNatClampNeg)).toInt32)]) rfl rfl (Nat.le_of_ble_eq_true rfl) (Nat.le_of_ble_eq_true rfl) (Nat.le_of_ble_eq_true rfl) (Nat.le_of_ble_eq_true rfl) ?_
          refine mj_istore_n 2 (lv2 := [(2, .int r17), (0, .ref 950), (1, .int x1)]) dX13_checkNode_319 rfl (by decide) rfl ?_
          refine mj_iload_n dX13_checkNode_320 0 rfl ?_
          refine mj_if_lt 351 dX13_checkNode_321 (by decide) (fun z => t_posK hk z (fun hk => ?_)) (fun z => t_negK hk z (fun hk => ?_))
          · refine mj_sublv [(0, .ref 950), (1, .int x1)] [1, 2] rfl ?_
            exact B_X13_checkNode_351 _ _ _ hk
          · refine mj_aload_n dX13_checkNode_324 1 rfl ?_
            refine mj_aload_n dX13_checkNode_325 1 rfl ?_
            refine t_getR 973 dX13_checkNode_326 F_X13_81 qr_950_48 ?_
            refine mj_iconst (v := 4) dX13_checkNode_329 (by decide) ?_
            refine mj_iload_n dX13_checkNode_330 0 rfl ?_
            refine mj_imul dX13_checkNode_331 ?_
            refine mj_aload_n dX13_checkNode_332 1 rfl ?_
            refine t_getR 974 dX13_checkNode_333 F_X13_84 qr_950_49 ?_
            refine mj_iload_n dX13_checkNode_336 0 rfl ?_
            refine t_chkK hk (fun c17 hk => ?_)
            refine t_iald dX13_checkNode_337 qa_974 (t_ixv c17) ?_
            refine mj_aload_n dX13_checkNode_338 1 rfl ?_
            refine t_getR 957 dX13_checkNode_339 F_X13_32 qr_950_19 ?_
            refine mj_iload_n dX13_checkNode_342 2 rfl ?_
            refine t_lald dX13_checkNode_343 qa_957 (t_ixv c0) ?_
            refine mj_l2i (v := (s.2.1 957 (x1.toNatClampNeg)).toInt32) dX13_checkNode_344 rfl ?_
            refine t_bndK hk (fun r19 er19 hk => ?_)
            refine t_callViP dX13_checkNode_345 M_X13_find (C_X13_find _ _ _ _ _ _ er19) ML_X13_788 IM_X13_find SE_X13_find qc_950 rfl (As := [.ref 973, .int ((4 : Int32) * r17), .int (s.1 974 (r17.toNatClampNeg)), .int ((s.2.1 957 (x1.toNatClampNeg)).toInt32)]) rfl rfl (Nat.le_of_ble_eq_true rfl) (Nat.le_of_ble_eq_true rfl) (Nat.le_of_ble_eq_true rfl) (Nat.le_of_ble_eq_true rfl) ?_
            refine mj_if_ge 362 dX13_checkNode_348 (by decide) (fun z => t_posK hk z (fun hk => ?_)) (fun z => t_negK hk z (fun hk => ?_))
            · refine mj_sublv [] [] rfl ?_
              exact B_X13_checkNode_362 _ _ hk
            · refine mj_sublv [(0, .ref 950), (1, .int x1)] [1, 2] rfl ?_
              exact B_X13_checkNode_351 _ _ _ hk
      · exact B_X13_checkNode_283 _ _ _ hk
  replace hk := t_neg hk h6
  by_cases h7 : (s.1 955 (x1.toNatClampNeg)).toInt = 62
  · replace hk := t_pos hk h7
    refine mj_lookup 259 dX13_checkNode_6 (by decide) (by rw [h7] <;> rfl) (by decide) ?_
    refine mj_aload_n dX13_checkNode_259 0 rfl ?_
    refine t_getR 958 dX13_checkNode_260 F_X13_36 qr_950_20 ?_
    refine mj_iload_n dX13_checkNode_263 1 rfl ?_
    refine t_lald dX13_checkNode_264 qa_958 (t_ixv c0) ?_
    refine mj_lconst (v := 0) dX13_checkNode_265 (by decide) ?_
    refine mj_lcmp dX13_checkNode_266 ?_
    refine mj_if_eq 283 dX13_checkNode_267 (by decide) (fun z => t_posK hk z (fun hk => ?_)) (fun z => t_negK hk z (fun hk => ?_))
    · exact B_X13_checkNode_283 _ _ _ hk
    · refine mj_aload_n dX13_checkNode_270 0 rfl ?_
      refine t_getR 958 dX13_checkNode_271 F_X13_36 qr_950_20 ?_
      refine mj_iload_n dX13_checkNode_274 1 rfl ?_
      refine t_lald dX13_checkNode_275 qa_958 (t_ixv c0) ?_
      refine mj_ldc2 dX13_checkNode_276 K_X13_807 ?_
      refine mj_lcmp dX13_checkNode_279 ?_
      refine mj_if_lt 297 dX13_checkNode_280 (by decide) (fun z => t_posK hk z (fun hk => ?_)) (fun z => t_negK hk z (fun hk => ?_))
      · refine mj_aload_n dX13_checkNode_297 0 rfl ?_
        refine t_getR 955 dX13_checkNode_298 F_X13_26 qr_950_17 ?_
        refine mj_iload_n dX13_checkNode_301 1 rfl ?_
        refine t_iald dX13_checkNode_302 qa_955 (t_ixv c0) ?_
        refine mj_bipush (v := 63) dX13_checkNode_303 (by decide) ?_
        refine mj_icmp_ne 365 dX13_checkNode_305 (by decide) (fun z => t_negK hk z (fun hk => ?_)) (fun z => t_posK hk z (fun hk => ?_))
        · exact t_somK hk (fun hf => t_vret dX13_checkNode_365 rfl ⟨rfl, hf⟩ (Nat.le_of_ble_eq_true rfl) (Nat.le_of_ble_eq_true rfl))
        · refine mj_aload_n dX13_checkNode_308 0 rfl ?_
          refine mj_aload_n dX13_checkNode_309 0 rfl ?_
          refine t_getR 958 dX13_checkNode_310 F_X13_36 qr_950_20 ?_
          refine mj_iload_n dX13_checkNode_313 1 rfl ?_
          refine t_lald dX13_checkNode_314 qa_958 (t_ixv c0) ?_
          refine mj_l2i (v := (s.2.1 958 (x1.toNatClampNeg)).toInt32) dX13_checkNode_315 rfl ?_
          refine t_bndK hk (fun r20 er20 hk => ?_)
          refine t_callViP dX13_checkNode_316 M_X13_componentOf (C_X13_componentOf _ _ _ er20) ML_X13_792 IM_X13_componentOf SE_X13_componentOf qc_950 rfl (As := [.int ((s.2.1 958 (x1.toNatClampNeg)).toInt32)]) rfl rfl (Nat.le_of_ble_eq_true rfl) (Nat.le_of_ble_eq_true rfl) (Nat.le_of_ble_eq_true rfl) (Nat.le_of_ble_eq_true rfl) ?_
          refine mj_istore_n 2 (lv2 := [(2, .int r20), (0, .ref 950), (1, .int x1)]) dX13_checkNode_319 rfl (by decide) rfl ?_
          refine mj_iload_n dX13_checkNode_320 0 rfl ?_
          refine mj_if_lt 351 dX13_checkNode_321 (by decide) (fun z => t_posK hk z (fun hk => ?_)) (fun z => t_negK hk z (fun hk => ?_))
          · refine mj_sublv [(0, .ref 950), (1, .int x1)] [1, 2] rfl ?_
            exact B_X13_checkNode_351 _ _ _ hk
          · refine mj_aload_n dX13_checkNode_324 1 rfl ?_
            refine mj_aload_n dX13_checkNode_325 1 rfl ?_
            refine t_getR 973 dX13_checkNode_326 F_X13_81 qr_950_48 ?_
            refine mj_iconst (v := 4) dX13_checkNode_329 (by decide) ?_
            refine mj_iload_n dX13_checkNode_330 0 rfl ?_
            refine mj_imul dX13_checkNode_331 ?_
            refine mj_aload_n dX13_checkNode_332 1 rfl ?_
            refine t_getR 974 dX13_checkNode_333 F_X13_84 qr_950_49 ?_
            refine mj_iload_n dX13_checkNode_336 0 rfl ?_
            refine t_chkK hk (fun c20 hk => ?_)
            refine t_iald dX13_checkNode_337 qa_974 (t_ixv c20) ?_
            refine mj_aload_n dX13_checkNode_338 1 rfl ?_
            refine t_getR 957 dX13_checkNode_339 F_X13_32 qr_950_19 ?_
            refine mj_iload_n dX13_checkNode_342 2 rfl ?_
            refine t_lald dX13_checkNode_343 qa_957 (t_ixv c0) ?_
            refine mj_l2i (v := (s.2.1 957 (x1.toNatClampNeg)).toInt32) dX13_checkNode_344 rfl ?_
            refine t_bndK hk (fun r22 er22 hk => ?_)
            refine t_callViP dX13_checkNode_345 M_X13_find (C_X13_find _ _ _ _ _ _ er22) ML_X13_788 IM_X13_find SE_X13_find qc_950 rfl (As := [.ref 973, .int ((4 : Int32) * r20), .int (s.1 974 (r20.toNatClampNeg)), .int ((s.2.1 957 (x1.toNatClampNeg)).toInt32)]) rfl rfl (Nat.le_of_ble_eq_true rfl) (Nat.le_of_ble_eq_true rfl) (Nat.le_of_ble_eq_true rfl) (Nat.le_of_ble_eq_true rfl) ?_
            refine mj_if_ge 362 dX13_checkNode_348 (by decide) (fun z => t_posK hk z (fun hk => ?_)) (fun z => t_negK hk z (fun hk => ?_))
            · refine mj_sublv [] [] rfl ?_
              exact B_X13_checkNode_362 _ _ hk
            · refine mj_sublv [(0, .ref 950), (1, .int x1)] [1, 2] rfl ?_
              exact B_X13_checkNode_351 _ _ _ hk
      · exact B_X13_checkNode_283 _ _ _ hk
  replace hk := t_neg hk h7
  by_cases h8 : (s.1 955 (x1.toNatClampNeg)).toInt = 63
  · replace hk := t_pos hk h8
    refine mj_lookup 259 dX13_checkNode_6 (by decide) (by rw [h8] <;> rfl) (by decide) ?_
    refine mj_aload_n dX13_checkNode_259 0 rfl ?_
    refine t_getR 958 dX13_checkNode_260 F_X13_36 qr_950_20 ?_
    refine mj_iload_n dX13_checkNode_263 1 rfl ?_
    refine t_lald dX13_checkNode_264 qa_958 (t_ixv c0) ?_
    refine mj_lconst (v := 0) dX13_checkNode_265 (by decide) ?_
    refine mj_lcmp dX13_checkNode_266 ?_
    refine mj_if_eq 283 dX13_checkNode_267 (by decide) (fun z => t_posK hk z (fun hk => ?_)) (fun z => t_negK hk z (fun hk => ?_))
    · exact B_X13_checkNode_283 _ _ _ hk
    · refine mj_aload_n dX13_checkNode_270 0 rfl ?_
      refine t_getR 958 dX13_checkNode_271 F_X13_36 qr_950_20 ?_
      refine mj_iload_n dX13_checkNode_274 1 rfl ?_
      refine t_lald dX13_checkNode_275 qa_958 (t_ixv c0) ?_
      refine mj_ldc2 dX13_checkNode_276 K_X13_807 ?_
      refine mj_lcmp dX13_checkNode_279 ?_
      refine mj_if_lt 297 dX13_checkNode_280 (by decide) (fun z => t_posK hk z (fun hk => ?_)) (fun z => t_negK hk z (fun hk => ?_))
      · refine mj_aload_n dX13_checkNode_297 0 rfl ?_
        refine t_getR 955 dX13_checkNode_298 F_X13_26 qr_950_17 ?_
        refine mj_iload_n dX13_checkNode_301 1 rfl ?_
        refine t_iald dX13_checkNode_302 qa_955 (t_ixv c0) ?_
        refine mj_bipush (v := 63) dX13_checkNode_303 (by decide) ?_
        refine mj_icmp_ne 365 dX13_checkNode_305 (by decide) (fun z => t_negK hk z (fun hk => ?_)) (fun z => t_posK hk z (fun hk => ?_))
        · exact t_somK hk (fun hf => t_vret dX13_checkNode_365 rfl ⟨rfl, hf⟩ (Nat.le_of_ble_eq_true rfl) (Nat.le_of_ble_eq_true rfl))
        · refine mj_aload_n dX13_checkNode_308 0 rfl ?_
          refine mj_aload_n dX13_checkNode_309 0 rfl ?_
          refine t_getR 958 dX13_checkNode_310 F_X13_36 qr_950_20 ?_
          refine mj_iload_n dX13_checkNode_313 1 rfl ?_
          refine t_lald dX13_checkNode_314 qa_958 (t_ixv c0) ?_
          refine mj_l2i (v := (s.2.1 958 (x1.toNatClampNeg)).toInt32) dX13_checkNode_315 rfl ?_
          refine t_bndK hk (fun r23 er23 hk => ?_)
          refine t_callViP dX13_checkNode_316 M_X13_componentOf (C_X13_componentOf _ _ _ er23) ML_X13_792 IM_X13_componentOf SE_X13_componentOf qc_950 rfl (As := [.int ((s.2.1 958 (x1.toNatClampNeg)).toInt32)]) rfl rfl (Nat.le_of_ble_eq_true rfl) (Nat.le_of_ble_eq_true rfl) (Nat.le_of_ble_eq_true rfl) (Nat.le_of_ble_eq_true rfl) ?_
          refine mj_istore_n 2 (lv2 := [(2, .int r23), (0, .ref 950), (1, .int x1)]) dX13_checkNode_319 rfl (by decide) rfl ?_
          refine mj_iload_n dX13_checkNode_320 0 rfl ?_
          refine mj_if_lt 351 dX13_checkNode_321 (by decide) (fun z => t_posK hk z (fun hk => ?_)) (fun z => t_negK hk z (fun hk => ?_))
          · refine mj_sublv [(0, .ref 950), (1, .int x1)] [1, 2] rfl ?_
            exact B_X13_checkNode_351 _ _ _ hk
          · refine mj_aload_n dX13_checkNode_324 1 rfl ?_
            refine mj_aload_n dX13_checkNode_325 1 rfl ?_
            refine t_getR 973 dX13_checkNode_326 F_X13_81 qr_950_48 ?_
            refine mj_iconst (v := 4) dX13_checkNode_329 (by decide) ?_
            refine mj_iload_n dX13_checkNode_330 0 rfl ?_
            refine mj_imul dX13_checkNode_331 ?_
            refine mj_aload_n dX13_checkNode_332 1 rfl ?_
            refine t_getR 974 dX13_checkNode_333 F_X13_84 qr_950_49 ?_
            refine mj_iload_n dX13_checkNode_336 0 rfl ?_
            refine t_chkK hk (fun c23 hk => ?_)
            refine t_iald dX13_checkNode_337 qa_974 (t_ixv c23) ?_
            refine mj_aload_n dX13_checkNode_338 1 rfl ?_
            refine t_getR 957 dX13_checkNode_339 F_X13_32 qr_950_19 ?_
            refine mj_iload_n dX13_checkNode_342 2 rfl ?_
            refine t_lald dX13_checkNode_343 qa_957 (t_ixv c0) ?_
            refine mj_l2i (v := (s.2.1 957 (x1.toNatClampNeg)).toInt32) dX13_checkNode_344 rfl ?_
            refine t_bndK hk (fun r25 er25 hk => ?_)
            refine t_callViP dX13_checkNode_345 M_X13_find (C_X13_find _ _ _ _ _ _ er25) ML_X13_788 IM_X13_find SE_X13_find qc_950 rfl (As := [.ref 973, .int ((4 : Int32) * r23), .int (s.1 974 (r23.toNatClampNeg)), .int ((s.2.1 957 (x1.toNatClampNeg)).toInt32)]) rfl rfl (Nat.le_of_ble_eq_true rfl) (Nat.le_of_ble_eq_true rfl) (Nat.le_of_ble_eq_true rfl) (Nat.le_of_ble_eq_true rfl) ?_
            refine mj_if_ge 362 dX13_checkNode_348 (by decide) (fun z => t_posK hk z (fun hk => ?_)) (fun z => t_negK hk z (fun hk => ?_))
            · refine mj_sublv [] [] rfl ?_
              exact B_X13_checkNode_362 _ _ hk
            · refine mj_sublv [(0, .ref 950), (1, .int x1)] [1, 2] rfl ?_
              exact B_X13_checkNode_351 _ _ _ hk
      · exact B_X13_checkNode_283 _ _ _ hk
  replace hk := t_neg hk h8
  refine mj_lookup 365 dX13_checkNode_6 (by decide) (t_lk0 _ (And.intro h0 (And.intro h1 (And.intro h2 (And.intro h3 (And.intro h4 (And.intro h5 (And.intro h6 (And.intro h7 (And.intro h8 trivial)))))))))) (by decide) ?_
  exact t_somK hk (fun hf => t_vret dX13_checkNode_365 rfl ⟨rfl, hf⟩ (Nat.le_of_ble_eq_true rfl) (Nat.le_of_ble_eq_true rfl))

