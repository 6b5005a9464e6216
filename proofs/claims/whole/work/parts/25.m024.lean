/-! Methods as functions, 24: X3_settleName, X3_settleUnit, X3_settleNames, X3_settleTold, X6_finishReading -/
theorem qa_3 : t_oka 3 1 12001 = true := by decide +kernel
theorem qa_327 : t_oka 327 1 60 = true := by decide +kernel
theorem qa_4 : t_oka 4 1 12001 = true := by decide +kernel
theorem qa_5 : t_oka 5 2 12001 = true := by decide +kernel
theorem qf_1_10 : t_okf 1 2 10 1 = true := by decide +kernel
theorem qf_1_6 : t_okf 1 2 6 0 = true := by decide +kernel
theorem qf_1_7 : t_okf 1 2 7 0 = true := by decide +kernel
theorem qf_845_15 : t_okf 845 6 15 0 = true := by decide +kernel
theorem qf_846_6 : t_okf 846 3 6 0 = true := by decide +kernel
theorem qr_1_3 : t_okr 1 2 3 3 = true := by decide +kernel
theorem qr_1_4 : t_okr 1 2 4 4 = true := by decide +kernel
theorem qr_1_5 : t_okr 1 2 5 5 = true := by decide +kernel
theorem qr_316_12 : t_okr 316 11 12 327 = true := by decide +kernel
theorem qr_845_0 : t_okr 845 6 0 1 = true := by decide +kernel
theorem qr_845_5 : t_okr 845 6 5 846 = true := by decide +kernel
theorem dX3_settleName_0 : decode cX3_settleName 0 = .ok (.aload_n 0, 1) := by decide +kernel
theorem dX3_settleName_1 : decode cX3_settleName 1 = .ok (.getfield 11, 3) := by decide +kernel
theorem dX3_settleName_10 : decode cX3_settleName 10 = .ok (.getfield 11, 3) := by decide +kernel
theorem dX3_settleName_108 : decode cX3_settleName 108 = .ok (.aload_n 0, 1) := by decide +kernel
theorem dX3_settleName_109 : decode cX3_settleName 109 = .ok (.getfield 18, 3) := by decide +kernel
theorem dX3_settleName_112 : decode cX3_settleName 112 = .ok (.getfield 91, 3) := by decide +kernel
theorem dX3_settleName_115 : decode cX3_settleName 115 = .ok (.iload_n 3, 1) := by decide +kernel
theorem dX3_settleName_116 : decode cX3_settleName 116 = .ok (.aload_n 0, 1) := by decide +kernel
theorem dX3_settleName_117 : decode cX3_settleName 117 = .ok (.iload_n 2, 1) := by decide +kernel
theorem dX3_settleName_118 : decode cX3_settleName 118 = .ok (.iconst 0, 1) := by decide +kernel
theorem dX3_settleName_119 : decode cX3_settleName 119 = .ok (.invokevirtual 87, 3) := by decide +kernel
theorem dX3_settleName_122 : decode cX3_settleName 122 = .ok (.iastore, 1) := by decide +kernel
theorem dX3_settleName_123 : decode cX3_settleName 123 = .ok (.aload_n 0, 1) := by decide +kernel
theorem dX3_settleName_124 : decode cX3_settleName 124 = .ok (.getfield 18, 3) := by decide +kernel
theorem dX3_settleName_127 : decode cX3_settleName 127 = .ok (.getfield 91, 3) := by decide +kernel
theorem dX3_settleName_13 : decode cX3_settleName 13 = .ok (.iconst 4, 1) := by decide +kernel
theorem dX3_settleName_130 : decode cX3_settleName 130 = .ok (.iload_n 3, 1) := by decide +kernel
theorem dX3_settleName_131 : decode cX3_settleName 131 = .ok (.iaload, 1) := by decide +kernel
theorem dX3_settleName_132 : decode cX3_settleName 132 = .ok (.ifCond .lt 7, 3) := by decide +kernel
theorem dX3_settleName_135 : decode cX3_settleName 135 = .ok (.iconst 1, 1) := by decide +kernel
theorem dX3_settleName_136 : decode cX3_settleName 136 = .ok (.goto 4, 3) := by decide +kernel
theorem dX3_settleName_139 : decode cX3_settleName 139 = .ok (.iconst 0, 1) := by decide +kernel
theorem dX3_settleName_14 : decode cX3_settleName 14 = .ok (.aaload, 1) := by decide +kernel
theorem dX3_settleName_140 : decode cX3_settleName 140 = .ok (.ireturn, 1) := by decide +kernel
theorem dX3_settleName_141 : decode cX3_settleName 141 = .ok (.aload_n 0, 1) := by decide +kernel
theorem dX3_settleName_142 : decode cX3_settleName 142 = .ok (.getfield 30, 3) := by decide +kernel
theorem dX3_settleName_145 : decode cX3_settleName 145 = .ok (.getfield 94, 3) := by decide +kernel
theorem dX3_settleName_148 : decode cX3_settleName 148 = .ok (.iload_n 3, 1) := by decide +kernel
theorem dX3_settleName_149 : decode cX3_settleName 149 = .ok (.aload_n 0, 1) := by decide +kernel
theorem dX3_settleName_15 : decode cX3_settleName 15 = .ok (.iload_n 1, 1) := by decide +kernel
theorem dX3_settleName_150 : decode cX3_settleName 150 = .ok (.iload_n 2, 1) := by decide +kernel
theorem dX3_settleName_151 : decode cX3_settleName 151 = .ok (.iconst 0, 1) := by decide +kernel
theorem dX3_settleName_152 : decode cX3_settleName 152 = .ok (.invokevirtual 87, 3) := by decide +kernel
theorem dX3_settleName_155 : decode cX3_settleName 155 = .ok (.iastore, 1) := by decide +kernel
theorem dX3_settleName_156 : decode cX3_settleName 156 = .ok (.aload_n 0, 1) := by decide +kernel
theorem dX3_settleName_157 : decode cX3_settleName 157 = .ok (.getfield 30, 3) := by decide +kernel
theorem dX3_settleName_16 : decode cX3_settleName 16 = .ok (.iaload, 1) := by decide +kernel
theorem dX3_settleName_160 : decode cX3_settleName 160 = .ok (.getfield 94, 3) := by decide +kernel
theorem dX3_settleName_163 : decode cX3_settleName 163 = .ok (.iload_n 3, 1) := by decide +kernel
theorem dX3_settleName_164 : decode cX3_settleName 164 = .ok (.iaload, 1) := by decide +kernel
theorem dX3_settleName_165 : decode cX3_settleName 165 = .ok (.ifCond .lt 7, 3) := by decide +kernel
theorem dX3_settleName_168 : decode cX3_settleName 168 = .ok (.iconst 1, 1) := by decide +kernel
theorem dX3_settleName_169 : decode cX3_settleName 169 = .ok (.goto 4, 3) := by decide +kernel
theorem dX3_settleName_17 : decode cX3_settleName 17 = .ok (.istore_n 3, 1) := by decide +kernel
theorem dX3_settleName_172 : decode cX3_settleName 172 = .ok (.iconst 0, 1) := by decide +kernel
theorem dX3_settleName_173 : decode cX3_settleName 173 = .ok (.ireturn, 1) := by decide +kernel
theorem dX3_settleName_174 : decode cX3_settleName 174 = .ok (.aload_n 0, 1) := by decide +kernel
theorem dX3_settleName_175 : decode cX3_settleName 175 = .ok (.getfield 30, 3) := by decide +kernel
theorem dX3_settleName_178 : decode cX3_settleName 178 = .ok (.getfield 97, 3) := by decide +kernel
theorem dX3_settleName_18 : decode cX3_settleName 18 = .ok (.aload_n 0, 1) := by decide +kernel
theorem dX3_settleName_181 : decode cX3_settleName 181 = .ok (.iload_n 3, 1) := by decide +kernel
theorem dX3_settleName_182 : decode cX3_settleName 182 = .ok (.aload_n 0, 1) := by decide +kernel
theorem dX3_settleName_183 : decode cX3_settleName 183 = .ok (.iload_n 2, 1) := by decide +kernel
theorem dX3_settleName_184 : decode cX3_settleName 184 = .ok (.iconst 0, 1) := by decide +kernel
theorem dX3_settleName_185 : decode cX3_settleName 185 = .ok (.invokevirtual 87, 3) := by decide +kernel
theorem dX3_settleName_188 : decode cX3_settleName 188 = .ok (.iastore, 1) := by decide +kernel
theorem dX3_settleName_189 : decode cX3_settleName 189 = .ok (.aload_n 0, 1) := by decide +kernel
theorem dX3_settleName_19 : decode cX3_settleName 19 = .ok (.getfield 11, 3) := by decide +kernel
theorem dX3_settleName_190 : decode cX3_settleName 190 = .ok (.getfield 30, 3) := by decide +kernel
theorem dX3_settleName_193 : decode cX3_settleName 193 = .ok (.getfield 97, 3) := by decide +kernel
theorem dX3_settleName_196 : decode cX3_settleName 196 = .ok (.iload_n 3, 1) := by decide +kernel
theorem dX3_settleName_197 : decode cX3_settleName 197 = .ok (.iaload, 1) := by decide +kernel
theorem dX3_settleName_198 : decode cX3_settleName 198 = .ok (.ifCond .lt 7, 3) := by decide +kernel
theorem dX3_settleName_201 : decode cX3_settleName 201 = .ok (.iconst 1, 1) := by decide +kernel
theorem dX3_settleName_202 : decode cX3_settleName 202 = .ok (.goto 4, 3) := by decide +kernel
theorem dX3_settleName_205 : decode cX3_settleName 205 = .ok (.iconst 0, 1) := by decide +kernel
theorem dX3_settleName_206 : decode cX3_settleName 206 = .ok (.ireturn, 1) := by decide +kernel
theorem dX3_settleName_207 : decode cX3_settleName 207 = .ok (.aload_n 0, 1) := by decide +kernel
theorem dX3_settleName_208 : decode cX3_settleName 208 = .ok (.getfield 30, 3) := by decide +kernel
theorem dX3_settleName_211 : decode cX3_settleName 211 = .ok (.getfield 82, 3) := by decide +kernel
theorem dX3_settleName_214 : decode cX3_settleName 214 = .ok (.iload_n 3, 1) := by decide +kernel
theorem dX3_settleName_215 : decode cX3_settleName 215 = .ok (.iaload, 1) := by decide +kernel
theorem dX3_settleName_216 : decode cX3_settleName 216 = .ok (.ifCond .lt 7, 3) := by decide +kernel
theorem dX3_settleName_219 : decode cX3_settleName 219 = .ok (.iconst 1, 1) := by decide +kernel
theorem dX3_settleName_22 : decode cX3_settleName 22 = .ok (.iconst 3, 1) := by decide +kernel
theorem dX3_settleName_220 : decode cX3_settleName 220 = .ok (.goto 4, 3) := by decide +kernel
theorem dX3_settleName_223 : decode cX3_settleName 223 = .ok (.iconst 0, 1) := by decide +kernel
theorem dX3_settleName_224 : decode cX3_settleName 224 = .ok (.ireturn, 1) := by decide +kernel
theorem dX3_settleName_225 : decode cX3_settleName 225 = .ok (.aload_n 0, 1) := by decide +kernel
theorem dX3_settleName_226 : decode cX3_settleName 226 = .ok (.iload_n 3, 1) := by decide +kernel
theorem dX3_settleName_227 : decode cX3_settleName 227 = .ok (.bipush 6, 2) := by decide +kernel
theorem dX3_settleName_229 : decode cX3_settleName 229 = .ok (.aload_n 0, 1) := by decide +kernel
theorem dX3_settleName_23 : decode cX3_settleName 23 = .ok (.aaload, 1) := by decide +kernel
theorem dX3_settleName_230 : decode cX3_settleName 230 = .ok (.iload_n 2, 1) := by decide +kernel
theorem dX3_settleName_231 : decode cX3_settleName 231 = .ok (.iconst 2, 1) := by decide +kernel
theorem dX3_settleName_232 : decode cX3_settleName 232 = .ok (.invokevirtual 87, 3) := by decide +kernel
theorem dX3_settleName_235 : decode cX3_settleName 235 = .ok (.invokevirtual 100, 3) := by decide +kernel
theorem dX3_settleName_238 : decode cX3_settleName 238 = .ok (.ireturn, 1) := by decide +kernel
theorem dX3_settleName_239 : decode cX3_settleName 239 = .ok (.aload_n 0, 1) := by decide +kernel
theorem dX3_settleName_24 : decode cX3_settleName 24 = .ok (.iload_n 1, 1) := by decide +kernel
theorem dX3_settleName_240 : decode cX3_settleName 240 = .ok (.getfield 30, 3) := by decide +kernel
theorem dX3_settleName_243 : decode cX3_settleName 243 = .ok (.iload_n 2, 1) := by decide +kernel
theorem dX3_settleName_244 : decode cX3_settleName 244 = .ok (.invokevirtual 104, 3) := by decide +kernel
theorem dX3_settleName_247 : decode cX3_settleName 247 = .ok (.ireturn, 1) := by decide +kernel
theorem dX3_settleName_248 : decode cX3_settleName 248 = .ok (.aload_n 0, 1) := by decide +kernel
theorem dX3_settleName_249 : decode cX3_settleName 249 = .ok (.iload_n 1, 1) := by decide +kernel
theorem dX3_settleName_25 : decode cX3_settleName 25 = .ok (.iaload, 1) := by decide +kernel
theorem dX3_settleName_250 : decode cX3_settleName 250 = .ok (.invokevirtual 107, 3) := by decide +kernel
theorem dX3_settleName_253 : decode cX3_settleName 253 = .ok (.ireturn, 1) := by decide +kernel
theorem dX3_settleName_254 : decode cX3_settleName 254 = .ok (.aload_n 0, 1) := by decide +kernel
theorem dX3_settleName_255 : decode cX3_settleName 255 = .ok (.iload_n 2, 1) := by decide +kernel
theorem dX3_settleName_256 : decode cX3_settleName 256 = .ok (.iload_n 3, 1) := by decide +kernel
theorem dX3_settleName_257 : decode cX3_settleName 257 = .ok (.invokevirtual 110, 3) := by decide +kernel
theorem dX3_settleName_26 : decode cX3_settleName 26 = .ok (.istore 4, 2) := by decide +kernel
theorem dX3_settleName_260 : decode cX3_settleName 260 = .ok (.ireturn, 1) := by decide +kernel
theorem dX3_settleName_261 : decode cX3_settleName 261 = .ok (.aload_n 0, 1) := by decide +kernel
theorem dX3_settleName_262 : decode cX3_settleName 262 = .ok (.aload_n 0, 1) := by decide +kernel
theorem dX3_settleName_263 : decode cX3_settleName 263 = .ok (.getfield 11, 3) := by decide +kernel
theorem dX3_settleName_266 : decode cX3_settleName 266 = .ok (.iconst 1, 1) := by decide +kernel
theorem dX3_settleName_267 : decode cX3_settleName 267 = .ok (.aaload, 1) := by decide +kernel
theorem dX3_settleName_268 : decode cX3_settleName 268 = .ok (.iload_n 1, 1) := by decide +kernel
theorem dX3_settleName_269 : decode cX3_settleName 269 = .ok (.iaload, 1) := by decide +kernel
theorem dX3_settleName_270 : decode cX3_settleName 270 = .ok (.iload_n 2, 1) := by decide +kernel
theorem dX3_settleName_271 : decode cX3_settleName 271 = .ok (.iload 4, 2) := by decide +kernel
theorem dX3_settleName_273 : decode cX3_settleName 273 = .ok (.ifCond .ge 7, 3) := by decide +kernel
theorem dX3_settleName_276 : decode cX3_settleName 276 = .ok (.iconst (-1), 1) := by decide +kernel
theorem dX3_settleName_277 : decode cX3_settleName 277 = .ok (.goto 13, 3) := by decide +kernel
theorem dX3_settleName_28 : decode cX3_settleName 28 = .ok (.aload_n 0, 1) := by decide +kernel
theorem dX3_settleName_280 : decode cX3_settleName 280 = .ok (.aload_n 0, 1) := by decide +kernel
theorem dX3_settleName_281 : decode cX3_settleName 281 = .ok (.getfield 30, 3) := by decide +kernel
theorem dX3_settleName_284 : decode cX3_settleName 284 = .ok (.getfield 82, 3) := by decide +kernel
theorem dX3_settleName_287 : decode cX3_settleName 287 = .ok (.iload 4, 2) := by decide +kernel
theorem dX3_settleName_289 : decode cX3_settleName 289 = .ok (.iaload, 1) := by decide +kernel
theorem dX3_settleName_29 : decode cX3_settleName 29 = .ok (.getfield 11, 3) := by decide +kernel
theorem dX3_settleName_290 : decode cX3_settleName 290 = .ok (.iload_n 3, 1) := by decide +kernel
theorem dX3_settleName_291 : decode cX3_settleName 291 = .ok (.iload 4, 2) := by decide +kernel
theorem dX3_settleName_293 : decode cX3_settleName 293 = .ok (.invokevirtual 114, 3) := by decide +kernel
theorem dX3_settleName_296 : decode cX3_settleName 296 = .ok (.ireturn, 1) := by decide +kernel
theorem dX3_settleName_32 : decode cX3_settleName 32 = .ok (.iconst 1, 1) := by decide +kernel
theorem dX3_settleName_33 : decode cX3_settleName 33 = .ok (.aaload, 1) := by decide +kernel
theorem dX3_settleName_34 : decode cX3_settleName 34 = .ok (.iload_n 1, 1) := by decide +kernel
theorem dX3_settleName_35 : decode cX3_settleName 35 = .ok (.iaload, 1) := by decide +kernel
theorem dX3_settleName_36 : decode cX3_settleName 36 = .ok (.tableswitch 225 0 13 #[72, 105, 138, 171, 189, 225, 225, 225, 203, 212, 212, 212, 225, 218], 72) := by decide +kernel
theorem dX3_settleName_4 : decode cX3_settleName 4 = .ok (.iconst 2, 1) := by decide +kernel
theorem dX3_settleName_5 : decode cX3_settleName 5 = .ok (.aaload, 1) := by decide +kernel
theorem dX3_settleName_6 : decode cX3_settleName 6 = .ok (.iload_n 1, 1) := by decide +kernel
theorem dX3_settleName_7 : decode cX3_settleName 7 = .ok (.iaload, 1) := by decide +kernel
theorem dX3_settleName_8 : decode cX3_settleName 8 = .ok (.istore_n 2, 1) := by decide +kernel
theorem dX3_settleName_9 : decode cX3_settleName 9 = .ok (.aload_n 0, 1) := by decide +kernel
noncomputable def k_X3_settleName_290 (l3 : Int32) (l4 : Int32) (k0 : Int32) (k1 : Int32) (k2 : Int32) (s : t_S) : Option (Int32 × t_S) :=
 (f_X3_settleOwn k2 k1 k0 l3 l4 s).bind (fun r1 =>
 if r1.1 = 0 ∨ r1.1 = 1 then
  some (r1.1, r1.2)
else none)
set_option maxRecDepth 4000 in
set_option maxHeartbeats 1000000 in
theorem B_X3_settleName_290 {D : va_G} {cy : Nat → ClassId} {ad : Nat → Nat} {bs : Nat} {X : State → Heap → Prop} (l3 : Int32) (l4 : Int32) (k0 : Int32) (k1 : Int32) (k2 : Int32) (s : t_S) (Q : Int32 × t_S → Prop) (hk : t_hk (k_X3_settleName_290 l3 l4 k0 k1 k2 s) Q) : mj_G D cy ad bs X cX3_settleName 5 yX3_settleName.cls (some .boolean) yX3_settleName.name 3 0 0 1065 (t_P (fun v s' => ∃ x, v = some (.int x) ∧ Q ((x, s')))) 290 [(3, .int l3), (4, .int l4)] [.int k0, .int k1, .int k2, .ref 846] (t_m s) 1065 0 0 := by
  refine mj_iload_n dX3_settleName_290 0 rfl ?_
  refine mj_iload dX3_settleName_291 1 rfl ?_
  refine t_bndK hk (fun r1 er1 hk => ?_)
  refine t_callViE dX3_settleName_293 M_X3_settleOwn (C_X3_settleOwn _ _ _ _ _ _ _ er1) ML_X3_114 IM_X3_settleOwn SE_X3_settleOwn qc_846 rfl (As := [.int k2, .int k1, .int k0, .int l3, .int l4]) rfl rfl (Nat.le_of_ble_eq_true rfl) (Nat.le_of_ble_eq_true rfl) (Nat.le_of_ble_eq_true rfl) (Nat.le_of_ble_eq_true rfl) ?_
  refine t_chkK hk (fun c1 hk => ?_)
  exact t_somK hk (fun hf => t_iret dX3_settleName_296 rfl (t_zfit c1) ⟨_, rfl, hf⟩ (Nat.le_of_ble_eq_true rfl) (Nat.le_of_ble_eq_true rfl))
noncomputable def f_X3_settleName (x1 : Int32) (s : t_S) : Option (Int32 × t_S) :=
 if t_ix x1 6002 = true then
  if (s.1 (848 + 1 * ((1 : Int32).toNatClampNeg)) (x1.toNatClampNeg)).toInt < 0 ∨ 13 < (s.1 (848 + 1 * ((1 : Int32).toNatClampNeg)) (x1.toNatClampNeg)).toInt then (if (0 : Int32) ≤ (s.1 (848 + 1 * ((3 : Int32).toNatClampNeg)) (x1.toNatClampNeg)) then (if t_ix (s.1 (848 + 1 * ((3 : Int32).toNatClampNeg)) (x1.toNatClampNeg)) 40 = true then
  k_X3_settleName_290 (s.1 (848 + 1 * ((4 : Int32).toNatClampNeg)) (x1.toNatClampNeg)) (s.1 (848 + 1 * ((3 : Int32).toNatClampNeg)) (x1.toNatClampNeg)) (s.1 438 ((s.1 (848 + 1 * ((3 : Int32).toNatClampNeg)) (x1.toNatClampNeg)).toNatClampNeg)) (s.1 (848 + 1 * ((2 : Int32).toNatClampNeg)) (x1.toNatClampNeg)) (s.1 (848 + 1 * ((1 : Int32).toNatClampNeg)) (x1.toNatClampNeg)) s
else none)
 else (k_X3_settleName_290 (s.1 (848 + 1 * ((4 : Int32).toNatClampNeg)) (x1.toNatClampNeg)) (s.1 (848 + 1 * ((3 : Int32).toNatClampNeg)) (x1.toNatClampNeg)) (-1) (s.1 (848 + 1 * ((2 : Int32).toNatClampNeg)) (x1.toNatClampNeg)) (s.1 (848 + 1 * ((1 : Int32).toNatClampNeg)) (x1.toNatClampNeg)) s))
 else if (s.1 (848 + 1 * ((1 : Int32).toNatClampNeg)) (x1.toNatClampNeg)).toInt = 0 then ((f_X3_toldAs (s.1 (848 + 1 * ((2 : Int32).toNatClampNeg)) (x1.toNatClampNeg)) (0 : Int32) s).bind (fun r3 =>
 if t_ix (s.1 (848 + 1 * ((4 : Int32).toNatClampNeg)) (x1.toNatClampNeg)) 3001 = true then
  t_let (t_setI s 321 ((s.1 (848 + 1 * ((4 : Int32).toNatClampNeg)) (x1.toNatClampNeg)).toNatClampNeg) r3) (fun s1 =>
 if (s1.1 321 ((s.1 (848 + 1 * ((4 : Int32).toNatClampNeg)) (x1.toNatClampNeg)).toNatClampNeg)) < (0 : Int32) then (some ((0 : Int32), s1))
 else (some ((1 : Int32), s1)))
else none))
 else if (s.1 (848 + 1 * ((1 : Int32).toNatClampNeg)) (x1.toNatClampNeg)).toInt = 1 then ((f_X3_toldAs (s.1 (848 + 1 * ((2 : Int32).toNatClampNeg)) (x1.toNatClampNeg)) (0 : Int32) s).bind (fun r5 =>
 if t_ix (s.1 (848 + 1 * ((4 : Int32).toNatClampNeg)) (x1.toNatClampNeg)) 320 = true then
  t_let (t_setI s 443 ((s.1 (848 + 1 * ((4 : Int32).toNatClampNeg)) (x1.toNatClampNeg)).toNatClampNeg) r5) (fun s2 =>
 if (s2.1 443 ((s.1 (848 + 1 * ((4 : Int32).toNatClampNeg)) (x1.toNatClampNeg)).toNatClampNeg)) < (0 : Int32) then (some ((0 : Int32), s2))
 else (some ((1 : Int32), s2)))
else none))
 else if (s.1 (848 + 1 * ((1 : Int32).toNatClampNeg)) (x1.toNatClampNeg)).toInt = 2 then ((f_X3_toldAs (s.1 (848 + 1 * ((2 : Int32).toNatClampNeg)) (x1.toNatClampNeg)) (0 : Int32) s).bind (fun r7 =>
 if t_ix (s.1 (848 + 1 * ((4 : Int32).toNatClampNeg)) (x1.toNatClampNeg)) 64 = true then
  t_let (t_setI s 435 ((s.1 (848 + 1 * ((4 : Int32).toNatClampNeg)) (x1.toNatClampNeg)).toNatClampNeg) r7) (fun s3 =>
 if (s3.1 435 ((s.1 (848 + 1 * ((4 : Int32).toNatClampNeg)) (x1.toNatClampNeg)).toNatClampNeg)) < (0 : Int32) then (some ((0 : Int32), s3))
 else (some ((1 : Int32), s3)))
else none))
 else if (s.1 (848 + 1 * ((1 : Int32).toNatClampNeg)) (x1.toNatClampNeg)).toInt = 3 then (if t_ix (s.1 (848 + 1 * ((4 : Int32).toNatClampNeg)) (x1.toNatClampNeg)) 40 = true then
  if (s.1 438 ((s.1 (848 + 1 * ((4 : Int32).toNatClampNeg)) (x1.toNatClampNeg)).toNatClampNeg)) < (0 : Int32) then (some ((0 : Int32), s))
 else (some ((1 : Int32), s))
else none)
 else if (s.1 (848 + 1 * ((1 : Int32).toNatClampNeg)) (x1.toNatClampNeg)).toInt = 4 then ((f_X3_toldAs (s.1 (848 + 1 * ((2 : Int32).toNatClampNeg)) (x1.toNatClampNeg)) (2 : Int32) s).bind (fun r10 =>
 (f_X3_put (s.1 (848 + 1 * ((4 : Int32).toNatClampNeg)) (x1.toNatClampNeg)) (6 : Int32) r10 s).bind (fun r11 =>
 if r11.1 = 0 ∨ r11.1 = 1 then
  some (r11.1, r11.2)
else none)))
 else if (s.1 (848 + 1 * ((1 : Int32).toNatClampNeg)) (x1.toNatClampNeg)).toInt = 5 then (if (0 : Int32) ≤ (s.1 (848 + 1 * ((3 : Int32).toNatClampNeg)) (x1.toNatClampNeg)) then (if t_ix (s.1 (848 + 1 * ((3 : Int32).toNatClampNeg)) (x1.toNatClampNeg)) 40 = true then
  k_X3_settleName_290 (s.1 (848 + 1 * ((4 : Int32).toNatClampNeg)) (x1.toNatClampNeg)) (s.1 (848 + 1 * ((3 : Int32).toNatClampNeg)) (x1.toNatClampNeg)) (s.1 438 ((s.1 (848 + 1 * ((3 : Int32).toNatClampNeg)) (x1.toNatClampNeg)).toNatClampNeg)) (s.1 (848 + 1 * ((2 : Int32).toNatClampNeg)) (x1.toNatClampNeg)) (s.1 (848 + 1 * ((1 : Int32).toNatClampNeg)) (x1.toNatClampNeg)) s
else none)
 else (k_X3_settleName_290 (s.1 (848 + 1 * ((4 : Int32).toNatClampNeg)) (x1.toNatClampNeg)) (s.1 (848 + 1 * ((3 : Int32).toNatClampNeg)) (x1.toNatClampNeg)) (-1) (s.1 (848 + 1 * ((2 : Int32).toNatClampNeg)) (x1.toNatClampNeg)) (s.1 (848 + 1 * ((1 : Int32).toNatClampNeg)) (x1.toNatClampNeg)) s))
 else if (s.1 (848 + 1 * ((1 : Int32).toNatClampNeg)) (x1.toNatClampNeg)).toInt = 6 then (if (0 : Int32) ≤ (s.1 (848 + 1 * ((3 : Int32).toNatClampNeg)) (x1.toNatClampNeg)) then (if t_ix (s.1 (848 + 1 * ((3 : Int32).toNatClampNeg)) (x1.toNatClampNeg)) 40 = true then
  k_X3_settleName_290 (s.1 (848 + 1 * ((4 : Int32).toNatClampNeg)) (x1.toNatClampNeg)) (s.1 (848 + 1 * ((3 : Int32).toNatClampNeg)) (x1.toNatClampNeg)) (s.1 438 ((s.1 (848 + 1 * ((3 : Int32).toNatClampNeg)) (x1.toNatClampNeg)).toNatClampNeg)) (s.1 (848 + 1 * ((2 : Int32).toNatClampNeg)) (x1.toNatClampNeg)) (s.1 (848 + 1 * ((1 : Int32).toNatClampNeg)) (x1.toNatClampNeg)) s
else none)
 else (k_X3_settleName_290 (s.1 (848 + 1 * ((4 : Int32).toNatClampNeg)) (x1.toNatClampNeg)) (s.1 (848 + 1 * ((3 : Int32).toNatClampNeg)) (x1.toNatClampNeg)) (-1) (s.1 (848 + 1 * ((2 : Int32).toNatClampNeg)) (x1.toNatClampNeg)) (s.1 (848 + 1 * ((1 : Int32).toNatClampNeg)) (x1.toNatClampNeg)) s))
 else if (s.1 (848 + 1 * ((1 : Int32).toNatClampNeg)) (x1.toNatClampNeg)).toInt = 7 then (if (0 : Int32) ≤ (s.1 (848 + 1 * ((3 : Int32).toNatClampNeg)) (x1.toNatClampNeg)) then (if t_ix (s.1 (848 + 1 * ((3 : Int32).toNatClampNeg)) (x1.toNatClampNeg)) 40 = true then
  k_X3_settleName_290 (s.1 (848 + 1 * ((4 : Int32).toNatClampNeg)) (x1.toNatClampNeg)) (s.1 (848 + 1 * ((3 : Int32).toNatClampNeg)) (x1.toNatClampNeg)) (s.1 438 ((s.1 (848 + 1 * ((3 : Int32).toNatClampNeg)) (x1.toNatClampNeg)).toNatClampNeg)) (s.1 (848 + 1 * ((2 : Int32).toNatClampNeg)) (x1.toNatClampNeg)) (s.1 (848 + 1 * ((1 : Int32).toNatClampNeg)) (x1.toNatClampNeg)) s
else none)
 else (k_X3_settleName_290 (s.1 (848 + 1 * ((4 : Int32).toNatClampNeg)) (x1.toNatClampNeg)) (s.1 (848 + 1 * ((3 : Int32).toNatClampNeg)) (x1.toNatClampNeg)) (-1) (s.1 (848 + 1 * ((2 : Int32).toNatClampNeg)) (x1.toNatClampNeg)) (s.1 (848 + 1 * ((1 : Int32).toNatClampNeg)) (x1.toNatClampNeg)) s))
 else if (s.1 (848 + 1 * ((1 : Int32).toNatClampNeg)) (x1.toNatClampNeg)).toInt = 8 then ((f_X5_hasPort (s.1 (848 + 1 * ((2 : Int32).toNatClampNeg)) (x1.toNatClampNeg)) s).bind (fun r16 =>
 if r16 = 0 ∨ r16 = 1 then
  some (r16, s)
else none))
 else if (s.1 (848 + 1 * ((1 : Int32).toNatClampNeg)) (x1.toNatClampNeg)).toInt = 9 then ((f_X3_settleCall x1 s).bind (fun r18 =>
 if r18.1 = 0 ∨ r18.1 = 1 then
  some (r18.1, r18.2)
else none))
 else if (s.1 (848 + 1 * ((1 : Int32).toNatClampNeg)) (x1.toNatClampNeg)).toInt = 10 then ((f_X3_settleCall x1 s).bind (fun r20 =>
 if r20.1 = 0 ∨ r20.1 = 1 then
  some (r20.1, r20.2)
else none))
 else if (s.1 (848 + 1 * ((1 : Int32).toNatClampNeg)) (x1.toNatClampNeg)).toInt = 11 then ((f_X3_settleCall x1 s).bind (fun r22 =>
 if r22.1 = 0 ∨ r22.1 = 1 then
  some (r22.1, r22.2)
else none))
 else if (s.1 (848 + 1 * ((1 : Int32).toNatClampNeg)) (x1.toNatClampNeg)).toInt = 12 then (if (0 : Int32) ≤ (s.1 (848 + 1 * ((3 : Int32).toNatClampNeg)) (x1.toNatClampNeg)) then (if t_ix (s.1 (848 + 1 * ((3 : Int32).toNatClampNeg)) (x1.toNatClampNeg)) 40 = true then
  k_X3_settleName_290 (s.1 (848 + 1 * ((4 : Int32).toNatClampNeg)) (x1.toNatClampNeg)) (s.1 (848 + 1 * ((3 : Int32).toNatClampNeg)) (x1.toNatClampNeg)) (s.1 438 ((s.1 (848 + 1 * ((3 : Int32).toNatClampNeg)) (x1.toNatClampNeg)).toNatClampNeg)) (s.1 (848 + 1 * ((2 : Int32).toNatClampNeg)) (x1.toNatClampNeg)) (s.1 (848 + 1 * ((1 : Int32).toNatClampNeg)) (x1.toNatClampNeg)) s
else none)
 else (k_X3_settleName_290 (s.1 (848 + 1 * ((4 : Int32).toNatClampNeg)) (x1.toNatClampNeg)) (s.1 (848 + 1 * ((3 : Int32).toNatClampNeg)) (x1.toNatClampNeg)) (-1) (s.1 (848 + 1 * ((2 : Int32).toNatClampNeg)) (x1.toNatClampNeg)) (s.1 (848 + 1 * ((1 : Int32).toNatClampNeg)) (x1.toNatClampNeg)) s))
 else ((f_X3_settleTempl (s.1 (848 + 1 * ((2 : Int32).toNatClampNeg)) (x1.toNatClampNeg)) (s.1 (848 + 1 * ((4 : Int32).toNatClampNeg)) (x1.toNatClampNeg)) s).bind (fun r25 =>
 if r25.1 = 0 ∨ r25.1 = 1 then
  some (r25.1, r25.2)
else none))
else none
set_option maxRecDepth 4000 in
set_option maxHeartbeats 1000000 in
theorem C_X3_settleName (x1 : Int32) (s : t_S) (r : Int32 × t_S) (hr : f_X3_settleName x1 s = some r) : t_C yX3_settleName cX3_settleName 5 (some .boolean) 3 [.ref 846, .int x1] s (fun v s' => v = some (.int r.1) ∧ s' = r.2) := by
  refine t_C.imp (P := fun v s' => ∃ x, v = some (.int x) ∧ (fun q => q = r) ((x, s'))) (t_C.of (by decide +kernel) (Nat.le_of_ble_eq_true rfl) ?_) (fun v s' hp => by obtain ⟨x, rfl, rfl⟩ := hp; exact ⟨rfl, rfl⟩)
  intro D cy ad bs X
  have hk : t_hk (f_X3_settleName x1 s) (fun q => q = r) := ⟨r, hr, rfl⟩
  show mj_G D cy ad bs X cX3_settleName 5 yX3_settleName.cls (some .boolean) yX3_settleName.name 3 0 0 1065 (t_P (fun v s' => ∃ x, v = some (.int x) ∧ (fun q => q = r) ((x, s')))) 0 [(0, .ref 846), (1, .int x1)] [] (t_m s) 1065 0 0
  refine mj_aload_n dX3_settleName_0 0 rfl ?_
  refine t_getR 847 dX3_settleName_1 F_X3_11 qr_846_5 ?_
  refine mj_iconst (v := 2) dX3_settleName_4 (by decide) ?_
  refine t_aaldI dX3_settleName_5 qq_847 (by unfold vp_in; decide) ?_
  refine mj_iload_n dX3_settleName_6 1 rfl ?_
  refine t_chkK hk (fun c0 hk => ?_)
  refine t_iald dX3_settleName_7 (t_row848 (by decide)) (t_ixv c0) ?_
  refine mj_istore_n 2 (lv2 := [(2, .int (s.1 (848 + 1 * ((2 : Int32).toNatClampNeg)) (x1.toNatClampNeg))), (0, .ref 846), (1, .int x1)]) dX3_settleName_8 rfl (by decide) rfl ?_
  refine mj_aload_n dX3_settleName_9 1 rfl ?_
  refine t_getR 847 dX3_settleName_10 F_X3_11 qr_846_5 ?_
  refine mj_iconst (v := 4) dX3_settleName_13 (by decide) ?_
  refine t_aaldI dX3_settleName_14 qq_847 (by unfold vp_in; decide) ?_
  refine mj_iload_n dX3_settleName_15 2 rfl ?_
  refine t_iald dX3_settleName_16 (t_row848 (by decide)) (t_ixv c0) ?_
  refine mj_istore_n 3 (lv2 := [(3, .int (s.1 (848 + 1 * ((4 : Int32).toNatClampNeg)) (x1.toNatClampNeg))), (2, .int (s.1 (848 + 1 * ((2 : Int32).toNatClampNeg)) (x1.toNatClampNeg))), (0, .ref 846), (1, .int x1)]) dX3_settleName_17 rfl (by decide) rfl ?_
  refine mj_aload_n dX3_settleName_18 2 rfl ?_
  refine t_getR 847 dX3_settleName_19 F_X3_11 qr_846_5 ?_
  refine mj_iconst (v := 3) dX3_settleName_22 (by decide) ?_
  refine t_aaldI dX3_settleName_23 qq_847 (by unfold vp_in; decide) ?_
  refine mj_iload_n dX3_settleName_24 3 rfl ?_
  refine t_iald dX3_settleName_25 (t_row848 (by decide)) (t_ixv c0) ?_
  refine mj_istore (lv2 := [(4, .int (s.1 (848 + 1 * ((3 : Int32).toNatClampNeg)) (x1.toNatClampNeg))), (3, .int (s.1 (848 + 1 * ((4 : Int32).toNatClampNeg)) (x1.toNatClampNeg))), (2, .int (s.1 (848 + 1 * ((2 : Int32).toNatClampNeg)) (x1.toNatClampNeg))), (0, .ref 846), (1, .int x1)]) dX3_settleName_26 (by decide) rfl ?_
  refine mj_aload_n dX3_settleName_28 3 rfl ?_
  refine t_getR 847 dX3_settleName_29 F_X3_11 qr_846_5 ?_
  refine mj_iconst (v := 1) dX3_settleName_32 (by decide) ?_
  refine t_aaldI dX3_settleName_33 qq_847 (by unfold vp_in; decide) ?_
  refine mj_iload_n dX3_settleName_34 4 rfl ?_
  refine t_iald dX3_settleName_35 (t_row848 (by decide)) (t_ixv c0) ?_
  by_cases hout : (s.1 (848 + 1 * ((1 : Int32).toNatClampNeg)) (x1.toNatClampNeg)).toInt < 0 ∨ 13 < (s.1 (848 + 1 * ((1 : Int32).toNatClampNeg)) (x1.toNatClampNeg)).toInt
  · replace hk := t_pos hk hout
    refine mj_tableOut 261 dX3_settleName_36 hout (by decide) ?_
    refine mj_aload_n dX3_settleName_261 3 rfl ?_
    refine mj_aload_n dX3_settleName_262 3 rfl ?_
    refine t_getR 847 dX3_settleName_263 F_X3_11 qr_846_5 ?_
    refine mj_iconst (v := 1) dX3_settleName_266 (by decide) ?_
    refine t_aaldI dX3_settleName_267 qq_847 (by unfold vp_in; decide) ?_
    refine mj_iload_n dX3_settleName_268 4 rfl ?_
    refine t_iald dX3_settleName_269 (t_row848 (by decide)) (t_ixv c0) ?_
    refine mj_iload_n dX3_settleName_270 2 rfl ?_
    refine mj_iload dX3_settleName_271 0 rfl ?_
    refine mj_if_ge 280 dX3_settleName_273 (by decide) (fun z => t_posK hk z (fun hk => ?_)) (fun z => t_negK hk z (fun hk => ?_))
    · refine mj_aload_n dX3_settleName_280 3 rfl ?_
      refine t_getR 428 dX3_settleName_281 F_X3_30 qr_846_4 ?_
      refine t_getR 438 dX3_settleName_284 F_X3_82 qr_428_11 ?_
      refine mj_iload dX3_settleName_287 0 rfl ?_
      refine t_chkK hk (fun c1 hk => ?_)
      refine t_iald dX3_settleName_289 qa_438 (t_ixv c1) ?_
      refine mj_sublv [(3, .int (s.1 (848 + 1 * ((4 : Int32).toNatClampNeg)) (x1.toNatClampNeg))), (4, .int (s.1 (848 + 1 * ((3 : Int32).toNatClampNeg)) (x1.toNatClampNeg)))] [1, 0] rfl ?_
      exact B_X3_settleName_290 _ _ _ _ _ _ _ hk
    · refine mj_iconst (v := (-1)) dX3_settleName_276 (by decide) ?_
      refine mj_goto 290 dX3_settleName_277 (by decide) ?_
      refine mj_sublv [(3, .int (s.1 (848 + 1 * ((4 : Int32).toNatClampNeg)) (x1.toNatClampNeg))), (4, .int (s.1 (848 + 1 * ((3 : Int32).toNatClampNeg)) (x1.toNatClampNeg)))] [1, 0] rfl ?_
      exact B_X3_settleName_290 _ _ _ _ _ _ _ hk
  · replace hk := t_neg hk hout
    have hh1 : ¬ (s.1 (848 + 1 * ((1 : Int32).toNatClampNeg)) (x1.toNatClampNeg)).toInt < 0 := fun z => hout (Or.inl z)
    have hh2 : ¬ (13 : Int) < (s.1 (848 + 1 * ((1 : Int32).toNatClampNeg)) (x1.toNatClampNeg)).toInt := fun z => hout (Or.inr z)
    by_cases h0 : (s.1 (848 + 1 * ((1 : Int32).toNatClampNeg)) (x1.toNatClampNeg)).toInt = 0
    · replace hk := t_pos hk h0
      refine mj_tableIn 108 dX3_settleName_36 hh1 hh2 (by rw [h0]; rfl) (by decide) ?_
      refine mj_aload_n dX3_settleName_108 3 rfl ?_
      refine t_getR 316 dX3_settleName_109 F_X3_18 qr_846_1 ?_
      refine t_getR 321 dX3_settleName_112 F_X3_91 qr_316_4 ?_
      refine mj_iload_n dX3_settleName_115 1 rfl ?_
      refine mj_aload_n dX3_settleName_116 3 rfl ?_
      refine mj_iload_n dX3_settleName_117 2 rfl ?_
      refine mj_iconst (v := 0) dX3_settleName_118 (by decide) ?_
      refine t_bndK hk (fun r3 er3 hk => ?_)
      refine t_callViP dX3_settleName_119 M_X3_toldAs (C_X3_toldAs _ _ _ _ er3) ML_X3_87 IM_X3_toldAs SE_X3_toldAs qc_846 rfl (As := [.int (s.1 (848 + 1 * ((2 : Int32).toNatClampNeg)) (x1.toNatClampNeg)), .int 0]) rfl rfl (Nat.le_of_ble_eq_true rfl) (Nat.le_of_ble_eq_true rfl) (Nat.le_of_ble_eq_true rfl) (Nat.le_of_ble_eq_true rfl) ?_
      refine t_chkK hk (fun c3 hk => ?_)
      refine t_iastK dX3_settleName_122 qa_321 (t_ixv c3) (fun s1 ws1 => t_letE hk ws1 (fun hk => ?_))
      refine mj_aload_n dX3_settleName_123 3 rfl ?_
      refine t_getR 316 dX3_settleName_124 F_X3_18 qr_846_1 ?_
      refine t_getR 321 dX3_settleName_127 F_X3_91 qr_316_4 ?_
      refine mj_iload_n dX3_settleName_130 1 rfl ?_
      refine t_iald dX3_settleName_131 qa_321 (t_ixv c3) ?_
      refine mj_if_lt 139 dX3_settleName_132 (by decide) (fun z => t_posK hk z (fun hk => ?_)) (fun z => t_negK hk z (fun hk => ?_))
      · refine mj_iconst (v := 0) dX3_settleName_139 (by decide) ?_
        exact t_somK hk (fun hf => t_iret dX3_settleName_140 rfl (by decide) ⟨_, rfl, hf⟩ (Nat.le_of_ble_eq_true rfl) (Nat.le_of_ble_eq_true rfl))
      · refine mj_iconst (v := 1) dX3_settleName_135 (by decide) ?_
        refine mj_goto 140 dX3_settleName_136 (by decide) ?_
        exact t_somK hk (fun hf => t_iret dX3_settleName_140 rfl (by decide) ⟨_, rfl, hf⟩ (Nat.le_of_ble_eq_true rfl) (Nat.le_of_ble_eq_true rfl))
    replace hk := t_neg hk h0
    by_cases h1 : (s.1 (848 + 1 * ((1 : Int32).toNatClampNeg)) (x1.toNatClampNeg)).toInt = 1
    · replace hk := t_pos hk h1
      refine mj_tableIn 141 dX3_settleName_36 hh1 hh2 (by rw [h1]; rfl) (by decide) ?_
      refine mj_aload_n dX3_settleName_141 3 rfl ?_
      refine t_getR 428 dX3_settleName_142 F_X3_30 qr_846_4 ?_
      refine t_getR 443 dX3_settleName_145 F_X3_94 qr_428_16 ?_
      refine mj_iload_n dX3_settleName_148 1 rfl ?_
      refine mj_aload_n dX3_settleName_149 3 rfl ?_
      refine mj_iload_n dX3_settleName_150 2 rfl ?_
      refine mj_iconst (v := 0) dX3_settleName_151 (by decide) ?_
      refine t_bndK hk (fun r5 er5 hk => ?_)
      refine t_callViP dX3_settleName_152 M_X3_toldAs (C_X3_toldAs _ _ _ _ er5) ML_X3_87 IM_X3_toldAs SE_X3_toldAs qc_846 rfl (As := [.int (s.1 (848 + 1 * ((2 : Int32).toNatClampNeg)) (x1.toNatClampNeg)), .int 0]) rfl rfl (Nat.le_of_ble_eq_true rfl) (Nat.le_of_ble_eq_true rfl) (Nat.le_of_ble_eq_true rfl) (Nat.le_of_ble_eq_true rfl) ?_
      refine t_chkK hk (fun c5 hk => ?_)
      refine t_iastK dX3_settleName_155 qa_443 (t_ixv c5) (fun s2 ws2 => t_letE hk ws2 (fun hk => ?_))
      refine mj_aload_n dX3_settleName_156 3 rfl ?_
      refine t_getR 428 dX3_settleName_157 F_X3_30 qr_846_4 ?_
      refine t_getR 443 dX3_settleName_160 F_X3_94 qr_428_16 ?_
      refine mj_iload_n dX3_settleName_163 1 rfl ?_
      refine t_iald dX3_settleName_164 qa_443 (t_ixv c5) ?_
      refine mj_if_lt 172 dX3_settleName_165 (by decide) (fun z => t_posK hk z (fun hk => ?_)) (fun z => t_negK hk z (fun hk => ?_))
      · refine mj_iconst (v := 0) dX3_settleName_172 (by decide) ?_
        exact t_somK hk (fun hf => t_iret dX3_settleName_173 rfl (by decide) ⟨_, rfl, hf⟩ (Nat.le_of_ble_eq_true rfl) (Nat.le_of_ble_eq_true rfl))
      · refine mj_iconst (v := 1) dX3_settleName_168 (by decide) ?_
        refine mj_goto 173 dX3_settleName_169 (by decide) ?_
        exact t_somK hk (fun hf => t_iret dX3_settleName_173 rfl (by decide) ⟨_, rfl, hf⟩ (Nat.le_of_ble_eq_true rfl) (Nat.le_of_ble_eq_true rfl))
    replace hk := t_neg hk h1
    by_cases h2 : (s.1 (848 + 1 * ((1 : Int32).toNatClampNeg)) (x1.toNatClampNeg)).toInt = 2
    · replace hk := t_pos hk h2
      refine mj_tableIn 174 dX3_settleName_36 hh1 hh2 (by rw [h2]; rfl) (by decide) ?_
      refine mj_aload_n dX3_settleName_174 3 rfl ?_
      refine t_getR 428 dX3_settleName_175 F_X3_30 qr_846_4 ?_
      refine t_getR 435 dX3_settleName_178 F_X3_97 qr_428_7 ?_
      refine mj_iload_n dX3_settleName_181 1 rfl ?_
      refine mj_aload_n dX3_settleName_182 3 rfl ?_
      refine mj_iload_n dX3_settleName_183 2 rfl ?_
      refine mj_iconst (v := 0) dX3_settleName_184 (by decide) ?_
      refine t_bndK hk (fun r7 er7 hk => ?_)
      refine t_callViP dX3_settleName_185 M_X3_toldAs (C_X3_toldAs _ _ _ _ er7) ML_X3_87 IM_X3_toldAs SE_X3_toldAs qc_846 rfl (As := [.int (s.1 (848 + 1 * ((2 : Int32).toNatClampNeg)) (x1.toNatClampNeg)), .int 0]) rfl rfl (Nat.le_of_ble_eq_true rfl) (Nat.le_of_ble_eq_true rfl) (Nat.le_of_ble_eq_true rfl) (Nat.le_of_ble_eq_true rfl) ?_
      refine t_chkK hk (fun c7 hk => ?_)
      refine t_iastK dX3_settleName_188 qa_435 (t_ixv c7) (fun s3 ws3 => t_letE hk ws3 (fun hk => ?_))
      refine mj_aload_n dX3_settleName_189 3 rfl ?_
      refine t_getR 428 dX3_settleName_190 F_X3_30 qr_846_4 ?_
      refine t_getR 435 dX3_settleName_193 F_X3_97 qr_428_7 ?_
      refine mj_iload_n dX3_settleName_196 1 rfl ?_
      refine t_iald dX3_settleName_197 qa_435 (t_ixv c7) ?_
      refine mj_if_lt 205 dX3_settleName_198 (by decide) (fun z => t_posK hk z (fun hk => ?_)) (fun z => t_negK hk z (fun hk => ?_))
      · refine mj_iconst (v := 0) dX3_settleName_205 (by decide) ?_
        exact t_somK hk (fun hf => t_iret dX3_settleName_206 rfl (by decide) ⟨_, rfl, hf⟩ (Nat.le_of_ble_eq_true rfl) (Nat.le_of_ble_eq_true rfl))
      · refine mj_iconst (v := 1) dX3_settleName_201 (by decide) ?_
        refine mj_goto 206 dX3_settleName_202 (by decide) ?_
        exact t_somK hk (fun hf => t_iret dX3_settleName_206 rfl (by decide) ⟨_, rfl, hf⟩ (Nat.le_of_ble_eq_true rfl) (Nat.le_of_ble_eq_true rfl))
    replace hk := t_neg hk h2
    by_cases h3 : (s.1 (848 + 1 * ((1 : Int32).toNatClampNeg)) (x1.toNatClampNeg)).toInt = 3
    · replace hk := t_pos hk h3
      refine mj_tableIn 207 dX3_settleName_36 hh1 hh2 (by rw [h3]; rfl) (by decide) ?_
      refine mj_aload_n dX3_settleName_207 3 rfl ?_
      refine t_getR 428 dX3_settleName_208 F_X3_30 qr_846_4 ?_
      refine t_getR 438 dX3_settleName_211 F_X3_82 qr_428_11 ?_
      refine mj_iload_n dX3_settleName_214 1 rfl ?_
      refine t_chkK hk (fun c8 hk => ?_)
      refine t_iald dX3_settleName_215 qa_438 (t_ixv c8) ?_
      refine mj_if_lt 223 dX3_settleName_216 (by decide) (fun z => t_posK hk z (fun hk => ?_)) (fun z => t_negK hk z (fun hk => ?_))
      · refine mj_iconst (v := 0) dX3_settleName_223 (by decide) ?_
        exact t_somK hk (fun hf => t_iret dX3_settleName_224 rfl (by decide) ⟨_, rfl, hf⟩ (Nat.le_of_ble_eq_true rfl) (Nat.le_of_ble_eq_true rfl))
      · refine mj_iconst (v := 1) dX3_settleName_219 (by decide) ?_
        refine mj_goto 224 dX3_settleName_220 (by decide) ?_
        exact t_somK hk (fun hf => t_iret dX3_settleName_224 rfl (by decide) ⟨_, rfl, hf⟩ (Nat.le_of_ble_eq_true rfl) (Nat.le_of_ble_eq_true rfl))
    replace hk := t_neg hk h3
    by_cases h4 : (s.1 (848 + 1 * ((1 : Int32).toNatClampNeg)) (x1.toNatClampNeg)).toInt = 4
    · replace hk := t_pos hk h4
      refine mj_tableIn 225 dX3_settleName_36 hh1 hh2 (by rw [h4]; rfl) (by decide) ?_
      refine mj_aload_n dX3_settleName_225 3 rfl ?_
      refine mj_iload_n dX3_settleName_226 1 rfl ?_
      refine mj_bipush (v := 6) dX3_settleName_227 (by decide) ?_
      refine mj_aload_n dX3_settleName_229 3 rfl ?_
      refine mj_iload_n dX3_settleName_230 2 rfl ?_
      refine mj_iconst (v := 2) dX3_settleName_231 (by decide) ?_
      refine t_bndK hk (fun r10 er10 hk => ?_)
      refine t_callViP dX3_settleName_232 M_X3_toldAs (C_X3_toldAs _ _ _ _ er10) ML_X3_87 IM_X3_toldAs SE_X3_toldAs qc_846 rfl (As := [.int (s.1 (848 + 1 * ((2 : Int32).toNatClampNeg)) (x1.toNatClampNeg)), .int 2]) rfl rfl (Nat.le_of_ble_eq_true rfl) (Nat.le_of_ble_eq_true rfl) (Nat.le_of_ble_eq_true rfl) (Nat.le_of_ble_eq_true rfl) ?_
      refine t_bndK hk (fun r11 er11 hk => ?_)
      refine t_callViE dX3_settleName_235 M_X3_put (C_X3_put _ _ _ _ _ er11) ML_X3_100 IM_X3_put SE_X3_put qc_846 rfl (As := [.int (s.1 (848 + 1 * ((4 : Int32).toNatClampNeg)) (x1.toNatClampNeg)), .int 6, .int r10]) rfl rfl (Nat.le_of_ble_eq_true rfl) (Nat.le_of_ble_eq_true rfl) (Nat.le_of_ble_eq_true rfl) (Nat.le_of_ble_eq_true rfl) ?_
      refine t_chkK hk (fun c11 hk => ?_)
      exact t_somK hk (fun hf => t_iret dX3_settleName_238 rfl (t_zfit c11) ⟨_, rfl, hf⟩ (Nat.le_of_ble_eq_true rfl) (Nat.le_of_ble_eq_true rfl))
    replace hk := t_neg hk h4
    by_cases h5 : (s.1 (848 + 1 * ((1 : Int32).toNatClampNeg)) (x1.toNatClampNeg)).toInt = 5
    · replace hk := t_pos hk h5
      refine mj_tableIn 261 dX3_settleName_36 hh1 hh2 (by rw [h5]; rfl) (by decide) ?_
      refine mj_aload_n dX3_settleName_261 3 rfl ?_
      refine mj_aload_n dX3_settleName_262 3 rfl ?_
      refine t_getR 847 dX3_settleName_263 F_X3_11 qr_846_5 ?_
      refine mj_iconst (v := 1) dX3_settleName_266 (by decide) ?_
      refine t_aaldI dX3_settleName_267 qq_847 (by unfold vp_in; decide) ?_
      refine mj_iload_n dX3_settleName_268 4 rfl ?_
      refine t_iald dX3_settleName_269 (t_row848 (by decide)) (t_ixv c0) ?_
      refine mj_iload_n dX3_settleName_270 2 rfl ?_
      refine mj_iload dX3_settleName_271 0 rfl ?_
      refine mj_if_ge 280 dX3_settleName_273 (by decide) (fun z => t_posK hk z (fun hk => ?_)) (fun z => t_negK hk z (fun hk => ?_))
      · refine mj_aload_n dX3_settleName_280 3 rfl ?_
        refine t_getR 428 dX3_settleName_281 F_X3_30 qr_846_4 ?_
        refine t_getR 438 dX3_settleName_284 F_X3_82 qr_428_11 ?_
        refine mj_iload dX3_settleName_287 0 rfl ?_
        refine t_chkK hk (fun c12 hk => ?_)
        refine t_iald dX3_settleName_289 qa_438 (t_ixv c12) ?_
        refine mj_sublv [(3, .int (s.1 (848 + 1 * ((4 : Int32).toNatClampNeg)) (x1.toNatClampNeg))), (4, .int (s.1 (848 + 1 * ((3 : Int32).toNatClampNeg)) (x1.toNatClampNeg)))] [1, 0] rfl ?_
        exact B_X3_settleName_290 _ _ _ _ _ _ _ hk
      · refine mj_iconst (v := (-1)) dX3_settleName_276 (by decide) ?_
        refine mj_goto 290 dX3_settleName_277 (by decide) ?_
        refine mj_sublv [(3, .int (s.1 (848 + 1 * ((4 : Int32).toNatClampNeg)) (x1.toNatClampNeg))), (4, .int (s.1 (848 + 1 * ((3 : Int32).toNatClampNeg)) (x1.toNatClampNeg)))] [1, 0] rfl ?_
        exact B_X3_settleName_290 _ _ _ _ _ _ _ hk
    replace hk := t_neg hk h5
    by_cases h6 : (s.1 (848 + 1 * ((1 : Int32).toNatClampNeg)) (x1.toNatClampNeg)).toInt = 6
    · replace hk := t_pos hk h6
      refine mj_tableIn 261 dX3_settleName_36 hh1 hh2 (by rw [h6]; rfl) (by decide) ?_
      refine mj_aload_n dX3_settleName_261 3 rfl ?_
      refine mj_aload_n dX3_settleName_262 3 rfl ?_
      refine t_getR 847 dX3_settleName_263 F_X3_11 qr_846_5 ?_
      refine mj_iconst (v := 1) dX3_settleName_266 (by decide) ?_
      refine t_aaldI dX3_settleName_267 qq_847 (by unfold vp_in; decide) ?_
      refine mj_iload_n dX3_settleName_268 4 rfl ?_
      refine t_iald dX3_settleName_269 (t_row848 (by decide)) (t_ixv c0) ?_
      refine mj_iload_n dX3_settleName_270 2 rfl ?_
      refine mj_iload dX3_settleName_271 0 rfl ?_
      refine mj_if_ge 280 dX3_settleName_273 (by decide) (fun z => t_posK hk z (fun hk => ?_)) (fun z => t_negK hk z (fun hk => ?_))
      · refine mj_aload_n dX3_settleName_280 3 rfl ?_
        refine t_getR 428 dX3_settleName_281 F_X3_30 qr_846_4 ?_
        refine t_getR 438 dX3_settleName_284 F_X3_82 qr_428_11 ?_
        refine mj_iload dX3_settleName_287 0 rfl ?_
        refine t_chkK hk (fun c13 hk => ?_)
        refine t_iald dX3_settleName_289 qa_438 (t_ixv c13) ?_
        refine mj_sublv [(3, .int (s.1 (848 + 1 * ((4 : Int32).toNatClampNeg)) (x1.toNatClampNeg))), (4, .int (s.1 (848 + 1 * ((3 : Int32).toNatClampNeg)) (x1.toNatClampNeg)))] [1, 0] rfl ?_
        exact B_X3_settleName_290 _ _ _ _ _ _ _ hk
      · refine mj_iconst (v := (-1)) dX3_settleName_276 (by decide) ?_
        refine mj_goto 290 dX3_settleName_277 (by decide) ?_
        refine mj_sublv [(3, .int (s.1 (848 + 1 * ((4 : Int32).toNatClampNeg)) (x1.toNatClampNeg))), (4, .int (s.1 (848 + 1 * ((3 : Int32).toNatClampNeg)) (x1.toNatClampNeg)))] [1, 0] rfl ?_
        exact B_X3_settleName_290 _ _ _ _ _ _ _ hk
    replace hk := t_neg hk h6
    by_cases h7 : (s.1 (848 + 1 * ((1 : Int32).toNatClampNeg)) (x1.toNatClampNeg)).toInt = 7
    · replace hk := t_pos hk h7
      refine mj_tableIn 261 dX3_settleName_36 hh1 hh2 (by rw [h7]; rfl) (by decide) ?_
      refine mj_aload_n dX3_settleName_261 3 rfl ?_
      refine mj_aload_n dX3_settleName_262 3 rfl ?_
      refine t_getR 847 dX3_settleName_263 F_X3_11 qr_846_5 ?_
      refine mj_iconst (v := 1) dX3_settleName_266 (by decide) ?_
      refine t_aaldI dX3_settleName_267 qq_847 (by unfold vp_in; decide) ?_
      refine mj_iload_n dX3_settleName_268 4 rfl ?_
      refine t_iald dX3_settleName_269 (t_row848 (by decide)) (t_ixv c0) ?_
      refine mj_iload_n dX3_settleName_270 2 rfl ?_
      refine mj_iload dX3_settleName_271 0 rfl ?_
      refine mj_if_ge 280 dX3_settleName_273 (by decide) (fun z => t_posK hk z (fun hk => ?_)) (fun z => t_negK hk z (fun hk => ?_))
      · refine mj_aload_n dX3_settleName_280 3 rfl ?_
        refine t_getR 428 dX3_settleName_281 F_X3_30 qr_846_4 ?_
        refine t_getR 438 dX3_settleName_284 F_X3_82 qr_428_11 ?_
        refine mj_iload dX3_settleName_287 0 rfl ?_
        refine t_chkK hk (fun c14 hk => ?_)
        refine t_iald dX3_settleName_289 qa_438 (t_ixv c14) ?_
        refine mj_sublv [(3, .int (s.1 (848 + 1 * ((4 : Int32).toNatClampNeg)) (x1.toNatClampNeg))), (4, .int (s.1 (848 + 1 * ((3 : Int32).toNatClampNeg)) (x1.toNatClampNeg)))] [1, 0] rfl ?_
        exact B_X3_settleName_290 _ _ _ _ _ _ _ hk
      · refine mj_iconst (v := (-1)) dX3_settleName_276 (by decide) ?_
        refine mj_goto 290 dX3_settleName_277 (by decide) ?_
        refine mj_sublv [(3, .int (s.1 (848 + 1 * ((4 : Int32).toNatClampNeg)) (x1.toNatClampNeg))), (4, .int (s.1 (848 + 1 * ((3 : Int32).toNatClampNeg)) (x1.toNatClampNeg)))] [1, 0] rfl ?_
        exact B_X3_settleName_290 _ _ _ _ _ _ _ hk
    replace hk := t_neg hk h7
    by_cases h8 : (s.1 (848 + 1 * ((1 : Int32).toNatClampNeg)) (x1.toNatClampNeg)).toInt = 8
    · replace hk := t_pos hk h8
      refine mj_tableIn 239 dX3_settleName_36 hh1 hh2 (by rw [h8]; rfl) (by decide) ?_
      refine mj_aload_n dX3_settleName_239 3 rfl ?_
      refine t_getR 428 dX3_settleName_240 F_X3_30 qr_846_4 ?_
      refine mj_iload_n dX3_settleName_243 2 rfl ?_
      refine t_bndK hk (fun r16 er16 hk => ?_)
      refine t_callViP dX3_settleName_244 M_X5_hasPort (C_X5_hasPort _ _ _ er16) ML_X3_104 IM_X5_hasPort SE_X5_hasPort qc_428 rfl (As := [.int (s.1 (848 + 1 * ((2 : Int32).toNatClampNeg)) (x1.toNatClampNeg))]) rfl rfl (Nat.le_of_ble_eq_true rfl) (Nat.le_of_ble_eq_true rfl) (Nat.le_of_ble_eq_true rfl) (Nat.le_of_ble_eq_true rfl) ?_
      refine t_chkK hk (fun c16 hk => ?_)
      exact t_somK hk (fun hf => t_iret dX3_settleName_247 rfl (t_zfit c16) ⟨_, rfl, hf⟩ (Nat.le_of_ble_eq_true rfl) (Nat.le_of_ble_eq_true rfl))
    replace hk := t_neg hk h8
    by_cases h9 : (s.1 (848 + 1 * ((1 : Int32).toNatClampNeg)) (x1.toNatClampNeg)).toInt = 9
    · replace hk := t_pos hk h9
      refine mj_tableIn 248 dX3_settleName_36 hh1 hh2 (by rw [h9]; rfl) (by decide) ?_
      refine mj_aload_n dX3_settleName_248 3 rfl ?_
      refine mj_iload_n dX3_settleName_249 4 rfl ?_
      refine t_bndK hk (fun r18 er18 hk => ?_)
      refine t_callViE dX3_settleName_250 M_X3_settleCall (C_X3_settleCall _ _ _ er18) ML_X3_107 IM_X3_settleCall SE_X3_settleCall qc_846 rfl (As := [.int x1]) rfl rfl (Nat.le_of_ble_eq_true rfl) (Nat.le_of_ble_eq_true rfl) (Nat.le_of_ble_eq_true rfl) (Nat.le_of_ble_eq_true rfl) ?_
      refine t_chkK hk (fun c18 hk => ?_)
      exact t_somK hk (fun hf => t_iret dX3_settleName_253 rfl (t_zfit c18) ⟨_, rfl, hf⟩ (Nat.le_of_ble_eq_true rfl) (Nat.le_of_ble_eq_true rfl))
    replace hk := t_neg hk h9
    by_cases h10 : (s.1 (848 + 1 * ((1 : Int32).toNatClampNeg)) (x1.toNatClampNeg)).toInt = 10
    · replace hk := t_pos hk h10
      refine mj_tableIn 248 dX3_settleName_36 hh1 hh2 (by rw [h10]; rfl) (by decide) ?_
      refine mj_aload_n dX3_settleName_248 3 rfl ?_
      refine mj_iload_n dX3_settleName_249 4 rfl ?_
      refine t_bndK hk (fun r20 er20 hk => ?_)
      refine t_callViE dX3_settleName_250 M_X3_settleCall (C_X3_settleCall _ _ _ er20) ML_X3_107 IM_X3_settleCall SE_X3_settleCall qc_846 rfl (As := [.int x1]) rfl rfl (Nat.le_of_ble_eq_true rfl) (Nat.le_of_ble_eq_true rfl) (Nat.le_of_ble_eq_true rfl) (Nat.le_of_ble_eq_true rfl) ?_
      refine t_chkK hk (fun c20 hk => ?_)
      exact t_somK hk (fun hf => t_iret dX3_settleName_253 rfl (t_zfit c20) ⟨_, rfl, hf⟩ (Nat.le_of_ble_eq_true rfl) (Nat.le_of_ble_eq_true rfl))
    replace hk := t_neg hk h10
    by_cases h11 : (s.1 (848 + 1 * ((1 : Int32).toNatClampNeg)) (x1.toNatClampNeg)).toInt = 11
    · replace hk := t_pos hk h11
      refine mj_tableIn 248 dX3_settleName_36 hh1 hh2 (by rw [h11]; rfl) (by decide) ?_
      refine mj_aload_n dX3_settleName_248 3 rfl ?_
      refine mj_iload_n dX3_settleName_249 4 rfl ?_
      refine t_bndK hk (fun r22 er22 hk => ?_)
      refine t_callViE dX3_settleName_250 M_X3_settleCall (C_X3_settleCall _ _ _ er22) ML_X3_107 IM_X3_settleCall SE_X3_settleCall qc_846 rfl (As := [.int x1]) rfl rfl (Nat.le_of_ble_eq_true rfl) (Nat.le_of_ble_eq_true rfl) (Nat.le_of_ble_eq_true rfl) (Nat.le_of_ble_eq_true rfl) ?_
      refine t_chkK hk (fun c22 hk => ?_)
      exact t_somK hk (fun hf => t_iret dX3_settleName_253 rfl (t_zfit c22) ⟨_, rfl, hf⟩ (Nat.le_of_ble_eq_true rfl) (Nat.le_of_ble_eq_true rfl))
    replace hk := t_neg hk h11
    by_cases h12 : (s.1 (848 + 1 * ((1 : Int32).toNatClampNeg)) (x1.toNatClampNeg)).toInt = 12
    · replace hk := t_pos hk h12
      refine mj_tableIn 261 dX3_settleName_36 hh1 hh2 (by rw [h12]; rfl) (by decide) ?_
      refine mj_aload_n dX3_settleName_261 3 rfl ?_
      refine mj_aload_n dX3_settleName_262 3 rfl ?_
      refine t_getR 847 dX3_settleName_263 F_X3_11 qr_846_5 ?_
      refine mj_iconst (v := 1) dX3_settleName_266 (by decide) ?_
      refine t_aaldI dX3_settleName_267 qq_847 (by unfold vp_in; decide) ?_
      refine mj_iload_n dX3_settleName_268 4 rfl ?_
      refine t_iald dX3_settleName_269 (t_row848 (by decide)) (t_ixv c0) ?_
      refine mj_iload_n dX3_settleName_270 2 rfl ?_
      refine mj_iload dX3_settleName_271 0 rfl ?_
      refine mj_if_ge 280 dX3_settleName_273 (by decide) (fun z => t_posK hk z (fun hk => ?_)) (fun z => t_negK hk z (fun hk => ?_))
      · refine mj_aload_n dX3_settleName_280 3 rfl ?_
        refine t_getR 428 dX3_settleName_281 F_X3_30 qr_846_4 ?_
        refine t_getR 438 dX3_settleName_284 F_X3_82 qr_428_11 ?_
        refine mj_iload dX3_settleName_287 0 rfl ?_
        refine t_chkK hk (fun c23 hk => ?_)
        refine t_iald dX3_settleName_289 qa_438 (t_ixv c23) ?_
        refine mj_sublv [(3, .int (s.1 (848 + 1 * ((4 : Int32).toNatClampNeg)) (x1.toNatClampNeg))), (4, .int (s.1 (848 + 1 * ((3 : Int32).toNatClampNeg)) (x1.toNatClampNeg)))] [1, 0] rfl ?_
        exact B_X3_settleName_290 _ _ _ _ _ _ _ hk
      · refine mj_iconst (v := (-1)) dX3_settleName_276 (by decide) ?_
        refine mj_goto 290 dX3_settleName_277 (by decide) ?_
        refine mj_sublv [(3, .int (s.1 (848 + 1 * ((4 : Int32).toNatClampNeg)) (x1.toNatClampNeg))), (4, .int (s.1 (848 + 1 * ((3 : Int32).toNatClampNeg)) (x1.toNatClampNeg)))] [1, 0] rfl ?_
        exact B_X3_settleName_290 _ _ _ _ _ _ _ hk
    replace hk := t_neg hk h12
    have h13 : (s.1 (848 + 1 * ((1 : Int32).toNatClampNeg)) (x1.toNatClampNeg)).toInt = 13 := by omega
    refine mj_tableIn 254 dX3_settleName_36 hh1 hh2 (by rw [h13]; rfl) (by decide) ?_
    refine mj_aload_n dX3_settleName_254 3 rfl ?_
    refine mj_iload_n dX3_settleName_255 2 rfl ?_
    refine mj_iload_n dX3_settleName_256 1 rfl ?_
    refine t_bndK hk (fun r25 er25 hk => ?_)
    refine t_callViE dX3_settleName_257 M_X3_settleTempl (C_X3_settleTempl _ _ _ _ er25) ML_X3_110 IM_X3_settleTempl SE_X3_settleTempl qc_846 rfl (As := [.int (s.1 (848 + 1 * ((2 : Int32).toNatClampNeg)) (x1.toNatClampNeg)), .int (s.1 (848 + 1 * ((4 : Int32).toNatClampNeg)) (x1.toNatClampNeg))]) rfl rfl (Nat.le_of_ble_eq_true rfl) (Nat.le_of_ble_eq_true rfl) (Nat.le_of_ble_eq_true rfl) (Nat.le_of_ble_eq_true rfl) ?_
    refine t_chkK hk (fun c25 hk => ?_)
    exact t_somK hk (fun hf => t_iret dX3_settleName_260 rfl (t_zfit c25) ⟨_, rfl, hf⟩ (Nat.le_of_ble_eq_true rfl) (Nat.le_of_ble_eq_true rfl))

theorem dX3_settleUnit_0 : decode cX3_settleUnit 0 = .ok (.aload_n 0, 1) := by decide +kernel
theorem dX3_settleUnit_1 : decode cX3_settleUnit 1 = .ok (.getfield 30, 3) := by decide +kernel
theorem dX3_settleUnit_11 : decode cX3_settleUnit 11 = .ok (.iconst 4, 1) := by decide +kernel
theorem dX3_settleUnit_12 : decode cX3_settleUnit 12 = .ok (.aaload, 1) := by decide +kernel
theorem dX3_settleUnit_13 : decode cX3_settleUnit 13 = .ok (.iload_n 1, 1) := by decide +kernel
theorem dX3_settleUnit_14 : decode cX3_settleUnit 14 = .ok (.iaload, 1) := by decide +kernel
theorem dX3_settleUnit_15 : decode cX3_settleUnit 15 = .ok (.aload_n 0, 1) := by decide +kernel
theorem dX3_settleUnit_16 : decode cX3_settleUnit 16 = .ok (.aload_n 0, 1) := by decide +kernel
theorem dX3_settleUnit_17 : decode cX3_settleUnit 17 = .ok (.getfield 11, 3) := by decide +kernel
theorem dX3_settleUnit_20 : decode cX3_settleUnit 20 = .ok (.iconst 2, 1) := by decide +kernel
theorem dX3_settleUnit_21 : decode cX3_settleUnit 21 = .ok (.aaload, 1) := by decide +kernel
theorem dX3_settleUnit_22 : decode cX3_settleUnit 22 = .ok (.iload_n 1, 1) := by decide +kernel
theorem dX3_settleUnit_23 : decode cX3_settleUnit 23 = .ok (.iaload, 1) := by decide +kernel
theorem dX3_settleUnit_24 : decode cX3_settleUnit 24 = .ok (.iconst 2, 1) := by decide +kernel
theorem dX3_settleUnit_25 : decode cX3_settleUnit 25 = .ok (.invokevirtual 87, 3) := by decide +kernel
theorem dX3_settleUnit_28 : decode cX3_settleUnit 28 = .ok (.iastore, 1) := by decide +kernel
theorem dX3_settleUnit_29 : decode cX3_settleUnit 29 = .ok (.return_, 1) := by decide +kernel
theorem dX3_settleUnit_4 : decode cX3_settleUnit 4 = .ok (.getfield 82, 3) := by decide +kernel
theorem dX3_settleUnit_7 : decode cX3_settleUnit 7 = .ok (.aload_n 0, 1) := by decide +kernel
theorem dX3_settleUnit_8 : decode cX3_settleUnit 8 = .ok (.getfield 11, 3) := by decide +kernel
noncomputable def f_X3_settleUnit (x1 : Int32) (s : t_S) : Option (t_S) :=
 if t_ix x1 6002 = true then
  (f_X3_toldAs (s.1 (848 + 1 * ((2 : Int32).toNatClampNeg)) (x1.toNatClampNeg)) (2 : Int32) s).bind (fun r2 =>
 if t_ix (s.1 (848 + 1 * ((4 : Int32).toNatClampNeg)) (x1.toNatClampNeg)) 40 = true then
  t_let (t_setI s 438 ((s.1 (848 + 1 * ((4 : Int32).toNatClampNeg)) (x1.toNatClampNeg)).toNatClampNeg) r2) (fun s1 =>
 some (s1))
else none)
else none
set_option maxRecDepth 4000 in
set_option maxHeartbeats 1000000 in
theorem C_X3_settleUnit (x1 : Int32) (s : t_S) (r : t_S) (hr : f_X3_settleUnit x1 s = some r) : t_C yX3_settleUnit cX3_settleUnit 2 none 1 [.ref 846, .int x1] s (fun v s' => v = none ∧ s' = r) := by
  refine t_C.imp (P := fun v s' => v = none ∧ (fun q => q = r) (s')) (t_C.of (by decide +kernel) (Nat.le_of_ble_eq_true rfl) ?_) (fun v s' hp => hp)
  intro D cy ad bs X
  have hk : t_hk (f_X3_settleUnit x1 s) (fun q => q = r) := ⟨r, hr, rfl⟩
  show mj_G D cy ad bs X cX3_settleUnit 2 yX3_settleUnit.cls none yX3_settleUnit.name 1 0 0 1065 (t_P (fun v s' => v = none ∧ (fun q => q = r) (s'))) 0 [(0, .ref 846), (1, .int x1)] [] (t_m s) 1065 0 0
  refine mj_aload_n dX3_settleUnit_0 0 rfl ?_
  refine t_getR 428 dX3_settleUnit_1 F_X3_30 qr_846_4 ?_
  refine t_getR 438 dX3_settleUnit_4 F_X3_82 qr_428_11 ?_
  refine mj_aload_n dX3_settleUnit_7 0 rfl ?_
  refine t_getR 847 dX3_settleUnit_8 F_X3_11 qr_846_5 ?_
  refine mj_iconst (v := 4) dX3_settleUnit_11 (by decide) ?_
  refine t_aaldI dX3_settleUnit_12 qq_847 (by unfold vp_in; decide) ?_
  refine mj_iload_n dX3_settleUnit_13 1 rfl ?_
  refine t_chkK hk (fun c0 hk => ?_)
  refine t_iald dX3_settleUnit_14 (t_row848 (by decide)) (t_ixv c0) ?_
  refine mj_aload_n dX3_settleUnit_15 0 rfl ?_
  refine mj_aload_n dX3_settleUnit_16 0 rfl ?_
  refine t_getR 847 dX3_settleUnit_17 F_X3_11 qr_846_5 ?_
  refine mj_iconst (v := 2) dX3_settleUnit_20 (by decide) ?_
  refine t_aaldI dX3_settleUnit_21 qq_847 (by unfold vp_in; decide) ?_
  refine mj_iload_n dX3_settleUnit_22 1 rfl ?_
  refine t_iald dX3_settleUnit_23 (t_row848 (by decide)) (t_ixv c0) ?_
  refine mj_iconst (v := 2) dX3_settleUnit_24 (by decide) ?_
  refine t_bndK hk (fun r2 er2 hk => ?_)
  refine t_callViP dX3_settleUnit_25 M_X3_toldAs (C_X3_toldAs _ _ _ _ er2) ML_X3_87 IM_X3_toldAs SE_X3_toldAs qc_846 rfl (As := [.int (s.1 (848 + 1 * ((2 : Int32).toNatClampNeg)) (x1.toNatClampNeg)), .int 2]) rfl rfl (Nat.le_of_ble_eq_true rfl) (Nat.le_of_ble_eq_true rfl) (Nat.le_of_ble_eq_true rfl) (Nat.le_of_ble_eq_true rfl) ?_
  refine t_chkK hk (fun c2 hk => ?_)
  refine t_iastK dX3_settleUnit_28 qa_438 (t_ixv c2) (fun s1 ws1 => t_letE hk ws1 (fun hk => ?_))
  exact t_somK hk (fun hf => t_vret dX3_settleUnit_29 rfl ⟨rfl, hf⟩ (Nat.le_of_ble_eq_true rfl) (Nat.le_of_ble_eq_true rfl))

theorem dX3_settleNames_0 : decode cX3_settleNames 0 = .ok (.iconst 0, 1) := by decide +kernel
theorem dX3_settleNames_1 : decode cX3_settleNames 1 = .ok (.istore_n 1, 1) := by decide +kernel
theorem dX3_settleNames_10 : decode cX3_settleNames 10 = .ok (.aload_n 0, 1) := by decide +kernel
theorem dX3_settleNames_11 : decode cX3_settleNames 11 = .ok (.getfield 11, 3) := by decide +kernel
theorem dX3_settleNames_14 : decode cX3_settleNames 14 = .ok (.iconst 1, 1) := by decide +kernel
theorem dX3_settleNames_15 : decode cX3_settleNames 15 = .ok (.aaload, 1) := by decide +kernel
theorem dX3_settleNames_16 : decode cX3_settleNames 16 = .ok (.iload_n 1, 1) := by decide +kernel
theorem dX3_settleNames_17 : decode cX3_settleNames 17 = .ok (.iaload, 1) := by decide +kernel
theorem dX3_settleNames_18 : decode cX3_settleNames 18 = .ok (.iconst 3, 1) := by decide +kernel
theorem dX3_settleNames_19 : decode cX3_settleNames 19 = .ok (.if_icmp .ne 8, 3) := by decide +kernel
theorem dX3_settleNames_2 : decode cX3_settleNames 2 = .ok (.iload_n 1, 1) := by decide +kernel
theorem dX3_settleNames_22 : decode cX3_settleNames 22 = .ok (.aload_n 0, 1) := by decide +kernel
theorem dX3_settleNames_23 : decode cX3_settleNames 23 = .ok (.iload_n 1, 1) := by decide +kernel
theorem dX3_settleNames_24 : decode cX3_settleNames 24 = .ok (.invokevirtual 44, 3) := by decide +kernel
theorem dX3_settleNames_27 : decode cX3_settleNames 27 = .ok (.iinc 1 1, 3) := by decide +kernel
theorem dX3_settleNames_3 : decode cX3_settleNames 3 = .ok (.aload_n 0, 1) := by decide +kernel
theorem dX3_settleNames_30 : decode cX3_settleNames 30 = .ok (.goto (-28), 3) := by decide +kernel
theorem dX3_settleNames_33 : decode cX3_settleNames 33 = .ok (.iconst 0, 1) := by decide +kernel
theorem dX3_settleNames_34 : decode cX3_settleNames 34 = .ok (.istore_n 1, 1) := by decide +kernel
theorem dX3_settleNames_35 : decode cX3_settleNames 35 = .ok (.iload_n 1, 1) := by decide +kernel
theorem dX3_settleNames_36 : decode cX3_settleNames 36 = .ok (.aload_n 0, 1) := by decide +kernel
theorem dX3_settleNames_37 : decode cX3_settleNames 37 = .ok (.getfield 34, 3) := by decide +kernel
theorem dX3_settleNames_4 : decode cX3_settleNames 4 = .ok (.getfield 34, 3) := by decide +kernel
theorem dX3_settleNames_40 : decode cX3_settleNames 40 = .ok (.if_icmp .ge 30, 3) := by decide +kernel
theorem dX3_settleNames_43 : decode cX3_settleNames 43 = .ok (.aload_n 0, 1) := by decide +kernel
theorem dX3_settleNames_44 : decode cX3_settleNames 44 = .ok (.iload_n 1, 1) := by decide +kernel
theorem dX3_settleNames_45 : decode cX3_settleNames 45 = .ok (.invokevirtual 48, 3) := by decide +kernel
theorem dX3_settleNames_48 : decode cX3_settleNames 48 = .ok (.ifCond .ne 16, 3) := by decide +kernel
theorem dX3_settleNames_51 : decode cX3_settleNames 51 = .ok (.aload_n 0, 1) := by decide +kernel
theorem dX3_settleNames_52 : decode cX3_settleNames 52 = .ok (.iconst 4, 1) := by decide +kernel
theorem dX3_settleNames_53 : decode cX3_settleNames 53 = .ok (.aload_n 0, 1) := by decide +kernel
theorem dX3_settleNames_54 : decode cX3_settleNames 54 = .ok (.getfield 11, 3) := by decide +kernel
theorem dX3_settleNames_57 : decode cX3_settleNames 57 = .ok (.iconst 0, 1) := by decide +kernel
theorem dX3_settleNames_58 : decode cX3_settleNames 58 = .ok (.aaload, 1) := by decide +kernel
theorem dX3_settleNames_59 : decode cX3_settleNames 59 = .ok (.iload_n 1, 1) := by decide +kernel
theorem dX3_settleNames_60 : decode cX3_settleNames 60 = .ok (.iaload, 1) := by decide +kernel
theorem dX3_settleNames_61 : decode cX3_settleNames 61 = .ok (.invokevirtual 52, 3) := by decide +kernel
theorem dX3_settleNames_64 : decode cX3_settleNames 64 = .ok (.iinc 1 1, 3) := by decide +kernel
theorem dX3_settleNames_67 : decode cX3_settleNames 67 = .ok (.goto (-32), 3) := by decide +kernel
theorem dX3_settleNames_7 : decode cX3_settleNames 7 = .ok (.if_icmp .ge 26, 3) := by decide +kernel
theorem dX3_settleNames_70 : decode cX3_settleNames 70 = .ok (.return_, 1) := by decide +kernel
noncomputable def k_X3_settleNames_27 (l1 : Int32) (s : t_S) : Option ((Int32 × t_S) ⊕ (t_S)) :=
 some (.inl ((l1 + 1), s))
set_option maxRecDepth 4000 in
set_option maxHeartbeats 1000000 in
theorem B_X3_settleNames_27 {D : va_G} {cy : Nat → ClassId} {ad : Nat → Nat} {bs : Nat} {X : State → Heap → Prop} (l1 : Int32) (s : t_S) (Q : (Int32 × t_S) ⊕ (t_S) → Prop) (Hb2 : ∀ (y0 : Int32) (y1 : t_S), Q (.inl (y0, y1)) → mj_G D cy ad bs X cX3_settleNames 2 yX3_settleNames.cls none yX3_settleNames.name 4 0 0 1065 (t_P (fun v s' => v = none ∧ Q (.inr (s')))) 2 [(0, .ref 846), (1, .int (y0))] [] (t_m y1) 1065 0 0) (hk : t_hk (k_X3_settleNames_27 l1 s) Q) : mj_G D cy ad bs X cX3_settleNames 2 yX3_settleNames.cls none yX3_settleNames.name 4 0 0 1065 (t_P (fun v s' => v = none ∧ Q (.inr (s')))) 27 [(0, .ref 846), (1, .int l1)] [] (t_m s) 1065 0 0 := by
  refine mj_iinc (k := 1) (v := (l1 + 1)) (lv2 := [(1, .int (l1 + 1)), (0, .ref 846)]) dX3_settleNames_27 rfl rfl (by decide) rfl ?_
  refine mj_goto 2 dX3_settleNames_30 (by decide) ?_
  refine mj_sublv [(0, .ref 846), (1, .int (l1 + 1))] [1, 0] rfl ?_
  exact t_somK hk (fun hf => Hb2 (l1 + 1) s hf)
noncomputable def k_X3_settleNames_64 (l1 : Int32) (s : t_S) : Option ((Int32 × t_S) ⊕ (t_S)) :=
 some (.inl ((l1 + 1), s))
set_option maxRecDepth 4000 in
set_option maxHeartbeats 1000000 in
theorem B_X3_settleNames_64 {D : va_G} {cy : Nat → ClassId} {ad : Nat → Nat} {bs : Nat} {X : State → Heap → Prop} (l1 : Int32) (s : t_S) (Q : (Int32 × t_S) ⊕ (t_S) → Prop) (Hb35 : ∀ (y0 : Int32) (y1 : t_S), Q (.inl (y0, y1)) → mj_G D cy ad bs X cX3_settleNames 2 yX3_settleNames.cls none yX3_settleNames.name 4 0 0 1065 (t_P (fun v s' => v = none ∧ Q (.inr (s')))) 35 [(0, .ref 846), (1, .int (y0))] [] (t_m y1) 1065 0 0) (hk : t_hk (k_X3_settleNames_64 l1 s) Q) : mj_G D cy ad bs X cX3_settleNames 2 yX3_settleNames.cls none yX3_settleNames.name 4 0 0 1065 (t_P (fun v s' => v = none ∧ Q (.inr (s')))) 64 [(0, .ref 846), (1, .int l1)] [] (t_m s) 1065 0 0 := by
  refine mj_iinc (k := 1) (v := (l1 + 1)) (lv2 := [(1, .int (l1 + 1)), (0, .ref 846)]) dX3_settleNames_64 rfl rfl (by decide) rfl ?_
  refine mj_goto 35 dX3_settleNames_67 (by decide) ?_
  refine mj_sublv [(0, .ref 846), (1, .int (l1 + 1))] [1, 0] rfl ?_
  exact t_somK hk (fun hf => Hb35 (l1 + 1) s hf)
noncomputable def k_X3_settleNames_35 (l1 : Int32) (s : t_S) : Option ((Int32 × t_S) ⊕ (t_S)) :=
 if (s.1 846 6) ≤ l1 then ((some (s)).map Sum.inr)
 else ((f_X3_settleName l1 s).bind (fun r1 =>
 if r1.1 = (0 : Int32) then (if t_ix l1 6002 = true then
  (f_X3_late (4 : Int32) (r1.2.1 (848 + 1 * ((0 : Int32).toNatClampNeg)) (l1.toNatClampNeg)) r1.2).bind (fun r3 =>
 k_X3_settleNames_64 l1 r3)
else none)
 else (k_X3_settleNames_64 l1 r1.2)))
set_option maxRecDepth 4000 in
set_option maxHeartbeats 1000000 in
theorem B_X3_settleNames_35 {D : va_G} {cy : Nat → ClassId} {ad : Nat → Nat} {bs : Nat} {X : State → Heap → Prop} (l1 : Int32) (s : t_S) (Q : (Int32 × t_S) ⊕ (t_S) → Prop) (Hb35 : ∀ (y0 : Int32) (y1 : t_S), Q (.inl (y0, y1)) → mj_G D cy ad bs X cX3_settleNames 2 yX3_settleNames.cls none yX3_settleNames.name 4 0 0 1065 (t_P (fun v s' => v = none ∧ Q (.inr (s')))) 35 [(0, .ref 846), (1, .int (y0))] [] (t_m y1) 1065 0 0) (hk : t_hk (k_X3_settleNames_35 l1 s) Q) : mj_G D cy ad bs X cX3_settleNames 2 yX3_settleNames.cls none yX3_settleNames.name 4 0 0 1065 (t_P (fun v s' => v = none ∧ Q (.inr (s')))) 35 [(0, .ref 846), (1, .int l1)] [] (t_m s) 1065 0 0 := by
  refine mj_iload_n dX3_settleNames_35 1 rfl ?_
  refine mj_aload_n dX3_settleNames_36 0 rfl ?_
  refine t_getI dX3_settleNames_37 F_X3_34 qf_846_6 ?_
  refine mj_icmp_ge 70 dX3_settleNames_40 (by decide) (fun z => t_posK hk z (fun hk => ?_)) (fun z => t_negK hk z (fun hk => ?_))
  · refine t_mapK hk (fun hk => ?_)
    exact t_somK hk (fun hf => t_vret dX3_settleNames_70 rfl ⟨rfl, hf⟩ (Nat.le_of_ble_eq_true rfl) (Nat.le_of_ble_eq_true rfl))
  · refine mj_aload_n dX3_settleNames_43 0 rfl ?_
    refine mj_iload_n dX3_settleNames_44 1 rfl ?_
    refine t_bndK hk (fun r1 er1 hk => ?_)
    refine t_callViE dX3_settleNames_45 M_X3_settleName (C_X3_settleName _ _ _ er1) ML_X3_48 IM_X3_settleName SE_X3_settleName qc_846 rfl (As := [.int l1]) rfl rfl (Nat.le_of_ble_eq_true rfl) (Nat.le_of_ble_eq_true rfl) (Nat.le_of_ble_eq_true rfl) (Nat.le_of_ble_eq_true rfl) ?_
    refine mj_if_ne 64 dX3_settleNames_48 (by decide) (fun z => t_negK hk z (fun hk => ?_)) (fun z => t_posK hk z (fun hk => ?_))
    · exact B_X3_settleNames_64 _ _ _ (fun y0 y1 hx => Hb35 y0 y1 hx) hk
    · refine mj_aload_n dX3_settleNames_51 0 rfl ?_
      refine mj_iconst (v := 4) dX3_settleNames_52 (by decide) ?_
      refine mj_aload_n dX3_settleNames_53 0 rfl ?_
      refine t_getR 847 dX3_settleNames_54 F_X3_11 qr_846_5 ?_
      refine mj_iconst (v := 0) dX3_settleNames_57 (by decide) ?_
      refine t_aaldI dX3_settleNames_58 qq_847 (by unfold vp_in; decide) ?_
      refine mj_iload_n dX3_settleNames_59 1 rfl ?_
      refine t_chkK hk (fun c1 hk => ?_)
      refine t_iald dX3_settleNames_60 (t_row848 (by decide)) (t_ixv c1) ?_
      refine t_bndK hk (fun r3 er3 hk => ?_)
      refine t_callVvE dX3_settleNames_61 M_X3_late (C_X3_late _ _ _ _ er3) ML_X3_52 IM_X3_late SE_X3_late qc_846 rfl (As := [.int 4, .int (r1.2.1 (848 + 1 * ((0 : Int32).toNatClampNeg)) (l1.toNatClampNeg))]) rfl rfl (Nat.le_of_ble_eq_true rfl) (Nat.le_of_ble_eq_true rfl) (Nat.le_of_ble_eq_true rfl) (Nat.le_of_ble_eq_true rfl) ?_
      exact B_X3_settleNames_64 _ _ _ (fun y0 y1 hx => Hb35 y0 y1 hx) hk
noncomputable def b_X3_settleNames_35 (x : Int32 × t_S) : Option ((Int32 × t_S) ⊕ (t_S)) := k_X3_settleNames_35 x.1 x.2
set_option maxRecDepth 4000 in
set_option maxHeartbeats 1000000 in
theorem LH_X3_settleNames_35 {D : va_G} {cy : Nat → ClassId} {ad : Nat → Nat} {bs : Nat} {X : State → Heap → Prop} : ∀ (n : Nat) (y0 : Int32) (y1 : t_S) (Q : t_S → Prop) (hk : t_hk (t_loop (b_X3_settleNames_35) n (y0, y1)) Q), mj_G D cy ad bs X cX3_settleNames 2 yX3_settleNames.cls none yX3_settleNames.name 4 0 0 1065 (t_P (fun v s' => v = none ∧ Q (s'))) 35 [(0, .ref 846), (1, .int (y0))] [] (t_m y1) 1065 0 0 := by
  intro n
  induction n with
  | zero => intro y0 y1 Q hk; obtain ⟨r, hr, _⟩ := hk; cases hr
  | succ n ih =>
    intro y0 y1 Q hk
    exact B_X3_settleNames_35 y0 y1 (fun y => t_lq (b_X3_settleNames_35) n Q y) (fun y0' y1' hy => ih y0' y1' Q hy) (t_lp hk)
noncomputable def k_X3_settleNames_2 (l1 : Int32) (s : t_S) : Option ((Int32 × t_S) ⊕ (t_S)) :=
 if (s.1 846 6) ≤ l1 then ((t_loop (b_X3_settleNames_35) t_N (0, s)).map Sum.inr)
 else (if t_ix l1 6002 = true then
  if (s.1 (848 + 1 * ((1 : Int32).toNatClampNeg)) (l1.toNatClampNeg)) = (3 : Int32) then ((f_X3_settleUnit l1 s).bind (fun r2 =>
 k_X3_settleNames_27 l1 r2))
 else (k_X3_settleNames_27 l1 s)
else none)
set_option maxRecDepth 4000 in
set_option maxHeartbeats 1000000 in
theorem B_X3_settleNames_2 {D : va_G} {cy : Nat → ClassId} {ad : Nat → Nat} {bs : Nat} {X : State → Heap → Prop} (l1 : Int32) (s : t_S) (Q : (Int32 × t_S) ⊕ (t_S) → Prop) (Hb2 : ∀ (y0 : Int32) (y1 : t_S), Q (.inl (y0, y1)) → mj_G D cy ad bs X cX3_settleNames 2 yX3_settleNames.cls none yX3_settleNames.name 4 0 0 1065 (t_P (fun v s' => v = none ∧ Q (.inr (s')))) 2 [(0, .ref 846), (1, .int (y0))] [] (t_m y1) 1065 0 0) (hk : t_hk (k_X3_settleNames_2 l1 s) Q) : mj_G D cy ad bs X cX3_settleNames 2 yX3_settleNames.cls none yX3_settleNames.name 4 0 0 1065 (t_P (fun v s' => v = none ∧ Q (.inr (s')))) 2 [(0, .ref 846), (1, .int l1)] [] (t_m s) 1065 0 0 := by
  refine mj_iload_n dX3_settleNames_2 1 rfl ?_
  refine mj_aload_n dX3_settleNames_3 0 rfl ?_
  refine t_getI dX3_settleNames_4 F_X3_34 qf_846_6 ?_
  refine mj_icmp_ge 33 dX3_settleNames_7 (by decide) (fun z => t_posK hk z (fun hk => ?_)) (fun z => t_negK hk z (fun hk => ?_))
  · refine t_mapK hk (fun hk => ?_)
    refine mj_iconst (v := 0) dX3_settleNames_33 (by decide) ?_
    refine mj_istore_n 1 (lv2 := [(1, .int 0), (0, .ref 846)]) dX3_settleNames_34 rfl (by decide) rfl ?_
    refine mj_sublv [(0, .ref 846), (1, .int 0)] [1, 0] rfl ?_
    exact LH_X3_settleNames_35 _ 0 s _ hk
  · refine mj_aload_n dX3_settleNames_10 0 rfl ?_
    refine t_getR 847 dX3_settleNames_11 F_X3_11 qr_846_5 ?_
    refine mj_iconst (v := 1) dX3_settleNames_14 (by decide) ?_
    refine t_aaldI dX3_settleNames_15 qq_847 (by unfold vp_in; decide) ?_
    refine mj_iload_n dX3_settleNames_16 1 rfl ?_
    refine t_chkK hk (fun c0 hk => ?_)
    refine t_iald dX3_settleNames_17 (t_row848 (by decide)) (t_ixv c0) ?_
    refine mj_iconst (v := 3) dX3_settleNames_18 (by decide) ?_
    refine mj_icmp_ne 27 dX3_settleNames_19 (by decide) (fun z => t_negK hk z (fun hk => ?_)) (fun z => t_posK hk z (fun hk => ?_))
    · exact B_X3_settleNames_27 _ _ _ (fun y0 y1 hx => Hb2 y0 y1 hx) hk
    · refine mj_aload_n dX3_settleNames_22 0 rfl ?_
      refine mj_iload_n dX3_settleNames_23 1 rfl ?_
      refine t_bndK hk (fun r2 er2 hk => ?_)
      refine t_callVvE dX3_settleNames_24 M_X3_settleUnit (C_X3_settleUnit _ _ _ er2) ML_X3_44 IM_X3_settleUnit SE_X3_settleUnit qc_846 rfl (As := [.int l1]) rfl rfl (Nat.le_of_ble_eq_true rfl) (Nat.le_of_ble_eq_true rfl) (Nat.le_of_ble_eq_true rfl) (Nat.le_of_ble_eq_true rfl) ?_
      exact B_X3_settleNames_27 _ _ _ (fun y0 y1 hx => Hb2 y0 y1 hx) hk
noncomputable def b_X3_settleNames_2 (x : Int32 × t_S) : Option ((Int32 × t_S) ⊕ (t_S)) := k_X3_settleNames_2 x.1 x.2
set_option maxRecDepth 4000 in
set_option maxHeartbeats 1000000 in
theorem LH_X3_settleNames_2 {D : va_G} {cy : Nat → ClassId} {ad : Nat → Nat} {bs : Nat} {X : State → Heap → Prop} : ∀ (n : Nat) (y0 : Int32) (y1 : t_S) (Q : t_S → Prop) (hk : t_hk (t_loop (b_X3_settleNames_2) n (y0, y1)) Q), mj_G D cy ad bs X cX3_settleNames 2 yX3_settleNames.cls none yX3_settleNames.name 4 0 0 1065 (t_P (fun v s' => v = none ∧ Q (s'))) 2 [(0, .ref 846), (1, .int (y0))] [] (t_m y1) 1065 0 0 := by
  intro n
  induction n with
  | zero => intro y0 y1 Q hk; obtain ⟨r, hr, _⟩ := hk; cases hr
  | succ n ih =>
    intro y0 y1 Q hk
    exact B_X3_settleNames_2 y0 y1 (fun y => t_lq (b_X3_settleNames_2) n Q y) (fun y0' y1' hy => ih y0' y1' Q hy) (t_lp hk)
noncomputable def f_X3_settleNames (s : t_S) : Option (t_S) :=
 t_loop (b_X3_settleNames_2) t_N (0, s)
set_option maxRecDepth 4000 in
set_option maxHeartbeats 1000000 in
theorem C_X3_settleNames (s : t_S) (r : t_S) (hr : f_X3_settleNames s = some r) : t_C yX3_settleNames cX3_settleNames 2 none 4 [.ref 846] s (fun v s' => v = none ∧ s' = r) := by
  refine t_C.imp (P := fun v s' => v = none ∧ (fun q => q = r) (s')) (t_C.of (by decide +kernel) (Nat.le_of_ble_eq_true rfl) ?_) (fun v s' hp => hp)
  intro D cy ad bs X
  have hk : t_hk (f_X3_settleNames s) (fun q => q = r) := ⟨r, hr, rfl⟩
  show mj_G D cy ad bs X cX3_settleNames 2 yX3_settleNames.cls none yX3_settleNames.name 4 0 0 1065 (t_P (fun v s' => v = none ∧ (fun q => q = r) (s'))) 0 [(0, .ref 846)] [] (t_m s) 1065 0 0
  refine mj_iconst (v := 0) dX3_settleNames_0 (by decide) ?_
  refine mj_istore_n 1 (lv2 := [(1, .int 0), (0, .ref 846)]) dX3_settleNames_1 rfl (by decide) rfl ?_
  refine mj_sublv [(0, .ref 846), (1, .int 0)] [1, 0] rfl ?_
  exact LH_X3_settleNames_2 _ 0 s _ hk

theorem dX3_settleTold_0 : decode cX3_settleTold 0 = .ok (.iconst 0, 1) := by decide +kernel
theorem dX3_settleTold_1 : decode cX3_settleTold 1 = .ok (.istore_n 1, 1) := by decide +kernel
theorem dX3_settleTold_10 : decode cX3_settleTold 10 = .ok (.if_icmp .ge 35, 3) := by decide +kernel
theorem dX3_settleTold_102 : decode cX3_settleTold 102 = .ok (.goto (-48), 3) := by decide +kernel
theorem dX3_settleTold_105 : decode cX3_settleTold 105 = .ok (.return_, 1) := by decide +kernel
theorem dX3_settleTold_13 : decode cX3_settleTold 13 = .ok (.aload_n 0, 1) := by decide +kernel
theorem dX3_settleTold_14 : decode cX3_settleTold 14 = .ok (.getfield 18, 3) := by decide +kernel
theorem dX3_settleTold_17 : decode cX3_settleTold 17 = .ok (.iload_n 1, 1) := by decide +kernel
theorem dX3_settleTold_18 : decode cX3_settleTold 18 = .ok (.invokevirtual 61, 3) := by decide +kernel
theorem dX3_settleTold_2 : decode cX3_settleTold 2 = .ok (.iload_n 1, 1) := by decide +kernel
theorem dX3_settleTold_21 : decode cX3_settleTold 21 = .ok (.ifCond .eq 18, 3) := by decide +kernel
theorem dX3_settleTold_24 : decode cX3_settleTold 24 = .ok (.aload_n 0, 1) := by decide +kernel
theorem dX3_settleTold_25 : decode cX3_settleTold 25 = .ok (.bipush 7, 2) := by decide +kernel
theorem dX3_settleTold_27 : decode cX3_settleTold 27 = .ok (.aload_n 0, 1) := by decide +kernel
theorem dX3_settleTold_28 : decode cX3_settleTold 28 = .ok (.getfield 18, 3) := by decide +kernel
theorem dX3_settleTold_3 : decode cX3_settleTold 3 = .ok (.aload_n 0, 1) := by decide +kernel
theorem dX3_settleTold_31 : decode cX3_settleTold 31 = .ok (.getfield 64, 3) := by decide +kernel
theorem dX3_settleTold_34 : decode cX3_settleTold 34 = .ok (.iload_n 1, 1) := by decide +kernel
theorem dX3_settleTold_35 : decode cX3_settleTold 35 = .ok (.iaload, 1) := by decide +kernel
theorem dX3_settleTold_36 : decode cX3_settleTold 36 = .ok (.invokevirtual 52, 3) := by decide +kernel
theorem dX3_settleTold_39 : decode cX3_settleTold 39 = .ok (.iinc 1 1, 3) := by decide +kernel
theorem dX3_settleTold_4 : decode cX3_settleTold 4 = .ok (.getfield 18, 3) := by decide +kernel
theorem dX3_settleTold_42 : decode cX3_settleTold 42 = .ok (.goto (-40), 3) := by decide +kernel
theorem dX3_settleTold_45 : decode cX3_settleTold 45 = .ok (.aload_n 0, 1) := by decide +kernel
theorem dX3_settleTold_46 : decode cX3_settleTold 46 = .ok (.getfield 22, 3) := by decide +kernel
theorem dX3_settleTold_49 : decode cX3_settleTold 49 = .ok (.invokevirtual 68, 3) := by decide +kernel
theorem dX3_settleTold_52 : decode cX3_settleTold 52 = .ok (.iconst 0, 1) := by decide +kernel
theorem dX3_settleTold_53 : decode cX3_settleTold 53 = .ok (.istore_n 1, 1) := by decide +kernel
theorem dX3_settleTold_54 : decode cX3_settleTold 54 = .ok (.iload_n 1, 1) := by decide +kernel
theorem dX3_settleTold_55 : decode cX3_settleTold 55 = .ok (.aload_n 0, 1) := by decide +kernel
theorem dX3_settleTold_56 : decode cX3_settleTold 56 = .ok (.getfield 22, 3) := by decide +kernel
theorem dX3_settleTold_59 : decode cX3_settleTold 59 = .ok (.getfield 73, 3) := by decide +kernel
theorem dX3_settleTold_62 : decode cX3_settleTold 62 = .ok (.if_icmp .ge 43, 3) := by decide +kernel
theorem dX3_settleTold_65 : decode cX3_settleTold 65 = .ok (.aload_n 0, 1) := by decide +kernel
theorem dX3_settleTold_66 : decode cX3_settleTold 66 = .ok (.getfield 22, 3) := by decide +kernel
theorem dX3_settleTold_69 : decode cX3_settleTold 69 = .ok (.getfield 74, 3) := by decide +kernel
theorem dX3_settleTold_7 : decode cX3_settleTold 7 = .ok (.getfield 56, 3) := by decide +kernel
theorem dX3_settleTold_72 : decode cX3_settleTold 72 = .ok (.iload_n 1, 1) := by decide +kernel
theorem dX3_settleTold_73 : decode cX3_settleTold 73 = .ok (.aaload, 1) := by decide +kernel
theorem dX3_settleTold_74 : decode cX3_settleTold 74 = .ok (.bipush 6, 2) := by decide +kernel
theorem dX3_settleTold_76 : decode cX3_settleTold 76 = .ok (.iaload, 1) := by decide +kernel
theorem dX3_settleTold_77 : decode cX3_settleTold 77 = .ok (.bipush 60, 2) := by decide +kernel
theorem dX3_settleTold_79 : decode cX3_settleTold 79 = .ok (.if_icmp .le 20, 3) := by decide +kernel
theorem dX3_settleTold_82 : decode cX3_settleTold 82 = .ok (.aload_n 0, 1) := by decide +kernel
theorem dX3_settleTold_83 : decode cX3_settleTold 83 = .ok (.bipush 7, 2) := by decide +kernel
theorem dX3_settleTold_85 : decode cX3_settleTold 85 = .ok (.aload_n 0, 1) := by decide +kernel
theorem dX3_settleTold_86 : decode cX3_settleTold 86 = .ok (.getfield 22, 3) := by decide +kernel
theorem dX3_settleTold_89 : decode cX3_settleTold 89 = .ok (.getfield 74, 3) := by decide +kernel
theorem dX3_settleTold_92 : decode cX3_settleTold 92 = .ok (.iload_n 1, 1) := by decide +kernel
theorem dX3_settleTold_93 : decode cX3_settleTold 93 = .ok (.aaload, 1) := by decide +kernel
theorem dX3_settleTold_94 : decode cX3_settleTold 94 = .ok (.iconst 1, 1) := by decide +kernel
theorem dX3_settleTold_95 : decode cX3_settleTold 95 = .ok (.iaload, 1) := by decide +kernel
theorem dX3_settleTold_96 : decode cX3_settleTold 96 = .ok (.invokevirtual 52, 3) := by decide +kernel
theorem dX3_settleTold_99 : decode cX3_settleTold 99 = .ok (.iinc 1 1, 3) := by decide +kernel
noncomputable def k_X3_settleTold_99 (l1 : Int32) (s : t_S) : Option ((Int32 × t_S) ⊕ (t_S)) :=
 some (.inl ((l1 + 1), s))
set_option maxRecDepth 4000 in
set_option maxHeartbeats 1000000 in
theorem B_X3_settleTold_99 {D : va_G} {cy : Nat → ClassId} {ad : Nat → Nat} {bs : Nat} {X : State → Heap → Prop} (l1 : Int32) (s : t_S) (Q : (Int32 × t_S) ⊕ (t_S) → Prop) (Hb54 : ∀ (y0 : Int32) (y1 : t_S), Q (.inl (y0, y1)) → mj_G D cy ad bs X cX3_settleTold 2 yX3_settleTold.cls none yX3_settleTold.name 3 0 0 1065 (t_P (fun v s' => v = none ∧ Q (.inr (s')))) 54 [(0, .ref 846), (1, .int (y0))] [] (t_m y1) 1065 0 0) (hk : t_hk (k_X3_settleTold_99 l1 s) Q) : mj_G D cy ad bs X cX3_settleTold 2 yX3_settleTold.cls none yX3_settleTold.name 3 0 0 1065 (t_P (fun v s' => v = none ∧ Q (.inr (s')))) 99 [(0, .ref 846), (1, .int l1)] [] (t_m s) 1065 0 0 := by
  refine mj_iinc (k := 1) (v := (l1 + 1)) (lv2 := [(1, .int (l1 + 1)), (0, .ref 846)]) dX3_settleTold_99 rfl rfl (by decide) rfl ?_
  refine mj_goto 54 dX3_settleTold_102 (by decide) ?_
  refine mj_sublv [(0, .ref 846), (1, .int (l1 + 1))] [1, 0] rfl ?_
  exact t_somK hk (fun hf => Hb54 (l1 + 1) s hf)
noncomputable def k_X3_settleTold_54 (l1 : Int32) (s : t_S) : Option ((Int32 × t_S) ⊕ (t_S)) :=
 if (s.1 353 11) ≤ l1 then ((some (s)).map Sum.inr)
 else (if t_ix l1 60 = true then
  if (s.1 (364 + 1 * (l1.toNatClampNeg)) ((6 : Int32).toNatClampNeg)) ≤ (60 : Int32) then (k_X3_settleTold_99 l1 s)
 else ((f_X3_late (7 : Int32) (s.1 (364 + 1 * (l1.toNatClampNeg)) ((1 : Int32).toNatClampNeg)) s).bind (fun r2 =>
 k_X3_settleTold_99 l1 r2))
else none)
set_option maxRecDepth 4000 in
set_option maxHeartbeats 1000000 in
theorem B_X3_settleTold_54 {D : va_G} {cy : Nat → ClassId} {ad : Nat → Nat} {bs : Nat} {X : State → Heap → Prop} (l1 : Int32) (s : t_S) (Q : (Int32 × t_S) ⊕ (t_S) → Prop) (Hb54 : ∀ (y0 : Int32) (y1 : t_S), Q (.inl (y0, y1)) → mj_G D cy ad bs X cX3_settleTold 2 yX3_settleTold.cls none yX3_settleTold.name 3 0 0 1065 (t_P (fun v s' => v = none ∧ Q (.inr (s')))) 54 [(0, .ref 846), (1, .int (y0))] [] (t_m y1) 1065 0 0) (hk : t_hk (k_X3_settleTold_54 l1 s) Q) : mj_G D cy ad bs X cX3_settleTold 2 yX3_settleTold.cls none yX3_settleTold.name 3 0 0 1065 (t_P (fun v s' => v = none ∧ Q (.inr (s')))) 54 [(0, .ref 846), (1, .int l1)] [] (t_m s) 1065 0 0 := by
  refine mj_iload_n dX3_settleTold_54 1 rfl ?_
  refine mj_aload_n dX3_settleTold_55 0 rfl ?_
  refine t_getR 353 dX3_settleTold_56 F_X3_22 qr_846_2 ?_
  refine t_getI dX3_settleTold_59 F_X3_73 qf_353_11 ?_
  refine mj_icmp_ge 105 dX3_settleTold_62 (by decide) (fun z => t_posK hk z (fun hk => ?_)) (fun z => t_negK hk z (fun hk => ?_))
  · refine t_mapK hk (fun hk => ?_)
    exact t_somK hk (fun hf => t_vret dX3_settleTold_105 rfl ⟨rfl, hf⟩ (Nat.le_of_ble_eq_true rfl) (Nat.le_of_ble_eq_true rfl))
  · refine mj_aload_n dX3_settleTold_65 0 rfl ?_
    refine t_getR 353 dX3_settleTold_66 F_X3_22 qr_846_2 ?_
    refine t_getR 363 dX3_settleTold_69 F_X3_74 qr_353_10 ?_
    refine mj_iload_n dX3_settleTold_72 1 rfl ?_
    refine t_chkK hk (fun c0 hk => ?_)
    refine t_aaldI dX3_settleTold_73 qq_363 (t_ixv c0) ?_
    refine mj_bipush (v := 6) dX3_settleTold_74 (by decide) ?_
    refine t_iald dX3_settleTold_76 (t_row364 (t_ixn c0)) (by unfold vp_in; decide) ?_
    refine mj_bipush (v := 60) dX3_settleTold_77 (by decide) ?_
    refine mj_icmp_le 99 dX3_settleTold_79 (by decide) (fun z => t_posK hk z (fun hk => ?_)) (fun z => t_negK hk z (fun hk => ?_))
    · exact B_X3_settleTold_99 _ _ _ (fun y0 y1 hx => Hb54 y0 y1 hx) hk
    · refine mj_aload_n dX3_settleTold_82 0 rfl ?_
      refine mj_bipush (v := 7) dX3_settleTold_83 (by decide) ?_
      refine mj_aload_n dX3_settleTold_85 0 rfl ?_
      refine t_getR 353 dX3_settleTold_86 F_X3_22 qr_846_2 ?_
      refine t_getR 363 dX3_settleTold_89 F_X3_74 qr_353_10 ?_
      refine mj_iload_n dX3_settleTold_92 1 rfl ?_
      refine t_aaldI dX3_settleTold_93 qq_363 (t_ixv c0) ?_
      refine mj_iconst (v := 1) dX3_settleTold_94 (by decide) ?_
      refine t_iald dX3_settleTold_95 (t_row364 (t_ixn c0)) (by unfold vp_in; decide) ?_
      refine t_bndK hk (fun r2 er2 hk => ?_)
      refine t_callVvE dX3_settleTold_96 M_X3_late (C_X3_late _ _ _ _ er2) ML_X3_52 IM_X3_late SE_X3_late qc_846 rfl (As := [.int 7, .int (s.1 (364 + 1 * (l1.toNatClampNeg)) ((1 : Int32).toNatClampNeg))]) rfl rfl (Nat.le_of_ble_eq_true rfl) (Nat.le_of_ble_eq_true rfl) (Nat.le_of_ble_eq_true rfl) (Nat.le_of_ble_eq_true rfl) ?_
      exact B_X3_settleTold_99 _ _ _ (fun y0 y1 hx => Hb54 y0 y1 hx) hk
noncomputable def b_X3_settleTold_54 (x : Int32 × t_S) : Option ((Int32 × t_S) ⊕ (t_S)) := k_X3_settleTold_54 x.1 x.2
set_option maxRecDepth 4000 in
set_option maxHeartbeats 1000000 in
theorem LH_X3_settleTold_54 {D : va_G} {cy : Nat → ClassId} {ad : Nat → Nat} {bs : Nat} {X : State → Heap → Prop} : ∀ (n : Nat) (y0 : Int32) (y1 : t_S) (Q : t_S → Prop) (hk : t_hk (t_loop (b_X3_settleTold_54) n (y0, y1)) Q), mj_G D cy ad bs X cX3_settleTold 2 yX3_settleTold.cls none yX3_settleTold.name 3 0 0 1065 (t_P (fun v s' => v = none ∧ Q (s'))) 54 [(0, .ref 846), (1, .int (y0))] [] (t_m y1) 1065 0 0 := by
  intro n
  induction n with
  | zero => intro y0 y1 Q hk; obtain ⟨r, hr, _⟩ := hk; cases hr
  | succ n ih =>
    intro y0 y1 Q hk
    exact B_X3_settleTold_54 y0 y1 (fun y => t_lq (b_X3_settleTold_54) n Q y) (fun y0' y1' hy => ih y0' y1' Q hy) (t_lp hk)
noncomputable def k_X3_settleTold_39 (l1 : Int32) (s : t_S) : Option ((Int32 × t_S) ⊕ (t_S)) :=
 some (.inl ((l1 + 1), s))
set_option maxRecDepth 4000 in
set_option maxHeartbeats 1000000 in
theorem B_X3_settleTold_39 {D : va_G} {cy : Nat → ClassId} {ad : Nat → Nat} {bs : Nat} {X : State → Heap → Prop} (l1 : Int32) (s : t_S) (Q : (Int32 × t_S) ⊕ (t_S) → Prop) (Hb2 : ∀ (y0 : Int32) (y1 : t_S), Q (.inl (y0, y1)) → mj_G D cy ad bs X cX3_settleTold 2 yX3_settleTold.cls none yX3_settleTold.name 3 0 0 1065 (t_P (fun v s' => v = none ∧ Q (.inr (s')))) 2 [(0, .ref 846), (1, .int (y0))] [] (t_m y1) 1065 0 0) (hk : t_hk (k_X3_settleTold_39 l1 s) Q) : mj_G D cy ad bs X cX3_settleTold 2 yX3_settleTold.cls none yX3_settleTold.name 3 0 0 1065 (t_P (fun v s' => v = none ∧ Q (.inr (s')))) 39 [(0, .ref 846), (1, .int l1)] [] (t_m s) 1065 0 0 := by
  refine mj_iinc (k := 1) (v := (l1 + 1)) (lv2 := [(1, .int (l1 + 1)), (0, .ref 846)]) dX3_settleTold_39 rfl rfl (by decide) rfl ?_
  refine mj_goto 2 dX3_settleTold_42 (by decide) ?_
  refine mj_sublv [(0, .ref 846), (1, .int (l1 + 1))] [1, 0] rfl ?_
  exact t_somK hk (fun hf => Hb2 (l1 + 1) s hf)
noncomputable def k_X3_settleTold_2 (l1 : Int32) (s : t_S) : Option ((Int32 × t_S) ⊕ (t_S)) :=
 if (s.1 316 13) ≤ l1 then (((f_X10_measure s).bind (fun r1 =>
 t_loop (b_X3_settleTold_54) t_N (0, r1))).map Sum.inr)
 else ((f_X11_isItself l1 s).bind (fun r2 =>
 if r2 = (0 : Int32) then (k_X3_settleTold_39 l1 s)
 else (if t_ix l1 60 = true then
  (f_X3_late (7 : Int32) (s.1 327 (l1.toNatClampNeg)) s).bind (fun r4 =>
 k_X3_settleTold_39 l1 r4)
else none)))
set_option maxRecDepth 4000 in
set_option maxHeartbeats 1000000 in
theorem B_X3_settleTold_2 {D : va_G} {cy : Nat → ClassId} {ad : Nat → Nat} {bs : Nat} {X : State → Heap → Prop} (l1 : Int32) (s : t_S) (Q : (Int32 × t_S) ⊕ (t_S) → Prop) (Hb2 : ∀ (y0 : Int32) (y1 : t_S), Q (.inl (y0, y1)) → mj_G D cy ad bs X cX3_settleTold 2 yX3_settleTold.cls none yX3_settleTold.name 3 0 0 1065 (t_P (fun v s' => v = none ∧ Q (.inr (s')))) 2 [(0, .ref 846), (1, .int (y0))] [] (t_m y1) 1065 0 0) (hk : t_hk (k_X3_settleTold_2 l1 s) Q) : mj_G D cy ad bs X cX3_settleTold 2 yX3_settleTold.cls none yX3_settleTold.name 3 0 0 1065 (t_P (fun v s' => v = none ∧ Q (.inr (s')))) 2 [(0, .ref 846), (1, .int l1)] [] (t_m s) 1065 0 0 := by
  refine mj_iload_n dX3_settleTold_2 1 rfl ?_
  refine mj_aload_n dX3_settleTold_3 0 rfl ?_
  refine t_getR 316 dX3_settleTold_4 F_X3_18 qr_846_1 ?_
  refine t_getI dX3_settleTold_7 F_X3_56 qf_316_13 ?_
  refine mj_icmp_ge 45 dX3_settleTold_10 (by decide) (fun z => t_posK hk z (fun hk => ?_)) (fun z => t_negK hk z (fun hk => ?_))
  · refine t_mapK hk (fun hk => ?_)
    refine mj_aload_n dX3_settleTold_45 0 rfl ?_
    refine t_getR 353 dX3_settleTold_46 F_X3_22 qr_846_2 ?_
    refine t_bndK hk (fun r1 er1 hk => ?_)
    refine t_callVvE dX3_settleTold_49 M_X10_measure (C_X10_measure _ _ er1) ML_X3_68 IM_X10_measure SE_X10_measure qc_353 rfl (As := []) rfl rfl (Nat.le_of_ble_eq_true rfl) (Nat.le_of_ble_eq_true rfl) (Nat.le_of_ble_eq_true rfl) (Nat.le_of_ble_eq_true rfl) ?_
    refine mj_iconst (v := 0) dX3_settleTold_52 (by decide) ?_
    refine mj_istore_n 1 (lv2 := [(1, .int 0), (0, .ref 846)]) dX3_settleTold_53 rfl (by decide) rfl ?_
    refine mj_sublv [(0, .ref 846), (1, .int 0)] [1, 0] rfl ?_
    exact LH_X3_settleTold_54 _ 0 r1 _ hk
  · refine mj_aload_n dX3_settleTold_13 0 rfl ?_
    refine t_getR 316 dX3_settleTold_14 F_X3_18 qr_846_1 ?_
    refine mj_iload_n dX3_settleTold_17 1 rfl ?_
    refine t_bndK hk (fun r2 er2 hk => ?_)
    refine t_callViP dX3_settleTold_18 M_X11_isItself (C_X11_isItself _ _ _ er2) ML_X3_61 IM_X11_isItself SE_X11_isItself qc_316 rfl (As := [.int l1]) rfl rfl (Nat.le_of_ble_eq_true rfl) (Nat.le_of_ble_eq_true rfl) (Nat.le_of_ble_eq_true rfl) (Nat.le_of_ble_eq_true rfl) ?_
    refine mj_if_eq 39 dX3_settleTold_21 (by decide) (fun z => t_posK hk z (fun hk => ?_)) (fun z => t_negK hk z (fun hk => ?_))
    · exact B_X3_settleTold_39 _ _ _ (fun y0 y1 hx => Hb2 y0 y1 hx) hk
    · refine mj_aload_n dX3_settleTold_24 0 rfl ?_
      refine mj_bipush (v := 7) dX3_settleTold_25 (by decide) ?_
      refine mj_aload_n dX3_settleTold_27 0 rfl ?_
      refine t_getR 316 dX3_settleTold_28 F_X3_18 qr_846_1 ?_
      refine t_getR 327 dX3_settleTold_31 F_X3_64 qr_316_12 ?_
      refine mj_iload_n dX3_settleTold_34 1 rfl ?_
      refine t_chkK hk (fun c2 hk => ?_)
      refine t_iald dX3_settleTold_35 qa_327 (t_ixv c2) ?_
      refine t_bndK hk (fun r4 er4 hk => ?_)
      refine t_callVvE dX3_settleTold_36 M_X3_late (C_X3_late _ _ _ _ er4) ML_X3_52 IM_X3_late SE_X3_late qc_846 rfl (As := [.int 7, .int (s.1 327 (l1.toNatClampNeg))]) rfl rfl (Nat.le_of_ble_eq_true rfl) (Nat.le_of_ble_eq_true rfl) (Nat.le_of_ble_eq_true rfl) (Nat.le_of_ble_eq_true rfl) ?_
      exact B_X3_settleTold_39 _ _ _ (fun y0 y1 hx => Hb2 y0 y1 hx) hk
noncomputable def b_X3_settleTold_2 (x : Int32 × t_S) : Option ((Int32 × t_S) ⊕ (t_S)) := k_X3_settleTold_2 x.1 x.2
set_option maxRecDepth 4000 in
set_option maxHeartbeats 1000000 in
theorem LH_X3_settleTold_2 {D : va_G} {cy : Nat → ClassId} {ad : Nat → Nat} {bs : Nat} {X : State → Heap → Prop} : ∀ (n : Nat) (y0 : Int32) (y1 : t_S) (Q : t_S → Prop) (hk : t_hk (t_loop (b_X3_settleTold_2) n (y0, y1)) Q), mj_G D cy ad bs X cX3_settleTold 2 yX3_settleTold.cls none yX3_settleTold.name 3 0 0 1065 (t_P (fun v s' => v = none ∧ Q (s'))) 2 [(0, .ref 846), (1, .int (y0))] [] (t_m y1) 1065 0 0 := by
  intro n
  induction n with
  | zero => intro y0 y1 Q hk; obtain ⟨r, hr, _⟩ := hk; cases hr
  | succ n ih =>
    intro y0 y1 Q hk
    exact B_X3_settleTold_2 y0 y1 (fun y => t_lq (b_X3_settleTold_2) n Q y) (fun y0' y1' hy => ih y0' y1' Q hy) (t_lp hk)
noncomputable def f_X3_settleTold (s : t_S) : Option (t_S) :=
 t_loop (b_X3_settleTold_2) t_N (0, s)
set_option maxRecDepth 4000 in
set_option maxHeartbeats 1000000 in
theorem C_X3_settleTold (s : t_S) (r : t_S) (hr : f_X3_settleTold s = some r) : t_C yX3_settleTold cX3_settleTold 2 none 3 [.ref 846] s (fun v s' => v = none ∧ s' = r) := by
  refine t_C.imp (P := fun v s' => v = none ∧ (fun q => q = r) (s')) (t_C.of (by decide +kernel) (Nat.le_of_ble_eq_true rfl) ?_) (fun v s' hp => hp)
  intro D cy ad bs X
  have hk : t_hk (f_X3_settleTold s) (fun q => q = r) := ⟨r, hr, rfl⟩
  show mj_G D cy ad bs X cX3_settleTold 2 yX3_settleTold.cls none yX3_settleTold.name 3 0 0 1065 (t_P (fun v s' => v = none ∧ (fun q => q = r) (s'))) 0 [(0, .ref 846)] [] (t_m s) 1065 0 0
  refine mj_iconst (v := 0) dX3_settleTold_0 (by decide) ?_
  refine mj_istore_n 1 (lv2 := [(1, .int 0), (0, .ref 846)]) dX3_settleTold_1 rfl (by decide) rfl ?_
  refine mj_sublv [(0, .ref 846), (1, .int 0)] [1, 0] rfl ?_
  exact LH_X3_settleTold_2 _ 0 s _ hk

theorem dX6_finishReading_0 : decode cX6_finishReading 0 = .ok (.aload_n 0, 1) := by decide +kernel
theorem dX6_finishReading_1 : decode cX6_finishReading 1 = .ok (.getfield 28, 3) := by decide +kernel
theorem dX6_finishReading_12 : decode cX6_finishReading 12 = .ok (.getfield 82, 3) := by decide +kernel
theorem dX6_finishReading_15 : decode cX6_finishReading 15 = .ok (.ifCond .eq 4, 3) := by decide +kernel
theorem dX6_finishReading_18 : decode cX6_finishReading 18 = .ok (.return_, 1) := by decide +kernel
theorem dX6_finishReading_19 : decode cX6_finishReading 19 = .ok (.aload_n 0, 1) := by decide +kernel
theorem dX6_finishReading_20 : decode cX6_finishReading 20 = .ok (.getfield 18, 3) := by decide +kernel
theorem dX6_finishReading_23 : decode cX6_finishReading 23 = .ok (.invokevirtual 150, 3) := by decide +kernel
theorem dX6_finishReading_26 : decode cX6_finishReading 26 = .ok (.aload_n 0, 1) := by decide +kernel
theorem dX6_finishReading_27 : decode cX6_finishReading 27 = .ok (.getfield 116, 3) := by decide +kernel
theorem dX6_finishReading_30 : decode cX6_finishReading 30 = .ok (.ifCond .ne 10, 3) := by decide +kernel
theorem dX6_finishReading_33 : decode cX6_finishReading 33 = .ok (.aload_n 0, 1) := by decide +kernel
theorem dX6_finishReading_34 : decode cX6_finishReading 34 = .ok (.getfield 18, 3) := by decide +kernel
theorem dX6_finishReading_37 : decode cX6_finishReading 37 = .ok (.invokevirtual 153, 3) := by decide +kernel
theorem dX6_finishReading_4 : decode cX6_finishReading 4 = .ok (.iconst 0, 1) := by decide +kernel
theorem dX6_finishReading_40 : decode cX6_finishReading 40 = .ok (.aload_n 0, 1) := by decide +kernel
theorem dX6_finishReading_41 : decode cX6_finishReading 41 = .ok (.getfield 28, 3) := by decide +kernel
theorem dX6_finishReading_44 : decode cX6_finishReading 44 = .ok (.aload_n 0, 1) := by decide +kernel
theorem dX6_finishReading_45 : decode cX6_finishReading 45 = .ok (.getfield 18, 3) := by decide +kernel
theorem dX6_finishReading_48 : decode cX6_finishReading 48 = .ok (.getfield 156, 3) := by decide +kernel
theorem dX6_finishReading_5 : decode cX6_finishReading 5 = .ok (.putfield 147, 3) := by decide +kernel
theorem dX6_finishReading_51 : decode cX6_finishReading 51 = .ok (.putfield 82, 3) := by decide +kernel
theorem dX6_finishReading_54 : decode cX6_finishReading 54 = .ok (.aload_n 0, 1) := by decide +kernel
theorem dX6_finishReading_55 : decode cX6_finishReading 55 = .ok (.getfield 28, 3) := by decide +kernel
theorem dX6_finishReading_58 : decode cX6_finishReading 58 = .ok (.aload_n 0, 1) := by decide +kernel
theorem dX6_finishReading_59 : decode cX6_finishReading 59 = .ok (.getfield 18, 3) := by decide +kernel
theorem dX6_finishReading_62 : decode cX6_finishReading 62 = .ok (.getfield 157, 3) := by decide +kernel
theorem dX6_finishReading_65 : decode cX6_finishReading 65 = .ok (.putfield 160, 3) := by decide +kernel
theorem dX6_finishReading_68 : decode cX6_finishReading 68 = .ok (.return_, 1) := by decide +kernel
theorem dX6_finishReading_8 : decode cX6_finishReading 8 = .ok (.aload_n 0, 1) := by decide +kernel
theorem dX6_finishReading_9 : decode cX6_finishReading 9 = .ok (.getfield 28, 3) := by decide +kernel
noncomputable def k_X6_finishReading_40 (s : t_S) : Option (t_S) :=
 t_let (t_setI s 1 11 (s.1 846 7)) (fun s1 =>
 t_let (t_setI s1 1 12 (s1.1 846 8)) (fun s2 =>
 some (s2)))
set_option maxRecDepth 4000 in
set_option maxHeartbeats 1000000 in
theorem B_X6_finishReading_40 {D : va_G} {cy : Nat → ClassId} {ad : Nat → Nat} {bs : Nat} {X : State → Heap → Prop} (s : t_S) (Q : t_S → Prop) (hk : t_hk (k_X6_finishReading_40 s) Q) : mj_G D cy ad bs X cX6_finishReading 1 yX6_finishReading.cls none yX6_finishReading.name 5 0 0 1065 (t_P (fun v s' => v = none ∧ Q (s'))) 40 [(0, .ref 845)] [] (t_m s) 1065 0 0 := by
  refine mj_aload_n dX6_finishReading_40 0 rfl ?_
  refine t_getR 1 dX6_finishReading_41 F_X6_28 qr_845_0 ?_
  refine mj_aload_n dX6_finishReading_44 0 rfl ?_
  refine t_getR 846 dX6_finishReading_45 F_X6_18 qr_845_5 ?_
  refine t_getI dX6_finishReading_48 F_X6_156 qf_846_7 ?_
  refine t_putIK dX6_finishReading_51 F_X6_82 qf_1_11 rfl (fun s1 ws1 => t_letE hk ws1 (fun hk => ?_))
  refine mj_aload_n dX6_finishReading_54 0 rfl ?_
  refine t_getR 1 dX6_finishReading_55 F_X6_28 qr_845_0 ?_
  refine mj_aload_n dX6_finishReading_58 0 rfl ?_
  refine t_getR 846 dX6_finishReading_59 F_X6_18 qr_845_5 ?_
  refine t_getI dX6_finishReading_62 F_X6_157 qf_846_8 ?_
  refine t_putIK dX6_finishReading_65 F_X6_160 qf_1_12 rfl (fun s2 ws2 => t_letE hk ws2 (fun hk => ?_))
  exact t_somK hk (fun hf => t_vret dX6_finishReading_68 rfl ⟨rfl, hf⟩ (Nat.le_of_ble_eq_true rfl) (Nat.le_of_ble_eq_true rfl))
noncomputable def f_X6_finishReading (s : t_S) : Option (t_S) :=
 t_let (t_setI s 1 1 (0 : Int32)) (fun s1 =>
 if (s1.1 1 11) = (0 : Int32) then ((f_X3_settleNames s1).bind (fun r1 =>
 if (r1.1 845 15) = (0 : Int32) then ((f_X3_settleTold r1).bind (fun r2 =>
 k_X6_finishReading_40 r2))
 else (k_X6_finishReading_40 r1)))
 else (some (s1)))
set_option maxRecDepth 4000 in
set_option maxHeartbeats 1000000 in
theorem C_X6_finishReading (s : t_S) (r : t_S) (hr : f_X6_finishReading s = some r) : t_C yX6_finishReading cX6_finishReading 1 none 5 [.ref 845] s (fun v s' => v = none ∧ s' = r) := by
  refine t_C.imp (P := fun v s' => v = none ∧ (fun q => q = r) (s')) (t_C.of (by decide +kernel) (Nat.le_of_ble_eq_true rfl) ?_) (fun v s' hp => hp)
  intro D cy ad bs X
  have hk : t_hk (f_X6_finishReading s) (fun q => q = r) := ⟨r, hr, rfl⟩
  show mj_G D cy ad bs X cX6_finishReading 1 yX6_finishReading.cls none yX6_finishReading.name 5 0 0 1065 (t_P (fun v s' => v = none ∧ (fun q => q = r) (s'))) 0 [(0, .ref 845)] [] (t_m s) 1065 0 0
  refine mj_aload_n dX6_finishReading_0 0 rfl ?_
  refine t_getR 1 dX6_finishReading_1 F_X6_28 qr_845_0 ?_
  refine mj_iconst (v := 0) dX6_finishReading_4 (by decide) ?_
  refine t_putIK dX6_finishReading_5 F_X6_147 qf_1_1 rfl (fun s1 ws1 => t_letE hk ws1 (fun hk => ?_))
  refine mj_aload_n dX6_finishReading_8 0 rfl ?_
  refine t_getR 1 dX6_finishReading_9 F_X6_28 qr_845_0 ?_
  refine t_getI dX6_finishReading_12 F_X6_82 qf_1_11 ?_
  refine mj_if_eq 19 dX6_finishReading_15 (by decide) (fun z => t_posK hk z (fun hk => ?_)) (fun z => t_negK hk z (fun hk => ?_))
  · refine mj_aload_n dX6_finishReading_19 0 rfl ?_
    refine t_getR 846 dX6_finishReading_20 F_X6_18 qr_845_5 ?_
    refine t_bndK hk (fun r1 er1 hk => ?_)
    refine t_callVvE dX6_finishReading_23 M_X3_settleNames (C_X3_settleNames _ _ er1) ML_X6_150 IM_X3_settleNames SE_X3_settleNames qc_846 rfl (As := []) rfl rfl (Nat.le_of_ble_eq_true rfl) (Nat.le_of_ble_eq_true rfl) (Nat.le_of_ble_eq_true rfl) (Nat.le_of_ble_eq_true rfl) ?_
    refine mj_aload_n dX6_finishReading_26 0 rfl ?_
    refine t_getI dX6_finishReading_27 F_X6_116 qf_845_15 ?_
    refine mj_if_ne 40 dX6_finishReading_30 (by decide) (fun z => t_negK hk z (fun hk => ?_)) (fun z => t_posK hk z (fun hk => ?_))
    · exact B_X6_finishReading_40 _ _ hk
    · refine mj_aload_n dX6_finishReading_33 0 rfl ?_
      refine t_getR 846 dX6_finishReading_34 F_X6_18 qr_845_5 ?_
      refine t_bndK hk (fun r2 er2 hk => ?_)
      refine t_callVvE dX6_finishReading_37 M_X3_settleTold (C_X3_settleTold _ _ er2) ML_X6_153 IM_X3_settleTold SE_X3_settleTold qc_846 rfl (As := []) rfl rfl (Nat.le_of_ble_eq_true rfl) (Nat.le_of_ble_eq_true rfl) (Nat.le_of_ble_eq_true rfl) (Nat.le_of_ble_eq_true rfl) ?_
      exact B_X6_finishReading_40 _ _ hk
  · exact t_somK hk (fun hf => t_vret dX6_finishReading_18 rfl ⟨rfl, hf⟩ (Nat.le_of_ble_eq_true rfl) (Nat.le_of_ble_eq_true rfl))

