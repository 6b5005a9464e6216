/-! Methods as functions, 90: X13_doSimple, X13_giveBack, X13_stop -/
theorem dX13_doSimple_0 : decode cX13_doSimple 0 = .ok (.aload_n 0, 1) := by decide +kernel
theorem dX13_doSimple_1 : decode cX13_doSimple 1 = .ok (.getfield 126, 3) := by decide +kernel
theorem dX13_doSimple_100 : decode cX13_doSimple 100 = .ok (.aload_n 0, 1) := by decide +kernel
theorem dX13_doSimple_101 : decode cX13_doSimple 101 = .ok (.invokevirtual 941, 3) := by decide +kernel
theorem dX13_doSimple_104 : decode cX13_doSimple 104 = .ok (.invokevirtual 1389, 3) := by decide +kernel
theorem dX13_doSimple_107 : decode cX13_doSimple 107 = .ok (.aload_n 0, 1) := by decide +kernel
theorem dX13_doSimple_108 : decode cX13_doSimple 108 = .ok (.getfield 842, 3) := by decide +kernel
theorem dX13_doSimple_111 : decode cX13_doSimple 111 = .ok (.ifCond .ne 201, 3) := by decide +kernel
theorem dX13_doSimple_114 : decode cX13_doSimple 114 = .ok (.aload_n 0, 1) := by decide +kernel
theorem dX13_doSimple_115 : decode cX13_doSimple 115 = .ok (.iconst 5, 1) := by decide +kernel
theorem dX13_doSimple_116 : decode cX13_doSimple 116 = .ok (.iload_n 1, 1) := by decide +kernel
theorem dX13_doSimple_117 : decode cX13_doSimple 117 = .ok (.iconst 0, 1) := by decide +kernel
theorem dX13_doSimple_118 : decode cX13_doSimple 118 = .ok (.aload_n 0, 1) := by decide +kernel
theorem dX13_doSimple_119 : decode cX13_doSimple 119 = .ok (.invokevirtual 941, 3) := by decide +kernel
theorem dX13_doSimple_122 : decode cX13_doSimple 122 = .ok (.invokevirtual 1305, 3) := by decide +kernel
theorem dX13_doSimple_125 : decode cX13_doSimple 125 = .ok (.goto 187, 3) := by decide +kernel
theorem dX13_doSimple_128 : decode cX13_doSimple 128 = .ok (.aload_n 0, 1) := by decide +kernel
theorem dX13_doSimple_129 : decode cX13_doSimple 129 = .ok (.iload_n 1, 1) := by decide +kernel
theorem dX13_doSimple_130 : decode cX13_doSimple 130 = .ok (.iload_n 3, 1) := by decide +kernel
theorem dX13_doSimple_131 : decode cX13_doSimple 131 = .ok (.invokevirtual 1392, 3) := by decide +kernel
theorem dX13_doSimple_134 : decode cX13_doSimple 134 = .ok (.goto 178, 3) := by decide +kernel
theorem dX13_doSimple_137 : decode cX13_doSimple 137 = .ok (.aload_n 0, 1) := by decide +kernel
theorem dX13_doSimple_138 : decode cX13_doSimple 138 = .ok (.aload_n 0, 1) := by decide +kernel
theorem dX13_doSimple_139 : decode cX13_doSimple 139 = .ok (.getfield 147, 3) := by decide +kernel
theorem dX13_doSimple_142 : decode cX13_doSimple 142 = .ok (.iload_n 3, 1) := by decide +kernel
theorem dX13_doSimple_143 : decode cX13_doSimple 143 = .ok (.iaload, 1) := by decide +kernel
theorem dX13_doSimple_144 : decode cX13_doSimple 144 = .ok (.invokestatic 897, 3) := by decide +kernel
theorem dX13_doSimple_147 : decode cX13_doSimple 147 = .ok (.aload_n 0, 1) := by decide +kernel
theorem dX13_doSimple_148 : decode cX13_doSimple 148 = .ok (.getfield 842, 3) := by decide +kernel
theorem dX13_doSimple_151 : decode cX13_doSimple 151 = .ok (.ifCond .ne 22, 3) := by decide +kernel
theorem dX13_doSimple_154 : decode cX13_doSimple 154 = .ok (.aload_n 0, 1) := by decide +kernel
theorem dX13_doSimple_155 : decode cX13_doSimple 155 = .ok (.getfield 182, 3) := by decide +kernel
theorem dX13_doSimple_158 : decode cX13_doSimple 158 = .ok (.aload_n 0, 1) := by decide +kernel
theorem dX13_doSimple_159 : decode cX13_doSimple 159 = .ok (.invokevirtual 941, 3) := by decide +kernel
theorem dX13_doSimple_162 : decode cX13_doSimple 162 = .ok (.laload, 1) := by decide +kernel
theorem dX13_doSimple_163 : decode cX13_doSimple 163 = .ok (.lconst 0, 1) := by decide +kernel
theorem dX13_doSimple_164 : decode cX13_doSimple 164 = .ok (.lcmp, 1) := by decide +kernel
theorem dX13_doSimple_165 : decode cX13_doSimple 165 = .ok (.ifCond .eq 8, 3) := by decide +kernel
theorem dX13_doSimple_168 : decode cX13_doSimple 168 = .ok (.aload_n 0, 1) := by decide +kernel
theorem dX13_doSimple_169 : decode cX13_doSimple 169 = .ok (.iconst 1, 1) := by decide +kernel
theorem dX13_doSimple_170 : decode cX13_doSimple 170 = .ok (.invokevirtual 866, 3) := by decide +kernel
theorem dX13_doSimple_173 : decode cX13_doSimple 173 = .ok (.aload_n 0, 1) := by decide +kernel
theorem dX13_doSimple_174 : decode cX13_doSimple 174 = .ok (.getfield 842, 3) := by decide +kernel
theorem dX13_doSimple_177 : decode cX13_doSimple 177 = .ok (.ifCond .ne 29, 3) := by decide +kernel
theorem dX13_doSimple_180 : decode cX13_doSimple 180 = .ok (.aload_n 0, 1) := by decide +kernel
theorem dX13_doSimple_181 : decode cX13_doSimple 181 = .ok (.getfield 182, 3) := by decide +kernel
theorem dX13_doSimple_184 : decode cX13_doSimple 184 = .ok (.aload_n 0, 1) := by decide +kernel
theorem dX13_doSimple_185 : decode cX13_doSimple 185 = .ok (.invokevirtual 941, 3) := by decide +kernel
theorem dX13_doSimple_188 : decode cX13_doSimple 188 = .ok (.iconst 1, 1) := by decide +kernel
theorem dX13_doSimple_189 : decode cX13_doSimple 189 = .ok (.iadd, 1) := by decide +kernel
theorem dX13_doSimple_190 : decode cX13_doSimple 190 = .ok (.laload, 1) := by decide +kernel
theorem dX13_doSimple_191 : decode cX13_doSimple 191 = .ok (.lconst 1, 1) := by decide +kernel
theorem dX13_doSimple_192 : decode cX13_doSimple 192 = .ok (.ldc2_w 1395, 3) := by decide +kernel
theorem dX13_doSimple_195 : decode cX13_doSimple 195 = .ok (.invokestatic 371, 3) := by decide +kernel
theorem dX13_doSimple_198 : decode cX13_doSimple 198 = .ok (.ifCond .ne 8, 3) := by decide +kernel
theorem dX13_doSimple_201 : decode cX13_doSimple 201 = .ok (.aload_n 0, 1) := by decide +kernel
theorem dX13_doSimple_202 : decode cX13_doSimple 202 = .ok (.iconst 3, 1) := by decide +kernel
theorem dX13_doSimple_203 : decode cX13_doSimple 203 = .ok (.invokevirtual 866, 3) := by decide +kernel
theorem dX13_doSimple_206 : decode cX13_doSimple 206 = .ok (.aload_n 0, 1) := by decide +kernel
theorem dX13_doSimple_207 : decode cX13_doSimple 207 = .ok (.getfield 842, 3) := by decide +kernel
theorem dX13_doSimple_210 : decode cX13_doSimple 210 = .ok (.ifCond .ne 102, 3) := by decide +kernel
theorem dX13_doSimple_213 : decode cX13_doSimple 213 = .ok (.aload_n 0, 1) := by decide +kernel
theorem dX13_doSimple_214 : decode cX13_doSimple 214 = .ok (.getfield 321, 3) := by decide +kernel
theorem dX13_doSimple_217 : decode cX13_doSimple 217 = .ok (.aload_n 0, 1) := by decide +kernel
theorem dX13_doSimple_218 : decode cX13_doSimple 218 = .ok (.iload_n 1, 1) := by decide +kernel
theorem dX13_doSimple_219 : decode cX13_doSimple 219 = .ok (.aload_n 0, 1) := by decide +kernel
theorem dX13_doSimple_220 : decode cX13_doSimple 220 = .ok (.getfield 135, 3) := by decide +kernel
theorem dX13_doSimple_223 : decode cX13_doSimple 223 = .ok (.iload_n 3, 1) := by decide +kernel
theorem dX13_doSimple_224 : decode cX13_doSimple 224 = .ok (.iaload, 1) := by decide +kernel
theorem dX13_doSimple_225 : decode cX13_doSimple 225 = .ok (.invokevirtual 1397, 3) := by decide +kernel
theorem dX13_doSimple_228 : decode cX13_doSimple 228 = .ok (.aload_n 0, 1) := by decide +kernel
theorem dX13_doSimple_229 : decode cX13_doSimple 229 = .ok (.getfield 920, 3) := by decide +kernel
theorem dX13_doSimple_232 : decode cX13_doSimple 232 = .ok (.aload_n 0, 1) := by decide +kernel
theorem dX13_doSimple_233 : decode cX13_doSimple 233 = .ok (.getfield 182, 3) := by decide +kernel
theorem dX13_doSimple_236 : decode cX13_doSimple 236 = .ok (.aload_n 0, 1) := by decide +kernel
theorem dX13_doSimple_237 : decode cX13_doSimple 237 = .ok (.invokevirtual 941, 3) := by decide +kernel
theorem dX13_doSimple_240 : decode cX13_doSimple 240 = .ok (.iconst 1, 1) := by decide +kernel
theorem dX13_doSimple_241 : decode cX13_doSimple 241 = .ok (.iadd, 1) := by decide +kernel
theorem dX13_doSimple_242 : decode cX13_doSimple 242 = .ok (.laload, 1) := by decide +kernel
theorem dX13_doSimple_243 : decode cX13_doSimple 243 = .ok (.ladd, 1) := by decide +kernel
theorem dX13_doSimple_244 : decode cX13_doSimple 244 = .ok (.lastore, 1) := by decide +kernel
theorem dX13_doSimple_245 : decode cX13_doSimple 245 = .ok (.goto 67, 3) := by decide +kernel
theorem dX13_doSimple_248 : decode cX13_doSimple 248 = .ok (.aload_n 0, 1) := by decide +kernel
theorem dX13_doSimple_249 : decode cX13_doSimple 249 = .ok (.getfield 321, 3) := by decide +kernel
theorem dX13_doSimple_252 : decode cX13_doSimple 252 = .ok (.aload_n 0, 1) := by decide +kernel
theorem dX13_doSimple_253 : decode cX13_doSimple 253 = .ok (.iload_n 1, 1) := by decide +kernel
theorem dX13_doSimple_254 : decode cX13_doSimple 254 = .ok (.aload_n 0, 1) := by decide +kernel
theorem dX13_doSimple_255 : decode cX13_doSimple 255 = .ok (.getfield 135, 3) := by decide +kernel
theorem dX13_doSimple_258 : decode cX13_doSimple 258 = .ok (.iload_n 3, 1) := by decide +kernel
theorem dX13_doSimple_259 : decode cX13_doSimple 259 = .ok (.iaload, 1) := by decide +kernel
theorem dX13_doSimple_260 : decode cX13_doSimple 260 = .ok (.invokevirtual 1397, 3) := by decide +kernel
theorem dX13_doSimple_263 : decode cX13_doSimple 263 = .ok (.ldc2_w 1087, 3) := by decide +kernel
theorem dX13_doSimple_266 : decode cX13_doSimple 266 = .ok (.lastore, 1) := by decide +kernel
theorem dX13_doSimple_267 : decode cX13_doSimple 267 = .ok (.goto 45, 3) := by decide +kernel
theorem dX13_doSimple_270 : decode cX13_doSimple 270 = .ok (.aload_n 0, 1) := by decide +kernel
theorem dX13_doSimple_271 : decode cX13_doSimple 271 = .ok (.iload_n 1, 1) := by decide +kernel
theorem dX13_doSimple_272 : decode cX13_doSimple 272 = .ok (.iload_n 3, 1) := by decide +kernel
theorem dX13_doSimple_273 : decode cX13_doSimple 273 = .ok (.invokevirtual 1400, 3) := by decide +kernel
theorem dX13_doSimple_276 : decode cX13_doSimple 276 = .ok (.goto 36, 3) := by decide +kernel
theorem dX13_doSimple_279 : decode cX13_doSimple 279 = .ok (.aload_n 0, 1) := by decide +kernel
theorem dX13_doSimple_280 : decode cX13_doSimple 280 = .ok (.iload_n 1, 1) := by decide +kernel
theorem dX13_doSimple_281 : decode cX13_doSimple 281 = .ok (.iload_n 3, 1) := by decide +kernel
theorem dX13_doSimple_282 : decode cX13_doSimple 282 = .ok (.invokevirtual 1403, 3) := by decide +kernel
theorem dX13_doSimple_285 : decode cX13_doSimple 285 = .ok (.goto 27, 3) := by decide +kernel
theorem dX13_doSimple_288 : decode cX13_doSimple 288 = .ok (.aload_n 0, 1) := by decide +kernel
theorem dX13_doSimple_289 : decode cX13_doSimple 289 = .ok (.iload_n 3, 1) := by decide +kernel
theorem dX13_doSimple_290 : decode cX13_doSimple 290 = .ok (.invokevirtual 1406, 3) := by decide +kernel
theorem dX13_doSimple_293 : decode cX13_doSimple 293 = .ok (.goto 19, 3) := by decide +kernel
theorem dX13_doSimple_296 : decode cX13_doSimple 296 = .ok (.aload_n 0, 1) := by decide +kernel
theorem dX13_doSimple_297 : decode cX13_doSimple 297 = .ok (.iload_n 1, 1) := by decide +kernel
theorem dX13_doSimple_298 : decode cX13_doSimple 298 = .ok (.iload_n 3, 1) := by decide +kernel
theorem dX13_doSimple_299 : decode cX13_doSimple 299 = .ok (.invokevirtual 1409, 3) := by decide +kernel
theorem dX13_doSimple_302 : decode cX13_doSimple 302 = .ok (.goto 10, 3) := by decide +kernel
theorem dX13_doSimple_305 : decode cX13_doSimple 305 = .ok (.aload_n 0, 1) := by decide +kernel
theorem dX13_doSimple_306 : decode cX13_doSimple 306 = .ok (.getfield 294, 3) := by decide +kernel
theorem dX13_doSimple_309 : decode cX13_doSimple 309 = .ok (.iload_n 1, 1) := by decide +kernel
theorem dX13_doSimple_310 : decode cX13_doSimple 310 = .ok (.iconst 0, 1) := by decide +kernel
theorem dX13_doSimple_311 : decode cX13_doSimple 311 = .ok (.iastore, 1) := by decide +kernel
theorem dX13_doSimple_312 : decode cX13_doSimple 312 = .ok (.aload_n 0, 1) := by decide +kernel
theorem dX13_doSimple_313 : decode cX13_doSimple 313 = .ok (.getfield 842, 3) := by decide +kernel
theorem dX13_doSimple_316 : decode cX13_doSimple 316 = .ok (.ifCond .ne 10, 3) := by decide +kernel
theorem dX13_doSimple_319 : decode cX13_doSimple 319 = .ok (.aload_n 0, 1) := by decide +kernel
theorem dX13_doSimple_320 : decode cX13_doSimple 320 = .ok (.iload_n 1, 1) := by decide +kernel
theorem dX13_doSimple_321 : decode cX13_doSimple 321 = .ok (.iload_n 2, 1) := by decide +kernel
theorem dX13_doSimple_322 : decode cX13_doSimple 322 = .ok (.iload_n 3, 1) := by decide +kernel
theorem dX13_doSimple_323 : decode cX13_doSimple 323 = .ok (.invokevirtual 1371, 3) := by decide +kernel
theorem dX13_doSimple_326 : decode cX13_doSimple 326 = .ok (.return_, 1) := by decide +kernel
theorem dX13_doSimple_4 : decode cX13_doSimple 4 = .ok (.iload_n 3, 1) := by decide +kernel
theorem dX13_doSimple_5 : decode cX13_doSimple 5 = .ok (.iaload, 1) := by decide +kernel
theorem dX13_doSimple_6 : decode cX13_doSimple 6 = .ok (.tableswitch 299 7 18 #[62, 76, 122, 299, 299, 131, 242, 264, 273, 282, 299, 290], 62) := by decide +kernel
theorem dX13_doSimple_68 : decode cX13_doSimple 68 = .ok (.aload_n 0, 1) := by decide +kernel
theorem dX13_doSimple_69 : decode cX13_doSimple 69 = .ok (.iload_n 1, 1) := by decide +kernel
theorem dX13_doSimple_70 : decode cX13_doSimple 70 = .ok (.aload_n 0, 1) := by decide +kernel
theorem dX13_doSimple_71 : decode cX13_doSimple 71 = .ok (.getfield 135, 3) := by decide +kernel
theorem dX13_doSimple_74 : decode cX13_doSimple 74 = .ok (.iload_n 3, 1) := by decide +kernel
theorem dX13_doSimple_75 : decode cX13_doSimple 75 = .ok (.iaload, 1) := by decide +kernel
theorem dX13_doSimple_76 : decode cX13_doSimple 76 = .ok (.invokevirtual 1309, 3) := by decide +kernel
theorem dX13_doSimple_79 : decode cX13_doSimple 79 = .ok (.goto 233, 3) := by decide +kernel
theorem dX13_doSimple_82 : decode cX13_doSimple 82 = .ok (.aload_n 0, 1) := by decide +kernel
theorem dX13_doSimple_83 : decode cX13_doSimple 83 = .ok (.aload_n 0, 1) := by decide +kernel
theorem dX13_doSimple_84 : decode cX13_doSimple 84 = .ok (.getfield 147, 3) := by decide +kernel
theorem dX13_doSimple_87 : decode cX13_doSimple 87 = .ok (.iload_n 3, 1) := by decide +kernel
theorem dX13_doSimple_88 : decode cX13_doSimple 88 = .ok (.iaload, 1) := by decide +kernel
theorem dX13_doSimple_89 : decode cX13_doSimple 89 = .ok (.invokestatic 897, 3) := by decide +kernel
theorem dX13_doSimple_92 : decode cX13_doSimple 92 = .ok (.aload_n 0, 1) := by decide +kernel
theorem dX13_doSimple_93 : decode cX13_doSimple 93 = .ok (.getfield 842, 3) := by decide +kernel
theorem dX13_doSimple_96 : decode cX13_doSimple 96 = .ok (.ifCond .ne 11, 3) := by decide +kernel
theorem dX13_doSimple_99 : decode cX13_doSimple 99 = .ok (.aload_n 0, 1) := by decide +kernel
noncomputable def k_X13_doSimple_312 (l1 : Int32) (l2 : Int32) (l3 : Int32) (s : t_S) : Option (t_S) :=
 if (s.1 950 97) = (0 : Int32) then ((f_X13_goOn l1 l2 l3 s).bind (fun r1 =>
 some (r1)))
 else (some (s))
set_option maxRecDepth 4000 in
set_option maxHeartbeats 1000000 in
theorem B_X13_doSimple_312 {D : va_G} {cy : Nat → ClassId} {ad : Nat → Nat} {bs : Nat} {X : State → Heap → Prop} (l1 : Int32) (l2 : Int32) (l3 : Int32) (s : t_S) (Q : t_S → Prop) (hk : t_hk (k_X13_doSimple_312 l1 l2 l3 s) Q) : mj_G D cy ad bs X cX13_doSimple 4 yX13_doSimple.cls none yX13_doSimple.name 1786 0 0 1065 (t_P (fun v s' => v = none ∧ Q (s'))) 312 [(0, .ref 950), (1, .int l1), (2, .int l2), (3, .int l3)] [] (t_m s) 1065 0 0 := by
  refine mj_aload_n dX13_doSimple_312 0 rfl ?_
  refine t_getI dX13_doSimple_313 F_X13_842 qf_950_97 ?_
  refine mj_if_ne 326 dX13_doSimple_316 (by decide) (fun z => t_negK hk z (fun hk => ?_)) (fun z => t_posK hk z (fun hk => ?_))
  · exact t_somK hk (fun hf => t_vret dX13_doSimple_326 rfl ⟨rfl, hf⟩ (Nat.le_of_ble_eq_true rfl) (Nat.le_of_ble_eq_true rfl))
  · refine mj_aload_n dX13_doSimple_319 0 rfl ?_
    refine mj_iload_n dX13_doSimple_320 1 rfl ?_
    refine mj_iload_n dX13_doSimple_321 2 rfl ?_
    refine mj_iload_n dX13_doSimple_322 3 rfl ?_
    refine t_bndK hk (fun r1 er1 hk => ?_)
    refine t_callVvE dX13_doSimple_323 M_X13_goOn (C_X13_goOn _ _ _ _ _ er1) ML_X13_1371 IM_X13_goOn SE_X13_goOn qc_950 rfl (As := [.int l1, .int l2, .int l3]) rfl rfl (Nat.le_of_ble_eq_true rfl) (Nat.le_of_ble_eq_true rfl) (Nat.le_of_ble_eq_true rfl) (Nat.le_of_ble_eq_true rfl) ?_
    exact t_somK hk (fun hf => t_vret dX13_doSimple_326 rfl ⟨rfl, hf⟩ (Nat.le_of_ble_eq_true rfl) (Nat.le_of_ble_eq_true rfl))
noncomputable def k_X13_doSimple_107 (l1 : Int32) (l2 : Int32) (l3 : Int32) (s : t_S) : Option (t_S) :=
 if (s.1 950 97) = (0 : Int32) then ((f_X13_note (5 : Int32) l1 (0 : Int32) (f_X13_top s) s).bind (fun r2 =>
 k_X13_doSimple_312 l1 l2 l3 r2))
 else (k_X13_doSimple_312 l1 l2 l3 s)
set_option maxRecDepth 4000 in
set_option maxHeartbeats 1000000 in
theorem B_X13_doSimple_107 {D : va_G} {cy : Nat → ClassId} {ad : Nat → Nat} {bs : Nat} {X : State → Heap → Prop} (l1 : Int32) (l2 : Int32) (l3 : Int32) (s : t_S) (Q : t_S → Prop) (hk : t_hk (k_X13_doSimple_107 l1 l2 l3 s) Q) : mj_G D cy ad bs X cX13_doSimple 4 yX13_doSimple.cls none yX13_doSimple.name 1786 0 0 1065 (t_P (fun v s' => v = none ∧ Q (s'))) 107 [(0, .ref 950), (1, .int l1), (2, .int l2), (3, .int l3)] [] (t_m s) 1065 0 0 := by
  refine mj_aload_n dX13_doSimple_107 0 rfl ?_
  refine t_getI dX13_doSimple_108 F_X13_842 qf_950_97 ?_
  refine mj_if_ne 312 dX13_doSimple_111 (by decide) (fun z => t_negK hk z (fun hk => ?_)) (fun z => t_posK hk z (fun hk => ?_))
  · exact B_X13_doSimple_312 _ _ _ _ _ hk
  · refine mj_aload_n dX13_doSimple_114 0 rfl ?_
    refine mj_iconst (v := 5) dX13_doSimple_115 (by decide) ?_
    refine mj_iload_n dX13_doSimple_116 1 rfl ?_
    refine mj_iconst (v := 0) dX13_doSimple_117 (by decide) ?_
    refine mj_aload_n dX13_doSimple_118 0 rfl ?_
    refine t_callViP dX13_doSimple_119 M_X13_top (C_X13_top _) ML_X13_941 IM_X13_top SE_X13_top qc_950 rfl (As := []) rfl rfl (Nat.le_of_ble_eq_true rfl) (Nat.le_of_ble_eq_true rfl) (Nat.le_of_ble_eq_true rfl) (Nat.le_of_ble_eq_true rfl) ?_
    refine t_bndK hk (fun r2 er2 hk => ?_)
    refine t_callVvE dX13_doSimple_122 M_X13_note (C_X13_note _ _ _ _ _ _ er2) ML_X13_1305 IM_X13_note SE_X13_note qc_950 rfl (As := [.int 5, .int l1, .int 0, .int (f_X13_top s)]) rfl rfl (Nat.le_of_ble_eq_true rfl) (Nat.le_of_ble_eq_true rfl) (Nat.le_of_ble_eq_true rfl) (Nat.le_of_ble_eq_true rfl) ?_
    refine mj_goto 312 dX13_doSimple_125 (by decide) ?_
    exact B_X13_doSimple_312 _ _ _ _ _ hk
noncomputable def k_X13_doSimple_206 (l1 : Int32) (l2 : Int32) (l3 : Int32) (s : t_S) : Option (t_S) :=
 if (s.1 950 97) = (0 : Int32) then (if t_ix l3 401 = true then
  (f_X13_timerAt l1 (s.1 991 (l3.toNatClampNeg)) s).bind (fun r2 =>
 if t_ix ((f_X13_top s) + (1 : Int32)) 626600 = true then
  if t_ix r2 32 = true then
  t_let (t_setJ s 1051 (r2.toNatClampNeg) ((s.2.1 950 148) + (s.2.1 1006 (((f_X13_top s) + (1 : Int32)).toNatClampNeg)))) (fun s1 =>
 k_X13_doSimple_312 l1 l2 l3 s1)
else none
else none)
else none)
 else (k_X13_doSimple_312 l1 l2 l3 s)
set_option maxRecDepth 4000 in
set_option maxHeartbeats 1000000 in
theorem B_X13_doSimple_206 {D : va_G} {cy : Nat → ClassId} {ad : Nat → Nat} {bs : Nat} {X : State → Heap → Prop} (l1 : Int32) (l2 : Int32) (l3 : Int32) (s : t_S) (Q : t_S → Prop) (hk : t_hk (k_X13_doSimple_206 l1 l2 l3 s) Q) : mj_G D cy ad bs X cX13_doSimple 4 yX13_doSimple.cls none yX13_doSimple.name 1786 0 0 1065 (t_P (fun v s' => v = none ∧ Q (s'))) 206 [(0, .ref 950), (1, .int l1), (2, .int l2), (3, .int l3)] [] (t_m s) 1065 0 0 := by
  refine mj_aload_n dX13_doSimple_206 0 rfl ?_
  refine t_getI dX13_doSimple_207 F_X13_842 qf_950_97 ?_
  refine mj_if_ne 312 dX13_doSimple_210 (by decide) (fun z => t_negK hk z (fun hk => ?_)) (fun z => t_posK hk z (fun hk => ?_))
  · exact B_X13_doSimple_312 _ _ _ _ _ hk
  · refine mj_aload_n dX13_doSimple_213 0 rfl ?_
    refine t_getR 1051 dX13_doSimple_214 F_X13_321 qr_950_166 ?_
    refine mj_aload_n dX13_doSimple_217 0 rfl ?_
    refine mj_iload_n dX13_doSimple_218 1 rfl ?_
    refine mj_aload_n dX13_doSimple_219 0 rfl ?_
    refine t_getR 991 dX13_doSimple_220 F_X13_135 qr_950_69 ?_
    refine mj_iload_n dX13_doSimple_223 3 rfl ?_
    refine t_chkK hk (fun c0 hk => ?_)
    refine t_iald dX13_doSimple_224 qa_991 (t_ixv c0) ?_
    refine t_bndK hk (fun r2 er2 hk => ?_)
    refine t_callViP dX13_doSimple_225 M_X13_timerAt (C_X13_timerAt _ _ _ _ er2) ML_X13_1397 IM_X13_timerAt SE_X13_timerAt qc_950 rfl (As := [.int l1, .int (s.1 991 (l3.toNatClampNeg))]) rfl rfl (Nat.le_of_ble_eq_true rfl) (Nat.le_of_ble_eq_true rfl) (Nat.le_of_ble_eq_true rfl) (Nat.le_of_ble_eq_true rfl) ?_
    refine mj_aload_n dX13_doSimple_228 0 rfl ?_
    refine t_getJ dX13_doSimple_229 F_X13_920 qf_950_148 ?_
    refine mj_aload_n dX13_doSimple_232 0 rfl ?_
    refine t_getR 1006 dX13_doSimple_233 F_X13_182 qr_950_95 ?_
    refine mj_aload_n dX13_doSimple_236 0 rfl ?_
    refine t_callViP dX13_doSimple_237 M_X13_top (C_X13_top _) ML_X13_941 IM_X13_top SE_X13_top qc_950 rfl (As := []) rfl rfl (Nat.le_of_ble_eq_true rfl) (Nat.le_of_ble_eq_true rfl) (Nat.le_of_ble_eq_true rfl) (Nat.le_of_ble_eq_true rfl) ?_
    refine mj_iconst (v := 1) dX13_doSimple_240 (by decide) ?_
    refine mj_iadd dX13_doSimple_241 ?_
    refine t_chkK hk (fun c3 hk => ?_)
    refine t_lald dX13_doSimple_242 qa_1006 (t_ixv c3) ?_
    refine mj_ladd dX13_doSimple_243 ?_
    refine t_chkK hk (fun c4 hk => ?_)
    refine t_lastK dX13_doSimple_244 qa_1051 (t_ixv c4) (fun s1 ws1 => t_letE hk ws1 (fun hk => ?_))
    refine mj_goto 312 dX13_doSimple_245 (by decide) ?_
    exact B_X13_doSimple_312 _ _ _ _ _ hk
noncomputable def k_X13_doSimple_173 (l1 : Int32) (l2 : Int32) (l3 : Int32) (s : t_S) : Option (t_S) :=
 if (s.1 950 97) = (0 : Int32) then (if t_ix ((f_X13_top s) + (1 : Int32)) 626600 = true then
  if (f_X13_in (s.2.1 1006 (((f_X13_top s) + (1 : Int32)).toNatClampNeg)) (1 : Int64) (1000000000 : Int64) s) = (0 : Int32) then ((f_X13_error (3 : Int32) s).bind (fun r4 =>
 k_X13_doSimple_206 l1 l2 l3 r4))
 else (k_X13_doSimple_206 l1 l2 l3 s)
else none)
 else (k_X13_doSimple_206 l1 l2 l3 s)
set_option maxRecDepth 4000 in
set_option maxHeartbeats 1000000 in
theorem B_X13_doSimple_173 {D : va_G} {cy : Nat → ClassId} {ad : Nat → Nat} {bs : Nat} {X : State → Heap → Prop} (l1 : Int32) (l2 : Int32) (l3 : Int32) (s : t_S) (Q : t_S → Prop) (hk : t_hk (k_X13_doSimple_173 l1 l2 l3 s) Q) : mj_G D cy ad bs X cX13_doSimple 4 yX13_doSimple.cls none yX13_doSimple.name 1786 0 0 1065 (t_P (fun v s' => v = none ∧ Q (s'))) 173 [(0, .ref 950), (1, .int l1), (2, .int l2), (3, .int l3)] [] (t_m s) 1065 0 0 := by
  refine mj_aload_n dX13_doSimple_173 0 rfl ?_
  refine t_getI dX13_doSimple_174 F_X13_842 qf_950_97 ?_
  refine mj_if_ne 206 dX13_doSimple_177 (by decide) (fun z => t_negK hk z (fun hk => ?_)) (fun z => t_posK hk z (fun hk => ?_))
  · exact B_X13_doSimple_206 _ _ _ _ _ hk
  · refine mj_aload_n dX13_doSimple_180 0 rfl ?_
    refine t_getR 1006 dX13_doSimple_181 F_X13_182 qr_950_95 ?_
    refine mj_aload_n dX13_doSimple_184 0 rfl ?_
    refine t_callViP dX13_doSimple_185 M_X13_top (C_X13_top _) ML_X13_941 IM_X13_top SE_X13_top qc_950 rfl (As := []) rfl rfl (Nat.le_of_ble_eq_true rfl) (Nat.le_of_ble_eq_true rfl) (Nat.le_of_ble_eq_true rfl) (Nat.le_of_ble_eq_true rfl) ?_
    refine mj_iconst (v := 1) dX13_doSimple_188 (by decide) ?_
    refine mj_iadd dX13_doSimple_189 ?_
    refine t_chkK hk (fun c1 hk => ?_)
    refine t_lald dX13_doSimple_190 qa_1006 (t_ixv c1) ?_
    refine mj_lconst (v := 1) dX13_doSimple_191 (by decide) ?_
    refine mj_ldc2 dX13_doSimple_192 K_X13_1395 ?_
    refine t_callSiP dX13_doSimple_195 M_X13_in (C_X13_in _ _ _ _) ML_X13_371 SM_X13_in (As := [.long (s.2.1 1006 (((f_X13_top s) + (1 : Int32)).toNatClampNeg)), .long 1, .long 1000000000]) rfl rfl (Nat.le_of_ble_eq_true rfl) (Nat.le_of_ble_eq_true rfl) (Nat.le_of_ble_eq_true rfl) (Nat.le_of_ble_eq_true rfl) ?_
    refine mj_if_ne 206 dX13_doSimple_198 (by decide) (fun z => t_negK hk z (fun hk => ?_)) (fun z => t_posK hk z (fun hk => ?_))
    · exact B_X13_doSimple_206 _ _ _ _ _ hk
    · refine mj_aload_n dX13_doSimple_201 0 rfl ?_
      refine mj_iconst (v := 3) dX13_doSimple_202 (by decide) ?_
      refine t_bndK hk (fun r4 er4 hk => ?_)
      refine t_callVvE dX13_doSimple_203 M_X13_error (C_X13_error _ _ _ er4) ML_X13_866 IM_X13_error SE_X13_error qc_950 rfl (As := [.int 3]) rfl rfl (Nat.le_of_ble_eq_true rfl) (Nat.le_of_ble_eq_true rfl) (Nat.le_of_ble_eq_true rfl) (Nat.le_of_ble_eq_true rfl) ?_
      exact B_X13_doSimple_206 _ _ _ _ _ hk
noncomputable def f_X13_doSimple (x1 : Int32) (x2 : Int32) (x3 : Int32) (s : t_S) : Option (t_S) :=
 if t_ix x3 401 = true then
  if (s.1 988 (x3.toNatClampNeg)).toInt < 7 ∨ 18 < (s.1 988 (x3.toNatClampNeg)).toInt then (if t_ix x1 8 = true then
  t_let (t_setI s 1042 (x1.toNatClampNeg) (0 : Int32)) (fun s1 =>
 k_X13_doSimple_312 x1 x2 x3 s1)
else none)
 else if (s.1 988 (x3.toNatClampNeg)).toInt = 7 then ((f_X13_judge x1 (s.1 991 (x3.toNatClampNeg)) s).bind (fun r3 =>
 k_X13_doSimple_312 x1 x2 x3 r3))
 else if (s.1 988 (x3.toNatClampNeg)).toInt = 8 then ((f_X13_work (s.1 995 (x3.toNatClampNeg)) s).bind (fun r4 =>
 if (r4.1 950 97) = (0 : Int32) then ((f_X13_wantValue (f_X13_top r4) r4).bind (fun r6 =>
 k_X13_doSimple_107 x1 x2 x3 r6))
 else (k_X13_doSimple_107 x1 x2 x3 r4)))
 else if (s.1 988 (x3.toNatClampNeg)).toInt = 9 then ((f_X13_send x1 x3 s).bind (fun r7 =>
 k_X13_doSimple_312 x1 x2 x3 r7))
 else if (s.1 988 (x3.toNatClampNeg)).toInt = 10 then (if t_ix x1 8 = true then
  t_let (t_setI s 1042 (x1.toNatClampNeg) (0 : Int32)) (fun s2 =>
 k_X13_doSimple_312 x1 x2 x3 s2)
else none)
 else if (s.1 988 (x3.toNatClampNeg)).toInt = 11 then (if t_ix x1 8 = true then
  t_let (t_setI s 1042 (x1.toNatClampNeg) (0 : Int32)) (fun s3 =>
 k_X13_doSimple_312 x1 x2 x3 s3)
else none)
 else if (s.1 988 (x3.toNatClampNeg)).toInt = 12 then ((f_X13_work (s.1 995 (x3.toNatClampNeg)) s).bind (fun r10 =>
 if (r10.1 950 97) = (0 : Int32) then (if t_ix (f_X13_top r10) 626600 = true then
  if (lg_cmp (r10.2.1 1006 ((f_X13_top r10).toNatClampNeg)) (0 : Int64)) = (0 : Int32) then (k_X13_doSimple_173 x1 x2 x3 r10)
 else ((f_X13_error (1 : Int32) r10).bind (fun r13 =>
 k_X13_doSimple_173 x1 x2 x3 r13))
else none)
 else (k_X13_doSimple_173 x1 x2 x3 r10)))
 else if (s.1 988 (x3.toNatClampNeg)).toInt = 13 then ((f_X13_timerAt x1 (s.1 991 (x3.toNatClampNeg)) s).bind (fun r14 =>
 if t_ix r14 32 = true then
  t_let (t_setJ s 1051 (r14.toNatClampNeg) (-1 : Int64)) (fun s4 =>
 k_X13_doSimple_312 x1 x2 x3 s4)
else none))
 else if (s.1 988 (x3.toNatClampNeg)).toInt = 14 then ((f_X13_create x1 x3 s).bind (fun r16 =>
 k_X13_doSimple_312 x1 x2 x3 r16))
 else if (s.1 988 (x3.toNatClampNeg)).toInt = 15 then ((f_X13_start x1 x3 s).bind (fun r17 =>
 k_X13_doSimple_312 x1 x2 x3 r17))
 else if (s.1 988 (x3.toNatClampNeg)).toInt = 16 then ((f_X13_connect x3 s).bind (fun r18 =>
 k_X13_doSimple_312 x1 x2 x3 r18))
 else if (s.1 988 (x3.toNatClampNeg)).toInt = 17 then (if t_ix x1 8 = true then
  t_let (t_setI s 1042 (x1.toNatClampNeg) (0 : Int32)) (fun s5 =>
 k_X13_doSimple_312 x1 x2 x3 s5)
else none)
 else ((f_X13_usual x1 x3 s).bind (fun r20 =>
 k_X13_doSimple_312 x1 x2 x3 r20))
else none
set_option maxRecDepth 4000 in
set_option maxHeartbeats 1000000 in
theorem C_X13_doSimple (x1 : Int32) (x2 : Int32) (x3 : Int32) (s : t_S) (r : t_S) (hr : f_X13_doSimple x1 x2 x3 s = some r) : t_C yX13_doSimple cX13_doSimple 4 none 1786 [.ref 950, .int x1, .int x2, .int x3] s (fun v s' => v = none ∧ s' = r) := by
  refine t_C.imp (P := fun v s' => v = none ∧ (fun q => q = r) (s')) (t_C.of (by decide +kernel) (Nat.le_of_ble_eq_true rfl) ?_) (fun v s' hp => hp)
  intro D cy ad bs X
  have hk : t_hk (f_X13_doSimple x1 x2 x3 s) (fun q => q = r) := ⟨r, hr, rfl⟩
  show mj_G D cy ad bs X cX13_doSimple 4 yX13_doSimple.cls none yX13_doSimple.name 1786 0 0 1065 (t_P (fun v s' => v = none ∧ (fun q => q = r) (s'))) 0 [(0, .ref 950), (1, .int x1), (2, .int x2), (3, .int x3)] [] (t_m s) 1065 0 0
  refine mj_aload_n dX13_doSimple_0 0 rfl ?_
  refine t_getR 988 dX13_doSimple_1 F_X13_126 qr_950_66 ?_
  refine mj_iload_n dX13_doSimple_4 3 rfl ?_
  refine t_chkK hk (fun c0 hk => ?_)
  refine t_iald dX13_doSimple_5 qa_988 (t_ixv c0) ?_
  by_cases hout : (s.1 988 (x3.toNatClampNeg)).toInt < 7 ∨ 18 < (s.1 988 (x3.toNatClampNeg)).toInt
  · replace hk := t_pos hk hout
    refine mj_tableOut 305 dX13_doSimple_6 hout (by decide) ?_
    refine mj_aload_n dX13_doSimple_305 0 rfl ?_
    refine t_getR 1042 dX13_doSimple_306 F_X13_294 qr_950_157 ?_
    refine mj_iload_n dX13_doSimple_309 1 rfl ?_
    refine mj_iconst (v := 0) dX13_doSimple_310 (by decide) ?_
    refine t_chkK hk (fun c1 hk => ?_)
    refine t_iastK dX13_doSimple_311 qa_1042 (t_ixv c1) (fun s1 ws1 => t_letE hk ws1 (fun hk => ?_))
    exact B_X13_doSimple_312 _ _ _ _ _ hk
  · replace hk := t_neg hk hout
    have hh1 : ¬ (s.1 988 (x3.toNatClampNeg)).toInt < 7 := fun z => hout (Or.inl z)
    have hh2 : ¬ (18 : Int) < (s.1 988 (x3.toNatClampNeg)).toInt := fun z => hout (Or.inr z)
    by_cases h0 : (s.1 988 (x3.toNatClampNeg)).toInt = 7
    · replace hk := t_pos hk h0
      refine mj_tableIn 68 dX13_doSimple_6 hh1 hh2 (by rw [h0]; rfl) (by decide) ?_
      refine mj_aload_n dX13_doSimple_68 0 rfl ?_
      refine mj_iload_n dX13_doSimple_69 1 rfl ?_
      refine mj_aload_n dX13_doSimple_70 0 rfl ?_
      refine t_getR 991 dX13_doSimple_71 F_X13_135 qr_950_69 ?_
      refine mj_iload_n dX13_doSimple_74 3 rfl ?_
      refine t_iald dX13_doSimple_75 qa_991 (t_ixv c0) ?_
      refine t_bndK hk (fun r3 er3 hk => ?_)
      refine t_callVvE dX13_doSimple_76 M_X13_judge (C_X13_judge _ _ _ _ er3) ML_X13_1309 IM_X13_judge SE_X13_judge qc_950 rfl (As := [.int x1, .int (s.1 991 (x3.toNatClampNeg))]) rfl rfl (Nat.le_of_ble_eq_true rfl) (Nat.le_of_ble_eq_true rfl) (Nat.le_of_ble_eq_true rfl) (Nat.le_of_ble_eq_true rfl) ?_
      refine mj_goto 312 dX13_doSimple_79 (by decide) ?_
      exact B_X13_doSimple_312 _ _ _ _ _ hk
    replace hk := t_neg hk h0
    by_cases h1 : (s.1 988 (x3.toNatClampNeg)).toInt = 8
    · replace hk := t_pos hk h1
      refine mj_tableIn 82 dX13_doSimple_6 hh1 hh2 (by rw [h1]; rfl) (by decide) ?_
      refine mj_aload_n dX13_doSimple_82 0 rfl ?_
      refine mj_aload_n dX13_doSimple_83 0 rfl ?_
      refine t_getR 995 dX13_doSimple_84 F_X13_147 qr_950_73 ?_
      refine mj_iload_n dX13_doSimple_87 3 rfl ?_
      refine t_iald dX13_doSimple_88 qa_995 (t_ixv c0) ?_
      refine t_bndK hk (fun r4 er4 hk => ?_)
      refine t_callSvE dX13_doSimple_89 M_X13_work (C_X13_work _ _ _ er4) ML_X13_897 SM_X13_work (As := [.ref 950, .int (s.1 995 (x3.toNatClampNeg))]) rfl rfl (Nat.le_of_ble_eq_true rfl) (Nat.le_of_ble_eq_true rfl) (Nat.le_of_ble_eq_true rfl) (Nat.le_of_ble_eq_true rfl) ?_
      refine mj_aload_n dX13_doSimple_92 0 rfl ?_
      refine t_getI dX13_doSimple_93 F_X13_842 qf_950_97 ?_
      refine mj_if_ne 107 dX13_doSimple_96 (by decide) (fun z => t_negK hk z (fun hk => ?_)) (fun z => t_posK hk z (fun hk => ?_))
      · exact B_X13_doSimple_107 _ _ _ _ _ hk
      · refine mj_aload_n dX13_doSimple_99 0 rfl ?_
        refine mj_aload_n dX13_doSimple_100 0 rfl ?_
        refine t_callViP dX13_doSimple_101 M_X13_top (C_X13_top _) ML_X13_941 IM_X13_top SE_X13_top qc_950 rfl (As := []) rfl rfl (Nat.le_of_ble_eq_true rfl) (Nat.le_of_ble_eq_true rfl) (Nat.le_of_ble_eq_true rfl) (Nat.le_of_ble_eq_true rfl) ?_
        refine t_bndK hk (fun r6 er6 hk => ?_)
        refine t_callVvE dX13_doSimple_104 M_X13_wantValue (C_X13_wantValue _ _ _ er6) ML_X13_1389 IM_X13_wantValue SE_X13_wantValue qc_950 rfl (As := [.int (f_X13_top r4)]) rfl rfl (Nat.le_of_ble_eq_true rfl) (Nat.le_of_ble_eq_true rfl) (Nat.le_of_ble_eq_true rfl) (Nat.le_of_ble_eq_true rfl) ?_
        exact B_X13_doSimple_107 _ _ _ _ _ hk
    replace hk := t_neg hk h1
    by_cases h2 : (s.1 988 (x3.toNatClampNeg)).toInt = 9
    · replace hk := t_pos hk h2
      refine mj_tableIn 128 dX13_doSimple_6 hh1 hh2 (by rw [h2]; rfl) (by decide) ?_
      refine mj_aload_n dX13_doSimple_128 0 rfl ?_
      refine mj_iload_n dX13_doSimple_129 1 rfl ?_
      refine mj_iload_n dX13_doSimple_130 3 rfl ?_
      refine t_bndK hk (fun r7 er7 hk => ?_)
      refine t_callVvE dX13_doSimple_131 M_X13_send (C_X13_send _ _ _ _ er7) ML_X13_1392 IM_X13_send SE_X13_send qc_950 rfl (As := [.int x1, .int x3]) rfl rfl (Nat.le_of_ble_eq_true rfl) (Nat.le_of_ble_eq_true rfl) (Nat.le_of_ble_eq_true rfl) (Nat.le_of_ble_eq_true rfl) ?_
      refine mj_goto 312 dX13_doSimple_134 (by decide) ?_
      exact B_X13_doSimple_312 _ _ _ _ _ hk
    replace hk := t_neg hk h2
    by_cases h3 : (s.1 988 (x3.toNatClampNeg)).toInt = 10
    · replace hk := t_pos hk h3
      refine mj_tableIn 305 dX13_doSimple_6 hh1 hh2 (by rw [h3]; rfl) (by decide) ?_
      refine mj_aload_n dX13_doSimple_305 0 rfl ?_
      refine t_getR 1042 dX13_doSimple_306 F_X13_294 qr_950_157 ?_
      refine mj_iload_n dX13_doSimple_309 1 rfl ?_
      refine mj_iconst (v := 0) dX13_doSimple_310 (by decide) ?_
      refine t_chkK hk (fun c7 hk => ?_)
      refine t_iastK dX13_doSimple_311 qa_1042 (t_ixv c7) (fun s2 ws2 => t_letE hk ws2 (fun hk => ?_))
      exact B_X13_doSimple_312 _ _ _ _ _ hk
    replace hk := t_neg hk h3
    by_cases h4 : (s.1 988 (x3.toNatClampNeg)).toInt = 11
    · replace hk := t_pos hk h4
      refine mj_tableIn 305 dX13_doSimple_6 hh1 hh2 (by rw [h4]; rfl) (by decide) ?_
      refine mj_aload_n dX13_doSimple_305 0 rfl ?_
      refine t_getR 1042 dX13_doSimple_306 F_X13_294 qr_950_157 ?_
      refine mj_iload_n dX13_doSimple_309 1 rfl ?_
      refine mj_iconst (v := 0) dX13_doSimple_310 (by decide) ?_
      refine t_chkK hk (fun c8 hk => ?_)
      refine t_iastK dX13_doSimple_311 qa_1042 (t_ixv c8) (fun s3 ws3 => t_letE hk ws3 (fun hk => ?_))
      exact B_X13_doSimple_312 _ _ _ _ _ hk
    replace hk := t_neg hk h4
    by_cases h5 : (s.1 988 (x3.toNatClampNeg)).toInt = 12
    · replace hk := t_pos hk h5
      refine mj_tableIn 137 dX13_doSimple_6 hh1 hh2 (by rw [h5]; rfl) (by decide) ?_
      refine mj_aload_n dX13_doSimple_137 0 rfl ?_
      refine mj_aload_n dX13_doSimple_138 0 rfl ?_
      refine t_getR 995 dX13_doSimple_139 F_X13_147 qr_950_73 ?_
      refine mj_iload_n dX13_doSimple_142 3 rfl ?_
      refine t_iald dX13_doSimple_143 qa_995 (t_ixv c0) ?_
      refine t_bndK hk (fun r10 er10 hk => ?_)
      refine t_callSvE dX13_doSimple_144 M_X13_work (C_X13_work _ _ _ er10) ML_X13_897 SM_X13_work (As := [.ref 950, .int (s.1 995 (x3.toNatClampNeg))]) rfl rfl (Nat.le_of_ble_eq_true rfl) (Nat.le_of_ble_eq_true rfl) (Nat.le_of_ble_eq_true rfl) (Nat.le_of_ble_eq_true rfl) ?_
      refine mj_aload_n dX13_doSimple_147 0 rfl ?_
      refine t_getI dX13_doSimple_148 F_X13_842 qf_950_97 ?_
      refine mj_if_ne 173 dX13_doSimple_151 (by decide) (fun z => t_negK hk z (fun hk => ?_)) (fun z => t_posK hk z (fun hk => ?_))
      · exact B_X13_doSimple_173 _ _ _ _ _ hk
      · refine mj_aload_n dX13_doSimple_154 0 rfl ?_
        refine t_getR 1006 dX13_doSimple_155 F_X13_182 qr_950_95 ?_
        refine mj_aload_n dX13_doSimple_158 0 rfl ?_
        refine t_callViP dX13_doSimple_159 M_X13_top (C_X13_top _) ML_X13_941 IM_X13_top SE_X13_top qc_950 rfl (As := []) rfl rfl (Nat.le_of_ble_eq_true rfl) (Nat.le_of_ble_eq_true rfl) (Nat.le_of_ble_eq_true rfl) (Nat.le_of_ble_eq_true rfl) ?_
        refine t_chkK hk (fun c11 hk => ?_)
        refine t_lald dX13_doSimple_162 qa_1006 (t_ixv c11) ?_
        refine mj_lconst (v := 0) dX13_doSimple_163 (by decide) ?_
        refine mj_lcmp dX13_doSimple_164 ?_
        refine mj_if_eq 173 dX13_doSimple_165 (by decide) (fun z => t_posK hk z (fun hk => ?_)) (fun z => t_negK hk z (fun hk => ?_))
        · exact B_X13_doSimple_173 _ _ _ _ _ hk
        · refine mj_aload_n dX13_doSimple_168 0 rfl ?_
          refine mj_iconst (v := 1) dX13_doSimple_169 (by decide) ?_
          refine t_bndK hk (fun r13 er13 hk => ?_)
          refine t_callVvE dX13_doSimple_170 M_X13_error (C_X13_error _ _ _ er13) ML_X13_866 IM_X13_error SE_X13_error qc_950 rfl (As := [.int 1]) rfl rfl (Nat.le_of_ble_eq_true rfl) (Nat.le_of_ble_eq_true rfl) (Nat.le_of_ble_eq_true rfl) (Nat.le_of_ble_eq_true rfl) ?_
          exact B_X13_doSimple_173 _ _ _ _ _ hk
    replace hk := t_neg hk h5
    by_cases h6 : (s.1 988 (x3.toNatClampNeg)).toInt = 13
    · replace hk := t_pos hk h6
      refine mj_tableIn 248 dX13_doSimple_6 hh1 hh2 (by rw [h6]; rfl) (by decide) ?_
      refine mj_aload_n dX13_doSimple_248 0 rfl ?_
      refine t_getR 1051 dX13_doSimple_249 F_X13_321 qr_950_166 ?_
      refine mj_aload_n dX13_doSimple_252 0 rfl ?_
      refine mj_iload_n dX13_doSimple_253 1 rfl ?_
      refine mj_aload_n dX13_doSimple_254 0 rfl ?_
      refine t_getR 991 dX13_doSimple_255 F_X13_135 qr_950_69 ?_
      refine mj_iload_n dX13_doSimple_258 3 rfl ?_
      refine t_iald dX13_doSimple_259 qa_991 (t_ixv c0) ?_
      refine t_bndK hk (fun r14 er14 hk => ?_)
      refine t_callViP dX13_doSimple_260 M_X13_timerAt (C_X13_timerAt _ _ _ _ er14) ML_X13_1397 IM_X13_timerAt SE_X13_timerAt qc_950 rfl (As := [.int x1, .int (s.1 991 (x3.toNatClampNeg))]) rfl rfl (Nat.le_of_ble_eq_true rfl) (Nat.le_of_ble_eq_true rfl) (Nat.le_of_ble_eq_true rfl) (Nat.le_of_ble_eq_true rfl) ?_
      refine mj_ldc2 dX13_doSimple_263 K_X13_1087 ?_
      refine t_chkK hk (fun c14 hk => ?_)
      refine t_lastK dX13_doSimple_266 qa_1051 (t_ixv c14) (fun s4 ws4 => t_letE hk ws4 (fun hk => ?_))
      refine mj_goto 312 dX13_doSimple_267 (by decide) ?_
      exact B_X13_doSimple_312 _ _ _ _ _ hk
    replace hk := t_neg hk h6
    by_cases h7 : (s.1 988 (x3.toNatClampNeg)).toInt = 14
    · replace hk := t_pos hk h7
      refine mj_tableIn 270 dX13_doSimple_6 hh1 hh2 (by rw [h7]; rfl) (by decide) ?_
      refine mj_aload_n dX13_doSimple_270 0 rfl ?_
      refine mj_iload_n dX13_doSimple_271 1 rfl ?_
      refine mj_iload_n dX13_doSimple_272 3 rfl ?_
      refine t_bndK hk (fun r16 er16 hk => ?_)
      refine t_callVvE dX13_doSimple_273 M_X13_create (C_X13_create _ _ _ _ er16) ML_X13_1400 IM_X13_create SE_X13_create qc_950 rfl (As := [.int x1, .int x3]) rfl rfl (Nat.le_of_ble_eq_true rfl) (Nat.le_of_ble_eq_true rfl) (Nat.le_of_ble_eq_true rfl) (Nat.le_of_ble_eq_true rfl) ?_
      refine mj_goto 312 dX13_doSimple_276 (by decide) ?_
      exact B_X13_doSimple_312 _ _ _ _ _ hk
    replace hk := t_neg hk h7
    by_cases h8 : (s.1 988 (x3.toNatClampNeg)).toInt = 15
    · replace hk := t_pos hk h8
      refine mj_tableIn 279 dX13_doSimple_6 hh1 hh2 (by rw [h8]; rfl) (by decide) ?_
      refine mj_aload_n dX13_doSimple_279 0 rfl ?_
      refine mj_iload_n dX13_doSimple_280 1 rfl ?_
      refine mj_iload_n dX13_doSimple_281 3 rfl ?_
      refine t_bndK hk (fun r17 er17 hk => ?_)
      refine t_callVvE dX13_doSimple_282 M_X13_start (C_X13_start _ _ _ _ er17) ML_X13_1403 IM_X13_start SE_X13_start qc_950 rfl (As := [.int x1, .int x3]) rfl rfl (Nat.le_of_ble_eq_true rfl) (Nat.le_of_ble_eq_true rfl) (Nat.le_of_ble_eq_true rfl) (Nat.le_of_ble_eq_true rfl) ?_
      refine mj_goto 312 dX13_doSimple_285 (by decide) ?_
      exact B_X13_doSimple_312 _ _ _ _ _ hk
    replace hk := t_neg hk h8
    by_cases h9 : (s.1 988 (x3.toNatClampNeg)).toInt = 16
    · replace hk := t_pos hk h9
      refine mj_tableIn 288 dX13_doSimple_6 hh1 hh2 (by rw [h9]; rfl) (by decide) ?_
      refine mj_aload_n dX13_doSimple_288 0 rfl ?_
      refine mj_iload_n dX13_doSimple_289 3 rfl ?_
      refine t_bndK hk (fun r18 er18 hk => ?_)
      refine t_callVvE dX13_doSimple_290 M_X13_connect (C_X13_connect _ _ _ er18) ML_X13_1406 IM_X13_connect SE_X13_connect qc_950 rfl (As := [.int x3]) rfl rfl (Nat.le_of_ble_eq_true rfl) (Nat.le_of_ble_eq_true rfl) (Nat.le_of_ble_eq_true rfl) (Nat.le_of_ble_eq_true rfl) ?_
      refine mj_goto 312 dX13_doSimple_293 (by decide) ?_
      exact B_X13_doSimple_312 _ _ _ _ _ hk
    replace hk := t_neg hk h9
    by_cases h10 : (s.1 988 (x3.toNatClampNeg)).toInt = 17
    · replace hk := t_pos hk h10
      refine mj_tableIn 305 dX13_doSimple_6 hh1 hh2 (by rw [h10]; rfl) (by decide) ?_
      refine mj_aload_n dX13_doSimple_305 0 rfl ?_
      refine t_getR 1042 dX13_doSimple_306 F_X13_294 qr_950_157 ?_
      refine mj_iload_n dX13_doSimple_309 1 rfl ?_
      refine mj_iconst (v := 0) dX13_doSimple_310 (by decide) ?_
      refine t_chkK hk (fun c18 hk => ?_)
      refine t_iastK dX13_doSimple_311 qa_1042 (t_ixv c18) (fun s5 ws5 => t_letE hk ws5 (fun hk => ?_))
      exact B_X13_doSimple_312 _ _ _ _ _ hk
    replace hk := t_neg hk h10
    have h11 : (s.1 988 (x3.toNatClampNeg)).toInt = 18 := by omega
    refine mj_tableIn 296 dX13_doSimple_6 hh1 hh2 (by rw [h11]; rfl) (by decide) ?_
    refine mj_aload_n dX13_doSimple_296 0 rfl ?_
    refine mj_iload_n dX13_doSimple_297 1 rfl ?_
    refine mj_iload_n dX13_doSimple_298 3 rfl ?_
    refine t_bndK hk (fun r20 er20 hk => ?_)
    refine t_callVvE dX13_doSimple_299 M_X13_usual (C_X13_usual _ _ _ _ er20) ML_X13_1409 IM_X13_usual SE_X13_usual qc_950 rfl (As := [.int x1, .int x3]) rfl rfl (Nat.le_of_ble_eq_true rfl) (Nat.le_of_ble_eq_true rfl) (Nat.le_of_ble_eq_true rfl) (Nat.le_of_ble_eq_true rfl) ?_
    refine mj_goto 312 dX13_doSimple_302 (by decide) ?_
    exact B_X13_doSimple_312 _ _ _ _ _ hk

theorem dX13_giveBack_0 : decode cX13_giveBack 0 = .ok (.aload_n 0, 1) := by decide +kernel
theorem dX13_giveBack_1 : decode cX13_giveBack 1 = .ok (.getfield 147, 3) := by decide +kernel
theorem dX13_giveBack_10 : decode cX13_giveBack 10 = .ok (.aload_n 0, 1) := by decide +kernel
theorem dX13_giveBack_100 : decode cX13_giveBack 100 = .ok (.invokevirtual 1343, 3) := by decide +kernel
theorem dX13_giveBack_103 : decode cX13_giveBack 103 = .ok (.iload_n 3, 1) := by decide +kernel
theorem dX13_giveBack_104 : decode cX13_giveBack 104 = .ok (.invokevirtual 1321, 3) := by decide +kernel
theorem dX13_giveBack_107 : decode cX13_giveBack 107 = .ok (.aload_n 0, 1) := by decide +kernel
theorem dX13_giveBack_108 : decode cX13_giveBack 108 = .ok (.getfield 842, 3) := by decide +kernel
theorem dX13_giveBack_11 : decode cX13_giveBack 11 = .ok (.getfield 147, 3) := by decide +kernel
theorem dX13_giveBack_111 : decode cX13_giveBack 111 = .ok (.ifCond .eq 4, 3) := by decide +kernel
theorem dX13_giveBack_114 : decode cX13_giveBack 114 = .ok (.return_, 1) := by decide +kernel
theorem dX13_giveBack_115 : decode cX13_giveBack 115 = .ok (.aload_n 0, 1) := by decide +kernel
theorem dX13_giveBack_116 : decode cX13_giveBack 116 = .ok (.getfield 282, 3) := by decide +kernel
theorem dX13_giveBack_119 : decode cX13_giveBack 119 = .ok (.iload_n 1, 1) := by decide +kernel
theorem dX13_giveBack_120 : decode cX13_giveBack 120 = .ok (.dup2, 1) := by decide +kernel
theorem dX13_giveBack_121 : decode cX13_giveBack 121 = .ok (.iaload, 1) := by decide +kernel
theorem dX13_giveBack_122 : decode cX13_giveBack 122 = .ok (.iconst 1, 1) := by decide +kernel
theorem dX13_giveBack_123 : decode cX13_giveBack 123 = .ok (.isub, 1) := by decide +kernel
theorem dX13_giveBack_124 : decode cX13_giveBack 124 = .ok (.iastore, 1) := by decide +kernel
theorem dX13_giveBack_125 : decode cX13_giveBack 125 = .ok (.aload_n 0, 1) := by decide +kernel
theorem dX13_giveBack_126 : decode cX13_giveBack 126 = .ok (.getfield 282, 3) := by decide +kernel
theorem dX13_giveBack_129 : decode cX13_giveBack 129 = .ok (.iload_n 1, 1) := by decide +kernel
theorem dX13_giveBack_130 : decode cX13_giveBack 130 = .ok (.iaload, 1) := by decide +kernel
theorem dX13_giveBack_131 : decode cX13_giveBack 131 = .ok (.ifCond .le 27, 3) := by decide +kernel
theorem dX13_giveBack_134 : decode cX13_giveBack 134 = .ok (.iload 4, 2) := by decide +kernel
theorem dX13_giveBack_136 : decode cX13_giveBack 136 = .ok (.ifCond .lt 22, 3) := by decide +kernel
theorem dX13_giveBack_139 : decode cX13_giveBack 139 = .ok (.aload_n 0, 1) := by decide +kernel
theorem dX13_giveBack_14 : decode cX13_giveBack 14 = .ok (.iload_n 2, 1) := by decide +kernel
theorem dX13_giveBack_140 : decode cX13_giveBack 140 = .ok (.iload_n 1, 1) := by decide +kernel
theorem dX13_giveBack_141 : decode cX13_giveBack 141 = .ok (.iload 4, 2) := by decide +kernel
theorem dX13_giveBack_143 : decode cX13_giveBack 143 = .ok (.invokevirtual 1346, 3) := by decide +kernel
theorem dX13_giveBack_146 : decode cX13_giveBack 146 = .ok (.aload_n 0, 1) := by decide +kernel
theorem dX13_giveBack_147 : decode cX13_giveBack 147 = .ok (.iload_n 3, 1) := by decide +kernel
theorem dX13_giveBack_148 : decode cX13_giveBack 148 = .ok (.aload_n 0, 1) := by decide +kernel
theorem dX13_giveBack_149 : decode cX13_giveBack 149 = .ok (.iload_n 1, 1) := by decide +kernel
theorem dX13_giveBack_15 : decode cX13_giveBack 15 = .ok (.iaload, 1) := by decide +kernel
theorem dX13_giveBack_150 : decode cX13_giveBack 150 = .ok (.iload 4, 2) := by decide +kernel
theorem dX13_giveBack_152 : decode cX13_giveBack 152 = .ok (.invokevirtual 1349, 3) := by decide +kernel
theorem dX13_giveBack_155 : decode cX13_giveBack 155 = .ok (.invokevirtual 861, 3) := by decide +kernel
theorem dX13_giveBack_158 : decode cX13_giveBack 158 = .ok (.return_, 1) := by decide +kernel
theorem dX13_giveBack_16 : decode cX13_giveBack 16 = .ok (.invokestatic 897, 3) := by decide +kernel
theorem dX13_giveBack_19 : decode cX13_giveBack 19 = .ok (.goto 10, 3) := by decide +kernel
theorem dX13_giveBack_22 : decode cX13_giveBack 22 = .ok (.aload_n 0, 1) := by decide +kernel
theorem dX13_giveBack_23 : decode cX13_giveBack 23 = .ok (.iconst 4, 1) := by decide +kernel
theorem dX13_giveBack_24 : decode cX13_giveBack 24 = .ok (.lconst 0, 1) := by decide +kernel
theorem dX13_giveBack_25 : decode cX13_giveBack 25 = .ok (.invokevirtual 869, 3) := by decide +kernel
theorem dX13_giveBack_28 : decode cX13_giveBack 28 = .ok (.istore_n 3, 1) := by decide +kernel
theorem dX13_giveBack_29 : decode cX13_giveBack 29 = .ok (.aload_n 0, 1) := by decide +kernel
theorem dX13_giveBack_30 : decode cX13_giveBack 30 = .ok (.getfield 842, 3) := by decide +kernel
theorem dX13_giveBack_33 : decode cX13_giveBack 33 = .ok (.ifCond .eq 4, 3) := by decide +kernel
theorem dX13_giveBack_36 : decode cX13_giveBack 36 = .ok (.return_, 1) := by decide +kernel
theorem dX13_giveBack_37 : decode cX13_giveBack 37 = .ok (.aload_n 0, 1) := by decide +kernel
theorem dX13_giveBack_38 : decode cX13_giveBack 38 = .ok (.invokevirtual 941, 3) := by decide +kernel
theorem dX13_giveBack_4 : decode cX13_giveBack 4 = .ok (.iload_n 2, 1) := by decide +kernel
theorem dX13_giveBack_41 : decode cX13_giveBack 41 = .ok (.istore_n 3, 1) := by decide +kernel
theorem dX13_giveBack_42 : decode cX13_giveBack 42 = .ok (.aload_n 0, 1) := by decide +kernel
theorem dX13_giveBack_43 : decode cX13_giveBack 43 = .ok (.getfield 291, 3) := by decide +kernel
theorem dX13_giveBack_46 : decode cX13_giveBack 46 = .ok (.bipush 8, 2) := by decide +kernel
theorem dX13_giveBack_48 : decode cX13_giveBack 48 = .ok (.iload_n 1, 1) := by decide +kernel
theorem dX13_giveBack_49 : decode cX13_giveBack 49 = .ok (.imul, 1) := by decide +kernel
theorem dX13_giveBack_5 : decode cX13_giveBack 5 = .ok (.iaload, 1) := by decide +kernel
theorem dX13_giveBack_50 : decode cX13_giveBack 50 = .ok (.aload_n 0, 1) := by decide +kernel
theorem dX13_giveBack_51 : decode cX13_giveBack 51 = .ok (.getfield 282, 3) := by decide +kernel
theorem dX13_giveBack_54 : decode cX13_giveBack 54 = .ok (.iload_n 1, 1) := by decide +kernel
theorem dX13_giveBack_55 : decode cX13_giveBack 55 = .ok (.iaload, 1) := by decide +kernel
theorem dX13_giveBack_56 : decode cX13_giveBack 56 = .ok (.iadd, 1) := by decide +kernel
theorem dX13_giveBack_57 : decode cX13_giveBack 57 = .ok (.iconst 1, 1) := by decide +kernel
theorem dX13_giveBack_58 : decode cX13_giveBack 58 = .ok (.isub, 1) := by decide +kernel
theorem dX13_giveBack_59 : decode cX13_giveBack 59 = .ok (.iaload, 1) := by decide +kernel
theorem dX13_giveBack_6 : decode cX13_giveBack 6 = .ok (.ifCond .lt 16, 3) := by decide +kernel
theorem dX13_giveBack_60 : decode cX13_giveBack 60 = .ok (.istore 4, 2) := by decide +kernel
theorem dX13_giveBack_62 : decode cX13_giveBack 62 = .ok (.aload_n 0, 1) := by decide +kernel
theorem dX13_giveBack_63 : decode cX13_giveBack 63 = .ok (.getfield 282, 3) := by decide +kernel
theorem dX13_giveBack_66 : decode cX13_giveBack 66 = .ok (.iload_n 1, 1) := by decide +kernel
theorem dX13_giveBack_67 : decode cX13_giveBack 67 = .ok (.iaload, 1) := by decide +kernel
theorem dX13_giveBack_68 : decode cX13_giveBack 68 = .ok (.iconst 1, 1) := by decide +kernel
theorem dX13_giveBack_69 : decode cX13_giveBack 69 = .ok (.if_icmp .le 46, 3) := by decide +kernel
theorem dX13_giveBack_72 : decode cX13_giveBack 72 = .ok (.iload 4, 2) := by decide +kernel
theorem dX13_giveBack_74 : decode cX13_giveBack 74 = .ok (.ifCond .lt 41, 3) := by decide +kernel
theorem dX13_giveBack_77 : decode cX13_giveBack 77 = .ok (.aload_n 0, 1) := by decide +kernel
theorem dX13_giveBack_78 : decode cX13_giveBack 78 = .ok (.aload_n 0, 1) := by decide +kernel
theorem dX13_giveBack_79 : decode cX13_giveBack 79 = .ok (.iload_n 1, 1) := by decide +kernel
theorem dX13_giveBack_80 : decode cX13_giveBack 80 = .ok (.aload_n 0, 1) := by decide +kernel
theorem dX13_giveBack_81 : decode cX13_giveBack 81 = .ok (.getfield 285, 3) := by decide +kernel
theorem dX13_giveBack_84 : decode cX13_giveBack 84 = .ok (.bipush 8, 2) := by decide +kernel
theorem dX13_giveBack_86 : decode cX13_giveBack 86 = .ok (.iload_n 1, 1) := by decide +kernel
theorem dX13_giveBack_87 : decode cX13_giveBack 87 = .ok (.imul, 1) := by decide +kernel
theorem dX13_giveBack_88 : decode cX13_giveBack 88 = .ok (.aload_n 0, 1) := by decide +kernel
theorem dX13_giveBack_89 : decode cX13_giveBack 89 = .ok (.getfield 282, 3) := by decide +kernel
theorem dX13_giveBack_9 : decode cX13_giveBack 9 = .ok (.aload_n 0, 1) := by decide +kernel
theorem dX13_giveBack_92 : decode cX13_giveBack 92 = .ok (.iload_n 1, 1) := by decide +kernel
theorem dX13_giveBack_93 : decode cX13_giveBack 93 = .ok (.iaload, 1) := by decide +kernel
theorem dX13_giveBack_94 : decode cX13_giveBack 94 = .ok (.iadd, 1) := by decide +kernel
theorem dX13_giveBack_95 : decode cX13_giveBack 95 = .ok (.iconst 2, 1) := by decide +kernel
theorem dX13_giveBack_96 : decode cX13_giveBack 96 = .ok (.isub, 1) := by decide +kernel
theorem dX13_giveBack_97 : decode cX13_giveBack 97 = .ok (.iaload, 1) := by decide +kernel
theorem dX13_giveBack_98 : decode cX13_giveBack 98 = .ok (.iload 4, 2) := by decide +kernel
noncomputable def k_X13_giveBack_115 (l1 : Int32) (l3 : Int32) (l4 : Int32) (s : t_S) : Option (t_S) :=
 if t_ix l1 8 = true then
  t_let (t_setI s 1038 (l1.toNatClampNeg) ((s.1 1038 (l1.toNatClampNeg)) - (1 : Int32))) (fun s1 =>
 if (s1.1 1038 (l1.toNatClampNeg)) ≤ (0 : Int32) then (some (s1))
 else (if l4 < (0 : Int32) then (some (s1))
 else ((f_X13_tellVar l1 l4 s1).bind (fun r2 =>
 (f_X13_placeSlot l1 l4 r2).bind (fun r3 =>
 (f_X13_copy l3 r3 r2).bind (fun r4 =>
 some (r4)))))))
else none
set_option maxRecDepth 4000 in
set_option maxHeartbeats 1000000 in
theorem B_X13_giveBack_115 {D : va_G} {cy : Nat → ClassId} {ad : Nat → Nat} {bs : Nat} {X : State → Heap → Prop} (l1 : Int32) (l3 : Int32) (l4 : Int32) (s : t_S) (Q : t_S → Prop) (hk : t_hk (k_X13_giveBack_115 l1 l3 l4 s) Q) : mj_G D cy ad bs X cX13_giveBack 5 yX13_giveBack.cls none yX13_giveBack.name 1784 0 0 1065 (t_P (fun v s' => v = none ∧ Q (s'))) 115 [(0, .ref 950), (1, .int l1), (3, .int l3), (4, .int l4)] [] (t_m s) 1065 0 0 := by
  refine mj_aload_n dX13_giveBack_115 0 rfl ?_
  refine t_getR 1038 dX13_giveBack_116 F_X13_282 qr_950_153 ?_
  refine mj_iload_n dX13_giveBack_119 1 rfl ?_
  refine mj_dup2 dX13_giveBack_120 rfl rfl ?_
  refine t_chkK hk (fun c0 hk => ?_)
  refine t_iald dX13_giveBack_121 qa_1038 (t_ixv c0) ?_
  refine mj_iconst (v := 1) dX13_giveBack_122 (by decide) ?_
  refine mj_isub dX13_giveBack_123 ?_
  refine t_iastK dX13_giveBack_124 qa_1038 (t_ixv c0) (fun s1 ws1 => t_letE hk ws1 (fun hk => ?_))
  refine mj_aload_n dX13_giveBack_125 0 rfl ?_
  refine t_getR 1038 dX13_giveBack_126 F_X13_282 qr_950_153 ?_
  refine mj_iload_n dX13_giveBack_129 1 rfl ?_
  refine t_iald dX13_giveBack_130 qa_1038 (t_ixv c0) ?_
  refine mj_if_le 158 dX13_giveBack_131 (by decide) (fun z => t_posK hk z (fun hk => ?_)) (fun z => t_negK hk z (fun hk => ?_))
  · exact t_somK hk (fun hf => t_vret dX13_giveBack_158 rfl ⟨rfl, hf⟩ (Nat.le_of_ble_eq_true rfl) (Nat.le_of_ble_eq_true rfl))
  · refine mj_iload dX13_giveBack_134 3 rfl ?_
    refine mj_if_lt 158 dX13_giveBack_136 (by decide) (fun z => t_posK hk z (fun hk => ?_)) (fun z => t_negK hk z (fun hk => ?_))
    · exact t_somK hk (fun hf => t_vret dX13_giveBack_158 rfl ⟨rfl, hf⟩ (Nat.le_of_ble_eq_true rfl) (Nat.le_of_ble_eq_true rfl))
    · refine mj_aload_n dX13_giveBack_139 0 rfl ?_
      refine mj_iload_n dX13_giveBack_140 1 rfl ?_
      refine mj_iload dX13_giveBack_141 3 rfl ?_
      refine t_bndK hk (fun r2 er2 hk => ?_)
      refine t_callVvE dX13_giveBack_143 M_X13_tellVar (C_X13_tellVar _ _ _ _ er2) ML_X13_1346 IM_X13_tellVar SE_X13_tellVar qc_950 rfl (As := [.int l1, .int l4]) rfl rfl (Nat.le_of_ble_eq_true rfl) (Nat.le_of_ble_eq_true rfl) (Nat.le_of_ble_eq_true rfl) (Nat.le_of_ble_eq_true rfl) ?_
      refine mj_aload_n dX13_giveBack_146 0 rfl ?_
      refine mj_iload_n dX13_giveBack_147 2 rfl ?_
      refine mj_aload_n dX13_giveBack_148 0 rfl ?_
      refine mj_iload_n dX13_giveBack_149 1 rfl ?_
      refine mj_iload dX13_giveBack_150 3 rfl ?_
      refine t_bndK hk (fun r3 er3 hk => ?_)
      refine t_callViP dX13_giveBack_152 M_X13_placeSlot (C_X13_placeSlot _ _ _ _ er3) ML_X13_1349 IM_X13_placeSlot SE_X13_placeSlot qc_950 rfl (As := [.int l1, .int l4]) rfl rfl (Nat.le_of_ble_eq_true rfl) (Nat.le_of_ble_eq_true rfl) (Nat.le_of_ble_eq_true rfl) (Nat.le_of_ble_eq_true rfl) ?_
      refine t_bndK hk (fun r4 er4 hk => ?_)
      refine t_callVvE dX13_giveBack_155 M_X13_copy (C_X13_copy _ _ _ _ er4) ML_X13_861 IM_X13_copy SE_X13_copy qc_950 rfl (As := [.int l3, .int r3]) rfl rfl (Nat.le_of_ble_eq_true rfl) (Nat.le_of_ble_eq_true rfl) (Nat.le_of_ble_eq_true rfl) (Nat.le_of_ble_eq_true rfl) ?_
      exact t_somK hk (fun hf => t_vret dX13_giveBack_158 rfl ⟨rfl, hf⟩ (Nat.le_of_ble_eq_true rfl) (Nat.le_of_ble_eq_true rfl))
noncomputable def k_X13_giveBack_29 (l1 : Int32) (s : t_S) : Option (t_S) :=
 if (s.1 950 97) = (0 : Int32) then (if t_ix l1 8 = true then
  if t_ix ((((8 : Int32) * l1) + (s.1 1038 (l1.toNatClampNeg))) - (1 : Int32)) 64 = true then
  if (s.1 1038 (l1.toNatClampNeg)) ≤ (1 : Int32) then (k_X13_giveBack_115 l1 (f_X13_top s) (s.1 1041 (((((8 : Int32) * l1) + (s.1 1038 (l1.toNatClampNeg))) - (1 : Int32)).toNatClampNeg)) s)
 else (if (s.1 1041 (((((8 : Int32) * l1) + (s.1 1038 (l1.toNatClampNeg))) - (1 : Int32)).toNatClampNeg)) < (0 : Int32) then (k_X13_giveBack_115 l1 (f_X13_top s) (s.1 1041 (((((8 : Int32) * l1) + (s.1 1038 (l1.toNatClampNeg))) - (1 : Int32)).toNatClampNeg)) s)
 else (if t_ix ((((8 : Int32) * l1) + (s.1 1038 (l1.toNatClampNeg))) - (2 : Int32)) 64 = true then
  (f_X13_typeAt l1 (s.1 1039 (((((8 : Int32) * l1) + (s.1 1038 (l1.toNatClampNeg))) - (2 : Int32)).toNatClampNeg)) (s.1 1041 (((((8 : Int32) * l1) + (s.1 1038 (l1.toNatClampNeg))) - (1 : Int32)).toNatClampNeg)) s).bind (fun r5 =>
 (f_X13_checkType r5 (f_X13_top s) s).bind (fun r6 =>
 if (r6.1 950 97) = (0 : Int32) then (k_X13_giveBack_115 l1 (f_X13_top s) (s.1 1041 (((((8 : Int32) * l1) + (s.1 1038 (l1.toNatClampNeg))) - (1 : Int32)).toNatClampNeg)) r6)
 else (some (r6))))
else none))
else none
else none)
 else (some (s))
set_option maxRecDepth 4000 in
set_option maxHeartbeats 1000000 in
theorem B_X13_giveBack_29 {D : va_G} {cy : Nat → ClassId} {ad : Nat → Nat} {bs : Nat} {X : State → Heap → Prop} (l1 : Int32) (s : t_S) (Q : t_S → Prop) (hk : t_hk (k_X13_giveBack_29 l1 s) Q) : mj_G D cy ad bs X cX13_giveBack 5 yX13_giveBack.cls none yX13_giveBack.name 1784 0 0 1065 (t_P (fun v s' => v = none ∧ Q (s'))) 29 [(0, .ref 950), (1, .int l1)] [] (t_m s) 1065 0 0 := by
  refine mj_aload_n dX13_giveBack_29 0 rfl ?_
  refine t_getI dX13_giveBack_30 F_X13_842 qf_950_97 ?_
  refine mj_if_eq 37 dX13_giveBack_33 (by decide) (fun z => t_posK hk z (fun hk => ?_)) (fun z => t_negK hk z (fun hk => ?_))
  · refine mj_aload_n dX13_giveBack_37 0 rfl ?_
    refine t_callViP dX13_giveBack_38 M_X13_top (C_X13_top _) ML_X13_941 IM_X13_top SE_X13_top qc_950 rfl (As := []) rfl rfl (Nat.le_of_ble_eq_true rfl) (Nat.le_of_ble_eq_true rfl) (Nat.le_of_ble_eq_true rfl) (Nat.le_of_ble_eq_true rfl) ?_
    refine mj_istore_n 3 (lv2 := [(3, .int (f_X13_top s)), (0, .ref 950), (1, .int l1)]) dX13_giveBack_41 rfl (by decide) rfl ?_
    refine mj_aload_n dX13_giveBack_42 1 rfl ?_
    refine t_getR 1041 dX13_giveBack_43 F_X13_291 qr_950_156 ?_
    refine mj_bipush (v := 8) dX13_giveBack_46 (by decide) ?_
    refine mj_iload_n dX13_giveBack_48 2 rfl ?_
    refine mj_imul dX13_giveBack_49 ?_
    refine mj_aload_n dX13_giveBack_50 1 rfl ?_
    refine t_getR 1038 dX13_giveBack_51 F_X13_282 qr_950_153 ?_
    refine mj_iload_n dX13_giveBack_54 2 rfl ?_
    refine t_chkK hk (fun c1 hk => ?_)
    refine t_iald dX13_giveBack_55 qa_1038 (t_ixv c1) ?_
    refine mj_iadd dX13_giveBack_56 ?_
    refine mj_iconst (v := 1) dX13_giveBack_57 (by decide) ?_
    refine mj_isub dX13_giveBack_58 ?_
    refine t_chkK hk (fun c2 hk => ?_)
    refine t_iald dX13_giveBack_59 qa_1041 (t_ixv c2) ?_
    refine mj_istore (lv2 := [(4, .int (s.1 1041 (((((8 : Int32) * l1) + (s.1 1038 (l1.toNatClampNeg))) - (1 : Int32)).toNatClampNeg))), (3, .int (f_X13_top s)), (0, .ref 950), (1, .int l1)]) dX13_giveBack_60 (by decide) rfl ?_
    refine mj_aload_n dX13_giveBack_62 2 rfl ?_
    refine t_getR 1038 dX13_giveBack_63 F_X13_282 qr_950_153 ?_
    refine mj_iload_n dX13_giveBack_66 3 rfl ?_
    refine t_iald dX13_giveBack_67 qa_1038 (t_ixv c1) ?_
    refine mj_iconst (v := 1) dX13_giveBack_68 (by decide) ?_
    refine mj_icmp_le 115 dX13_giveBack_69 (by decide) (fun z => t_posK hk z (fun hk => ?_)) (fun z => t_negK hk z (fun hk => ?_))
    · refine mj_sublv [(0, .ref 950), (1, .int l1), (3, .int (f_X13_top s)), (4, .int (s.1 1041 (((((8 : Int32) * l1) + (s.1 1038 (l1.toNatClampNeg))) - (1 : Int32)).toNatClampNeg)))] [2, 3, 1, 0] rfl ?_
      exact B_X13_giveBack_115 _ _ _ _ _ hk
    · refine mj_iload dX13_giveBack_72 0 rfl ?_
      refine mj_if_lt 115 dX13_giveBack_74 (by decide) (fun z => t_posK hk z (fun hk => ?_)) (fun z => t_negK hk z (fun hk => ?_))
      · refine mj_sublv [(0, .ref 950), (1, .int l1), (3, .int (f_X13_top s)), (4, .int (s.1 1041 (((((8 : Int32) * l1) + (s.1 1038 (l1.toNatClampNeg))) - (1 : Int32)).toNatClampNeg)))] [2, 3, 1, 0] rfl ?_
        exact B_X13_giveBack_115 _ _ _ _ _ hk
      · refine mj_aload_n dX13_giveBack_77 2 rfl ?_
        refine mj_aload_n dX13_giveBack_78 2 rfl ?_
        refine mj_iload_n dX13_giveBack_79 3 rfl ?_
        refine mj_aload_n dX13_giveBack_80 2 rfl ?_
        refine t_getR 1039 dX13_giveBack_81 F_X13_285 qr_950_154 ?_
        refine mj_bipush (v := 8) dX13_giveBack_84 (by decide) ?_
        refine mj_iload_n dX13_giveBack_86 3 rfl ?_
        refine mj_imul dX13_giveBack_87 ?_
        refine mj_aload_n dX13_giveBack_88 2 rfl ?_
        refine t_getR 1038 dX13_giveBack_89 F_X13_282 qr_950_153 ?_
        refine mj_iload_n dX13_giveBack_92 3 rfl ?_
        refine t_iald dX13_giveBack_93 qa_1038 (t_ixv c1) ?_
        refine mj_iadd dX13_giveBack_94 ?_
        refine mj_iconst (v := 2) dX13_giveBack_95 (by decide) ?_
        refine mj_isub dX13_giveBack_96 ?_
        refine t_chkK hk (fun c3 hk => ?_)
        refine t_iald dX13_giveBack_97 qa_1039 (t_ixv c3) ?_
        refine mj_iload dX13_giveBack_98 0 rfl ?_
        refine t_bndK hk (fun r5 er5 hk => ?_)
        refine t_callViP dX13_giveBack_100 M_X13_typeAt (C_X13_typeAt _ _ _ _ _ er5) ML_X13_1343 IM_X13_typeAt SE_X13_typeAt qc_950 rfl (As := [.int l1, .int (s.1 1039 (((((8 : Int32) * l1) + (s.1 1038 (l1.toNatClampNeg))) - (2 : Int32)).toNatClampNeg)), .int (s.1 1041 (((((8 : Int32) * l1) + (s.1 1038 (l1.toNatClampNeg))) - (1 : Int32)).toNatClampNeg))]) rfl rfl (Nat.le_of_ble_eq_true rfl) (Nat.le_of_ble_eq_true rfl) (Nat.le_of_ble_eq_true rfl) (Nat.le_of_ble_eq_true rfl) ?_
        refine mj_iload_n dX13_giveBack_103 1 rfl ?_
        refine t_bndK hk (fun r6 er6 hk => ?_)
        refine t_callVvE dX13_giveBack_104 M_X13_checkType (C_X13_checkType _ _ _ _ er6) ML_X13_1321 IM_X13_checkType SE_X13_checkType qc_950 rfl (As := [.int r5, .int (f_X13_top s)]) rfl rfl (Nat.le_of_ble_eq_true rfl) (Nat.le_of_ble_eq_true rfl) (Nat.le_of_ble_eq_true rfl) (Nat.le_of_ble_eq_true rfl) ?_
        refine mj_aload_n dX13_giveBack_107 2 rfl ?_
        refine t_getI dX13_giveBack_108 F_X13_842 qf_950_97 ?_
        refine mj_if_eq 115 dX13_giveBack_111 (by decide) (fun z => t_posK hk z (fun hk => ?_)) (fun z => t_negK hk z (fun hk => ?_))
        · refine mj_sublv [(0, .ref 950), (1, .int l1), (3, .int (f_X13_top s)), (4, .int (s.1 1041 (((((8 : Int32) * l1) + (s.1 1038 (l1.toNatClampNeg))) - (1 : Int32)).toNatClampNeg)))] [2, 3, 1, 0] rfl ?_
          exact B_X13_giveBack_115 _ _ _ _ _ hk
        · exact t_somK hk (fun hf => t_vret dX13_giveBack_114 rfl ⟨rfl, hf⟩ (Nat.le_of_ble_eq_true rfl) (Nat.le_of_ble_eq_true rfl))
  · exact t_somK hk (fun hf => t_vret dX13_giveBack_36 rfl ⟨rfl, hf⟩ (Nat.le_of_ble_eq_true rfl) (Nat.le_of_ble_eq_true rfl))
noncomputable def f_X13_giveBack (x1 : Int32) (x2 : Int32) (s : t_S) : Option (t_S) :=
 if t_ix x2 401 = true then
  if (s.1 995 (x2.toNatClampNeg)) < (0 : Int32) then ((f_X13_push (4 : Int32) (0 : Int64) s).bind (fun r2 =>
 k_X13_giveBack_29 x1 r2.2))
 else ((f_X13_work (s.1 995 (x2.toNatClampNeg)) s).bind (fun r3 =>
 k_X13_giveBack_29 x1 r3))
else none
set_option maxRecDepth 4000 in
set_option maxHeartbeats 1000000 in
theorem C_X13_giveBack (x1 : Int32) (x2 : Int32) (s : t_S) (r : t_S) (hr : f_X13_giveBack x1 x2 s = some r) : t_C yX13_giveBack cX13_giveBack 5 none 1784 [.ref 950, .int x1, .int x2] s (fun v s' => v = none ∧ s' = r) := by
  refine t_C.imp (P := fun v s' => v = none ∧ (fun q => q = r) (s')) (t_C.of (by decide +kernel) (Nat.le_of_ble_eq_true rfl) ?_) (fun v s' hp => hp)
  intro D cy ad bs X
  have hk : t_hk (f_X13_giveBack x1 x2 s) (fun q => q = r) := ⟨r, hr, rfl⟩
  show mj_G D cy ad bs X cX13_giveBack 5 yX13_giveBack.cls none yX13_giveBack.name 1784 0 0 1065 (t_P (fun v s' => v = none ∧ (fun q => q = r) (s'))) 0 [(0, .ref 950), (1, .int x1), (2, .int x2)] [] (t_m s) 1065 0 0
  refine mj_aload_n dX13_giveBack_0 0 rfl ?_
  refine t_getR 995 dX13_giveBack_1 F_X13_147 qr_950_73 ?_
  refine mj_iload_n dX13_giveBack_4 2 rfl ?_
  refine t_chkK hk (fun c0 hk => ?_)
  refine t_iald dX13_giveBack_5 qa_995 (t_ixv c0) ?_
  refine mj_if_lt 22 dX13_giveBack_6 (by decide) (fun z => t_posK hk z (fun hk => ?_)) (fun z => t_negK hk z (fun hk => ?_))
  · refine mj_aload_n dX13_giveBack_22 0 rfl ?_
    refine mj_iconst (v := 4) dX13_giveBack_23 (by decide) ?_
    refine mj_lconst (v := 0) dX13_giveBack_24 (by decide) ?_
    refine t_bndK hk (fun r2 er2 hk => ?_)
    refine t_callViE dX13_giveBack_25 M_X13_push (C_X13_push _ _ _ _ er2) ML_X13_869 IM_X13_push SE_X13_push qc_950 rfl (As := [.int 4, .long 0]) rfl rfl (Nat.le_of_ble_eq_true rfl) (Nat.le_of_ble_eq_true rfl) (Nat.le_of_ble_eq_true rfl) (Nat.le_of_ble_eq_true rfl) ?_
    refine mj_istore_n 3 (lv2 := [(3, .int r2.1), (0, .ref 950), (1, .int x1), (2, .int x2)]) dX13_giveBack_28 rfl (by decide) rfl ?_
    refine mj_sublv [(0, .ref 950), (1, .int x1)] [1, 2] rfl ?_
    exact B_X13_giveBack_29 _ _ _ hk
  · refine mj_aload_n dX13_giveBack_9 0 rfl ?_
    refine mj_aload_n dX13_giveBack_10 0 rfl ?_
    refine t_getR 995 dX13_giveBack_11 F_X13_147 qr_950_73 ?_
    refine mj_iload_n dX13_giveBack_14 2 rfl ?_
    refine t_iald dX13_giveBack_15 qa_995 (t_ixv c0) ?_
    refine t_bndK hk (fun r3 er3 hk => ?_)
    refine t_callSvE dX13_giveBack_16 M_X13_work (C_X13_work _ _ _ er3) ML_X13_897 SM_X13_work (As := [.ref 950, .int (s.1 995 (x2.toNatClampNeg))]) rfl rfl (Nat.le_of_ble_eq_true rfl) (Nat.le_of_ble_eq_true rfl) (Nat.le_of_ble_eq_true rfl) (Nat.le_of_ble_eq_true rfl) ?_
    refine mj_goto 29 dX13_giveBack_19 (by decide) ?_
    refine mj_sublv [(0, .ref 950), (1, .int x1)] [0, 1] rfl ?_
    exact B_X13_giveBack_29 _ _ _ hk

theorem dX13_stop_0 : decode cX13_stop 0 = .ok (.iload_n 1, 1) := by decide +kernel
theorem dX13_stop_1 : decode cX13_stop 1 = .ok (.istore 4, 2) := by decide +kernel
theorem dX13_stop_12 : decode cX13_stop 12 = .ok (.aload_n 0, 1) := by decide +kernel
theorem dX13_stop_13 : decode cX13_stop 13 = .ok (.aload_n 0, 1) := by decide +kernel
theorem dX13_stop_14 : decode cX13_stop 14 = .ok (.getfield 147, 3) := by decide +kernel
theorem dX13_stop_17 : decode cX13_stop 17 = .ok (.iload_n 3, 1) := by decide +kernel
theorem dX13_stop_18 : decode cX13_stop 18 = .ok (.iaload, 1) := by decide +kernel
theorem dX13_stop_19 : decode cX13_stop 19 = .ok (.invokestatic 897, 3) := by decide +kernel
theorem dX13_stop_22 : decode cX13_stop 22 = .ok (.aload_n 0, 1) := by decide +kernel
theorem dX13_stop_23 : decode cX13_stop 23 = .ok (.getfield 842, 3) := by decide +kernel
theorem dX13_stop_26 : decode cX13_stop 26 = .ok (.ifCond .ne 24, 3) := by decide +kernel
theorem dX13_stop_29 : decode cX13_stop 29 = .ok (.aload_n 0, 1) := by decide +kernel
theorem dX13_stop_3 : decode cX13_stop 3 = .ok (.aload_n 0, 1) := by decide +kernel
theorem dX13_stop_30 : decode cX13_stop 30 = .ok (.getfield 182, 3) := by decide +kernel
theorem dX13_stop_33 : decode cX13_stop 33 = .ok (.aload_n 0, 1) := by decide +kernel
theorem dX13_stop_34 : decode cX13_stop 34 = .ok (.invokevirtual 941, 3) := by decide +kernel
theorem dX13_stop_37 : decode cX13_stop 37 = .ok (.laload, 1) := by decide +kernel
theorem dX13_stop_38 : decode cX13_stop 38 = .ok (.ldc2_w 682, 3) := by decide +kernel
theorem dX13_stop_4 : decode cX13_stop 4 = .ok (.getfield 147, 3) := by decide +kernel
theorem dX13_stop_41 : decode cX13_stop 41 = .ok (.lcmp, 1) := by decide +kernel
theorem dX13_stop_42 : decode cX13_stop 42 = .ok (.ifCond .eq 8, 3) := by decide +kernel
theorem dX13_stop_45 : decode cX13_stop 45 = .ok (.aload_n 0, 1) := by decide +kernel
theorem dX13_stop_46 : decode cX13_stop 46 = .ok (.iconst 1, 1) := by decide +kernel
theorem dX13_stop_47 : decode cX13_stop 47 = .ok (.invokevirtual 866, 3) := by decide +kernel
theorem dX13_stop_50 : decode cX13_stop 50 = .ok (.aload_n 0, 1) := by decide +kernel
theorem dX13_stop_51 : decode cX13_stop 51 = .ok (.getfield 842, 3) := by decide +kernel
theorem dX13_stop_54 : decode cX13_stop 54 = .ok (.ifCond .eq 4, 3) := by decide +kernel
theorem dX13_stop_57 : decode cX13_stop 57 = .ok (.return_, 1) := by decide +kernel
theorem dX13_stop_58 : decode cX13_stop 58 = .ok (.aload_n 0, 1) := by decide +kernel
theorem dX13_stop_59 : decode cX13_stop 59 = .ok (.getfield 182, 3) := by decide +kernel
theorem dX13_stop_62 : decode cX13_stop 62 = .ok (.aload_n 0, 1) := by decide +kernel
theorem dX13_stop_63 : decode cX13_stop 63 = .ok (.invokevirtual 941, 3) := by decide +kernel
theorem dX13_stop_66 : decode cX13_stop 66 = .ok (.iconst 1, 1) := by decide +kernel
theorem dX13_stop_67 : decode cX13_stop 67 = .ok (.iadd, 1) := by decide +kernel
theorem dX13_stop_68 : decode cX13_stop 68 = .ok (.laload, 1) := by decide +kernel
theorem dX13_stop_69 : decode cX13_stop 69 = .ok (.l2i, 1) := by decide +kernel
theorem dX13_stop_7 : decode cX13_stop 7 = .ok (.iload_n 3, 1) := by decide +kernel
theorem dX13_stop_70 : decode cX13_stop 70 = .ok (.istore 4, 2) := by decide +kernel
theorem dX13_stop_72 : decode cX13_stop 72 = .ok (.aload_n 0, 1) := by decide +kernel
theorem dX13_stop_73 : decode cX13_stop 73 = .ok (.iload_n 1, 1) := by decide +kernel
theorem dX13_stop_74 : decode cX13_stop 74 = .ok (.iload_n 2, 1) := by decide +kernel
theorem dX13_stop_75 : decode cX13_stop 75 = .ok (.iload_n 3, 1) := by decide +kernel
theorem dX13_stop_76 : decode cX13_stop 76 = .ok (.invokevirtual 1371, 3) := by decide +kernel
theorem dX13_stop_79 : decode cX13_stop 79 = .ok (.aload_n 0, 1) := by decide +kernel
theorem dX13_stop_8 : decode cX13_stop 8 = .ok (.iaload, 1) := by decide +kernel
theorem dX13_stop_80 : decode cX13_stop 80 = .ok (.iload 4, 2) := by decide +kernel
theorem dX13_stop_82 : decode cX13_stop 82 = .ok (.invokevirtual 1312, 3) := by decide +kernel
theorem dX13_stop_85 : decode cX13_stop 85 = .ok (.return_, 1) := by decide +kernel
theorem dX13_stop_9 : decode cX13_stop 9 = .ok (.ifCond .lt 63, 3) := by decide +kernel
noncomputable def k_X13_stop_72 (l1 : Int32) (l2 : Int32) (l3 : Int32) (l4 : Int32) (s : t_S) : Option (t_S) :=
 (f_X13_goOn l1 l2 l3 s).bind (fun r1 =>
 (f_X13_finish l4 r1).bind (fun r2 =>
 some (r2)))
set_option maxRecDepth 4000 in
set_option maxHeartbeats 1000000 in
theorem B_X13_stop_72 {D : va_G} {cy : Nat → ClassId} {ad : Nat → Nat} {bs : Nat} {X : State → Heap → Prop} (l1 : Int32) (l2 : Int32) (l3 : Int32) (l4 : Int32) (s : t_S) (Q : t_S → Prop) (hk : t_hk (k_X13_stop_72 l1 l2 l3 l4 s) Q) : mj_G D cy ad bs X cX13_stop 5 yX13_stop.cls none yX13_stop.name 1784 0 0 1065 (t_P (fun v s' => v = none ∧ Q (s'))) 72 [(0, .ref 950), (1, .int l1), (2, .int l2), (3, .int l3), (4, .int l4)] [] (t_m s) 1065 0 0 := by
  refine mj_aload_n dX13_stop_72 0 rfl ?_
  refine mj_iload_n dX13_stop_73 1 rfl ?_
  refine mj_iload_n dX13_stop_74 2 rfl ?_
  refine mj_iload_n dX13_stop_75 3 rfl ?_
  refine t_bndK hk (fun r1 er1 hk => ?_)
  refine t_callVvE dX13_stop_76 M_X13_goOn (C_X13_goOn _ _ _ _ _ er1) ML_X13_1371 IM_X13_goOn SE_X13_goOn qc_950 rfl (As := [.int l1, .int l2, .int l3]) rfl rfl (Nat.le_of_ble_eq_true rfl) (Nat.le_of_ble_eq_true rfl) (Nat.le_of_ble_eq_true rfl) (Nat.le_of_ble_eq_true rfl) ?_
  refine mj_aload_n dX13_stop_79 0 rfl ?_
  refine mj_iload dX13_stop_80 4 rfl ?_
  refine t_bndK hk (fun r2 er2 hk => ?_)
  refine t_callVvE dX13_stop_82 M_X13_finish (C_X13_finish _ _ _ er2) ML_X13_1312 IM_X13_finish SE_X13_finish qc_950 rfl (As := [.int l4]) rfl rfl (Nat.le_of_ble_eq_true rfl) (Nat.le_of_ble_eq_true rfl) (Nat.le_of_ble_eq_true rfl) (Nat.le_of_ble_eq_true rfl) ?_
  exact t_somK hk (fun hf => t_vret dX13_stop_85 rfl ⟨rfl, hf⟩ (Nat.le_of_ble_eq_true rfl) (Nat.le_of_ble_eq_true rfl))
noncomputable def k_X13_stop_50 (l1 : Int32) (l2 : Int32) (l3 : Int32) (s : t_S) : Option (t_S) :=
 if (s.1 950 97) = (0 : Int32) then (if t_ix ((f_X13_top s) + (1 : Int32)) 626600 = true then
  k_X13_stop_72 l1 l2 l3 ((s.2.1 1006 (((f_X13_top s) + (1 : Int32)).toNatClampNeg)).toInt32) s
else none)
 else (some (s))
set_option maxRecDepth 4000 in
set_option maxHeartbeats 1000000 in
theorem B_X13_stop_50 {D : va_G} {cy : Nat → ClassId} {ad : Nat → Nat} {bs : Nat} {X : State → Heap → Prop} (l1 : Int32) (l2 : Int32) (l3 : Int32) (s : t_S) (Q : t_S → Prop) (hk : t_hk (k_X13_stop_50 l1 l2 l3 s) Q) : mj_G D cy ad bs X cX13_stop 5 yX13_stop.cls none yX13_stop.name 1784 0 0 1065 (t_P (fun v s' => v = none ∧ Q (s'))) 50 [(0, .ref 950), (1, .int l1), (2, .int l2), (3, .int l3)] [] (t_m s) 1065 0 0 := by
  refine mj_aload_n dX13_stop_50 0 rfl ?_
  refine t_getI dX13_stop_51 F_X13_842 qf_950_97 ?_
  refine mj_if_eq 58 dX13_stop_54 (by decide) (fun z => t_posK hk z (fun hk => ?_)) (fun z => t_negK hk z (fun hk => ?_))
  · refine mj_aload_n dX13_stop_58 0 rfl ?_
    refine t_getR 1006 dX13_stop_59 F_X13_182 qr_950_95 ?_
    refine mj_aload_n dX13_stop_62 0 rfl ?_
    refine t_callViP dX13_stop_63 M_X13_top (C_X13_top _) ML_X13_941 IM_X13_top SE_X13_top qc_950 rfl (As := []) rfl rfl (Nat.le_of_ble_eq_true rfl) (Nat.le_of_ble_eq_true rfl) (Nat.le_of_ble_eq_true rfl) (Nat.le_of_ble_eq_true rfl) ?_
    refine mj_iconst (v := 1) dX13_stop_66 (by decide) ?_
    refine mj_iadd dX13_stop_67 ?_
    refine t_chkK hk (fun c1 hk => ?_)
    refine t_lald dX13_stop_68 qa_1006 (t_ixv c1) ?_
    refine mj_l2i (v := (s.2.1 1006 (((f_X13_top s) + (1 : Int32)).toNatClampNeg)).toInt32) dX13_stop_69 rfl ?_
    refine mj_istore (lv2 := [(4, .int ((s.2.1 1006 (((f_X13_top s) + (1 : Int32)).toNatClampNeg)).toInt32)), (0, .ref 950), (1, .int l1), (2, .int l2), (3, .int l3)]) dX13_stop_70 (by decide) rfl ?_
    refine mj_sublv [(0, .ref 950), (1, .int l1), (2, .int l2), (3, .int l3), (4, .int ((s.2.1 1006 (((f_X13_top s) + (1 : Int32)).toNatClampNeg)).toInt32))] [1, 2, 3, 4, 0] rfl ?_
    exact B_X13_stop_72 _ _ _ _ _ _ hk
  · exact t_somK hk (fun hf => t_vret dX13_stop_57 rfl ⟨rfl, hf⟩ (Nat.le_of_ble_eq_true rfl) (Nat.le_of_ble_eq_true rfl))
noncomputable def f_X13_stop (x1 : Int32) (x2 : Int32) (x3 : Int32) (s : t_S) : Option (t_S) :=
 if t_ix x3 401 = true then
  if (s.1 995 (x3.toNatClampNeg)) < (0 : Int32) then (k_X13_stop_72 x1 x2 x3 x1 s)
 else ((f_X13_work (s.1 995 (x3.toNatClampNeg)) s).bind (fun r2 =>
 if (r2.1 950 97) = (0 : Int32) then (if t_ix (f_X13_top r2) 626600 = true then
  if (lg_cmp (r2.2.1 1006 ((f_X13_top r2).toNatClampNeg)) (5 : Int64)) = (0 : Int32) then (k_X13_stop_50 x1 x2 x3 r2)
 else ((f_X13_error (1 : Int32) r2).bind (fun r5 =>
 k_X13_stop_50 x1 x2 x3 r5))
else none)
 else (k_X13_stop_50 x1 x2 x3 r2)))
else none
set_option maxRecDepth 4000 in
set_option maxHeartbeats 1000000 in
theorem C_X13_stop (x1 : Int32) (x2 : Int32) (x3 : Int32) (s : t_S) (r : t_S) (hr : f_X13_stop x1 x2 x3 s = some r) : t_C yX13_stop cX13_stop 5 none 1784 [.ref 950, .int x1, .int x2, .int x3] s (fun v s' => v = none ∧ s' = r) := by
  refine t_C.imp (P := fun v s' => v = none ∧ (fun q => q = r) (s')) (t_C.of (by decide +kernel) (Nat.le_of_ble_eq_true rfl) ?_) (fun v s' hp => hp)
  intro D cy ad bs X
  have hk : t_hk (f_X13_stop x1 x2 x3 s) (fun q => q = r) := ⟨r, hr, rfl⟩
  show mj_G D cy ad bs X cX13_stop 5 yX13_stop.cls none yX13_stop.name 1784 0 0 1065 (t_P (fun v s' => v = none ∧ (fun q => q = r) (s'))) 0 [(0, .ref 950), (1, .int x1), (2, .int x2), (3, .int x3)] [] (t_m s) 1065 0 0
  refine mj_iload_n dX13_stop_0 1 rfl ?_
  refine mj_istore (lv2 := [(4, .int x1), (0, .ref 950), (1, .int x1), (2, .int x2), (3, .int x3)]) dX13_stop_1 (by decide) rfl ?_
  refine mj_aload_n dX13_stop_3 1 rfl ?_
  refine t_getR 995 dX13_stop_4 F_X13_147 qr_950_73 ?_
  refine mj_iload_n dX13_stop_7 4 rfl ?_
  refine t_chkK hk (fun c0 hk => ?_)
  refine t_iald dX13_stop_8 qa_995 (t_ixv c0) ?_
  refine mj_if_lt 72 dX13_stop_9 (by decide) (fun z => t_posK hk z (fun hk => ?_)) (fun z => t_negK hk z (fun hk => ?_))
  · refine mj_sublv [(0, .ref 950), (1, .int x1), (2, .int x2), (3, .int x3), (4, .int x1)] [1, 2, 3, 4, 0] rfl ?_
    exact B_X13_stop_72 _ _ _ _ _ _ hk
  · refine mj_aload_n dX13_stop_12 1 rfl ?_
    refine mj_aload_n dX13_stop_13 1 rfl ?_
    refine t_getR 995 dX13_stop_14 F_X13_147 qr_950_73 ?_
    refine mj_iload_n dX13_stop_17 4 rfl ?_
    refine t_iald dX13_stop_18 qa_995 (t_ixv c0) ?_
    refine t_bndK hk (fun r2 er2 hk => ?_)
    refine t_callSvE dX13_stop_19 M_X13_work (C_X13_work _ _ _ er2) ML_X13_897 SM_X13_work (As := [.ref 950, .int (s.1 995 (x3.toNatClampNeg))]) rfl rfl (Nat.le_of_ble_eq_true rfl) (Nat.le_of_ble_eq_true rfl) (Nat.le_of_ble_eq_true rfl) (Nat.le_of_ble_eq_true rfl) ?_
    refine mj_aload_n dX13_stop_22 1 rfl ?_
    refine t_getI dX13_stop_23 F_X13_842 qf_950_97 ?_
    refine mj_if_ne 50 dX13_stop_26 (by decide) (fun z => t_negK hk z (fun hk => ?_)) (fun z => t_posK hk z (fun hk => ?_))
    · refine mj_sublv [(0, .ref 950), (1, .int x1), (2, .int x2), (3, .int x3)] [1, 2, 3, 4] rfl ?_
      exact B_X13_stop_50 _ _ _ _ _ hk
    · refine mj_aload_n dX13_stop_29 1 rfl ?_
      refine t_getR 1006 dX13_stop_30 F_X13_182 qr_950_95 ?_
      refine mj_aload_n dX13_stop_33 1 rfl ?_
      refine t_callViP dX13_stop_34 M_X13_top (C_X13_top _) ML_X13_941 IM_X13_top SE_X13_top qc_950 rfl (As := []) rfl rfl (Nat.le_of_ble_eq_true rfl) (Nat.le_of_ble_eq_true rfl) (Nat.le_of_ble_eq_true rfl) (Nat.le_of_ble_eq_true rfl) ?_
      refine t_chkK hk (fun c3 hk => ?_)
      refine t_lald dX13_stop_37 qa_1006 (t_ixv c3) ?_
      refine mj_ldc2 dX13_stop_38 K_X13_682 ?_
      refine mj_lcmp dX13_stop_41 ?_
      refine mj_if_eq 50 dX13_stop_42 (by decide) (fun z => t_posK hk z (fun hk => ?_)) (fun z => t_negK hk z (fun hk => ?_))
      · refine mj_sublv [(0, .ref 950), (1, .int x1), (2, .int x2), (3, .int x3)] [1, 2, 3, 4] rfl ?_
        exact B_X13_stop_50 _ _ _ _ _ hk
      · refine mj_aload_n dX13_stop_45 1 rfl ?_
        refine mj_iconst (v := 1) dX13_stop_46 (by decide) ?_
        refine t_bndK hk (fun r5 er5 hk => ?_)
        refine t_callVvE dX13_stop_47 M_X13_error (C_X13_error _ _ _ er5) ML_X13_866 IM_X13_error SE_X13_error qc_950 rfl (As := [.int 1]) rfl rfl (Nat.le_of_ble_eq_true rfl) (Nat.le_of_ble_eq_true rfl) (Nat.le_of_ble_eq_true rfl) (Nat.le_of_ble_eq_true rfl) ?_
        refine mj_sublv [(0, .ref 950), (1, .int x1), (2, .int x2), (3, .int x3)] [1, 2, 3, 4] rfl ?_
        exact B_X13_stop_50 _ _ _ _ _ hk

