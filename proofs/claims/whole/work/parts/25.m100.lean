/-! Methods as functions, 100: X13_tellRow, X13_tell, X13_timer -/
theorem dX13_tellRow_0 : decode cX13_tellRow 0 = .ok (.aload_n 0, 1) := by decide +kernel
theorem dX13_tellRow_1 : decode cX13_tellRow 1 = .ok (.getfield 182, 3) := by decide +kernel
theorem dX13_tellRow_102 : decode cX13_tellRow 102 = .ok (.iconst 0, 1) := by decide +kernel
theorem dX13_tellRow_103 : decode cX13_tellRow 103 = .ok (.istore_n 3, 1) := by decide +kernel
theorem dX13_tellRow_104 : decode cX13_tellRow 104 = .ok (.iload_n 3, 1) := by decide +kernel
theorem dX13_tellRow_105 : decode cX13_tellRow 105 = .ok (.aload_n 0, 1) := by decide +kernel
theorem dX13_tellRow_106 : decode cX13_tellRow 106 = .ok (.getfield 182, 3) := by decide +kernel
theorem dX13_tellRow_109 : decode cX13_tellRow 109 = .ok (.iload_n 1, 1) := by decide +kernel
theorem dX13_tellRow_110 : decode cX13_tellRow 110 = .ok (.iconst 1, 1) := by decide +kernel
theorem dX13_tellRow_111 : decode cX13_tellRow 111 = .ok (.iadd, 1) := by decide +kernel
theorem dX13_tellRow_112 : decode cX13_tellRow 112 = .ok (.laload, 1) := by decide +kernel
theorem dX13_tellRow_113 : decode cX13_tellRow 113 = .ok (.l2i, 1) := by decide +kernel
theorem dX13_tellRow_114 : decode cX13_tellRow 114 = .ok (.if_icmp .ge 19, 3) := by decide +kernel
theorem dX13_tellRow_117 : decode cX13_tellRow 117 = .ok (.aload_n 0, 1) := by decide +kernel
theorem dX13_tellRow_118 : decode cX13_tellRow 118 = .ok (.aload_n 0, 1) := by decide +kernel
theorem dX13_tellRow_119 : decode cX13_tellRow 119 = .ok (.iload_n 1, 1) := by decide +kernel
theorem dX13_tellRow_120 : decode cX13_tellRow 120 = .ok (.iload_n 3, 1) := by decide +kernel
theorem dX13_tellRow_121 : decode cX13_tellRow 121 = .ok (.invokevirtual 996, 3) := by decide +kernel
theorem dX13_tellRow_124 : decode cX13_tellRow 124 = .ok (.invokevirtual 1012, 3) := by decide +kernel
theorem dX13_tellRow_127 : decode cX13_tellRow 127 = .ok (.iinc 3 1, 3) := by decide +kernel
theorem dX13_tellRow_130 : decode cX13_tellRow 130 = .ok (.goto (-26), 3) := by decide +kernel
theorem dX13_tellRow_133 : decode cX13_tellRow 133 = .ok (.aload_n 0, 1) := by decide +kernel
theorem dX13_tellRow_134 : decode cX13_tellRow 134 = .ok (.bipush 34, 2) := by decide +kernel
theorem dX13_tellRow_136 : decode cX13_tellRow 136 = .ok (.invokevirtual 1012, 3) := by decide +kernel
theorem dX13_tellRow_139 : decode cX13_tellRow 139 = .ok (.return_, 1) := by decide +kernel
theorem dX13_tellRow_140 : decode cX13_tellRow 140 = .ok (.aload_n 0, 1) := by decide +kernel
theorem dX13_tellRow_141 : decode cX13_tellRow 141 = .ok (.aload_n 0, 1) := by decide +kernel
theorem dX13_tellRow_142 : decode cX13_tellRow 142 = .ok (.getfield 182, 3) := by decide +kernel
theorem dX13_tellRow_145 : decode cX13_tellRow 145 = .ok (.iload_n 1, 1) := by decide +kernel
theorem dX13_tellRow_146 : decode cX13_tellRow 146 = .ok (.iconst 1, 1) := by decide +kernel
theorem dX13_tellRow_147 : decode cX13_tellRow 147 = .ok (.iadd, 1) := by decide +kernel
theorem dX13_tellRow_148 : decode cX13_tellRow 148 = .ok (.laload, 1) := by decide +kernel
theorem dX13_tellRow_149 : decode cX13_tellRow 149 = .ok (.invokevirtual 1026, 3) := by decide +kernel
theorem dX13_tellRow_152 : decode cX13_tellRow 152 = .ok (.return_, 1) := by decide +kernel
theorem dX13_tellRow_153 : decode cX13_tellRow 153 = .ok (.aload_n 0, 1) := by decide +kernel
theorem dX13_tellRow_154 : decode cX13_tellRow 154 = .ok (.ldc_w 1029, 3) := by decide +kernel
theorem dX13_tellRow_157 : decode cX13_tellRow 157 = .ok (.invokevirtual 1022, 3) := by decide +kernel
theorem dX13_tellRow_160 : decode cX13_tellRow 160 = .ok (.return_, 1) := by decide +kernel
theorem dX13_tellRow_161 : decode cX13_tellRow 161 = .ok (.aload_n 0, 1) := by decide +kernel
theorem dX13_tellRow_162 : decode cX13_tellRow 162 = .ok (.bipush 35, 2) := by decide +kernel
theorem dX13_tellRow_164 : decode cX13_tellRow 164 = .ok (.invokevirtual 1012, 3) := by decide +kernel
theorem dX13_tellRow_167 : decode cX13_tellRow 167 = .ok (.aload_n 0, 1) := by decide +kernel
theorem dX13_tellRow_168 : decode cX13_tellRow 168 = .ok (.aload_n 0, 1) := by decide +kernel
theorem dX13_tellRow_169 : decode cX13_tellRow 169 = .ok (.getfield 182, 3) := by decide +kernel
theorem dX13_tellRow_172 : decode cX13_tellRow 172 = .ok (.iload_n 1, 1) := by decide +kernel
theorem dX13_tellRow_173 : decode cX13_tellRow 173 = .ok (.iconst 1, 1) := by decide +kernel
theorem dX13_tellRow_174 : decode cX13_tellRow 174 = .ok (.iadd, 1) := by decide +kernel
theorem dX13_tellRow_175 : decode cX13_tellRow 175 = .ok (.laload, 1) := by decide +kernel
theorem dX13_tellRow_176 : decode cX13_tellRow 176 = .ok (.invokevirtual 1015, 3) := by decide +kernel
theorem dX13_tellRow_179 : decode cX13_tellRow 179 = .ok (.return_, 1) := by decide +kernel
theorem dX13_tellRow_180 : decode cX13_tellRow 180 = .ok (.aload_n 0, 1) := by decide +kernel
theorem dX13_tellRow_181 : decode cX13_tellRow 181 = .ok (.bipush 64, 2) := by decide +kernel
theorem dX13_tellRow_183 : decode cX13_tellRow 183 = .ok (.invokevirtual 1012, 3) := by decide +kernel
theorem dX13_tellRow_186 : decode cX13_tellRow 186 = .ok (.aload_n 0, 1) := by decide +kernel
theorem dX13_tellRow_187 : decode cX13_tellRow 187 = .ok (.aload_n 0, 1) := by decide +kernel
theorem dX13_tellRow_188 : decode cX13_tellRow 188 = .ok (.getfield 182, 3) := by decide +kernel
theorem dX13_tellRow_191 : decode cX13_tellRow 191 = .ok (.iload_n 1, 1) := by decide +kernel
theorem dX13_tellRow_192 : decode cX13_tellRow 192 = .ok (.iconst 1, 1) := by decide +kernel
theorem dX13_tellRow_193 : decode cX13_tellRow 193 = .ok (.iadd, 1) := by decide +kernel
theorem dX13_tellRow_194 : decode cX13_tellRow 194 = .ok (.laload, 1) := by decide +kernel
theorem dX13_tellRow_195 : decode cX13_tellRow 195 = .ok (.invokevirtual 1026, 3) := by decide +kernel
theorem dX13_tellRow_198 : decode cX13_tellRow 198 = .ok (.aload_n 0, 1) := by decide +kernel
theorem dX13_tellRow_199 : decode cX13_tellRow 199 = .ok (.bipush 32, 2) := by decide +kernel
theorem dX13_tellRow_201 : decode cX13_tellRow 201 = .ok (.invokevirtual 1012, 3) := by decide +kernel
theorem dX13_tellRow_204 : decode cX13_tellRow 204 = .ok (.aload_n 0, 1) := by decide +kernel
theorem dX13_tellRow_205 : decode cX13_tellRow 205 = .ok (.iload_n 1, 1) := by decide +kernel
theorem dX13_tellRow_206 : decode cX13_tellRow 206 = .ok (.iconst 2, 1) := by decide +kernel
theorem dX13_tellRow_207 : decode cX13_tellRow 207 = .ok (.iadd, 1) := by decide +kernel
theorem dX13_tellRow_208 : decode cX13_tellRow 208 = .ok (.invokestatic 1031, 3) := by decide +kernel
theorem dX13_tellRow_211 : decode cX13_tellRow 211 = .ok (.return_, 1) := by decide +kernel
theorem dX13_tellRow_212 : decode cX13_tellRow 212 = .ok (.aload_n 0, 1) := by decide +kernel
theorem dX13_tellRow_213 : decode cX13_tellRow 213 = .ok (.iload_n 2, 1) := by decide +kernel
theorem dX13_tellRow_214 : decode cX13_tellRow 214 = .ok (.bipush 6, 2) := by decide +kernel
theorem dX13_tellRow_216 : decode cX13_tellRow 216 = .ok (.if_icmp .ne 8, 3) := by decide +kernel
theorem dX13_tellRow_219 : decode cX13_tellRow 219 = .ok (.bipush 123, 2) := by decide +kernel
theorem dX13_tellRow_221 : decode cX13_tellRow 221 = .ok (.goto 5, 3) := by decide +kernel
theorem dX13_tellRow_224 : decode cX13_tellRow 224 = .ok (.bipush 91, 2) := by decide +kernel
theorem dX13_tellRow_226 : decode cX13_tellRow 226 = .ok (.invokevirtual 1012, 3) := by decide +kernel
theorem dX13_tellRow_229 : decode cX13_tellRow 229 = .ok (.iconst 0, 1) := by decide +kernel
theorem dX13_tellRow_230 : decode cX13_tellRow 230 = .ok (.istore_n 3, 1) := by decide +kernel
theorem dX13_tellRow_231 : decode cX13_tellRow 231 = .ok (.iload_n 3, 1) := by decide +kernel
theorem dX13_tellRow_232 : decode cX13_tellRow 232 = .ok (.aload_n 0, 1) := by decide +kernel
theorem dX13_tellRow_233 : decode cX13_tellRow 233 = .ok (.getfield 182, 3) := by decide +kernel
theorem dX13_tellRow_236 : decode cX13_tellRow 236 = .ok (.iload_n 1, 1) := by decide +kernel
theorem dX13_tellRow_237 : decode cX13_tellRow 237 = .ok (.iconst 1, 1) := by decide +kernel
theorem dX13_tellRow_238 : decode cX13_tellRow 238 = .ok (.iadd, 1) := by decide +kernel
theorem dX13_tellRow_239 : decode cX13_tellRow 239 = .ok (.laload, 1) := by decide +kernel
theorem dX13_tellRow_240 : decode cX13_tellRow 240 = .ok (.l2i, 1) := by decide +kernel
theorem dX13_tellRow_241 : decode cX13_tellRow 241 = .ok (.if_icmp .ge 56, 3) := by decide +kernel
theorem dX13_tellRow_244 : decode cX13_tellRow 244 = .ok (.iload_n 3, 1) := by decide +kernel
theorem dX13_tellRow_245 : decode cX13_tellRow 245 = .ok (.ifCond .le 9, 3) := by decide +kernel
theorem dX13_tellRow_248 : decode cX13_tellRow 248 = .ok (.aload_n 0, 1) := by decide +kernel
theorem dX13_tellRow_249 : decode cX13_tellRow 249 = .ok (.bipush 44, 2) := by decide +kernel
theorem dX13_tellRow_251 : decode cX13_tellRow 251 = .ok (.invokevirtual 1012, 3) := by decide +kernel
theorem dX13_tellRow_254 : decode cX13_tellRow 254 = .ok (.iload_n 2, 1) := by decide +kernel
theorem dX13_tellRow_255 : decode cX13_tellRow 255 = .ok (.bipush 6, 2) := by decide +kernel
theorem dX13_tellRow_257 : decode cX13_tellRow 257 = .ok (.if_icmp .ne 24, 3) := by decide +kernel
theorem dX13_tellRow_260 : decode cX13_tellRow 260 = .ok (.aload_n 0, 1) := by decide +kernel
theorem dX13_tellRow_261 : decode cX13_tellRow 261 = .ok (.aload_n 0, 1) := by decide +kernel
theorem dX13_tellRow_262 : decode cX13_tellRow 262 = .ok (.getfield 182, 3) := by decide +kernel
theorem dX13_tellRow_265 : decode cX13_tellRow 265 = .ok (.iload_n 1, 1) := by decide +kernel
theorem dX13_tellRow_266 : decode cX13_tellRow 266 = .ok (.iconst 2, 1) := by decide +kernel
theorem dX13_tellRow_267 : decode cX13_tellRow 267 = .ok (.iadd, 1) := by decide +kernel
theorem dX13_tellRow_268 : decode cX13_tellRow 268 = .ok (.iload_n 3, 1) := by decide +kernel
theorem dX13_tellRow_269 : decode cX13_tellRow 269 = .ok (.iadd, 1) := by decide +kernel
theorem dX13_tellRow_270 : decode cX13_tellRow 270 = .ok (.laload, 1) := by decide +kernel
theorem dX13_tellRow_271 : decode cX13_tellRow 271 = .ok (.invokevirtual 1026, 3) := by decide +kernel
theorem dX13_tellRow_274 : decode cX13_tellRow 274 = .ok (.aload_n 0, 1) := by decide +kernel
theorem dX13_tellRow_275 : decode cX13_tellRow 275 = .ok (.ldc_w 1034, 3) := by decide +kernel
theorem dX13_tellRow_278 : decode cX13_tellRow 278 = .ok (.invokevirtual 1022, 3) := by decide +kernel
theorem dX13_tellRow_281 : decode cX13_tellRow 281 = .ok (.aload_n 0, 1) := by decide +kernel
theorem dX13_tellRow_282 : decode cX13_tellRow 282 = .ok (.aload_n 0, 1) := by decide +kernel
theorem dX13_tellRow_283 : decode cX13_tellRow 283 = .ok (.iload_n 1, 1) := by decide +kernel
theorem dX13_tellRow_284 : decode cX13_tellRow 284 = .ok (.iload_n 3, 1) := by decide +kernel
theorem dX13_tellRow_285 : decode cX13_tellRow 285 = .ok (.invokevirtual 855, 3) := by decide +kernel
theorem dX13_tellRow_288 : decode cX13_tellRow 288 = .ok (.invokestatic 1031, 3) := by decide +kernel
theorem dX13_tellRow_291 : decode cX13_tellRow 291 = .ok (.iinc 3 1, 3) := by decide +kernel
theorem dX13_tellRow_294 : decode cX13_tellRow 294 = .ok (.goto (-63), 3) := by decide +kernel
theorem dX13_tellRow_297 : decode cX13_tellRow 297 = .ok (.aload_n 0, 1) := by decide +kernel
theorem dX13_tellRow_298 : decode cX13_tellRow 298 = .ok (.iload_n 2, 1) := by decide +kernel
theorem dX13_tellRow_299 : decode cX13_tellRow 299 = .ok (.bipush 6, 2) := by decide +kernel
theorem dX13_tellRow_301 : decode cX13_tellRow 301 = .ok (.if_icmp .ne 8, 3) := by decide +kernel
theorem dX13_tellRow_304 : decode cX13_tellRow 304 = .ok (.bipush 125, 2) := by decide +kernel
theorem dX13_tellRow_306 : decode cX13_tellRow 306 = .ok (.goto 5, 3) := by decide +kernel
theorem dX13_tellRow_309 : decode cX13_tellRow 309 = .ok (.bipush 93, 2) := by decide +kernel
theorem dX13_tellRow_311 : decode cX13_tellRow 311 = .ok (.invokevirtual 1012, 3) := by decide +kernel
theorem dX13_tellRow_314 : decode cX13_tellRow 314 = .ok (.return_, 1) := by decide +kernel
theorem dX13_tellRow_4 : decode cX13_tellRow 4 = .ok (.iload_n 1, 1) := by decide +kernel
theorem dX13_tellRow_5 : decode cX13_tellRow 5 = .ok (.laload, 1) := by decide +kernel
theorem dX13_tellRow_56 : decode cX13_tellRow 56 = .ok (.aload_n 0, 1) := by decide +kernel
theorem dX13_tellRow_57 : decode cX13_tellRow 57 = .ok (.aload_n 0, 1) := by decide +kernel
theorem dX13_tellRow_58 : decode cX13_tellRow 58 = .ok (.getfield 182, 3) := by decide +kernel
theorem dX13_tellRow_6 : decode cX13_tellRow 6 = .ok (.l2i, 1) := by decide +kernel
theorem dX13_tellRow_61 : decode cX13_tellRow 61 = .ok (.iload_n 1, 1) := by decide +kernel
theorem dX13_tellRow_62 : decode cX13_tellRow 62 = .ok (.iconst 1, 1) := by decide +kernel
theorem dX13_tellRow_63 : decode cX13_tellRow 63 = .ok (.iadd, 1) := by decide +kernel
theorem dX13_tellRow_64 : decode cX13_tellRow 64 = .ok (.laload, 1) := by decide +kernel
theorem dX13_tellRow_65 : decode cX13_tellRow 65 = .ok (.invokevirtual 1015, 3) := by decide +kernel
theorem dX13_tellRow_68 : decode cX13_tellRow 68 = .ok (.return_, 1) := by decide +kernel
theorem dX13_tellRow_69 : decode cX13_tellRow 69 = .ok (.aload_n 0, 1) := by decide +kernel
theorem dX13_tellRow_7 : decode cX13_tellRow 7 = .ok (.istore_n 2, 1) := by decide +kernel
theorem dX13_tellRow_70 : decode cX13_tellRow 70 = .ok (.aload_n 0, 1) := by decide +kernel
theorem dX13_tellRow_71 : decode cX13_tellRow 71 = .ok (.getfield 182, 3) := by decide +kernel
theorem dX13_tellRow_74 : decode cX13_tellRow 74 = .ok (.iload_n 1, 1) := by decide +kernel
theorem dX13_tellRow_75 : decode cX13_tellRow 75 = .ok (.iconst 1, 1) := by decide +kernel
theorem dX13_tellRow_76 : decode cX13_tellRow 76 = .ok (.iadd, 1) := by decide +kernel
theorem dX13_tellRow_77 : decode cX13_tellRow 77 = .ok (.laload, 1) := by decide +kernel
theorem dX13_tellRow_78 : decode cX13_tellRow 78 = .ok (.lconst 1, 1) := by decide +kernel
theorem dX13_tellRow_79 : decode cX13_tellRow 79 = .ok (.lcmp, 1) := by decide +kernel
theorem dX13_tellRow_8 : decode cX13_tellRow 8 = .ok (.iload_n 2, 1) := by decide +kernel
theorem dX13_tellRow_80 : decode cX13_tellRow 80 = .ok (.ifCond .ne 9, 3) := by decide +kernel
theorem dX13_tellRow_83 : decode cX13_tellRow 83 = .ok (.ldc_w 1018, 3) := by decide +kernel
theorem dX13_tellRow_86 : decode cX13_tellRow 86 = .ok (.goto 6, 3) := by decide +kernel
theorem dX13_tellRow_89 : decode cX13_tellRow 89 = .ok (.ldc_w 1020, 3) := by decide +kernel
theorem dX13_tellRow_9 : decode cX13_tellRow 9 = .ok (.tableswitch 203 0 7 #[47, 60, 87, 131, 144, 152, 203, 171], 47) := by decide +kernel
theorem dX13_tellRow_92 : decode cX13_tellRow 92 = .ok (.invokevirtual 1022, 3) := by decide +kernel
theorem dX13_tellRow_95 : decode cX13_tellRow 95 = .ok (.return_, 1) := by decide +kernel
theorem dX13_tellRow_96 : decode cX13_tellRow 96 = .ok (.aload_n 0, 1) := by decide +kernel
theorem dX13_tellRow_97 : decode cX13_tellRow 97 = .ok (.bipush 34, 2) := by decide +kernel
theorem dX13_tellRow_99 : decode cX13_tellRow 99 = .ok (.invokevirtual 1012, 3) := by decide +kernel
abbrev RT_X13_tellRow : Type := (Int32 → t_S → Option (t_S))
def RH_X13_tellRow (rc : RT_X13_tellRow) (k : Nat) : Prop := (∀ (x2 : Int32) (s : t_S) (r : t_S), rc x2 s = some r → t_C yX13_tellRow cX13_tellRow 4 none (5 + k) [.ref 950, .int x2] s (fun v s' => v = none ∧ s' = r))
noncomputable def k_X13_tellRow_104 (rc : RT_X13_tellRow) (l1 : Int32) (l3 : Int32) (s : t_S) : Option ((Int32 × Int32 × t_S) ⊕ (t_S)) :=
 if t_ix (l1 + (1 : Int32)) 626600 = true then
  if ((s.2.1 1006 ((l1 + (1 : Int32)).toNatClampNeg)).toInt32) ≤ l3 then (((f_X13_write (34 : Int32) s).bind (fun r2 =>
 some (r2))).map Sum.inr)
 else ((f_X13_signOf l1 l3 s).bind (fun r3 =>
 (f_X13_write r3 s).bind (fun r4 =>
 some (.inl (l1, (l3 + 1), r4)))))
else none
set_option maxRecDepth 4000 in
set_option maxHeartbeats 1000000 in
theorem B_X13_tellRow_104 {D : va_G} {cy : Nat → ClassId} {ad : Nat → Nat} {bs : Nat} {X : State → Heap → Prop} (rc : RT_X13_tellRow) {k : Nat} (H : RH_X13_tellRow rc k) (l1 : Int32) (l3 : Int32) (s : t_S) (Q : (Int32 × Int32 × t_S) ⊕ (t_S) → Prop) (Hb104 : ∀ (y0 : Int32) (y1 : Int32) (y2 : t_S), Q (.inl (y0, y1, y2)) → mj_G D cy ad bs X cX13_tellRow 4 yX13_tellRow.cls none yX13_tellRow.name (5 + (k + 1)) 0 0 1065 (t_P (fun v s' => v = none ∧ Q (.inr (s')))) 104 [(0, .ref 950), (1, .int (y0)), (3, .int (y1))] [] (t_m y2) 1065 0 0) (hk : t_hk (k_X13_tellRow_104 rc l1 l3 s) Q) : mj_G D cy ad bs X cX13_tellRow 4 yX13_tellRow.cls none yX13_tellRow.name (5 + (k + 1)) 0 0 1065 (t_P (fun v s' => v = none ∧ Q (.inr (s')))) 104 [(0, .ref 950), (1, .int l1), (3, .int l3)] [] (t_m s) 1065 0 0 := by
  refine mj_iload_n dX13_tellRow_104 2 rfl ?_
  refine mj_aload_n dX13_tellRow_105 0 rfl ?_
  refine t_getR 1006 dX13_tellRow_106 F_X13_182 qr_950_95 ?_
  refine mj_iload_n dX13_tellRow_109 1 rfl ?_
  refine mj_iconst (v := 1) dX13_tellRow_110 (by decide) ?_
  refine mj_iadd dX13_tellRow_111 ?_
  refine t_chkK hk (fun c0 hk => ?_)
  refine t_lald dX13_tellRow_112 qa_1006 (t_ixv c0) ?_
  refine mj_l2i (v := (s.2.1 1006 ((l1 + (1 : Int32)).toNatClampNeg)).toInt32) dX13_tellRow_113 rfl ?_
  refine mj_icmp_ge 133 dX13_tellRow_114 (by decide) (fun z => t_posK hk z (fun hk => ?_)) (fun z => t_negK hk z (fun hk => ?_))
  · refine t_mapK hk (fun hk => ?_)
    refine mj_aload_n dX13_tellRow_133 0 rfl ?_
    refine mj_bipush (v := 34) dX13_tellRow_134 (by decide) ?_
    refine t_bndK hk (fun r2 er2 hk => ?_)
    refine t_callVvE dX13_tellRow_136 M_X13_write (C_X13_write _ _ _ er2) ML_X13_1012 IM_X13_write SE_X13_write qc_950 rfl (As := [.int 34]) rfl rfl (by omega) (Nat.le_of_ble_eq_true rfl) (Nat.le_of_ble_eq_true rfl) (Nat.le_of_ble_eq_true rfl) ?_
    exact t_somK hk (fun hf => t_vret dX13_tellRow_139 rfl ⟨rfl, hf⟩ (Nat.le_of_ble_eq_true rfl) (Nat.le_of_ble_eq_true rfl))
  · refine mj_aload_n dX13_tellRow_117 0 rfl ?_
    refine mj_aload_n dX13_tellRow_118 0 rfl ?_
    refine mj_iload_n dX13_tellRow_119 1 rfl ?_
    refine mj_iload_n dX13_tellRow_120 2 rfl ?_
    refine t_bndK hk (fun r3 er3 hk => ?_)
    refine t_callViP dX13_tellRow_121 M_X13_signOf (C_X13_signOf _ _ _ _ er3) ML_X13_996 IM_X13_signOf SE_X13_signOf qc_950 rfl (As := [.int l1, .int l3]) rfl rfl (by omega) (Nat.le_of_ble_eq_true rfl) (Nat.le_of_ble_eq_true rfl) (Nat.le_of_ble_eq_true rfl) ?_
    refine t_bndK hk (fun r4 er4 hk => ?_)
    refine t_callVvE dX13_tellRow_124 M_X13_write (C_X13_write _ _ _ er4) ML_X13_1012 IM_X13_write SE_X13_write qc_950 rfl (As := [.int r3]) rfl rfl (by omega) (Nat.le_of_ble_eq_true rfl) (Nat.le_of_ble_eq_true rfl) (Nat.le_of_ble_eq_true rfl) ?_
    refine mj_iinc (k := 2) (v := (l3 + 1)) (lv2 := [(3, .int (l3 + 1)), (0, .ref 950), (1, .int l1)]) dX13_tellRow_127 rfl rfl (by decide) rfl ?_
    refine mj_goto 104 dX13_tellRow_130 (by decide) ?_
    refine mj_sublv [(0, .ref 950), (1, .int l1), (3, .int (l3 + 1))] [1, 2, 0] rfl ?_
    exact t_somK hk (fun hf => Hb104 l1 (l3 + 1) r4 hf)
noncomputable def b_X13_tellRow_104 (rc : RT_X13_tellRow) (x : Int32 × Int32 × t_S) : Option ((Int32 × Int32 × t_S) ⊕ (t_S)) := k_X13_tellRow_104 rc x.1 x.2.1 x.2.2
set_option maxRecDepth 4000 in
set_option maxHeartbeats 1000000 in
theorem LH_X13_tellRow_104 {D : va_G} {cy : Nat → ClassId} {ad : Nat → Nat} {bs : Nat} {X : State → Heap → Prop} (rc : RT_X13_tellRow) {k : Nat} (H : RH_X13_tellRow rc k) : ∀ (n : Nat) (y0 : Int32) (y1 : Int32) (y2 : t_S) (Q : t_S → Prop) (hk : t_hk (t_loop (b_X13_tellRow_104 rc) n (y0, y1, y2)) Q), mj_G D cy ad bs X cX13_tellRow 4 yX13_tellRow.cls none yX13_tellRow.name (5 + (k + 1)) 0 0 1065 (t_P (fun v s' => v = none ∧ Q (s'))) 104 [(0, .ref 950), (1, .int (y0)), (3, .int (y1))] [] (t_m y2) 1065 0 0 := by
  intro n
  induction n with
  | zero => intro y0 y1 y2 Q hk; obtain ⟨r, hr, _⟩ := hk; cases hr
  | succ n ih =>
    intro y0 y1 y2 Q hk
    exact B_X13_tellRow_104 rc H y0 y1 y2 (fun y => t_lq (b_X13_tellRow_104 rc) n Q y) (fun y0' y1' y2' hy => ih y0' y1' y2' Q hy) (t_lp (b := b_X13_tellRow_104 rc) (n := n) (x := (y0, y1, y2)) hk)
noncomputable def k_X13_tellRow_281 (rc : RT_X13_tellRow) (l1 : Int32) (l2 : Int32) (l3 : Int32) (s : t_S) : Option ((Int32 × Int32 × Int32 × t_S) ⊕ (t_S)) :=
 (f_X13_partOf l1 l3 s).bind (fun r1 =>
 (rc r1 s).bind (fun r2 =>
 some (.inl (l1, l2, (l3 + 1), r2))))
set_option maxRecDepth 4000 in
set_option maxHeartbeats 1000000 in
theorem B_X13_tellRow_281 {D : va_G} {cy : Nat → ClassId} {ad : Nat → Nat} {bs : Nat} {X : State → Heap → Prop} (rc : RT_X13_tellRow) {k : Nat} (H : RH_X13_tellRow rc k) (l1 : Int32) (l2 : Int32) (l3 : Int32) (s : t_S) (Q : (Int32 × Int32 × Int32 × t_S) ⊕ (t_S) → Prop) (Hb231 : ∀ (y0 : Int32) (y1 : Int32) (y2 : Int32) (y3 : t_S), Q (.inl (y0, y1, y2, y3)) → mj_G D cy ad bs X cX13_tellRow 4 yX13_tellRow.cls none yX13_tellRow.name (5 + (k + 1)) 0 0 1065 (t_P (fun v s' => v = none ∧ Q (.inr (s')))) 231 [(0, .ref 950), (1, .int (y0)), (2, .int (y1)), (3, .int (y2))] [] (t_m y3) 1065 0 0) (hk : t_hk (k_X13_tellRow_281 rc l1 l2 l3 s) Q) : mj_G D cy ad bs X cX13_tellRow 4 yX13_tellRow.cls none yX13_tellRow.name (5 + (k + 1)) 0 0 1065 (t_P (fun v s' => v = none ∧ Q (.inr (s')))) 281 [(0, .ref 950), (1, .int l1), (2, .int l2), (3, .int l3)] [] (t_m s) 1065 0 0 := by
  refine mj_aload_n dX13_tellRow_281 0 rfl ?_
  refine mj_aload_n dX13_tellRow_282 0 rfl ?_
  refine mj_iload_n dX13_tellRow_283 1 rfl ?_
  refine mj_iload_n dX13_tellRow_284 3 rfl ?_
  refine t_bndK hk (fun r1 er1 hk => ?_)
  refine t_callViP dX13_tellRow_285 M_X13_partOf (C_X13_partOf _ _ _ _ er1) ML_X13_855 IM_X13_partOf SE_X13_partOf qc_950 rfl (As := [.int l1, .int l3]) rfl rfl (by omega) (Nat.le_of_ble_eq_true rfl) (Nat.le_of_ble_eq_true rfl) (Nat.le_of_ble_eq_true rfl) ?_
  refine t_bndK hk (fun r2 er2 hk => ?_)
  refine t_callSvE dX13_tellRow_288 M_X13_tellRow (H _ _ _ er2) ML_X13_1031 SM_X13_tellRow (As := [.ref 950, .int r1]) rfl rfl (by omega) (Nat.le_of_ble_eq_true rfl) (Nat.le_of_ble_eq_true rfl) (Nat.le_of_ble_eq_true rfl) ?_
  refine mj_iinc (k := 3) (v := (l3 + 1)) (lv2 := [(3, .int (l3 + 1)), (0, .ref 950), (1, .int l1), (2, .int l2)]) dX13_tellRow_291 rfl rfl (by decide) rfl ?_
  refine mj_goto 231 dX13_tellRow_294 (by decide) ?_
  refine mj_sublv [(0, .ref 950), (1, .int l1), (2, .int l2), (3, .int (l3 + 1))] [1, 2, 3, 0] rfl ?_
  exact t_somK hk (fun hf => Hb231 l1 l2 (l3 + 1) r2 hf)
noncomputable def k_X13_tellRow_254 (rc : RT_X13_tellRow) (l1 : Int32) (l2 : Int32) (l3 : Int32) (s : t_S) : Option ((Int32 × Int32 × Int32 × t_S) ⊕ (t_S)) :=
 if l2 = (6 : Int32) then (if t_ix ((l1 + (2 : Int32)) + l3) 626600 = true then
  (f_X13_writeName (s.2.1 1006 (((l1 + (2 : Int32)) + l3).toNatClampNeg)) s).bind (fun r2 =>
 (f_X13_writeWords 4 r2).bind (fun r3 =>
 k_X13_tellRow_281 rc l1 l2 l3 r3))
else none)
 else (k_X13_tellRow_281 rc l1 l2 l3 s)
set_option maxRecDepth 4000 in
set_option maxHeartbeats 1000000 in
theorem B_X13_tellRow_254 {D : va_G} {cy : Nat → ClassId} {ad : Nat → Nat} {bs : Nat} {X : State → Heap → Prop} (rc : RT_X13_tellRow) {k : Nat} (H : RH_X13_tellRow rc k) (l1 : Int32) (l2 : Int32) (l3 : Int32) (s : t_S) (Q : (Int32 × Int32 × Int32 × t_S) ⊕ (t_S) → Prop) (Hb231 : ∀ (y0 : Int32) (y1 : Int32) (y2 : Int32) (y3 : t_S), Q (.inl (y0, y1, y2, y3)) → mj_G D cy ad bs X cX13_tellRow 4 yX13_tellRow.cls none yX13_tellRow.name (5 + (k + 1)) 0 0 1065 (t_P (fun v s' => v = none ∧ Q (.inr (s')))) 231 [(0, .ref 950), (1, .int (y0)), (2, .int (y1)), (3, .int (y2))] [] (t_m y3) 1065 0 0) (hk : t_hk (k_X13_tellRow_254 rc l1 l2 l3 s) Q) : mj_G D cy ad bs X cX13_tellRow 4 yX13_tellRow.cls none yX13_tellRow.name (5 + (k + 1)) 0 0 1065 (t_P (fun v s' => v = none ∧ Q (.inr (s')))) 254 [(0, .ref 950), (1, .int l1), (2, .int l2), (3, .int l3)] [] (t_m s) 1065 0 0 := by
  refine mj_iload_n dX13_tellRow_254 2 rfl ?_
  refine mj_bipush (v := 6) dX13_tellRow_255 (by decide) ?_
  refine mj_icmp_ne 281 dX13_tellRow_257 (by decide) (fun z => t_negK hk z (fun hk => ?_)) (fun z => t_posK hk z (fun hk => ?_))
  · exact B_X13_tellRow_281 rc H _ _ _ _ _ (fun y0 y1 y2 y3 hx => Hb231 y0 y1 y2 y3 hx) hk
  · refine mj_aload_n dX13_tellRow_260 0 rfl ?_
    refine mj_aload_n dX13_tellRow_261 0 rfl ?_
    refine t_getR 1006 dX13_tellRow_262 F_X13_182 qr_950_95 ?_
    refine mj_iload_n dX13_tellRow_265 1 rfl ?_
    refine mj_iconst (v := 2) dX13_tellRow_266 (by decide) ?_
    refine mj_iadd dX13_tellRow_267 ?_
    refine mj_iload_n dX13_tellRow_268 3 rfl ?_
    refine mj_iadd dX13_tellRow_269 ?_
    refine t_chkK hk (fun c0 hk => ?_)
    refine t_lald dX13_tellRow_270 qa_1006 (t_ixv c0) ?_
    refine t_bndK hk (fun r2 er2 hk => ?_)
    refine t_callVvE dX13_tellRow_271 M_X13_writeName (C_X13_writeName _ _ _ er2) ML_X13_1026 IM_X13_writeName SE_X13_writeName qc_950 rfl (As := [.long (s.2.1 1006 (((l1 + (2 : Int32)) + l3).toNatClampNeg))]) rfl rfl (by omega) (Nat.le_of_ble_eq_true rfl) (Nat.le_of_ble_eq_true rfl) (Nat.le_of_ble_eq_true rfl) ?_
    refine mj_aload_n dX13_tellRow_274 0 rfl ?_
    refine mj_ldcwE dX13_tellRow_275 TX_X13_1034 ?_
    refine t_bndK hk (fun r3 er3 hk => ?_)
    refine t_callVvE dX13_tellRow_278 M_X13_writeWords (C_X13_writeWords _ _ _ er3) ML_X13_1022 IM_X13_writeWords SE_X13_writeWords qc_950 rfl (As := [.ref (1000000 + 4)]) rfl rfl (by omega) (Nat.le_of_ble_eq_true rfl) (Nat.le_of_ble_eq_true rfl) (Nat.le_of_ble_eq_true rfl) ?_
    exact B_X13_tellRow_281 rc H _ _ _ _ _ (fun y0 y1 y2 y3 hx => Hb231 y0 y1 y2 y3 hx) hk
noncomputable def k_X13_tellRow_311 (rc : RT_X13_tellRow) (k0 : Int32) (s : t_S) : Option (t_S) :=
 (f_X13_write k0 s).bind (fun r1 =>
 some (r1))
set_option maxRecDepth 4000 in
set_option maxHeartbeats 1000000 in
theorem B_X13_tellRow_311 {D : va_G} {cy : Nat → ClassId} {ad : Nat → Nat} {bs : Nat} {X : State → Heap → Prop} (rc : RT_X13_tellRow) {k : Nat} (H : RH_X13_tellRow rc k) (k0 : Int32) (s : t_S) (Q : t_S → Prop) (hk : t_hk (k_X13_tellRow_311 rc k0 s) Q) : mj_G D cy ad bs X cX13_tellRow 4 yX13_tellRow.cls none yX13_tellRow.name (5 + (k + 1)) 0 0 1065 (t_P (fun v s' => v = none ∧ Q (s'))) 311 [] [.int k0, .ref 950] (t_m s) 1065 0 0 := by
  refine t_bndK hk (fun r1 er1 hk => ?_)
  refine t_callVvE dX13_tellRow_311 M_X13_write (C_X13_write _ _ _ er1) ML_X13_1012 IM_X13_write SE_X13_write qc_950 rfl (As := [.int k0]) rfl rfl (by omega) (Nat.le_of_ble_eq_true rfl) (Nat.le_of_ble_eq_true rfl) (Nat.le_of_ble_eq_true rfl) ?_
  exact t_somK hk (fun hf => t_vret dX13_tellRow_314 rfl ⟨rfl, hf⟩ (Nat.le_of_ble_eq_true rfl) (Nat.le_of_ble_eq_true rfl))
noncomputable def k_X13_tellRow_231 (rc : RT_X13_tellRow) (l1 : Int32) (l2 : Int32) (l3 : Int32) (s : t_S) : Option ((Int32 × Int32 × Int32 × t_S) ⊕ (t_S)) :=
 if t_ix (l1 + (1 : Int32)) 626600 = true then
  if ((s.2.1 1006 ((l1 + (1 : Int32)).toNatClampNeg)).toInt32) ≤ l3 then ((if l2 = (6 : Int32) then (k_X13_tellRow_311 rc 125 s)
 else (k_X13_tellRow_311 rc 93 s)).map Sum.inr)
 else (if l3 ≤ (0 : Int32) then (k_X13_tellRow_254 rc l1 l2 l3 s)
 else ((f_X13_write (44 : Int32) s).bind (fun r2 =>
 k_X13_tellRow_254 rc l1 l2 l3 r2)))
else none
set_option maxRecDepth 4000 in
set_option maxHeartbeats 1000000 in
theorem B_X13_tellRow_231 {D : va_G} {cy : Nat → ClassId} {ad : Nat → Nat} {bs : Nat} {X : State → Heap → Prop} (rc : RT_X13_tellRow) {k : Nat} (H : RH_X13_tellRow rc k) (l1 : Int32) (l2 : Int32) (l3 : Int32) (s : t_S) (Q : (Int32 × Int32 × Int32 × t_S) ⊕ (t_S) → Prop) (Hb231 : ∀ (y0 : Int32) (y1 : Int32) (y2 : Int32) (y3 : t_S), Q (.inl (y0, y1, y2, y3)) → mj_G D cy ad bs X cX13_tellRow 4 yX13_tellRow.cls none yX13_tellRow.name (5 + (k + 1)) 0 0 1065 (t_P (fun v s' => v = none ∧ Q (.inr (s')))) 231 [(0, .ref 950), (1, .int (y0)), (2, .int (y1)), (3, .int (y2))] [] (t_m y3) 1065 0 0) (hk : t_hk (k_X13_tellRow_231 rc l1 l2 l3 s) Q) : mj_G D cy ad bs X cX13_tellRow 4 yX13_tellRow.cls none yX13_tellRow.name (5 + (k + 1)) 0 0 1065 (t_P (fun v s' => v = none ∧ Q (.inr (s')))) 231 [(0, .ref 950), (1, .int l1), (2, .int l2), (3, .int l3)] [] (t_m s) 1065 0 0 := by
  refine mj_iload_n dX13_tellRow_231 3 rfl ?_
  refine mj_aload_n dX13_tellRow_232 0 rfl ?_
  refine t_getR 1006 dX13_tellRow_233 F_X13_182 qr_950_95 ?_
  refine mj_iload_n dX13_tellRow_236 1 rfl ?_
  refine mj_iconst (v := 1) dX13_tellRow_237 (by decide) ?_
  refine mj_iadd dX13_tellRow_238 ?_
  refine t_chkK hk (fun c0 hk => ?_)
  refine t_lald dX13_tellRow_239 qa_1006 (t_ixv c0) ?_
  refine mj_l2i (v := (s.2.1 1006 ((l1 + (1 : Int32)).toNatClampNeg)).toInt32) dX13_tellRow_240 rfl ?_
  refine mj_icmp_ge 297 dX13_tellRow_241 (by decide) (fun z => t_posK hk z (fun hk => ?_)) (fun z => t_negK hk z (fun hk => ?_))
  · refine t_mapK hk (fun hk => ?_)
    refine mj_aload_n dX13_tellRow_297 0 rfl ?_
    refine mj_iload_n dX13_tellRow_298 2 rfl ?_
    refine mj_bipush (v := 6) dX13_tellRow_299 (by decide) ?_
    refine mj_icmp_ne 309 dX13_tellRow_301 (by decide) (fun z => t_negK hk z (fun hk => ?_)) (fun z => t_posK hk z (fun hk => ?_))
    · refine mj_bipush (v := 93) dX13_tellRow_309 (by decide) ?_
      refine mj_sublv [] [] rfl ?_
      exact B_X13_tellRow_311 rc H _ _ _ hk
    · refine mj_bipush (v := 125) dX13_tellRow_304 (by decide) ?_
      refine mj_goto 311 dX13_tellRow_306 (by decide) ?_
      refine mj_sublv [] [] rfl ?_
      exact B_X13_tellRow_311 rc H _ _ _ hk
  · refine mj_iload_n dX13_tellRow_244 3 rfl ?_
    refine mj_if_le 254 dX13_tellRow_245 (by decide) (fun z => t_posK hk z (fun hk => ?_)) (fun z => t_negK hk z (fun hk => ?_))
    · exact B_X13_tellRow_254 rc H _ _ _ _ _ (fun y0 y1 y2 y3 hx => Hb231 y0 y1 y2 y3 hx) hk
    · refine mj_aload_n dX13_tellRow_248 0 rfl ?_
      refine mj_bipush (v := 44) dX13_tellRow_249 (by decide) ?_
      refine t_bndK hk (fun r2 er2 hk => ?_)
      refine t_callVvE dX13_tellRow_251 M_X13_write (C_X13_write _ _ _ er2) ML_X13_1012 IM_X13_write SE_X13_write qc_950 rfl (As := [.int 44]) rfl rfl (by omega) (Nat.le_of_ble_eq_true rfl) (Nat.le_of_ble_eq_true rfl) (Nat.le_of_ble_eq_true rfl) ?_
      exact B_X13_tellRow_254 rc H _ _ _ _ _ (fun y0 y1 y2 y3 hx => Hb231 y0 y1 y2 y3 hx) hk
noncomputable def b_X13_tellRow_231 (rc : RT_X13_tellRow) (x : Int32 × Int32 × Int32 × t_S) : Option ((Int32 × Int32 × Int32 × t_S) ⊕ (t_S)) := k_X13_tellRow_231 rc x.1 x.2.1 x.2.2.1 x.2.2.2
set_option maxRecDepth 4000 in
set_option maxHeartbeats 1000000 in
theorem LH_X13_tellRow_231 {D : va_G} {cy : Nat → ClassId} {ad : Nat → Nat} {bs : Nat} {X : State → Heap → Prop} (rc : RT_X13_tellRow) {k : Nat} (H : RH_X13_tellRow rc k) : ∀ (n : Nat) (y0 : Int32) (y1 : Int32) (y2 : Int32) (y3 : t_S) (Q : t_S → Prop) (hk : t_hk (t_loop (b_X13_tellRow_231 rc) n (y0, y1, y2, y3)) Q), mj_G D cy ad bs X cX13_tellRow 4 yX13_tellRow.cls none yX13_tellRow.name (5 + (k + 1)) 0 0 1065 (t_P (fun v s' => v = none ∧ Q (s'))) 231 [(0, .ref 950), (1, .int (y0)), (2, .int (y1)), (3, .int (y2))] [] (t_m y3) 1065 0 0 := by
  intro n
  induction n with
  | zero => intro y0 y1 y2 y3 Q hk; obtain ⟨r, hr, _⟩ := hk; cases hr
  | succ n ih =>
    intro y0 y1 y2 y3 Q hk
    exact B_X13_tellRow_231 rc H y0 y1 y2 y3 (fun y => t_lq (b_X13_tellRow_231 rc) n Q y) (fun y0' y1' y2' y3' hy => ih y0' y1' y2' y3' Q hy) (t_lp (b := b_X13_tellRow_231 rc) (n := n) (x := (y0, y1, y2, y3)) hk)
noncomputable def k_X13_tellRow_226 (rc : RT_X13_tellRow) (l1 : Int32) (l2 : Int32) (k0 : Int32) (s : t_S) : Option (t_S) :=
 (f_X13_write k0 s).bind (fun r1 =>
 t_loop (b_X13_tellRow_231 rc) t_N (l1, l2, 0, r1))
set_option maxRecDepth 4000 in
set_option maxHeartbeats 1000000 in
theorem B_X13_tellRow_226 {D : va_G} {cy : Nat → ClassId} {ad : Nat → Nat} {bs : Nat} {X : State → Heap → Prop} (rc : RT_X13_tellRow) {k : Nat} (H : RH_X13_tellRow rc k) (l1 : Int32) (l2 : Int32) (k0 : Int32) (s : t_S) (Q : t_S → Prop) (hk : t_hk (k_X13_tellRow_226 rc l1 l2 k0 s) Q) : mj_G D cy ad bs X cX13_tellRow 4 yX13_tellRow.cls none yX13_tellRow.name (5 + (k + 1)) 0 0 1065 (t_P (fun v s' => v = none ∧ Q (s'))) 226 [(0, .ref 950), (1, .int l1), (2, .int l2)] [.int k0, .ref 950] (t_m s) 1065 0 0 := by
  refine t_bndK hk (fun r1 er1 hk => ?_)
  refine t_callVvE dX13_tellRow_226 M_X13_write (C_X13_write _ _ _ er1) ML_X13_1012 IM_X13_write SE_X13_write qc_950 rfl (As := [.int k0]) rfl rfl (by omega) (Nat.le_of_ble_eq_true rfl) (Nat.le_of_ble_eq_true rfl) (Nat.le_of_ble_eq_true rfl) ?_
  refine mj_iconst (v := 0) dX13_tellRow_229 (by decide) ?_
  refine mj_istore_n 3 (lv2 := [(3, .int 0), (0, .ref 950), (1, .int l1), (2, .int l2)]) dX13_tellRow_230 rfl (by decide) rfl ?_
  refine mj_sublv [(0, .ref 950), (1, .int l1), (2, .int l2), (3, .int 0)] [1, 2, 3, 0] rfl ?_
  exact LH_X13_tellRow_231 rc H _ l1 l2 0 r1 _ hk
noncomputable def k_X13_tellRow_92 (rc : RT_X13_tellRow) (k0 : Nat) (s : t_S) : Option (t_S) :=
 (f_X13_writeWords k0 s).bind (fun r1 =>
 some (r1))
set_option maxRecDepth 4000 in
set_option maxHeartbeats 1000000 in
theorem B_X13_tellRow_92 {D : va_G} {cy : Nat → ClassId} {ad : Nat → Nat} {bs : Nat} {X : State → Heap → Prop} (rc : RT_X13_tellRow) {k : Nat} (H : RH_X13_tellRow rc k) (k0 : Nat) (s : t_S) (Q : t_S → Prop) (hk : t_hk (k_X13_tellRow_92 rc k0 s) Q) : mj_G D cy ad bs X cX13_tellRow 4 yX13_tellRow.cls none yX13_tellRow.name (5 + (k + 1)) 0 0 1065 (t_P (fun v s' => v = none ∧ Q (s'))) 92 [] [.ref (1000000 + k0), .ref 950] (t_m s) 1065 0 0 := by
  refine t_bndK hk (fun r1 er1 hk => ?_)
  refine t_callVvE dX13_tellRow_92 M_X13_writeWords (C_X13_writeWords _ _ _ er1) ML_X13_1022 IM_X13_writeWords SE_X13_writeWords qc_950 rfl (As := [.ref (1000000 + k0)]) rfl rfl (by omega) (Nat.le_of_ble_eq_true rfl) (Nat.le_of_ble_eq_true rfl) (Nat.le_of_ble_eq_true rfl) ?_
  exact t_somK hk (fun hf => t_vret dX13_tellRow_95 rfl ⟨rfl, hf⟩ (Nat.le_of_ble_eq_true rfl) (Nat.le_of_ble_eq_true rfl))
noncomputable def m_X13_tellRow (rc : RT_X13_tellRow) (x2 : Int32) (s : t_S) : Option (t_S) :=
 if t_ix x2 626600 = true then
  if ((s.2.1 1006 (x2.toNatClampNeg)).toInt32).toInt < 0 ∨ 7 < ((s.2.1 1006 (x2.toNatClampNeg)).toInt32).toInt then (if ((s.2.1 1006 (x2.toNatClampNeg)).toInt32) = (6 : Int32) then (k_X13_tellRow_226 rc x2 ((s.2.1 1006 (x2.toNatClampNeg)).toInt32) 123 s)
 else (k_X13_tellRow_226 rc x2 ((s.2.1 1006 (x2.toNatClampNeg)).toInt32) 91 s))
 else if ((s.2.1 1006 (x2.toNatClampNeg)).toInt32).toInt = 0 then (if t_ix (x2 + (1 : Int32)) 626600 = true then
  (f_X13_writeNumber (s.2.1 1006 ((x2 + (1 : Int32)).toNatClampNeg)) s).bind (fun r3 =>
 some (r3))
else none)
 else if ((s.2.1 1006 (x2.toNatClampNeg)).toInt32).toInt = 1 then (if t_ix (x2 + (1 : Int32)) 626600 = true then
  if (lg_cmp (s.2.1 1006 ((x2 + (1 : Int32)).toNatClampNeg)) (1 : Int64)) = (0 : Int32) then (k_X13_tellRow_92 rc 1 s)
 else (k_X13_tellRow_92 rc 2 s)
else none)
 else if ((s.2.1 1006 (x2.toNatClampNeg)).toInt32).toInt = 2 then ((f_X13_write (34 : Int32) s).bind (fun r5 =>
 t_loop (b_X13_tellRow_104 rc) t_N (x2, 0, r5)))
 else if ((s.2.1 1006 (x2.toNatClampNeg)).toInt32).toInt = 3 then (if t_ix (x2 + (1 : Int32)) 626600 = true then
  (f_X13_writeName (s.2.1 1006 ((x2 + (1 : Int32)).toNatClampNeg)) s).bind (fun r7 =>
 some (r7))
else none)
 else if ((s.2.1 1006 (x2.toNatClampNeg)).toInt32).toInt = 4 then ((f_X13_writeWords 3 s).bind (fun r8 =>
 some (r8)))
 else if ((s.2.1 1006 (x2.toNatClampNeg)).toInt32).toInt = 5 then ((f_X13_write (35 : Int32) s).bind (fun r9 =>
 if t_ix (x2 + (1 : Int32)) 626600 = true then
  (f_X13_writeNumber (r9.2.1 1006 ((x2 + (1 : Int32)).toNatClampNeg)) r9).bind (fun r11 =>
 some (r11))
else none))
 else if ((s.2.1 1006 (x2.toNatClampNeg)).toInt32).toInt = 6 then (if ((s.2.1 1006 (x2.toNatClampNeg)).toInt32) = (6 : Int32) then (k_X13_tellRow_226 rc x2 ((s.2.1 1006 (x2.toNatClampNeg)).toInt32) 123 s)
 else (k_X13_tellRow_226 rc x2 ((s.2.1 1006 (x2.toNatClampNeg)).toInt32) 91 s))
 else ((f_X13_write (64 : Int32) s).bind (fun r12 =>
 if t_ix (x2 + (1 : Int32)) 626600 = true then
  (f_X13_writeName (r12.2.1 1006 ((x2 + (1 : Int32)).toNatClampNeg)) r12).bind (fun r14 =>
 (f_X13_write (32 : Int32) r14).bind (fun r15 =>
 (rc (x2 + (2 : Int32)) r15).bind (fun r16 =>
 some (r16))))
else none))
else none
set_option maxRecDepth 4000 in
set_option maxHeartbeats 1000000 in
theorem E_X13_tellRow (rc : RT_X13_tellRow) {k : Nat} (H : RH_X13_tellRow rc k) (x2 : Int32) (s : t_S) (r : t_S) (hr : m_X13_tellRow rc x2 s = some r) : t_C yX13_tellRow cX13_tellRow 4 none (5 + (k + 1)) [.ref 950, .int x2] s (fun v s' => v = none ∧ s' = r) := by
  refine t_C.imp (P := fun v s' => v = none ∧ (fun q => q = r) (s')) (t_C.of (by decide +kernel) (Nat.le_of_ble_eq_true rfl) ?_) (fun v s' hp => hp)
  intro D cy ad bs X
  have hk : t_hk (m_X13_tellRow rc x2 s) (fun q => q = r) := ⟨r, hr, rfl⟩
  show mj_G D cy ad bs X cX13_tellRow 4 yX13_tellRow.cls none yX13_tellRow.name (5 + (k + 1)) 0 0 1065 (t_P (fun v s' => v = none ∧ (fun q => q = r) (s'))) 0 [(0, .ref 950), (1, .int x2)] [] (t_m s) 1065 0 0
  refine mj_aload_n dX13_tellRow_0 0 rfl ?_
  refine t_getR 1006 dX13_tellRow_1 F_X13_182 qr_950_95 ?_
  refine mj_iload_n dX13_tellRow_4 1 rfl ?_
  refine t_chkK hk (fun c0 hk => ?_)
  refine t_lald dX13_tellRow_5 qa_1006 (t_ixv c0) ?_
  refine mj_l2i (v := (s.2.1 1006 (x2.toNatClampNeg)).toInt32) dX13_tellRow_6 rfl ?_
  refine mj_istore_n 2 (lv2 := [(2, .int ((s.2.1 1006 (x2.toNatClampNeg)).toInt32)), (0, .ref 950), (1, .int x2)]) dX13_tellRow_7 rfl (by decide) rfl ?_
  refine mj_iload_n dX13_tellRow_8 0 rfl ?_
  by_cases hout : ((s.2.1 1006 (x2.toNatClampNeg)).toInt32).toInt < 0 ∨ 7 < ((s.2.1 1006 (x2.toNatClampNeg)).toInt32).toInt
  · replace hk := t_pos hk hout
    refine mj_tableOut 212 dX13_tellRow_9 hout (by decide) ?_
    refine mj_aload_n dX13_tellRow_212 1 rfl ?_
    refine mj_iload_n dX13_tellRow_213 0 rfl ?_
    refine mj_bipush (v := 6) dX13_tellRow_214 (by decide) ?_
    refine mj_icmp_ne 224 dX13_tellRow_216 (by decide) (fun z => t_negK hk z (fun hk => ?_)) (fun z => t_posK hk z (fun hk => ?_))
    · refine mj_bipush (v := 91) dX13_tellRow_224 (by decide) ?_
      refine mj_sublv [(0, .ref 950), (1, .int x2), (2, .int ((s.2.1 1006 (x2.toNatClampNeg)).toInt32))] [1, 2, 0] rfl ?_
      exact B_X13_tellRow_226 rc H _ _ _ _ _ hk
    · refine mj_bipush (v := 123) dX13_tellRow_219 (by decide) ?_
      refine mj_goto 226 dX13_tellRow_221 (by decide) ?_
      refine mj_sublv [(0, .ref 950), (1, .int x2), (2, .int ((s.2.1 1006 (x2.toNatClampNeg)).toInt32))] [1, 2, 0] rfl ?_
      exact B_X13_tellRow_226 rc H _ _ _ _ _ hk
  · replace hk := t_neg hk hout
    have hh1 : ¬ ((s.2.1 1006 (x2.toNatClampNeg)).toInt32).toInt < 0 := fun z => hout (Or.inl z)
    have hh2 : ¬ (7 : Int) < ((s.2.1 1006 (x2.toNatClampNeg)).toInt32).toInt := fun z => hout (Or.inr z)
    by_cases h0 : ((s.2.1 1006 (x2.toNatClampNeg)).toInt32).toInt = 0
    · replace hk := t_pos hk h0
      refine mj_tableIn 56 dX13_tellRow_9 hh1 hh2 (by rw [h0]; rfl) (by decide) ?_
      refine mj_aload_n dX13_tellRow_56 1 rfl ?_
      refine mj_aload_n dX13_tellRow_57 1 rfl ?_
      refine t_getR 1006 dX13_tellRow_58 F_X13_182 qr_950_95 ?_
      refine mj_iload_n dX13_tellRow_61 2 rfl ?_
      refine mj_iconst (v := 1) dX13_tellRow_62 (by decide) ?_
      refine mj_iadd dX13_tellRow_63 ?_
      refine t_chkK hk (fun c1 hk => ?_)
      refine t_lald dX13_tellRow_64 qa_1006 (t_ixv c1) ?_
      refine t_bndK hk (fun r3 er3 hk => ?_)
      refine t_callVvE dX13_tellRow_65 M_X13_writeNumber (C_X13_writeNumber _ _ _ er3) ML_X13_1015 IM_X13_writeNumber SE_X13_writeNumber qc_950 rfl (As := [.long (s.2.1 1006 ((x2 + (1 : Int32)).toNatClampNeg))]) rfl rfl (by omega) (Nat.le_of_ble_eq_true rfl) (Nat.le_of_ble_eq_true rfl) (Nat.le_of_ble_eq_true rfl) ?_
      exact t_somK hk (fun hf => t_vret dX13_tellRow_68 rfl ⟨rfl, hf⟩ (Nat.le_of_ble_eq_true rfl) (Nat.le_of_ble_eq_true rfl))
    replace hk := t_neg hk h0
    by_cases h1 : ((s.2.1 1006 (x2.toNatClampNeg)).toInt32).toInt = 1
    · replace hk := t_pos hk h1
      refine mj_tableIn 69 dX13_tellRow_9 hh1 hh2 (by rw [h1]; rfl) (by decide) ?_
      refine mj_aload_n dX13_tellRow_69 1 rfl ?_
      refine mj_aload_n dX13_tellRow_70 1 rfl ?_
      refine t_getR 1006 dX13_tellRow_71 F_X13_182 qr_950_95 ?_
      refine mj_iload_n dX13_tellRow_74 2 rfl ?_
      refine mj_iconst (v := 1) dX13_tellRow_75 (by decide) ?_
      refine mj_iadd dX13_tellRow_76 ?_
      refine t_chkK hk (fun c3 hk => ?_)
      refine t_lald dX13_tellRow_77 qa_1006 (t_ixv c3) ?_
      refine mj_lconst (v := 1) dX13_tellRow_78 (by decide) ?_
      refine mj_lcmp dX13_tellRow_79 ?_
      refine mj_if_ne 89 dX13_tellRow_80 (by decide) (fun z => t_negK hk z (fun hk => ?_)) (fun z => t_posK hk z (fun hk => ?_))
      · refine mj_ldcwE dX13_tellRow_89 TX_X13_1020 ?_
        refine mj_sublv [] [] rfl ?_
        exact B_X13_tellRow_92 rc H _ _ _ hk
      · refine mj_ldcwE dX13_tellRow_83 TX_X13_1018 ?_
        refine mj_goto 92 dX13_tellRow_86 (by decide) ?_
        refine mj_sublv [] [] rfl ?_
        exact B_X13_tellRow_92 rc H _ _ _ hk
    replace hk := t_neg hk h1
    by_cases h2 : ((s.2.1 1006 (x2.toNatClampNeg)).toInt32).toInt = 2
    · replace hk := t_pos hk h2
      refine mj_tableIn 96 dX13_tellRow_9 hh1 hh2 (by rw [h2]; rfl) (by decide) ?_
      refine mj_aload_n dX13_tellRow_96 1 rfl ?_
      refine mj_bipush (v := 34) dX13_tellRow_97 (by decide) ?_
      refine t_bndK hk (fun r5 er5 hk => ?_)
      refine t_callVvE dX13_tellRow_99 M_X13_write (C_X13_write _ _ _ er5) ML_X13_1012 IM_X13_write SE_X13_write qc_950 rfl (As := [.int 34]) rfl rfl (by omega) (Nat.le_of_ble_eq_true rfl) (Nat.le_of_ble_eq_true rfl) (Nat.le_of_ble_eq_true rfl) ?_
      refine mj_iconst (v := 0) dX13_tellRow_102 (by decide) ?_
      refine mj_istore_n 3 (lv2 := [(3, .int 0), (2, .int ((s.2.1 1006 (x2.toNatClampNeg)).toInt32)), (0, .ref 950), (1, .int x2)]) dX13_tellRow_103 rfl (by decide) rfl ?_
      refine mj_sublv [(0, .ref 950), (1, .int x2), (3, .int 0)] [2, 3, 0] rfl ?_
      exact LH_X13_tellRow_104 rc H _ x2 0 r5 _ hk
    replace hk := t_neg hk h2
    by_cases h3 : ((s.2.1 1006 (x2.toNatClampNeg)).toInt32).toInt = 3
    · replace hk := t_pos hk h3
      refine mj_tableIn 140 dX13_tellRow_9 hh1 hh2 (by rw [h3]; rfl) (by decide) ?_
      refine mj_aload_n dX13_tellRow_140 1 rfl ?_
      refine mj_aload_n dX13_tellRow_141 1 rfl ?_
      refine t_getR 1006 dX13_tellRow_142 F_X13_182 qr_950_95 ?_
      refine mj_iload_n dX13_tellRow_145 2 rfl ?_
      refine mj_iconst (v := 1) dX13_tellRow_146 (by decide) ?_
      refine mj_iadd dX13_tellRow_147 ?_
      refine t_chkK hk (fun c5 hk => ?_)
      refine t_lald dX13_tellRow_148 qa_1006 (t_ixv c5) ?_
      refine t_bndK hk (fun r7 er7 hk => ?_)
      refine t_callVvE dX13_tellRow_149 M_X13_writeName (C_X13_writeName _ _ _ er7) ML_X13_1026 IM_X13_writeName SE_X13_writeName qc_950 rfl (As := [.long (s.2.1 1006 ((x2 + (1 : Int32)).toNatClampNeg))]) rfl rfl (by omega) (Nat.le_of_ble_eq_true rfl) (Nat.le_of_ble_eq_true rfl) (Nat.le_of_ble_eq_true rfl) ?_
      exact t_somK hk (fun hf => t_vret dX13_tellRow_152 rfl ⟨rfl, hf⟩ (Nat.le_of_ble_eq_true rfl) (Nat.le_of_ble_eq_true rfl))
    replace hk := t_neg hk h3
    by_cases h4 : ((s.2.1 1006 (x2.toNatClampNeg)).toInt32).toInt = 4
    · replace hk := t_pos hk h4
      refine mj_tableIn 153 dX13_tellRow_9 hh1 hh2 (by rw [h4]; rfl) (by decide) ?_
      refine mj_aload_n dX13_tellRow_153 1 rfl ?_
      refine mj_ldcwE dX13_tellRow_154 TX_X13_1029 ?_
      refine t_bndK hk (fun r8 er8 hk => ?_)
      refine t_callVvE dX13_tellRow_157 M_X13_writeWords (C_X13_writeWords _ _ _ er8) ML_X13_1022 IM_X13_writeWords SE_X13_writeWords qc_950 rfl (As := [.ref (1000000 + 3)]) rfl rfl (by omega) (Nat.le_of_ble_eq_true rfl) (Nat.le_of_ble_eq_true rfl) (Nat.le_of_ble_eq_true rfl) ?_
      exact t_somK hk (fun hf => t_vret dX13_tellRow_160 rfl ⟨rfl, hf⟩ (Nat.le_of_ble_eq_true rfl) (Nat.le_of_ble_eq_true rfl))
    replace hk := t_neg hk h4
    by_cases h5 : ((s.2.1 1006 (x2.toNatClampNeg)).toInt32).toInt = 5
    · replace hk := t_pos hk h5
      refine mj_tableIn 161 dX13_tellRow_9 hh1 hh2 (by rw [h5]; rfl) (by decide) ?_
      refine mj_aload_n dX13_tellRow_161 1 rfl ?_
      refine mj_bipush (v := 35) dX13_tellRow_162 (by decide) ?_
      refine t_bndK hk (fun r9 er9 hk => ?_)
      refine t_callVvE dX13_tellRow_164 M_X13_write (C_X13_write _ _ _ er9) ML_X13_1012 IM_X13_write SE_X13_write qc_950 rfl (As := [.int 35]) rfl rfl (by omega) (Nat.le_of_ble_eq_true rfl) (Nat.le_of_ble_eq_true rfl) (Nat.le_of_ble_eq_true rfl) ?_
      refine mj_aload_n dX13_tellRow_167 1 rfl ?_
      refine mj_aload_n dX13_tellRow_168 1 rfl ?_
      refine t_getR 1006 dX13_tellRow_169 F_X13_182 qr_950_95 ?_
      refine mj_iload_n dX13_tellRow_172 2 rfl ?_
      refine mj_iconst (v := 1) dX13_tellRow_173 (by decide) ?_
      refine mj_iadd dX13_tellRow_174 ?_
      refine t_chkK hk (fun c9 hk => ?_)
      refine t_lald dX13_tellRow_175 qa_1006 (t_ixv c9) ?_
      refine t_bndK hk (fun r11 er11 hk => ?_)
      refine t_callVvE dX13_tellRow_176 M_X13_writeNumber (C_X13_writeNumber _ _ _ er11) ML_X13_1015 IM_X13_writeNumber SE_X13_writeNumber qc_950 rfl (As := [.long (r9.2.1 1006 ((x2 + (1 : Int32)).toNatClampNeg))]) rfl rfl (by omega) (Nat.le_of_ble_eq_true rfl) (Nat.le_of_ble_eq_true rfl) (Nat.le_of_ble_eq_true rfl) ?_
      exact t_somK hk (fun hf => t_vret dX13_tellRow_179 rfl ⟨rfl, hf⟩ (Nat.le_of_ble_eq_true rfl) (Nat.le_of_ble_eq_true rfl))
    replace hk := t_neg hk h5
    by_cases h6 : ((s.2.1 1006 (x2.toNatClampNeg)).toInt32).toInt = 6
    · replace hk := t_pos hk h6
      refine mj_tableIn 212 dX13_tellRow_9 hh1 hh2 (by rw [h6]; rfl) (by decide) ?_
      refine mj_aload_n dX13_tellRow_212 1 rfl ?_
      refine mj_iload_n dX13_tellRow_213 0 rfl ?_
      refine mj_bipush (v := 6) dX13_tellRow_214 (by decide) ?_
      refine mj_icmp_ne 224 dX13_tellRow_216 (by decide) (fun z => t_negK hk z (fun hk => ?_)) (fun z => t_posK hk z (fun hk => ?_))
      · refine mj_bipush (v := 91) dX13_tellRow_224 (by decide) ?_
        refine mj_sublv [(0, .ref 950), (1, .int x2), (2, .int ((s.2.1 1006 (x2.toNatClampNeg)).toInt32))] [1, 2, 0] rfl ?_
        exact B_X13_tellRow_226 rc H _ _ _ _ _ hk
      · refine mj_bipush (v := 123) dX13_tellRow_219 (by decide) ?_
        refine mj_goto 226 dX13_tellRow_221 (by decide) ?_
        refine mj_sublv [(0, .ref 950), (1, .int x2), (2, .int ((s.2.1 1006 (x2.toNatClampNeg)).toInt32))] [1, 2, 0] rfl ?_
        exact B_X13_tellRow_226 rc H _ _ _ _ _ hk
    replace hk := t_neg hk h6
    have h7 : ((s.2.1 1006 (x2.toNatClampNeg)).toInt32).toInt = 7 := by omega
    refine mj_tableIn 180 dX13_tellRow_9 hh1 hh2 (by rw [h7]; rfl) (by decide) ?_
    refine mj_aload_n dX13_tellRow_180 1 rfl ?_
    refine mj_bipush (v := 64) dX13_tellRow_181 (by decide) ?_
    refine t_bndK hk (fun r12 er12 hk => ?_)
    refine t_callVvE dX13_tellRow_183 M_X13_write (C_X13_write _ _ _ er12) ML_X13_1012 IM_X13_write SE_X13_write qc_950 rfl (As := [.int 64]) rfl rfl (by omega) (Nat.le_of_ble_eq_true rfl) (Nat.le_of_ble_eq_true rfl) (Nat.le_of_ble_eq_true rfl) ?_
    refine mj_aload_n dX13_tellRow_186 1 rfl ?_
    refine mj_aload_n dX13_tellRow_187 1 rfl ?_
    refine t_getR 1006 dX13_tellRow_188 F_X13_182 qr_950_95 ?_
    refine mj_iload_n dX13_tellRow_191 2 rfl ?_
    refine mj_iconst (v := 1) dX13_tellRow_192 (by decide) ?_
    refine mj_iadd dX13_tellRow_193 ?_
    refine t_chkK hk (fun c12 hk => ?_)
    refine t_lald dX13_tellRow_194 qa_1006 (t_ixv c12) ?_
    refine t_bndK hk (fun r14 er14 hk => ?_)
    refine t_callVvE dX13_tellRow_195 M_X13_writeName (C_X13_writeName _ _ _ er14) ML_X13_1026 IM_X13_writeName SE_X13_writeName qc_950 rfl (As := [.long (r12.2.1 1006 ((x2 + (1 : Int32)).toNatClampNeg))]) rfl rfl (by omega) (Nat.le_of_ble_eq_true rfl) (Nat.le_of_ble_eq_true rfl) (Nat.le_of_ble_eq_true rfl) ?_
    refine mj_aload_n dX13_tellRow_198 1 rfl ?_
    refine mj_bipush (v := 32) dX13_tellRow_199 (by decide) ?_
    refine t_bndK hk (fun r15 er15 hk => ?_)
    refine t_callVvE dX13_tellRow_201 M_X13_write (C_X13_write _ _ _ er15) ML_X13_1012 IM_X13_write SE_X13_write qc_950 rfl (As := [.int 32]) rfl rfl (by omega) (Nat.le_of_ble_eq_true rfl) (Nat.le_of_ble_eq_true rfl) (Nat.le_of_ble_eq_true rfl) ?_
    refine mj_aload_n dX13_tellRow_204 1 rfl ?_
    refine mj_iload_n dX13_tellRow_205 2 rfl ?_
    refine mj_iconst (v := 2) dX13_tellRow_206 (by decide) ?_
    refine mj_iadd dX13_tellRow_207 ?_
    refine t_bndK hk (fun r16 er16 hk => ?_)
    refine t_callSvE dX13_tellRow_208 M_X13_tellRow (H _ _ _ er16) ML_X13_1031 SM_X13_tellRow (As := [.ref 950, .int (x2 + (2 : Int32))]) rfl rfl (by omega) (Nat.le_of_ble_eq_true rfl) (Nat.le_of_ble_eq_true rfl) (Nat.le_of_ble_eq_true rfl) ?_
    exact t_somK hk (fun hf => t_vret dX13_tellRow_211 rfl ⟨rfl, hf⟩ (Nat.le_of_ble_eq_true rfl) (Nat.le_of_ble_eq_true rfl))
/-- so many calls deep -/
noncomputable def R_X13_tellRow : Nat → RT_X13_tellRow
  | 0 => fun _ _ => none
  | k + 1 => fun x2 s => m_X13_tellRow (R_X13_tellRow k) x2 s
theorem RR_X13_tellRow : ∀ k : Nat, RH_X13_tellRow (R_X13_tellRow k) k := by
  intro k
  induction k with
  | zero => exact fun _ _ _ h => (by cases h)
  | succ k ih => exact fun x2 s r h => E_X13_tellRow (R_X13_tellRow k) ih x2 s r h
noncomputable def f_X13_tellRow (x2 : Int32) (s : t_S) : Option (t_S) := (R_X13_tellRow 200) x2 s
theorem C_X13_tellRow (x2 : Int32) (s : t_S) (r : t_S) (hr : f_X13_tellRow x2 s = some r) : t_C yX13_tellRow cX13_tellRow 4 none 205 [.ref 950, .int x2] s (fun v s' => v = none ∧ s' = r) := (RR_X13_tellRow 200) x2 s r hr

theorem dX13_tell_0 : decode cX13_tell 0 = .ok (.aload_n 0, 1) := by decide +kernel
theorem dX13_tell_1 : decode cX13_tell 1 = .ok (.iload_n 1, 1) := by decide +kernel
theorem dX13_tell_10 : decode cX13_tell 10 = .ok (.aload_n 0, 1) := by decide +kernel
theorem dX13_tell_11 : decode cX13_tell 11 = .ok (.iconst 0, 1) := by decide +kernel
theorem dX13_tell_12 : decode cX13_tell 12 = .ok (.putfield 1009, 3) := by decide +kernel
theorem dX13_tell_15 : decode cX13_tell 15 = .ok (.aload_n 0, 1) := by decide +kernel
theorem dX13_tell_16 : decode cX13_tell 16 = .ok (.sipush 260, 3) := by decide +kernel
theorem dX13_tell_19 : decode cX13_tell 19 = .ok (.iconst 0, 1) := by decide +kernel
theorem dX13_tell_2 : decode cX13_tell 2 = .ok (.invokevirtual 1002, 3) := by decide +kernel
theorem dX13_tell_20 : decode cX13_tell 20 = .ok (.iload_n 1, 1) := by decide +kernel
theorem dX13_tell_21 : decode cX13_tell 21 = .ok (.iadd, 1) := by decide +kernel
theorem dX13_tell_22 : decode cX13_tell 22 = .ok (.imul, 1) := by decide +kernel
theorem dX13_tell_23 : decode cX13_tell 23 = .ok (.invokestatic 1031, 3) := by decide +kernel
theorem dX13_tell_26 : decode cX13_tell 26 = .ok (.aload_n 0, 1) := by decide +kernel
theorem dX13_tell_27 : decode cX13_tell 27 = .ok (.getfield 1009, 3) := by decide +kernel
theorem dX13_tell_30 : decode cX13_tell 30 = .ok (.ireturn, 1) := by decide +kernel
theorem dX13_tell_5 : decode cX13_tell 5 = .ok (.ifCond .eq 5, 3) := by decide +kernel
theorem dX13_tell_8 : decode cX13_tell 8 = .ok (.iconst (-1), 1) := by decide +kernel
theorem dX13_tell_9 : decode cX13_tell 9 = .ok (.ireturn, 1) := by decide +kernel
noncomputable def f_X13_tell (x1 : Int32) (s : t_S) : Option (Int32 × t_S) :=
 if (f_X13_noValue x1 s) = (0 : Int32) then (t_let (t_setI s 950 106 (0 : Int32)) (fun s1 =>
 (f_X13_tellRow ((260 : Int32) * ((0 : Int32) + x1)) s1).bind (fun r2 =>
 some ((r2.1 950 106), r2))))
 else (some ((-1 : Int32), s))
set_option maxRecDepth 4000 in
set_option maxHeartbeats 1000000 in
theorem C_X13_tell (x1 : Int32) (s : t_S) (r : Int32 × t_S) (hr : f_X13_tell x1 s = some r) : t_C yX13_tell cX13_tell 2 (some .int) 206 [.ref 950, .int x1] s (fun v s' => v = some (.int r.1) ∧ s' = r.2) := by
  refine t_C.imp (P := fun v s' => ∃ x, v = some (.int x) ∧ (fun q => q = r) ((x, s'))) (t_C.of (by decide +kernel) (Nat.le_of_ble_eq_true rfl) ?_) (fun v s' hp => by obtain ⟨x, rfl, rfl⟩ := hp; exact ⟨rfl, rfl⟩)
  intro D cy ad bs X
  have hk : t_hk (f_X13_tell x1 s) (fun q => q = r) := ⟨r, hr, rfl⟩
  show mj_G D cy ad bs X cX13_tell 2 yX13_tell.cls (some .int) yX13_tell.name 206 0 0 1065 (t_P (fun v s' => ∃ x, v = some (.int x) ∧ (fun q => q = r) ((x, s')))) 0 [(0, .ref 950), (1, .int x1)] [] (t_m s) 1065 0 0
  refine mj_aload_n dX13_tell_0 0 rfl ?_
  refine mj_iload_n dX13_tell_1 1 rfl ?_
  refine t_callViP dX13_tell_2 M_X13_noValue (C_X13_noValue _ _) ML_X13_1002 IM_X13_noValue SE_X13_noValue qc_950 rfl (As := [.int x1]) rfl rfl (Nat.le_of_ble_eq_true rfl) (Nat.le_of_ble_eq_true rfl) (Nat.le_of_ble_eq_true rfl) (Nat.le_of_ble_eq_true rfl) ?_
  refine mj_if_eq 10 dX13_tell_5 (by decide) (fun z => t_posK hk z (fun hk => ?_)) (fun z => t_negK hk z (fun hk => ?_))
  · refine mj_aload_n dX13_tell_10 0 rfl ?_
    refine mj_iconst (v := 0) dX13_tell_11 (by decide) ?_
    refine t_putIK dX13_tell_12 F_X13_1009 qf_950_106 rfl (fun s1 ws1 => t_letE hk ws1 (fun hk => ?_))
    refine mj_aload_n dX13_tell_15 0 rfl ?_
    refine mj_sipush (v := 260) dX13_tell_16 (by decide) ?_
    refine mj_iconst (v := 0) dX13_tell_19 (by decide) ?_
    refine mj_iload_n dX13_tell_20 1 rfl ?_
    refine mj_iadd dX13_tell_21 ?_
    refine mj_imul dX13_tell_22 ?_
    refine t_bndK hk (fun r2 er2 hk => ?_)
    refine t_callSvE dX13_tell_23 M_X13_tellRow (C_X13_tellRow _ _ _ er2) ML_X13_1031 SM_X13_tellRow (As := [.ref 950, .int ((260 : Int32) * ((0 : Int32) + x1))]) rfl rfl (Nat.le_of_ble_eq_true rfl) (Nat.le_of_ble_eq_true rfl) (Nat.le_of_ble_eq_true rfl) (Nat.le_of_ble_eq_true rfl) ?_
    refine mj_aload_n dX13_tell_26 0 rfl ?_
    refine t_getI dX13_tell_27 F_X13_1009 qf_950_106 ?_
    exact t_somK hk (fun hf => t_iret dX13_tell_30 rfl rfl ⟨_, rfl, hf⟩ (Nat.le_of_ble_eq_true rfl) (Nat.le_of_ble_eq_true rfl))
  · refine mj_iconst (v := (-1)) dX13_tell_8 (by decide) ?_
    exact t_somK hk (fun hf => t_iret dX13_tell_9 rfl rfl ⟨_, rfl, hf⟩ (Nat.le_of_ble_eq_true rfl) (Nat.le_of_ble_eq_true rfl))

theorem dX13_timer_0 : decode cX13_timer 0 = .ok (.aload_n 0, 1) := by decide +kernel
theorem dX13_timer_1 : decode cX13_timer 1 = .ok (.iload_n 1, 1) := by decide +kernel
theorem dX13_timer_12 : decode cX13_timer 12 = .ok (.iload_n 2, 1) := by decide +kernel
theorem dX13_timer_13 : decode cX13_timer 13 = .ok (.aload_n 0, 1) := by decide +kernel
theorem dX13_timer_14 : decode cX13_timer 14 = .ok (.getfield 84, 3) := by decide +kernel
theorem dX13_timer_17 : decode cX13_timer 17 = .ok (.aload_n 0, 1) := by decide +kernel
theorem dX13_timer_18 : decode cX13_timer 18 = .ok (.getfield 273, 3) := by decide +kernel
theorem dX13_timer_2 : decode cX13_timer 2 = .ok (.invokevirtual 1352, 3) := by decide +kernel
theorem dX13_timer_21 : decode cX13_timer 21 = .ok (.iload_n 1, 1) := by decide +kernel
theorem dX13_timer_22 : decode cX13_timer 22 = .ok (.iaload, 1) := by decide +kernel
theorem dX13_timer_23 : decode cX13_timer 23 = .ok (.iaload, 1) := by decide +kernel
theorem dX13_timer_24 : decode cX13_timer 24 = .ok (.if_icmp .lt 5, 3) := by decide +kernel
theorem dX13_timer_27 : decode cX13_timer 27 = .ok (.iconst (-1), 1) := by decide +kernel
theorem dX13_timer_28 : decode cX13_timer 28 = .ok (.ireturn, 1) := by decide +kernel
theorem dX13_timer_29 : decode cX13_timer 29 = .ok (.aload_n 0, 1) := by decide +kernel
theorem dX13_timer_30 : decode cX13_timer 30 = .ok (.getfield 321, 3) := by decide +kernel
theorem dX13_timer_33 : decode cX13_timer 33 = .ok (.iconst 4, 1) := by decide +kernel
theorem dX13_timer_34 : decode cX13_timer 34 = .ok (.iload_n 1, 1) := by decide +kernel
theorem dX13_timer_35 : decode cX13_timer 35 = .ok (.imul, 1) := by decide +kernel
theorem dX13_timer_36 : decode cX13_timer 36 = .ok (.iload_n 2, 1) := by decide +kernel
theorem dX13_timer_37 : decode cX13_timer 37 = .ok (.iadd, 1) := by decide +kernel
theorem dX13_timer_38 : decode cX13_timer 38 = .ok (.laload, 1) := by decide +kernel
theorem dX13_timer_39 : decode cX13_timer 39 = .ok (.lstore_n 3, 1) := by decide +kernel
theorem dX13_timer_40 : decode cX13_timer 40 = .ok (.lload_n 3, 1) := by decide +kernel
theorem dX13_timer_41 : decode cX13_timer 41 = .ok (.lconst 0, 1) := by decide +kernel
theorem dX13_timer_42 : decode cX13_timer 42 = .ok (.lcmp, 1) := by decide +kernel
theorem dX13_timer_43 : decode cX13_timer 43 = .ok (.ifCond .ge 8, 3) := by decide +kernel
theorem dX13_timer_46 : decode cX13_timer 46 = .ok (.bipush (-2), 2) := by decide +kernel
theorem dX13_timer_48 : decode cX13_timer 48 = .ok (.goto 23, 3) := by decide +kernel
theorem dX13_timer_5 : decode cX13_timer 5 = .ok (.ifCond .ne 22, 3) := by decide +kernel
theorem dX13_timer_51 : decode cX13_timer 51 = .ok (.lload_n 3, 1) := by decide +kernel
theorem dX13_timer_52 : decode cX13_timer 52 = .ok (.aload_n 0, 1) := by decide +kernel
theorem dX13_timer_53 : decode cX13_timer 53 = .ok (.getfield 920, 3) := by decide +kernel
theorem dX13_timer_56 : decode cX13_timer 56 = .ok (.lcmp, 1) := by decide +kernel
theorem dX13_timer_57 : decode cX13_timer 57 = .ok (.ifCond .gt 7, 3) := by decide +kernel
theorem dX13_timer_60 : decode cX13_timer 60 = .ok (.iconst 0, 1) := by decide +kernel
theorem dX13_timer_61 : decode cX13_timer 61 = .ok (.goto 10, 3) := by decide +kernel
theorem dX13_timer_64 : decode cX13_timer 64 = .ok (.lload_n 3, 1) := by decide +kernel
theorem dX13_timer_65 : decode cX13_timer 65 = .ok (.aload_n 0, 1) := by decide +kernel
theorem dX13_timer_66 : decode cX13_timer 66 = .ok (.getfield 920, 3) := by decide +kernel
theorem dX13_timer_69 : decode cX13_timer 69 = .ok (.lsub, 1) := by decide +kernel
theorem dX13_timer_70 : decode cX13_timer 70 = .ok (.l2i, 1) := by decide +kernel
theorem dX13_timer_71 : decode cX13_timer 71 = .ok (.ireturn, 1) := by decide +kernel
theorem dX13_timer_8 : decode cX13_timer 8 = .ok (.iload_n 2, 1) := by decide +kernel
theorem dX13_timer_9 : decode cX13_timer 9 = .ok (.ifCond .lt 18, 3) := by decide +kernel
noncomputable def f_X13_timer (x1 : Int32) (x2 : Int32) (s : t_S) : Option (Int32) :=
 if (f_X13_noComponent x1 s) = (0 : Int32) then (if x2 < (0 : Int32) then (some (-1 : Int32))
 else (if t_ix x1 8 = true then
  if t_ix (s.1 1035 (x1.toNatClampNeg)) 8 = true then
  if x2 < (s.1 974 ((s.1 1035 (x1.toNatClampNeg)).toNatClampNeg)) then (if t_ix (((4 : Int32) * x1) + x2) 32 = true then
  if (0 : Int32) ≤ (lg_cmp (s.2.1 1051 ((((4 : Int32) * x1) + x2).toNatClampNeg)) (0 : Int64)) then (if (0 : Int32) < (lg_cmp (s.2.1 1051 ((((4 : Int32) * x1) + x2).toNatClampNeg)) (s.2.1 950 148)) then (some (((s.2.1 1051 ((((4 : Int32) * x1) + x2).toNatClampNeg)) - (s.2.1 950 148)).toInt32))
 else (some (0 : Int32)))
 else (some (-2 : Int32))
else none)
 else (some (-1 : Int32))
else none
else none))
 else (some (-1 : Int32))
set_option maxRecDepth 4000 in
set_option maxHeartbeats 1000000 in
theorem C_X13_timer (x1 : Int32) (x2 : Int32) (s : t_S) (r : Int32) (hr : f_X13_timer x1 x2 s = some r) : t_C yX13_timer cX13_timer 5 (some .int) 1 [.ref 950, .int x1, .int x2] s (fun v s' => v = some (.int r) ∧ s' = s) := by
  refine t_C.imp (P := fun v s' => s' = s ∧ ∃ x, v = some (.int x) ∧ (fun q => q = r) (x)) (t_C.of (by decide +kernel) (Nat.le_of_ble_eq_true rfl) ?_) (fun v s' hp => by obtain ⟨rfl, x, rfl, rfl⟩ := hp; exact ⟨rfl, rfl⟩)
  intro D cy ad bs X
  have hk : t_hk (f_X13_timer x1 x2 s) (fun q => q = r) := ⟨r, hr, rfl⟩
  show mj_G D cy ad bs X cX13_timer 5 yX13_timer.cls (some .int) yX13_timer.name 1 0 0 1065 (t_P (fun v s' => s' = s ∧ ∃ x, v = some (.int x) ∧ (fun q => q = r) (x))) 0 [(0, .ref 950), (1, .int x1), (2, .int x2)] [] (t_m s) 1065 0 0
  refine mj_aload_n dX13_timer_0 0 rfl ?_
  refine mj_iload_n dX13_timer_1 1 rfl ?_
  refine t_callViP dX13_timer_2 M_X13_noComponent (C_X13_noComponent _ _) ML_X13_1352 IM_X13_noComponent SE_X13_noComponent qc_950 rfl (As := [.int x1]) rfl rfl (Nat.le_of_ble_eq_true rfl) (Nat.le_of_ble_eq_true rfl) (Nat.le_of_ble_eq_true rfl) (Nat.le_of_ble_eq_true rfl) ?_
  refine mj_if_ne 27 dX13_timer_5 (by decide) (fun z => t_negK hk z (fun hk => ?_)) (fun z => t_posK hk z (fun hk => ?_))
  · refine mj_iconst (v := (-1)) dX13_timer_27 (by decide) ?_
    exact t_somK hk (fun hf => t_iret dX13_timer_28 rfl rfl ⟨rfl, _, rfl, hf⟩ (Nat.le_of_ble_eq_true rfl) (Nat.le_of_ble_eq_true rfl))
  · refine mj_iload_n dX13_timer_8 2 rfl ?_
    refine mj_if_lt 27 dX13_timer_9 (by decide) (fun z => t_posK hk z (fun hk => ?_)) (fun z => t_negK hk z (fun hk => ?_))
    · refine mj_iconst (v := (-1)) dX13_timer_27 (by decide) ?_
      exact t_somK hk (fun hf => t_iret dX13_timer_28 rfl rfl ⟨rfl, _, rfl, hf⟩ (Nat.le_of_ble_eq_true rfl) (Nat.le_of_ble_eq_true rfl))
    · refine mj_iload_n dX13_timer_12 2 rfl ?_
      refine mj_aload_n dX13_timer_13 0 rfl ?_
      refine t_getR 974 dX13_timer_14 F_X13_84 qr_950_49 ?_
      refine mj_aload_n dX13_timer_17 0 rfl ?_
      refine t_getR 1035 dX13_timer_18 F_X13_273 qr_950_150 ?_
      refine mj_iload_n dX13_timer_21 1 rfl ?_
      refine t_chkK hk (fun c1 hk => ?_)
      refine t_iald dX13_timer_22 qa_1035 (t_ixv c1) ?_
      refine t_chkK hk (fun c2 hk => ?_)
      refine t_iald dX13_timer_23 qa_974 (t_ixv c2) ?_
      refine mj_icmp_lt 29 dX13_timer_24 (by decide) (fun z => t_posK hk z (fun hk => ?_)) (fun z => t_negK hk z (fun hk => ?_))
      · refine mj_aload_n dX13_timer_29 0 rfl ?_
        refine t_getR 1051 dX13_timer_30 F_X13_321 qr_950_166 ?_
        refine mj_iconst (v := 4) dX13_timer_33 (by decide) ?_
        refine mj_iload_n dX13_timer_34 1 rfl ?_
        refine mj_imul dX13_timer_35 ?_
        refine mj_iload_n dX13_timer_36 2 rfl ?_
        refine mj_iadd dX13_timer_37 ?_
        refine t_chkK hk (fun c3 hk => ?_)
        refine t_lald dX13_timer_38 qa_1051 (t_ixv c3) ?_
        refine mj_lstore_n 3 (lv2 := [(3, .long (s.2.1 1051 ((((4 : Int32) * x1) + x2).toNatClampNeg))), (0, .ref 950), (1, .int x1), (2, .int x2)]) dX13_timer_39 rfl (by decide) rfl ?_
        refine mj_lload_n dX13_timer_40 0 rfl ?_
        refine mj_lconst (v := 0) dX13_timer_41 (by decide) ?_
        refine mj_lcmp dX13_timer_42 ?_
        refine mj_if_ge 51 dX13_timer_43 (by decide) (fun z => t_posK hk z (fun hk => ?_)) (fun z => t_negK hk z (fun hk => ?_))
        · refine mj_lload_n dX13_timer_51 0 rfl ?_
          refine mj_aload_n dX13_timer_52 1 rfl ?_
          refine t_getJ dX13_timer_53 F_X13_920 qf_950_148 ?_
          refine mj_lcmp dX13_timer_56 ?_
          refine mj_if_gt 64 dX13_timer_57 (by decide) (fun z => t_posK hk z (fun hk => ?_)) (fun z => t_negK hk z (fun hk => ?_))
          · refine mj_lload_n dX13_timer_64 0 rfl ?_
            refine mj_aload_n dX13_timer_65 1 rfl ?_
            refine t_getJ dX13_timer_66 F_X13_920 qf_950_148 ?_
            refine mj_lsub dX13_timer_69 ?_
            refine mj_l2i (v := ((s.2.1 1051 ((((4 : Int32) * x1) + x2).toNatClampNeg)) - (s.2.1 950 148)).toInt32) dX13_timer_70 rfl ?_
            exact t_somK hk (fun hf => t_iret dX13_timer_71 rfl rfl ⟨rfl, _, rfl, hf⟩ (Nat.le_of_ble_eq_true rfl) (Nat.le_of_ble_eq_true rfl))
          · refine mj_iconst (v := 0) dX13_timer_60 (by decide) ?_
            refine mj_goto 71 dX13_timer_61 (by decide) ?_
            exact t_somK hk (fun hf => t_iret dX13_timer_71 rfl rfl ⟨rfl, _, rfl, hf⟩ (Nat.le_of_ble_eq_true rfl) (Nat.le_of_ble_eq_true rfl))
        · refine mj_bipush (v := (-2)) dX13_timer_46 (by decide) ?_
          refine mj_goto 71 dX13_timer_48 (by decide) ?_
          exact t_somK hk (fun hf => t_iret dX13_timer_71 rfl rfl ⟨rfl, _, rfl, hf⟩ (Nat.le_of_ble_eq_true rfl) (Nat.le_of_ble_eq_true rfl))
      · refine mj_iconst (v := (-1)) dX13_timer_27 (by decide) ?_
        exact t_somK hk (fun hf => t_iret dX13_timer_28 rfl rfl ⟨rfl, _, rfl, hf⟩ (Nat.le_of_ble_eq_true rfl) (Nat.le_of_ble_eq_true rfl))

