/-! Methods as functions, 51: X13_one, X13_signOf, X13_joinRows, X13_size -/
theorem dX13_one_0 : decode cX13_one 0 = .ok (.aload_n 0, 1) := by decide +kernel
theorem dX13_one_1 : decode cX13_one 1 = .ok (.invokevirtual 941, 3) := by decide +kernel
theorem dX13_one_10 : decode cX13_one 10 = .ok (.laload, 1) := by decide +kernel
theorem dX13_one_102 : decode cX13_one 102 = .ok (.goto 25, 3) := by decide +kernel
theorem dX13_one_105 : decode cX13_one 105 = .ok (.aload_n 0, 1) := by decide +kernel
theorem dX13_one_106 : decode cX13_one 106 = .ok (.aload_n 0, 1) := by decide +kernel
theorem dX13_one_107 : decode cX13_one 107 = .ok (.getfield 182, 3) := by decide +kernel
theorem dX13_one_11 : decode cX13_one 11 = .ok (.l2i, 1) := by decide +kernel
theorem dX13_one_110 : decode cX13_one 110 = .ok (.iload_n 3, 1) := by decide +kernel
theorem dX13_one_111 : decode cX13_one 111 = .ok (.iconst 1, 1) := by decide +kernel
theorem dX13_one_112 : decode cX13_one 112 = .ok (.iadd, 1) := by decide +kernel
theorem dX13_one_113 : decode cX13_one 113 = .ok (.laload, 1) := by decide +kernel
theorem dX13_one_114 : decode cX13_one 114 = .ok (.lconst 0, 1) := by decide +kernel
theorem dX13_one_115 : decode cX13_one 115 = .ok (.lcmp, 1) := by decide +kernel
theorem dX13_one_116 : decode cX13_one 116 = .ok (.ifCond .ne 7, 3) := by decide +kernel
theorem dX13_one_119 : decode cX13_one 119 = .ok (.iconst 1, 1) := by decide +kernel
theorem dX13_one_12 : decode cX13_one 12 = .ok (.istore 4, 2) := by decide +kernel
theorem dX13_one_120 : decode cX13_one 120 = .ok (.goto 4, 3) := by decide +kernel
theorem dX13_one_123 : decode cX13_one 123 = .ok (.iconst 0, 1) := by decide +kernel
theorem dX13_one_124 : decode cX13_one 124 = .ok (.invokevirtual 910, 3) := by decide +kernel
theorem dX13_one_127 : decode cX13_one 127 = .ok (.return_, 1) := by decide +kernel
theorem dX13_one_128 : decode cX13_one 128 = .ok (.iload 4, 2) := by decide +kernel
theorem dX13_one_130 : decode cX13_one 130 = .ok (.iconst 2, 1) := by decide +kernel
theorem dX13_one_131 : decode cX13_one 131 = .ok (.if_icmp .eq 25, 3) := by decide +kernel
theorem dX13_one_134 : decode cX13_one 134 = .ok (.iload 4, 2) := by decide +kernel
theorem dX13_one_136 : decode cX13_one 136 = .ok (.bipush 8, 2) := by decide +kernel
theorem dX13_one_138 : decode cX13_one 138 = .ok (.if_icmp .eq 18, 3) := by decide +kernel
theorem dX13_one_14 : decode cX13_one 14 = .ok (.aload_n 0, 1) := by decide +kernel
theorem dX13_one_141 : decode cX13_one 141 = .ok (.iload 4, 2) := by decide +kernel
theorem dX13_one_143 : decode cX13_one 143 = .ok (.bipush 6, 2) := by decide +kernel
theorem dX13_one_145 : decode cX13_one 145 = .ok (.if_icmp .eq 11, 3) := by decide +kernel
theorem dX13_one_148 : decode cX13_one 148 = .ok (.aload_n 0, 1) := by decide +kernel
theorem dX13_one_149 : decode cX13_one 149 = .ok (.iconst 1, 1) := by decide +kernel
theorem dX13_one_15 : decode cX13_one 15 = .ok (.dup, 1) := by decide +kernel
theorem dX13_one_150 : decode cX13_one 150 = .ok (.invokevirtual 866, 3) := by decide +kernel
theorem dX13_one_153 : decode cX13_one 153 = .ok (.goto 15, 3) := by decide +kernel
theorem dX13_one_156 : decode cX13_one 156 = .ok (.aload_n 0, 1) := by decide +kernel
theorem dX13_one_157 : decode cX13_one 157 = .ok (.aload_n 0, 1) := by decide +kernel
theorem dX13_one_158 : decode cX13_one 158 = .ok (.getfield 182, 3) := by decide +kernel
theorem dX13_one_16 : decode cX13_one 16 = .ok (.getfield 858, 3) := by decide +kernel
theorem dX13_one_161 : decode cX13_one 161 = .ok (.iload_n 3, 1) := by decide +kernel
theorem dX13_one_162 : decode cX13_one 162 = .ok (.iconst 1, 1) := by decide +kernel
theorem dX13_one_163 : decode cX13_one 163 = .ok (.iadd, 1) := by decide +kernel
theorem dX13_one_164 : decode cX13_one 164 = .ok (.laload, 1) := by decide +kernel
theorem dX13_one_165 : decode cX13_one 165 = .ok (.invokevirtual 906, 3) := by decide +kernel
theorem dX13_one_168 : decode cX13_one 168 = .ok (.return_, 1) := by decide +kernel
theorem dX13_one_169 : decode cX13_one 169 = .ok (.iload 4, 2) := by decide +kernel
theorem dX13_one_171 : decode cX13_one 171 = .ok (.iconst 5, 1) := by decide +kernel
theorem dX13_one_172 : decode cX13_one 172 = .ok (.if_icmp .eq 11, 3) := by decide +kernel
theorem dX13_one_175 : decode cX13_one 175 = .ok (.aload_n 0, 1) := by decide +kernel
theorem dX13_one_176 : decode cX13_one 176 = .ok (.iconst 1, 1) := by decide +kernel
theorem dX13_one_177 : decode cX13_one 177 = .ok (.invokevirtual 866, 3) := by decide +kernel
theorem dX13_one_180 : decode cX13_one 180 = .ok (.goto 30, 3) := by decide +kernel
theorem dX13_one_183 : decode cX13_one 183 = .ok (.aload_n 0, 1) := by decide +kernel
theorem dX13_one_184 : decode cX13_one 184 = .ok (.aload_n 0, 1) := by decide +kernel
theorem dX13_one_185 : decode cX13_one 185 = .ok (.getfield 276, 3) := by decide +kernel
theorem dX13_one_188 : decode cX13_one 188 = .ok (.aload_n 0, 1) := by decide +kernel
theorem dX13_one_189 : decode cX13_one 189 = .ok (.getfield 182, 3) := by decide +kernel
theorem dX13_one_19 : decode cX13_one 19 = .ok (.iconst 1, 1) := by decide +kernel
theorem dX13_one_192 : decode cX13_one 192 = .ok (.iload_n 3, 1) := by decide +kernel
theorem dX13_one_193 : decode cX13_one 193 = .ok (.iconst 1, 1) := by decide +kernel
theorem dX13_one_194 : decode cX13_one 194 = .ok (.iadd, 1) := by decide +kernel
theorem dX13_one_195 : decode cX13_one 195 = .ok (.laload, 1) := by decide +kernel
theorem dX13_one_196 : decode cX13_one 196 = .ok (.l2i, 1) := by decide +kernel
theorem dX13_one_197 : decode cX13_one 197 = .ok (.iaload, 1) := by decide +kernel
theorem dX13_one_198 : decode cX13_one 198 = .ok (.iconst 2, 1) := by decide +kernel
theorem dX13_one_199 : decode cX13_one 199 = .ok (.if_icmp .ne 7, 3) := by decide +kernel
theorem dX13_one_20 : decode cX13_one 20 = .ok (.isub, 1) := by decide +kernel
theorem dX13_one_202 : decode cX13_one 202 = .ok (.iconst 1, 1) := by decide +kernel
theorem dX13_one_203 : decode cX13_one 203 = .ok (.goto 4, 3) := by decide +kernel
theorem dX13_one_206 : decode cX13_one 206 = .ok (.iconst 0, 1) := by decide +kernel
theorem dX13_one_207 : decode cX13_one 207 = .ok (.invokevirtual 910, 3) := by decide +kernel
theorem dX13_one_21 : decode cX13_one 21 = .ok (.putfield 858, 3) := by decide +kernel
theorem dX13_one_210 : decode cX13_one 210 = .ok (.return_, 1) := by decide +kernel
theorem dX13_one_211 : decode cX13_one 211 = .ok (.iload 4, 2) := by decide +kernel
theorem dX13_one_213 : decode cX13_one 213 = .ok (.iconst 4, 1) := by decide +kernel
theorem dX13_one_214 : decode cX13_one 214 = .ok (.if_icmp .ne 9, 3) := by decide +kernel
theorem dX13_one_217 : decode cX13_one 217 = .ok (.aload_n 0, 1) := by decide +kernel
theorem dX13_one_218 : decode cX13_one 218 = .ok (.iconst 1, 1) := by decide +kernel
theorem dX13_one_219 : decode cX13_one 219 = .ok (.invokevirtual 866, 3) := by decide +kernel
theorem dX13_one_222 : decode cX13_one 222 = .ok (.return_, 1) := by decide +kernel
theorem dX13_one_223 : decode cX13_one 223 = .ok (.aload_n 0, 1) := by decide +kernel
theorem dX13_one_224 : decode cX13_one 224 = .ok (.getfield 185, 3) := by decide +kernel
theorem dX13_one_227 : decode cX13_one 227 = .ok (.iconst 0, 1) := by decide +kernel
theorem dX13_one_228 : decode cX13_one 228 = .ok (.ldc2_w 697, 3) := by decide +kernel
theorem dX13_one_231 : decode cX13_one 231 = .ok (.lastore, 1) := by decide +kernel
theorem dX13_one_232 : decode cX13_one 232 = .ok (.aload_n 0, 1) := by decide +kernel
theorem dX13_one_233 : decode cX13_one 233 = .ok (.getfield 185, 3) := by decide +kernel
theorem dX13_one_236 : decode cX13_one 236 = .ok (.iconst 1, 1) := by decide +kernel
theorem dX13_one_237 : decode cX13_one 237 = .ok (.aload_n 0, 1) := by decide +kernel
theorem dX13_one_238 : decode cX13_one 238 = .ok (.getfield 32, 3) := by decide +kernel
theorem dX13_one_24 : decode cX13_one 24 = .ok (.iload_n 2, 1) := by decide +kernel
theorem dX13_one_241 : decode cX13_one 241 = .ok (.iload_n 1, 1) := by decide +kernel
theorem dX13_one_242 : decode cX13_one 242 = .ok (.laload, 1) := by decide +kernel
theorem dX13_one_243 : decode cX13_one 243 = .ok (.lastore, 1) := by decide +kernel
theorem dX13_one_244 : decode cX13_one 244 = .ok (.aload_n 0, 1) := by decide +kernel
theorem dX13_one_245 : decode cX13_one 245 = .ok (.iconst 2, 1) := by decide +kernel
theorem dX13_one_246 : decode cX13_one 246 = .ok (.iload_n 3, 1) := by decide +kernel
theorem dX13_one_247 : decode cX13_one 247 = .ok (.invokevirtual 956, 3) := by decide +kernel
theorem dX13_one_25 : decode cX13_one 25 = .ok (.tableswitch 232 62 67 #[144, 232, 39, 66, 103, 186], 39) := by decide +kernel
theorem dX13_one_250 : decode cX13_one 250 = .ok (.istore 5, 2) := by decide +kernel
theorem dX13_one_252 : decode cX13_one 252 = .ok (.aload_n 0, 1) := by decide +kernel
theorem dX13_one_253 : decode cX13_one 253 = .ok (.invokevirtual 959, 3) := by decide +kernel
theorem dX13_one_256 : decode cX13_one 256 = .ok (.return_, 1) := by decide +kernel
theorem dX13_one_257 : decode cX13_one 257 = .ok (.aload_n 0, 1) := by decide +kernel
theorem dX13_one_258 : decode cX13_one 258 = .ok (.iload_n 1, 1) := by decide +kernel
theorem dX13_one_259 : decode cX13_one 259 = .ok (.iload_n 3, 1) := by decide +kernel
theorem dX13_one_260 : decode cX13_one 260 = .ok (.iload 4, 2) := by decide +kernel
theorem dX13_one_262 : decode cX13_one 262 = .ok (.invokevirtual 962, 3) := by decide +kernel
theorem dX13_one_265 : decode cX13_one 265 = .ok (.return_, 1) := by decide +kernel
theorem dX13_one_4 : decode cX13_one 4 = .ok (.istore_n 3, 1) := by decide +kernel
theorem dX13_one_5 : decode cX13_one 5 = .ok (.aload_n 0, 1) := by decide +kernel
theorem dX13_one_6 : decode cX13_one 6 = .ok (.getfield 182, 3) := by decide +kernel
theorem dX13_one_64 : decode cX13_one 64 = .ok (.iload 4, 2) := by decide +kernel
theorem dX13_one_66 : decode cX13_one 66 = .ok (.ifCond .eq 11, 3) := by decide +kernel
theorem dX13_one_69 : decode cX13_one 69 = .ok (.aload_n 0, 1) := by decide +kernel
theorem dX13_one_70 : decode cX13_one 70 = .ok (.iconst 1, 1) := by decide +kernel
theorem dX13_one_71 : decode cX13_one 71 = .ok (.invokevirtual 866, 3) := by decide +kernel
theorem dX13_one_74 : decode cX13_one 74 = .ok (.goto 16, 3) := by decide +kernel
theorem dX13_one_77 : decode cX13_one 77 = .ok (.aload_n 0, 1) := by decide +kernel
theorem dX13_one_78 : decode cX13_one 78 = .ok (.aload_n 0, 1) := by decide +kernel
theorem dX13_one_79 : decode cX13_one 79 = .ok (.getfield 182, 3) := by decide +kernel
theorem dX13_one_82 : decode cX13_one 82 = .ok (.iload_n 3, 1) := by decide +kernel
theorem dX13_one_83 : decode cX13_one 83 = .ok (.iconst 1, 1) := by decide +kernel
theorem dX13_one_84 : decode cX13_one 84 = .ok (.iadd, 1) := by decide +kernel
theorem dX13_one_85 : decode cX13_one 85 = .ok (.laload, 1) := by decide +kernel
theorem dX13_one_86 : decode cX13_one 86 = .ok (.lneg, 1) := by decide +kernel
theorem dX13_one_87 : decode cX13_one 87 = .ok (.invokevirtual 906, 3) := by decide +kernel
theorem dX13_one_9 : decode cX13_one 9 = .ok (.iload_n 3, 1) := by decide +kernel
theorem dX13_one_90 : decode cX13_one 90 = .ok (.return_, 1) := by decide +kernel
theorem dX13_one_91 : decode cX13_one 91 = .ok (.iload 4, 2) := by decide +kernel
theorem dX13_one_93 : decode cX13_one 93 = .ok (.iconst 1, 1) := by decide +kernel
theorem dX13_one_94 : decode cX13_one 94 = .ok (.if_icmp .eq 11, 3) := by decide +kernel
theorem dX13_one_97 : decode cX13_one 97 = .ok (.aload_n 0, 1) := by decide +kernel
theorem dX13_one_98 : decode cX13_one 98 = .ok (.iconst 1, 1) := by decide +kernel
theorem dX13_one_99 : decode cX13_one 99 = .ok (.invokevirtual 866, 3) := by decide +kernel
noncomputable def k_X13_one_124 (k0 : Int32) (s : t_S) : Option (t_S) :=
 (f_X13_pushTruth k0 s).bind (fun r1 =>
 some (r1))
set_option maxRecDepth 4000 in
set_option maxHeartbeats 1000000 in
theorem B_X13_one_124 {D : va_G} {cy : Nat → ClassId} {ad : Nat → Nat} {bs : Nat} {X : State → Heap → Prop} (k0 : Int32) (s : t_S) (Q : t_S → Prop) (hk : t_hk (k_X13_one_124 k0 s) Q) : mj_G D cy ad bs X cX13_one 6 yX13_one.cls none yX13_one.name 5 0 0 1065 (t_P (fun v s' => v = none ∧ Q (s'))) 124 [] [.int k0, .ref 950] (t_m s) 1065 0 0 := by
  refine t_bndK hk (fun r1 er1 hk => ?_)
  refine t_callVvE dX13_one_124 M_X13_pushTruth (C_X13_pushTruth _ _ _ er1) ML_X13_910 IM_X13_pushTruth SE_X13_pushTruth qc_950 rfl (As := [.int k0]) rfl rfl (Nat.le_of_ble_eq_true rfl) (Nat.le_of_ble_eq_true rfl) (Nat.le_of_ble_eq_true rfl) (Nat.le_of_ble_eq_true rfl) ?_
  exact t_somK hk (fun hf => t_vret dX13_one_127 rfl ⟨rfl, hf⟩ (Nat.le_of_ble_eq_true rfl) (Nat.le_of_ble_eq_true rfl))
noncomputable def k_X13_one_156 (l3 : Int32) (s : t_S) : Option (t_S) :=
 if t_ix (l3 + (1 : Int32)) 626600 = true then
  (f_X13_pushNumber (s.2.1 1006 ((l3 + (1 : Int32)).toNatClampNeg)) s).bind (fun r2 =>
 some (r2))
else none
set_option maxRecDepth 4000 in
set_option maxHeartbeats 1000000 in
theorem B_X13_one_156 {D : va_G} {cy : Nat → ClassId} {ad : Nat → Nat} {bs : Nat} {X : State → Heap → Prop} (l3 : Int32) (s : t_S) (Q : t_S → Prop) (hk : t_hk (k_X13_one_156 l3 s) Q) : mj_G D cy ad bs X cX13_one 6 yX13_one.cls none yX13_one.name 5 0 0 1065 (t_P (fun v s' => v = none ∧ Q (s'))) 156 [(0, .ref 950), (3, .int l3)] [] (t_m s) 1065 0 0 := by
  refine mj_aload_n dX13_one_156 0 rfl ?_
  refine mj_aload_n dX13_one_157 0 rfl ?_
  refine t_getR 1006 dX13_one_158 F_X13_182 qr_950_95 ?_
  refine mj_iload_n dX13_one_161 1 rfl ?_
  refine mj_iconst (v := 1) dX13_one_162 (by decide) ?_
  refine mj_iadd dX13_one_163 ?_
  refine t_chkK hk (fun c0 hk => ?_)
  refine t_lald dX13_one_164 qa_1006 (t_ixv c0) ?_
  refine t_bndK hk (fun r2 er2 hk => ?_)
  refine t_callVvE dX13_one_165 M_X13_pushNumber (C_X13_pushNumber _ _ _ er2) ML_X13_906 IM_X13_pushNumber SE_X13_pushNumber qc_950 rfl (As := [.long (s.2.1 1006 ((l3 + (1 : Int32)).toNatClampNeg))]) rfl rfl (Nat.le_of_ble_eq_true rfl) (Nat.le_of_ble_eq_true rfl) (Nat.le_of_ble_eq_true rfl) (Nat.le_of_ble_eq_true rfl) ?_
  exact t_somK hk (fun hf => t_vret dX13_one_168 rfl ⟨rfl, hf⟩ (Nat.le_of_ble_eq_true rfl) (Nat.le_of_ble_eq_true rfl))
noncomputable def k_X13_one_207 (k0 : Int32) (s : t_S) : Option (t_S) :=
 (f_X13_pushTruth k0 s).bind (fun r1 =>
 some (r1))
set_option maxRecDepth 4000 in
set_option maxHeartbeats 1000000 in
theorem B_X13_one_207 {D : va_G} {cy : Nat → ClassId} {ad : Nat → Nat} {bs : Nat} {X : State → Heap → Prop} (k0 : Int32) (s : t_S) (Q : t_S → Prop) (hk : t_hk (k_X13_one_207 k0 s) Q) : mj_G D cy ad bs X cX13_one 6 yX13_one.cls none yX13_one.name 5 0 0 1065 (t_P (fun v s' => v = none ∧ Q (s'))) 207 [] [.int k0, .ref 950] (t_m s) 1065 0 0 := by
  refine t_bndK hk (fun r1 er1 hk => ?_)
  refine t_callVvE dX13_one_207 M_X13_pushTruth (C_X13_pushTruth _ _ _ er1) ML_X13_910 IM_X13_pushTruth SE_X13_pushTruth qc_950 rfl (As := [.int k0]) rfl rfl (Nat.le_of_ble_eq_true rfl) (Nat.le_of_ble_eq_true rfl) (Nat.le_of_ble_eq_true rfl) (Nat.le_of_ble_eq_true rfl) ?_
  exact t_somK hk (fun hf => t_vret dX13_one_210 rfl ⟨rfl, hf⟩ (Nat.le_of_ble_eq_true rfl) (Nat.le_of_ble_eq_true rfl))
noncomputable def f_X13_one (x1 : Int32) (x2 : Int32) (s : t_S) : Option (t_S) :=
 if t_ix (f_X13_top s) 626600 = true then
  t_let (t_setI s 950 98 ((s.1 950 98) - (1 : Int32))) (fun s1 =>
 if x2.toInt < 62 ∨ 67 < x2.toInt then ((f_X13_dot x1 (f_X13_top s) ((s.2.1 1006 ((f_X13_top s).toNatClampNeg)).toInt32) s1).bind (fun r3 =>
 some (r3)))
 else if x2.toInt = 62 then (if ((s.2.1 1006 ((f_X13_top s).toNatClampNeg)).toInt32) = (5 : Int32) then (if t_ix ((f_X13_top s) + (1 : Int32)) 626600 = true then
  if t_ix ((s1.2.1 1006 (((f_X13_top s) + (1 : Int32)).toNatClampNeg)).toInt32) 8 = true then
  if (s1.1 1036 (((s1.2.1 1006 (((f_X13_top s) + (1 : Int32)).toNatClampNeg)).toInt32).toNatClampNeg)) = (2 : Int32) then (k_X13_one_207 1 s1)
 else (k_X13_one_207 0 s1)
else none
else none)
 else ((f_X13_error (1 : Int32) s1).bind (fun r6 =>
 some (r6))))
 else if x2.toInt = 63 then ((f_X13_dot x1 (f_X13_top s) ((s.2.1 1006 ((f_X13_top s).toNatClampNeg)).toInt32) s1).bind (fun r7 =>
 some (r7)))
 else if x2.toInt = 64 then (if ((s.2.1 1006 ((f_X13_top s).toNatClampNeg)).toInt32) = (0 : Int32) then (if t_ix ((f_X13_top s) + (1 : Int32)) 626600 = true then
  (f_X13_pushNumber (-(s1.2.1 1006 (((f_X13_top s) + (1 : Int32)).toNatClampNeg))) s1).bind (fun r9 =>
 some (r9))
else none)
 else ((f_X13_error (1 : Int32) s1).bind (fun r10 =>
 some (r10))))
 else if x2.toInt = 65 then (if ((s.2.1 1006 ((f_X13_top s).toNatClampNeg)).toInt32) = (1 : Int32) then (if t_ix ((f_X13_top s) + (1 : Int32)) 626600 = true then
  if (lg_cmp (s1.2.1 1006 (((f_X13_top s) + (1 : Int32)).toNatClampNeg)) (0 : Int64)) = (0 : Int32) then (k_X13_one_124 1 s1)
 else (k_X13_one_124 0 s1)
else none)
 else ((f_X13_error (1 : Int32) s1).bind (fun r12 =>
 some (r12))))
 else if x2.toInt = 66 then (if ((s.2.1 1006 ((f_X13_top s).toNatClampNeg)).toInt32) = (2 : Int32) then (k_X13_one_156 (f_X13_top s) s1)
 else (if ((s.2.1 1006 ((f_X13_top s).toNatClampNeg)).toInt32) = (8 : Int32) then (k_X13_one_156 (f_X13_top s) s1)
 else (if ((s.2.1 1006 ((f_X13_top s).toNatClampNeg)).toInt32) = (6 : Int32) then (k_X13_one_156 (f_X13_top s) s1)
 else ((f_X13_error (1 : Int32) s1).bind (fun r13 =>
 some (r13))))))
 else (if ((s.2.1 1006 ((f_X13_top s).toNatClampNeg)).toInt32) = (4 : Int32) then ((f_X13_error (1 : Int32) s1).bind (fun r17 =>
 some (r17)))
 else (t_let (t_setJ s1 1007 ((0 : Int32).toNatClampNeg) (7 : Int64)) (fun s2 =>
 if t_ix x1 13000 = true then
  t_let (t_setJ s2 1007 ((1 : Int32).toNatClampNeg) (s2.2.1 957 (x1.toNatClampNeg))) (fun s3 =>
 (f_X13_putMade (2 : Int32) (f_X13_top s) s3).bind (fun r15 =>
 (f_X13_pushMade r15.2).bind (fun r16 =>
 some (r16))))
else none))))
else none
set_option maxRecDepth 4000 in
set_option maxHeartbeats 1000000 in
theorem C_X13_one (x1 : Int32) (x2 : Int32) (s : t_S) (r : t_S) (hr : f_X13_one x1 x2 s = some r) : t_C yX13_one cX13_one 6 none 5 [.ref 950, .int x1, .int x2] s (fun v s' => v = none ∧ s' = r) := by
  refine t_C.imp (P := fun v s' => v = none ∧ (fun q => q = r) (s')) (t_C.of (by decide +kernel) (Nat.le_of_ble_eq_true rfl) ?_) (fun v s' hp => hp)
  intro D cy ad bs X
  have hk : t_hk (f_X13_one x1 x2 s) (fun q => q = r) := ⟨r, hr, rfl⟩
  show mj_G D cy ad bs X cX13_one 6 yX13_one.cls none yX13_one.name 5 0 0 1065 (t_P (fun v s' => v = none ∧ (fun q => q = r) (s'))) 0 [(0, .ref 950), (1, .int x1), (2, .int x2)] [] (t_m s) 1065 0 0
  refine mj_aload_n dX13_one_0 0 rfl ?_
  refine t_callViP dX13_one_1 M_X13_top (C_X13_top _) ML_X13_941 IM_X13_top SE_X13_top qc_950 rfl (As := []) rfl rfl (Nat.le_of_ble_eq_true rfl) (Nat.le_of_ble_eq_true rfl) (Nat.le_of_ble_eq_true rfl) (Nat.le_of_ble_eq_true rfl) ?_
  refine mj_istore_n 3 (lv2 := [(3, .int (f_X13_top s)), (0, .ref 950), (1, .int x1), (2, .int x2)]) dX13_one_4 rfl (by decide) rfl ?_
  refine mj_aload_n dX13_one_5 1 rfl ?_
  refine t_getR 1006 dX13_one_6 F_X13_182 qr_950_95 ?_
  refine mj_iload_n dX13_one_9 0 rfl ?_
  refine t_chkK hk (fun c1 hk => ?_)
  refine t_lald dX13_one_10 qa_1006 (t_ixv c1) ?_
  refine mj_l2i (v := (s.2.1 1006 ((f_X13_top s).toNatClampNeg)).toInt32) dX13_one_11 rfl ?_
  refine mj_istore (lv2 := [(4, .int ((s.2.1 1006 ((f_X13_top s).toNatClampNeg)).toInt32)), (3, .int (f_X13_top s)), (0, .ref 950), (1, .int x1), (2, .int x2)]) dX13_one_12 (by decide) rfl ?_
  refine mj_aload_n dX13_one_14 2 rfl ?_
  refine mj_dup dX13_one_15 rfl ?_
  refine t_getI dX13_one_16 F_X13_858 qf_950_98 ?_
  refine mj_iconst (v := 1) dX13_one_19 (by decide) ?_
  refine mj_isub dX13_one_20 ?_
  refine t_putIK dX13_one_21 F_X13_858 qf_950_98 rfl (fun s1 ws1 => t_letE hk ws1 (fun hk => ?_))
  refine mj_iload_n dX13_one_24 4 rfl ?_
  by_cases hout : x2.toInt < 62 ∨ 67 < x2.toInt
  · replace hk := t_pos hk hout
    refine mj_tableOut 257 dX13_one_25 hout (by decide) ?_
    refine mj_aload_n dX13_one_257 2 rfl ?_
    refine mj_iload_n dX13_one_258 3 rfl ?_
    refine mj_iload_n dX13_one_259 1 rfl ?_
    refine mj_iload dX13_one_260 0 rfl ?_
    refine t_bndK hk (fun r3 er3 hk => ?_)
    refine t_callVvE dX13_one_262 M_X13_dot (C_X13_dot _ _ _ _ _ er3) ML_X13_962 IM_X13_dot SE_X13_dot qc_950 rfl (As := [.int x1, .int (f_X13_top s), .int ((s.2.1 1006 ((f_X13_top s).toNatClampNeg)).toInt32)]) rfl rfl (Nat.le_of_ble_eq_true rfl) (Nat.le_of_ble_eq_true rfl) (Nat.le_of_ble_eq_true rfl) (Nat.le_of_ble_eq_true rfl) ?_
    exact t_somK hk (fun hf => t_vret dX13_one_265 rfl ⟨rfl, hf⟩ (Nat.le_of_ble_eq_true rfl) (Nat.le_of_ble_eq_true rfl))
  · replace hk := t_neg hk hout
    have hh1 : ¬ x2.toInt < 62 := fun z => hout (Or.inl z)
    have hh2 : ¬ (67 : Int) < x2.toInt := fun z => hout (Or.inr z)
    by_cases h0 : x2.toInt = 62
    · replace hk := t_pos hk h0
      refine mj_tableIn 169 dX13_one_25 hh1 hh2 (by rw [h0]; rfl) (by decide) ?_
      refine mj_iload dX13_one_169 0 rfl ?_
      refine mj_iconst (v := 5) dX13_one_171 (by decide) ?_
      refine mj_icmp_eq 183 dX13_one_172 (by decide) (fun z => t_posK hk z (fun hk => ?_)) (fun z => t_negK hk z (fun hk => ?_))
      · refine mj_aload_n dX13_one_183 2 rfl ?_
        refine mj_aload_n dX13_one_184 2 rfl ?_
        refine t_getR 1036 dX13_one_185 F_X13_276 qr_950_151 ?_
        refine mj_aload_n dX13_one_188 2 rfl ?_
        refine t_getR 1006 dX13_one_189 F_X13_182 qr_950_95 ?_
        refine mj_iload_n dX13_one_192 1 rfl ?_
        refine mj_iconst (v := 1) dX13_one_193 (by decide) ?_
        refine mj_iadd dX13_one_194 ?_
        refine t_chkK hk (fun c3 hk => ?_)
        refine t_lald dX13_one_195 qa_1006 (t_ixv c3) ?_
        refine mj_l2i (v := (s1.2.1 1006 (((f_X13_top s) + (1 : Int32)).toNatClampNeg)).toInt32) dX13_one_196 rfl ?_
        refine t_chkK hk (fun c4 hk => ?_)
        refine t_iald dX13_one_197 qa_1036 (t_ixv c4) ?_
        refine mj_iconst (v := 2) dX13_one_198 (by decide) ?_
        refine mj_icmp_ne 206 dX13_one_199 (by decide) (fun z => t_negK hk z (fun hk => ?_)) (fun z => t_posK hk z (fun hk => ?_))
        · refine mj_iconst (v := 0) dX13_one_206 (by decide) ?_
          refine mj_sublv [] [] rfl ?_
          exact B_X13_one_207 _ _ _ hk
        · refine mj_iconst (v := 1) dX13_one_202 (by decide) ?_
          refine mj_goto 207 dX13_one_203 (by decide) ?_
          refine mj_sublv [] [] rfl ?_
          exact B_X13_one_207 _ _ _ hk
      · refine mj_aload_n dX13_one_175 2 rfl ?_
        refine mj_iconst (v := 1) dX13_one_176 (by decide) ?_
        refine t_bndK hk (fun r6 er6 hk => ?_)
        refine t_callVvE dX13_one_177 M_X13_error (C_X13_error _ _ _ er6) ML_X13_866 IM_X13_error SE_X13_error qc_950 rfl (As := [.int 1]) rfl rfl (Nat.le_of_ble_eq_true rfl) (Nat.le_of_ble_eq_true rfl) (Nat.le_of_ble_eq_true rfl) (Nat.le_of_ble_eq_true rfl) ?_
        refine mj_goto 210 dX13_one_180 (by decide) ?_
        exact t_somK hk (fun hf => t_vret dX13_one_210 rfl ⟨rfl, hf⟩ (Nat.le_of_ble_eq_true rfl) (Nat.le_of_ble_eq_true rfl))
    replace hk := t_neg hk h0
    by_cases h1 : x2.toInt = 63
    · replace hk := t_pos hk h1
      refine mj_tableIn 257 dX13_one_25 hh1 hh2 (by rw [h1]; rfl) (by decide) ?_
      refine mj_aload_n dX13_one_257 2 rfl ?_
      refine mj_iload_n dX13_one_258 3 rfl ?_
      refine mj_iload_n dX13_one_259 1 rfl ?_
      refine mj_iload dX13_one_260 0 rfl ?_
      refine t_bndK hk (fun r7 er7 hk => ?_)
      refine t_callVvE dX13_one_262 M_X13_dot (C_X13_dot _ _ _ _ _ er7) ML_X13_962 IM_X13_dot SE_X13_dot qc_950 rfl (As := [.int x1, .int (f_X13_top s), .int ((s.2.1 1006 ((f_X13_top s).toNatClampNeg)).toInt32)]) rfl rfl (Nat.le_of_ble_eq_true rfl) (Nat.le_of_ble_eq_true rfl) (Nat.le_of_ble_eq_true rfl) (Nat.le_of_ble_eq_true rfl) ?_
      exact t_somK hk (fun hf => t_vret dX13_one_265 rfl ⟨rfl, hf⟩ (Nat.le_of_ble_eq_true rfl) (Nat.le_of_ble_eq_true rfl))
    replace hk := t_neg hk h1
    by_cases h2 : x2.toInt = 64
    · replace hk := t_pos hk h2
      refine mj_tableIn 64 dX13_one_25 hh1 hh2 (by rw [h2]; rfl) (by decide) ?_
      refine mj_iload dX13_one_64 0 rfl ?_
      refine mj_if_eq 77 dX13_one_66 (by decide) (fun z => t_posK hk z (fun hk => ?_)) (fun z => t_negK hk z (fun hk => ?_))
      · refine mj_aload_n dX13_one_77 2 rfl ?_
        refine mj_aload_n dX13_one_78 2 rfl ?_
        refine t_getR 1006 dX13_one_79 F_X13_182 qr_950_95 ?_
        refine mj_iload_n dX13_one_82 1 rfl ?_
        refine mj_iconst (v := 1) dX13_one_83 (by decide) ?_
        refine mj_iadd dX13_one_84 ?_
        refine t_chkK hk (fun c7 hk => ?_)
        refine t_lald dX13_one_85 qa_1006 (t_ixv c7) ?_
        refine mj_lneg dX13_one_86 ?_
        refine t_bndK hk (fun r9 er9 hk => ?_)
        refine t_callVvE dX13_one_87 M_X13_pushNumber (C_X13_pushNumber _ _ _ er9) ML_X13_906 IM_X13_pushNumber SE_X13_pushNumber qc_950 rfl (As := [.long (-(s1.2.1 1006 (((f_X13_top s) + (1 : Int32)).toNatClampNeg)))]) rfl rfl (Nat.le_of_ble_eq_true rfl) (Nat.le_of_ble_eq_true rfl) (Nat.le_of_ble_eq_true rfl) (Nat.le_of_ble_eq_true rfl) ?_
        exact t_somK hk (fun hf => t_vret dX13_one_90 rfl ⟨rfl, hf⟩ (Nat.le_of_ble_eq_true rfl) (Nat.le_of_ble_eq_true rfl))
      · refine mj_aload_n dX13_one_69 2 rfl ?_
        refine mj_iconst (v := 1) dX13_one_70 (by decide) ?_
        refine t_bndK hk (fun r10 er10 hk => ?_)
        refine t_callVvE dX13_one_71 M_X13_error (C_X13_error _ _ _ er10) ML_X13_866 IM_X13_error SE_X13_error qc_950 rfl (As := [.int 1]) rfl rfl (Nat.le_of_ble_eq_true rfl) (Nat.le_of_ble_eq_true rfl) (Nat.le_of_ble_eq_true rfl) (Nat.le_of_ble_eq_true rfl) ?_
        refine mj_goto 90 dX13_one_74 (by decide) ?_
        exact t_somK hk (fun hf => t_vret dX13_one_90 rfl ⟨rfl, hf⟩ (Nat.le_of_ble_eq_true rfl) (Nat.le_of_ble_eq_true rfl))
    replace hk := t_neg hk h2
    by_cases h3 : x2.toInt = 65
    · replace hk := t_pos hk h3
      refine mj_tableIn 91 dX13_one_25 hh1 hh2 (by rw [h3]; rfl) (by decide) ?_
      refine mj_iload dX13_one_91 0 rfl ?_
      refine mj_iconst (v := 1) dX13_one_93 (by decide) ?_
      refine mj_icmp_eq 105 dX13_one_94 (by decide) (fun z => t_posK hk z (fun hk => ?_)) (fun z => t_negK hk z (fun hk => ?_))
      · refine mj_aload_n dX13_one_105 2 rfl ?_
        refine mj_aload_n dX13_one_106 2 rfl ?_
        refine t_getR 1006 dX13_one_107 F_X13_182 qr_950_95 ?_
        refine mj_iload_n dX13_one_110 1 rfl ?_
        refine mj_iconst (v := 1) dX13_one_111 (by decide) ?_
        refine mj_iadd dX13_one_112 ?_
        refine t_chkK hk (fun c10 hk => ?_)
        refine t_lald dX13_one_113 qa_1006 (t_ixv c10) ?_
        refine mj_lconst (v := 0) dX13_one_114 (by decide) ?_
        refine mj_lcmp dX13_one_115 ?_
        refine mj_if_ne 123 dX13_one_116 (by decide) (fun z => t_negK hk z (fun hk => ?_)) (fun z => t_posK hk z (fun hk => ?_))
        · refine mj_iconst (v := 0) dX13_one_123 (by decide) ?_
          refine mj_sublv [] [] rfl ?_
          exact B_X13_one_124 _ _ _ hk
        · refine mj_iconst (v := 1) dX13_one_119 (by decide) ?_
          refine mj_goto 124 dX13_one_120 (by decide) ?_
          refine mj_sublv [] [] rfl ?_
          exact B_X13_one_124 _ _ _ hk
      · refine mj_aload_n dX13_one_97 2 rfl ?_
        refine mj_iconst (v := 1) dX13_one_98 (by decide) ?_
        refine t_bndK hk (fun r12 er12 hk => ?_)
        refine t_callVvE dX13_one_99 M_X13_error (C_X13_error _ _ _ er12) ML_X13_866 IM_X13_error SE_X13_error qc_950 rfl (As := [.int 1]) rfl rfl (Nat.le_of_ble_eq_true rfl) (Nat.le_of_ble_eq_true rfl) (Nat.le_of_ble_eq_true rfl) (Nat.le_of_ble_eq_true rfl) ?_
        refine mj_goto 127 dX13_one_102 (by decide) ?_
        exact t_somK hk (fun hf => t_vret dX13_one_127 rfl ⟨rfl, hf⟩ (Nat.le_of_ble_eq_true rfl) (Nat.le_of_ble_eq_true rfl))
    replace hk := t_neg hk h3
    by_cases h4 : x2.toInt = 66
    · replace hk := t_pos hk h4
      refine mj_tableIn 128 dX13_one_25 hh1 hh2 (by rw [h4]; rfl) (by decide) ?_
      refine mj_iload dX13_one_128 0 rfl ?_
      refine mj_iconst (v := 2) dX13_one_130 (by decide) ?_
      refine mj_icmp_eq 156 dX13_one_131 (by decide) (fun z => t_posK hk z (fun hk => ?_)) (fun z => t_negK hk z (fun hk => ?_))
      · refine mj_sublv [(0, .ref 950), (3, .int (f_X13_top s))] [2, 1] rfl ?_
        exact B_X13_one_156 _ _ _ hk
      · refine mj_iload dX13_one_134 0 rfl ?_
        refine mj_bipush (v := 8) dX13_one_136 (by decide) ?_
        refine mj_icmp_eq 156 dX13_one_138 (by decide) (fun z => t_posK hk z (fun hk => ?_)) (fun z => t_negK hk z (fun hk => ?_))
        · refine mj_sublv [(0, .ref 950), (3, .int (f_X13_top s))] [2, 1] rfl ?_
          exact B_X13_one_156 _ _ _ hk
        · refine mj_iload dX13_one_141 0 rfl ?_
          refine mj_bipush (v := 6) dX13_one_143 (by decide) ?_
          refine mj_icmp_eq 156 dX13_one_145 (by decide) (fun z => t_posK hk z (fun hk => ?_)) (fun z => t_negK hk z (fun hk => ?_))
          · refine mj_sublv [(0, .ref 950), (3, .int (f_X13_top s))] [2, 1] rfl ?_
            exact B_X13_one_156 _ _ _ hk
          · refine mj_aload_n dX13_one_148 2 rfl ?_
            refine mj_iconst (v := 1) dX13_one_149 (by decide) ?_
            refine t_bndK hk (fun r13 er13 hk => ?_)
            refine t_callVvE dX13_one_150 M_X13_error (C_X13_error _ _ _ er13) ML_X13_866 IM_X13_error SE_X13_error qc_950 rfl (As := [.int 1]) rfl rfl (Nat.le_of_ble_eq_true rfl) (Nat.le_of_ble_eq_true rfl) (Nat.le_of_ble_eq_true rfl) (Nat.le_of_ble_eq_true rfl) ?_
            refine mj_goto 168 dX13_one_153 (by decide) ?_
            exact t_somK hk (fun hf => t_vret dX13_one_168 rfl ⟨rfl, hf⟩ (Nat.le_of_ble_eq_true rfl) (Nat.le_of_ble_eq_true rfl))
    replace hk := t_neg hk h4
    have h5 : x2.toInt = 67 := by omega
    refine mj_tableIn 211 dX13_one_25 hh1 hh2 (by rw [h5]; rfl) (by decide) ?_
    refine mj_iload dX13_one_211 0 rfl ?_
    refine mj_iconst (v := 4) dX13_one_213 (by decide) ?_
    refine mj_icmp_ne 223 dX13_one_214 (by decide) (fun z => t_negK hk z (fun hk => ?_)) (fun z => t_posK hk z (fun hk => ?_))
    · refine mj_aload_n dX13_one_223 2 rfl ?_
      refine t_getR 1007 dX13_one_224 F_X13_185 qr_950_99 ?_
      refine mj_iconst (v := 0) dX13_one_227 (by decide) ?_
      refine mj_ldc2 dX13_one_228 K_X13_697 ?_
      refine t_lastK dX13_one_231 qa_1007 (by unfold vp_in; decide) (fun s2 ws2 => t_letE hk ws2 (fun hk => ?_))
      refine mj_aload_n dX13_one_232 2 rfl ?_
      refine t_getR 1007 dX13_one_233 F_X13_185 qr_950_99 ?_
      refine mj_iconst (v := 1) dX13_one_236 (by decide) ?_
      refine mj_aload_n dX13_one_237 2 rfl ?_
      refine t_getR 957 dX13_one_238 F_X13_32 qr_950_19 ?_
      refine mj_iload_n dX13_one_241 3 rfl ?_
      refine t_chkK hk (fun c13 hk => ?_)
      refine t_lald dX13_one_242 qa_957 (t_ixv c13) ?_
      refine t_lastK dX13_one_243 qa_1007 (by unfold vp_in; decide) (fun s3 ws3 => t_letE hk ws3 (fun hk => ?_))
      refine mj_aload_n dX13_one_244 2 rfl ?_
      refine mj_iconst (v := 2) dX13_one_245 (by decide) ?_
      refine mj_iload_n dX13_one_246 1 rfl ?_
      refine t_bndK hk (fun r15 er15 hk => ?_)
      refine t_callViE dX13_one_247 M_X13_putMade (C_X13_putMade _ _ _ _ er15) ML_X13_956 IM_X13_putMade SE_X13_putMade qc_950 rfl (As := [.int 2, .int (f_X13_top s)]) rfl rfl (Nat.le_of_ble_eq_true rfl) (Nat.le_of_ble_eq_true rfl) (Nat.le_of_ble_eq_true rfl) (Nat.le_of_ble_eq_true rfl) ?_
      refine mj_istore (lv2 := [(5, .int r15.1), (4, .int ((s.2.1 1006 ((f_X13_top s).toNatClampNeg)).toInt32)), (3, .int (f_X13_top s)), (0, .ref 950), (1, .int x1), (2, .int x2)]) dX13_one_250 (by decide) rfl ?_
      refine mj_aload_n dX13_one_252 3 rfl ?_
      refine t_bndK hk (fun r16 er16 hk => ?_)
      refine t_callVvE dX13_one_253 M_X13_pushMade (C_X13_pushMade _ _ er16) ML_X13_959 IM_X13_pushMade SE_X13_pushMade qc_950 rfl (As := []) rfl rfl (Nat.le_of_ble_eq_true rfl) (Nat.le_of_ble_eq_true rfl) (Nat.le_of_ble_eq_true rfl) (Nat.le_of_ble_eq_true rfl) ?_
      exact t_somK hk (fun hf => t_vret dX13_one_256 rfl ⟨rfl, hf⟩ (Nat.le_of_ble_eq_true rfl) (Nat.le_of_ble_eq_true rfl))
    · refine mj_aload_n dX13_one_217 2 rfl ?_
      refine mj_iconst (v := 1) dX13_one_218 (by decide) ?_
      refine t_bndK hk (fun r17 er17 hk => ?_)
      refine t_callVvE dX13_one_219 M_X13_error (C_X13_error _ _ _ er17) ML_X13_866 IM_X13_error SE_X13_error qc_950 rfl (As := [.int 1]) rfl rfl (Nat.le_of_ble_eq_true rfl) (Nat.le_of_ble_eq_true rfl) (Nat.le_of_ble_eq_true rfl) (Nat.le_of_ble_eq_true rfl) ?_
      exact t_somK hk (fun hf => t_vret dX13_one_222 rfl ⟨rfl, hf⟩ (Nat.le_of_ble_eq_true rfl) (Nat.le_of_ble_eq_true rfl))

theorem dX13_signOf_0 : decode cX13_signOf 0 = .ok (.aload_n 0, 1) := by decide +kernel
theorem dX13_signOf_1 : decode cX13_signOf 1 = .ok (.getfield 182, 3) := by decide +kernel
theorem dX13_signOf_10 : decode cX13_signOf 10 = .ok (.idiv, 1) := by decide +kernel
theorem dX13_signOf_11 : decode cX13_signOf 11 = .ok (.iadd, 1) := by decide +kernel
theorem dX13_signOf_12 : decode cX13_signOf 12 = .ok (.laload, 1) := by decide +kernel
theorem dX13_signOf_13 : decode cX13_signOf 13 = .ok (.bipush 8, 2) := by decide +kernel
theorem dX13_signOf_15 : decode cX13_signOf 15 = .ok (.iload_n 2, 1) := by decide +kernel
theorem dX13_signOf_16 : decode cX13_signOf 16 = .ok (.bipush 8, 2) := by decide +kernel
theorem dX13_signOf_18 : decode cX13_signOf 18 = .ok (.irem, 1) := by decide +kernel
theorem dX13_signOf_19 : decode cX13_signOf 19 = .ok (.imul, 1) := by decide +kernel
theorem dX13_signOf_20 : decode cX13_signOf 20 = .ok (.lshr, 1) := by decide +kernel
theorem dX13_signOf_21 : decode cX13_signOf 21 = .ok (.ldc2_w 873, 3) := by decide +kernel
theorem dX13_signOf_24 : decode cX13_signOf 24 = .ok (.land, 1) := by decide +kernel
theorem dX13_signOf_25 : decode cX13_signOf 25 = .ok (.l2i, 1) := by decide +kernel
theorem dX13_signOf_26 : decode cX13_signOf 26 = .ok (.ireturn, 1) := by decide +kernel
theorem dX13_signOf_4 : decode cX13_signOf 4 = .ok (.iload_n 1, 1) := by decide +kernel
theorem dX13_signOf_5 : decode cX13_signOf 5 = .ok (.iconst 2, 1) := by decide +kernel
theorem dX13_signOf_6 : decode cX13_signOf 6 = .ok (.iadd, 1) := by decide +kernel
theorem dX13_signOf_7 : decode cX13_signOf 7 = .ok (.iload_n 2, 1) := by decide +kernel
theorem dX13_signOf_8 : decode cX13_signOf 8 = .ok (.bipush 8, 2) := by decide +kernel
noncomputable def f_X13_signOf (x1 : Int32) (x2 : Int32) (s : t_S) : Option (Int32) :=
 if t_ix ((x1 + (2 : Int32)) + (x2 / (8 : Int32))) 626600 = true then
  some ((((s.2.1 1006 (((x1 + (2 : Int32)) + (x2 / (8 : Int32))).toNatClampNeg)) >>> (((8 : Int32) * (x2 - x2 / (8 : Int32) * (8 : Int32))).toInt64 &&& 63)) &&& (255 : Int64)).toInt32)
else none
set_option maxRecDepth 4000 in
set_option maxHeartbeats 1000000 in
theorem C_X13_signOf (x1 : Int32) (x2 : Int32) (s : t_S) (r : Int32) (hr : f_X13_signOf x1 x2 s = some r) : t_C yX13_signOf cX13_signOf 3 (some .int) 0 [.ref 950, .int x1, .int x2] s (fun v s' => v = some (.int r) ∧ s' = s) := by
  refine t_C.imp (P := fun v s' => s' = s ∧ ∃ x, v = some (.int x) ∧ (fun q => q = r) (x)) (t_C.of (by decide +kernel) (Nat.le_of_ble_eq_true rfl) ?_) (fun v s' hp => by obtain ⟨rfl, x, rfl, rfl⟩ := hp; exact ⟨rfl, rfl⟩)
  intro D cy ad bs X
  have hk : t_hk (f_X13_signOf x1 x2 s) (fun q => q = r) := ⟨r, hr, rfl⟩
  show mj_G D cy ad bs X cX13_signOf 3 yX13_signOf.cls (some .int) yX13_signOf.name 0 0 0 1065 (t_P (fun v s' => s' = s ∧ ∃ x, v = some (.int x) ∧ (fun q => q = r) (x))) 0 [(0, .ref 950), (1, .int x1), (2, .int x2)] [] (t_m s) 1065 0 0
  refine mj_aload_n dX13_signOf_0 0 rfl ?_
  refine t_getR 1006 dX13_signOf_1 F_X13_182 qr_950_95 ?_
  refine mj_iload_n dX13_signOf_4 1 rfl ?_
  refine mj_iconst (v := 2) dX13_signOf_5 (by decide) ?_
  refine mj_iadd dX13_signOf_6 ?_
  refine mj_iload_n dX13_signOf_7 2 rfl ?_
  refine mj_bipush (v := 8) dX13_signOf_8 (by decide) ?_
  refine mj_idiv dX13_signOf_10 (by decide) ?_
  refine mj_iadd dX13_signOf_11 ?_
  refine t_chkK hk (fun c0 hk => ?_)
  refine t_lald dX13_signOf_12 qa_1006 (t_ixv c0) ?_
  refine mj_bipush (v := 8) dX13_signOf_13 (by decide) ?_
  refine mj_iload_n dX13_signOf_15 2 rfl ?_
  refine mj_bipush (v := 8) dX13_signOf_16 (by decide) ?_
  refine mj_irem dX13_signOf_18 (by decide) ?_
  refine mj_imul dX13_signOf_19 ?_
  refine mj_lshr dX13_signOf_20 rfl ?_
  refine mj_ldc2 dX13_signOf_21 K_X13_873 ?_
  refine mj_land dX13_signOf_24 ?_
  refine mj_l2i (v := (((s.2.1 1006 (((x1 + (2 : Int32)) + (x2 / (8 : Int32))).toNatClampNeg)) >>> (((8 : Int32) * (x2 - x2 / (8 : Int32) * (8 : Int32))).toInt64 &&& 63)) &&& (255 : Int64)).toInt32) dX13_signOf_25 rfl ?_
  exact t_somK hk (fun hf => t_iret dX13_signOf_26 rfl rfl ⟨rfl, _, rfl, hf⟩ (Nat.le_of_ble_eq_true rfl) (Nat.le_of_ble_eq_true rfl))

theorem dX13_joinRows_0 : decode cX13_joinRows 0 = .ok (.aload_n 0, 1) := by decide +kernel
theorem dX13_joinRows_1 : decode cX13_joinRows 1 = .ok (.getfield 182, 3) := by decide +kernel
theorem dX13_joinRows_10 : decode cX13_joinRows 10 = .ok (.ifCond .ne 20, 3) := by decide +kernel
theorem dX13_joinRows_100 : decode cX13_joinRows 100 = .ok (.istore 6, 2) := by decide +kernel
theorem dX13_joinRows_102 : decode cX13_joinRows 102 = .ok (.iload 5, 2) := by decide +kernel
theorem dX13_joinRows_104 : decode cX13_joinRows 104 = .ok (.iload 6, 2) := by decide +kernel
theorem dX13_joinRows_106 : decode cX13_joinRows 106 = .ok (.iadd, 1) := by decide +kernel
theorem dX13_joinRows_107 : decode cX13_joinRows 107 = .ok (.iload_n 3, 1) := by decide +kernel
theorem dX13_joinRows_108 : decode cX13_joinRows 108 = .ok (.ifCond .eq 8, 3) := by decide +kernel
theorem dX13_joinRows_111 : decode cX13_joinRows 111 = .ok (.bipush 40, 2) := by decide +kernel
theorem dX13_joinRows_113 : decode cX13_joinRows 113 = .ok (.goto 5, 3) := by decide +kernel
theorem dX13_joinRows_116 : decode cX13_joinRows 116 = .ok (.bipush 16, 2) := by decide +kernel
theorem dX13_joinRows_118 : decode cX13_joinRows 118 = .ok (.if_icmp .le 9, 3) := by decide +kernel
theorem dX13_joinRows_121 : decode cX13_joinRows 121 = .ok (.aload_n 0, 1) := by decide +kernel
theorem dX13_joinRows_122 : decode cX13_joinRows 122 = .ok (.iconst 3, 1) := by decide +kernel
theorem dX13_joinRows_123 : decode cX13_joinRows 123 = .ok (.invokevirtual 866, 3) := by decide +kernel
theorem dX13_joinRows_126 : decode cX13_joinRows 126 = .ok (.return_, 1) := by decide +kernel
theorem dX13_joinRows_127 : decode cX13_joinRows 127 = .ok (.aload_n 0, 1) := by decide +kernel
theorem dX13_joinRows_128 : decode cX13_joinRows 128 = .ok (.aload_n 0, 1) := by decide +kernel
theorem dX13_joinRows_129 : decode cX13_joinRows 129 = .ok (.getfield 858, 3) := by decide +kernel
theorem dX13_joinRows_13 : decode cX13_joinRows 13 = .ok (.aload_n 0, 1) := by decide +kernel
theorem dX13_joinRows_132 : decode cX13_joinRows 132 = .ok (.iconst 2, 1) := by decide +kernel
theorem dX13_joinRows_133 : decode cX13_joinRows 133 = .ok (.isub, 1) := by decide +kernel
theorem dX13_joinRows_134 : decode cX13_joinRows 134 = .ok (.putfield 858, 3) := by decide +kernel
theorem dX13_joinRows_137 : decode cX13_joinRows 137 = .ok (.iload_n 3, 1) := by decide +kernel
theorem dX13_joinRows_138 : decode cX13_joinRows 138 = .ok (.ifCond .eq 123, 3) := by decide +kernel
theorem dX13_joinRows_14 : decode cX13_joinRows 14 = .ok (.getfield 182, 3) := by decide +kernel
theorem dX13_joinRows_141 : decode cX13_joinRows 141 = .ok (.aload_n 0, 1) := by decide +kernel
theorem dX13_joinRows_142 : decode cX13_joinRows 142 = .ok (.getfield 185, 3) := by decide +kernel
theorem dX13_joinRows_145 : decode cX13_joinRows 145 = .ok (.iconst 0, 1) := by decide +kernel
theorem dX13_joinRows_146 : decode cX13_joinRows 146 = .ok (.ldc2_w 994, 3) := by decide +kernel
theorem dX13_joinRows_149 : decode cX13_joinRows 149 = .ok (.lastore, 1) := by decide +kernel
theorem dX13_joinRows_150 : decode cX13_joinRows 150 = .ok (.aload_n 0, 1) := by decide +kernel
theorem dX13_joinRows_151 : decode cX13_joinRows 151 = .ok (.getfield 185, 3) := by decide +kernel
theorem dX13_joinRows_154 : decode cX13_joinRows 154 = .ok (.iconst 1, 1) := by decide +kernel
theorem dX13_joinRows_155 : decode cX13_joinRows 155 = .ok (.iload 5, 2) := by decide +kernel
theorem dX13_joinRows_157 : decode cX13_joinRows 157 = .ok (.iload 6, 2) := by decide +kernel
theorem dX13_joinRows_159 : decode cX13_joinRows 159 = .ok (.iadd, 1) := by decide +kernel
theorem dX13_joinRows_160 : decode cX13_joinRows 160 = .ok (.i2l, 1) := by decide +kernel
theorem dX13_joinRows_161 : decode cX13_joinRows 161 = .ok (.lastore, 1) := by decide +kernel
theorem dX13_joinRows_162 : decode cX13_joinRows 162 = .ok (.iconst 0, 1) := by decide +kernel
theorem dX13_joinRows_163 : decode cX13_joinRows 163 = .ok (.istore 7, 2) := by decide +kernel
theorem dX13_joinRows_165 : decode cX13_joinRows 165 = .ok (.iload 7, 2) := by decide +kernel
theorem dX13_joinRows_167 : decode cX13_joinRows 167 = .ok (.iconst 5, 1) := by decide +kernel
theorem dX13_joinRows_168 : decode cX13_joinRows 168 = .ok (.if_icmp .ge 19, 3) := by decide +kernel
theorem dX13_joinRows_17 : decode cX13_joinRows 17 = .ok (.iload_n 2, 1) := by decide +kernel
theorem dX13_joinRows_171 : decode cX13_joinRows 171 = .ok (.aload_n 0, 1) := by decide +kernel
theorem dX13_joinRows_172 : decode cX13_joinRows 172 = .ok (.getfield 185, 3) := by decide +kernel
theorem dX13_joinRows_175 : decode cX13_joinRows 175 = .ok (.iconst 2, 1) := by decide +kernel
theorem dX13_joinRows_176 : decode cX13_joinRows 176 = .ok (.iload 7, 2) := by decide +kernel
theorem dX13_joinRows_178 : decode cX13_joinRows 178 = .ok (.iadd, 1) := by decide +kernel
theorem dX13_joinRows_179 : decode cX13_joinRows 179 = .ok (.lconst 0, 1) := by decide +kernel
theorem dX13_joinRows_18 : decode cX13_joinRows 18 = .ok (.laload, 1) := by decide +kernel
theorem dX13_joinRows_180 : decode cX13_joinRows 180 = .ok (.lastore, 1) := by decide +kernel
theorem dX13_joinRows_181 : decode cX13_joinRows 181 = .ok (.iinc 7 1, 3) := by decide +kernel
theorem dX13_joinRows_184 : decode cX13_joinRows 184 = .ok (.goto (-19), 3) := by decide +kernel
theorem dX13_joinRows_187 : decode cX13_joinRows 187 = .ok (.iconst 0, 1) := by decide +kernel
theorem dX13_joinRows_188 : decode cX13_joinRows 188 = .ok (.istore 7, 2) := by decide +kernel
theorem dX13_joinRows_19 : decode cX13_joinRows 19 = .ok (.ldc2_w 994, 3) := by decide +kernel
theorem dX13_joinRows_190 : decode cX13_joinRows 190 = .ok (.iload 7, 2) := by decide +kernel
theorem dX13_joinRows_192 : decode cX13_joinRows 192 = .ok (.iload 5, 2) := by decide +kernel
theorem dX13_joinRows_194 : decode cX13_joinRows 194 = .ok (.iload 6, 2) := by decide +kernel
theorem dX13_joinRows_196 : decode cX13_joinRows 196 = .ok (.iadd, 1) := by decide +kernel
theorem dX13_joinRows_197 : decode cX13_joinRows 197 = .ok (.if_icmp .ge 61, 3) := by decide +kernel
theorem dX13_joinRows_200 : decode cX13_joinRows 200 = .ok (.aload_n 0, 1) := by decide +kernel
theorem dX13_joinRows_201 : decode cX13_joinRows 201 = .ok (.getfield 185, 3) := by decide +kernel
theorem dX13_joinRows_204 : decode cX13_joinRows 204 = .ok (.iconst 2, 1) := by decide +kernel
theorem dX13_joinRows_205 : decode cX13_joinRows 205 = .ok (.iload 7, 2) := by decide +kernel
theorem dX13_joinRows_207 : decode cX13_joinRows 207 = .ok (.bipush 8, 2) := by decide +kernel
theorem dX13_joinRows_209 : decode cX13_joinRows 209 = .ok (.idiv, 1) := by decide +kernel
theorem dX13_joinRows_210 : decode cX13_joinRows 210 = .ok (.iadd, 1) := by decide +kernel
theorem dX13_joinRows_211 : decode cX13_joinRows 211 = .ok (.dup2, 1) := by decide +kernel
theorem dX13_joinRows_212 : decode cX13_joinRows 212 = .ok (.laload, 1) := by decide +kernel
theorem dX13_joinRows_213 : decode cX13_joinRows 213 = .ok (.iload 7, 2) := by decide +kernel
theorem dX13_joinRows_215 : decode cX13_joinRows 215 = .ok (.iload 5, 2) := by decide +kernel
theorem dX13_joinRows_217 : decode cX13_joinRows 217 = .ok (.if_icmp .ge 13, 3) := by decide +kernel
theorem dX13_joinRows_22 : decode cX13_joinRows 22 = .ok (.lcmp, 1) := by decide +kernel
theorem dX13_joinRows_220 : decode cX13_joinRows 220 = .ok (.aload_n 0, 1) := by decide +kernel
theorem dX13_joinRows_221 : decode cX13_joinRows 221 = .ok (.iload_n 1, 1) := by decide +kernel
theorem dX13_joinRows_222 : decode cX13_joinRows 222 = .ok (.iload 7, 2) := by decide +kernel
theorem dX13_joinRows_224 : decode cX13_joinRows 224 = .ok (.invokevirtual 996, 3) := by decide +kernel
theorem dX13_joinRows_227 : decode cX13_joinRows 227 = .ok (.goto 13, 3) := by decide +kernel
theorem dX13_joinRows_23 : decode cX13_joinRows 23 = .ok (.ifCond .ne 7, 3) := by decide +kernel
theorem dX13_joinRows_230 : decode cX13_joinRows 230 = .ok (.aload_n 0, 1) := by decide +kernel
theorem dX13_joinRows_231 : decode cX13_joinRows 231 = .ok (.iload_n 2, 1) := by decide +kernel
theorem dX13_joinRows_232 : decode cX13_joinRows 232 = .ok (.iload 7, 2) := by decide +kernel
theorem dX13_joinRows_234 : decode cX13_joinRows 234 = .ok (.iload 5, 2) := by decide +kernel
theorem dX13_joinRows_236 : decode cX13_joinRows 236 = .ok (.isub, 1) := by decide +kernel
theorem dX13_joinRows_237 : decode cX13_joinRows 237 = .ok (.invokevirtual 996, 3) := by decide +kernel
theorem dX13_joinRows_240 : decode cX13_joinRows 240 = .ok (.i2l, 1) := by decide +kernel
theorem dX13_joinRows_241 : decode cX13_joinRows 241 = .ok (.bipush 8, 2) := by decide +kernel
theorem dX13_joinRows_243 : decode cX13_joinRows 243 = .ok (.iload 7, 2) := by decide +kernel
theorem dX13_joinRows_245 : decode cX13_joinRows 245 = .ok (.bipush 8, 2) := by decide +kernel
theorem dX13_joinRows_247 : decode cX13_joinRows 247 = .ok (.irem, 1) := by decide +kernel
theorem dX13_joinRows_248 : decode cX13_joinRows 248 = .ok (.imul, 1) := by decide +kernel
theorem dX13_joinRows_249 : decode cX13_joinRows 249 = .ok (.lshl, 1) := by decide +kernel
theorem dX13_joinRows_250 : decode cX13_joinRows 250 = .ok (.lor, 1) := by decide +kernel
theorem dX13_joinRows_251 : decode cX13_joinRows 251 = .ok (.lastore, 1) := by decide +kernel
theorem dX13_joinRows_252 : decode cX13_joinRows 252 = .ok (.iinc 7 1, 3) := by decide +kernel
theorem dX13_joinRows_255 : decode cX13_joinRows 255 = .ok (.goto (-65), 3) := by decide +kernel
theorem dX13_joinRows_258 : decode cX13_joinRows 258 = .ok (.goto 81, 3) := by decide +kernel
theorem dX13_joinRows_26 : decode cX13_joinRows 26 = .ok (.iconst 1, 1) := by decide +kernel
theorem dX13_joinRows_261 : decode cX13_joinRows 261 = .ok (.aload_n 0, 1) := by decide +kernel
theorem dX13_joinRows_262 : decode cX13_joinRows 262 = .ok (.getfield 185, 3) := by decide +kernel
theorem dX13_joinRows_265 : decode cX13_joinRows 265 = .ok (.iconst 0, 1) := by decide +kernel
theorem dX13_joinRows_266 : decode cX13_joinRows 266 = .ok (.ldc2_w 951, 3) := by decide +kernel
theorem dX13_joinRows_269 : decode cX13_joinRows 269 = .ok (.lastore, 1) := by decide +kernel
theorem dX13_joinRows_27 : decode cX13_joinRows 27 = .ok (.goto 4, 3) := by decide +kernel
theorem dX13_joinRows_270 : decode cX13_joinRows 270 = .ok (.aload_n 0, 1) := by decide +kernel
theorem dX13_joinRows_271 : decode cX13_joinRows 271 = .ok (.getfield 185, 3) := by decide +kernel
theorem dX13_joinRows_274 : decode cX13_joinRows 274 = .ok (.iconst 1, 1) := by decide +kernel
theorem dX13_joinRows_275 : decode cX13_joinRows 275 = .ok (.iload 5, 2) := by decide +kernel
theorem dX13_joinRows_277 : decode cX13_joinRows 277 = .ok (.iload 6, 2) := by decide +kernel
theorem dX13_joinRows_279 : decode cX13_joinRows 279 = .ok (.iadd, 1) := by decide +kernel
theorem dX13_joinRows_280 : decode cX13_joinRows 280 = .ok (.i2l, 1) := by decide +kernel
theorem dX13_joinRows_281 : decode cX13_joinRows 281 = .ok (.lastore, 1) := by decide +kernel
theorem dX13_joinRows_282 : decode cX13_joinRows 282 = .ok (.iconst 2, 1) := by decide +kernel
theorem dX13_joinRows_283 : decode cX13_joinRows 283 = .ok (.istore 7, 2) := by decide +kernel
theorem dX13_joinRows_285 : decode cX13_joinRows 285 = .ok (.iconst 0, 1) := by decide +kernel
theorem dX13_joinRows_286 : decode cX13_joinRows 286 = .ok (.istore 8, 2) := by decide +kernel
theorem dX13_joinRows_288 : decode cX13_joinRows 288 = .ok (.iload 8, 2) := by decide +kernel
theorem dX13_joinRows_290 : decode cX13_joinRows 290 = .ok (.iload 5, 2) := by decide +kernel
theorem dX13_joinRows_292 : decode cX13_joinRows 292 = .ok (.iload 6, 2) := by decide +kernel
theorem dX13_joinRows_294 : decode cX13_joinRows 294 = .ok (.iadd, 1) := by decide +kernel
theorem dX13_joinRows_295 : decode cX13_joinRows 295 = .ok (.if_icmp .ge 44, 3) := by decide +kernel
theorem dX13_joinRows_298 : decode cX13_joinRows 298 = .ok (.aload_n 0, 1) := by decide +kernel
theorem dX13_joinRows_299 : decode cX13_joinRows 299 = .ok (.iload 7, 2) := by decide +kernel
theorem dX13_joinRows_30 : decode cX13_joinRows 30 = .ok (.iconst 0, 1) := by decide +kernel
theorem dX13_joinRows_301 : decode cX13_joinRows 301 = .ok (.iload 8, 2) := by decide +kernel
theorem dX13_joinRows_303 : decode cX13_joinRows 303 = .ok (.iload 5, 2) := by decide +kernel
theorem dX13_joinRows_305 : decode cX13_joinRows 305 = .ok (.if_icmp .ge 13, 3) := by decide +kernel
theorem dX13_joinRows_308 : decode cX13_joinRows 308 = .ok (.aload_n 0, 1) := by decide +kernel
theorem dX13_joinRows_309 : decode cX13_joinRows 309 = .ok (.iload_n 1, 1) := by decide +kernel
theorem dX13_joinRows_31 : decode cX13_joinRows 31 = .ok (.istore_n 3, 1) := by decide +kernel
theorem dX13_joinRows_310 : decode cX13_joinRows 310 = .ok (.iload 8, 2) := by decide +kernel
theorem dX13_joinRows_312 : decode cX13_joinRows 312 = .ok (.invokevirtual 855, 3) := by decide +kernel
theorem dX13_joinRows_315 : decode cX13_joinRows 315 = .ok (.goto 13, 3) := by decide +kernel
theorem dX13_joinRows_318 : decode cX13_joinRows 318 = .ok (.aload_n 0, 1) := by decide +kernel
theorem dX13_joinRows_319 : decode cX13_joinRows 319 = .ok (.iload_n 2, 1) := by decide +kernel
theorem dX13_joinRows_32 : decode cX13_joinRows 32 = .ok (.aload_n 0, 1) := by decide +kernel
theorem dX13_joinRows_320 : decode cX13_joinRows 320 = .ok (.iload 8, 2) := by decide +kernel
theorem dX13_joinRows_322 : decode cX13_joinRows 322 = .ok (.iload 5, 2) := by decide +kernel
theorem dX13_joinRows_324 : decode cX13_joinRows 324 = .ok (.isub, 1) := by decide +kernel
theorem dX13_joinRows_325 : decode cX13_joinRows 325 = .ok (.invokevirtual 855, 3) := by decide +kernel
theorem dX13_joinRows_328 : decode cX13_joinRows 328 = .ok (.invokevirtual 956, 3) := by decide +kernel
theorem dX13_joinRows_33 : decode cX13_joinRows 33 = .ok (.getfield 182, 3) := by decide +kernel
theorem dX13_joinRows_331 : decode cX13_joinRows 331 = .ok (.istore 7, 2) := by decide +kernel
theorem dX13_joinRows_333 : decode cX13_joinRows 333 = .ok (.iinc 8 1, 3) := by decide +kernel
theorem dX13_joinRows_336 : decode cX13_joinRows 336 = .ok (.goto (-48), 3) := by decide +kernel
theorem dX13_joinRows_339 : decode cX13_joinRows 339 = .ok (.aload_n 0, 1) := by decide +kernel
theorem dX13_joinRows_340 : decode cX13_joinRows 340 = .ok (.invokevirtual 959, 3) := by decide +kernel
theorem dX13_joinRows_343 : decode cX13_joinRows 343 = .ok (.return_, 1) := by decide +kernel
theorem dX13_joinRows_36 : decode cX13_joinRows 36 = .ok (.iload_n 1, 1) := by decide +kernel
theorem dX13_joinRows_37 : decode cX13_joinRows 37 = .ok (.laload, 1) := by decide +kernel
theorem dX13_joinRows_38 : decode cX13_joinRows 38 = .ok (.ldc2_w 951, 3) := by decide +kernel
theorem dX13_joinRows_4 : decode cX13_joinRows 4 = .ok (.iload_n 1, 1) := by decide +kernel
theorem dX13_joinRows_41 : decode cX13_joinRows 41 = .ok (.lcmp, 1) := by decide +kernel
theorem dX13_joinRows_42 : decode cX13_joinRows 42 = .ok (.ifCond .ne 20, 3) := by decide +kernel
theorem dX13_joinRows_45 : decode cX13_joinRows 45 = .ok (.aload_n 0, 1) := by decide +kernel
theorem dX13_joinRows_46 : decode cX13_joinRows 46 = .ok (.getfield 182, 3) := by decide +kernel
theorem dX13_joinRows_49 : decode cX13_joinRows 49 = .ok (.iload_n 2, 1) := by decide +kernel
theorem dX13_joinRows_5 : decode cX13_joinRows 5 = .ok (.laload, 1) := by decide +kernel
theorem dX13_joinRows_50 : decode cX13_joinRows 50 = .ok (.laload, 1) := by decide +kernel
theorem dX13_joinRows_51 : decode cX13_joinRows 51 = .ok (.ldc2_w 951, 3) := by decide +kernel
theorem dX13_joinRows_54 : decode cX13_joinRows 54 = .ok (.lcmp, 1) := by decide +kernel
theorem dX13_joinRows_55 : decode cX13_joinRows 55 = .ok (.ifCond .ne 7, 3) := by decide +kernel
theorem dX13_joinRows_58 : decode cX13_joinRows 58 = .ok (.iconst 1, 1) := by decide +kernel
theorem dX13_joinRows_59 : decode cX13_joinRows 59 = .ok (.goto 4, 3) := by decide +kernel
theorem dX13_joinRows_6 : decode cX13_joinRows 6 = .ok (.ldc2_w 994, 3) := by decide +kernel
theorem dX13_joinRows_62 : decode cX13_joinRows 62 = .ok (.iconst 0, 1) := by decide +kernel
theorem dX13_joinRows_63 : decode cX13_joinRows 63 = .ok (.istore 4, 2) := by decide +kernel
theorem dX13_joinRows_65 : decode cX13_joinRows 65 = .ok (.iload_n 3, 1) := by decide +kernel
theorem dX13_joinRows_66 : decode cX13_joinRows 66 = .ok (.ifCond .ne 14, 3) := by decide +kernel
theorem dX13_joinRows_69 : decode cX13_joinRows 69 = .ok (.iload 4, 2) := by decide +kernel
theorem dX13_joinRows_71 : decode cX13_joinRows 71 = .ok (.ifCond .ne 9, 3) := by decide +kernel
theorem dX13_joinRows_74 : decode cX13_joinRows 74 = .ok (.aload_n 0, 1) := by decide +kernel
theorem dX13_joinRows_75 : decode cX13_joinRows 75 = .ok (.iconst 1, 1) := by decide +kernel
theorem dX13_joinRows_76 : decode cX13_joinRows 76 = .ok (.invokevirtual 866, 3) := by decide +kernel
theorem dX13_joinRows_79 : decode cX13_joinRows 79 = .ok (.return_, 1) := by decide +kernel
theorem dX13_joinRows_80 : decode cX13_joinRows 80 = .ok (.aload_n 0, 1) := by decide +kernel
theorem dX13_joinRows_81 : decode cX13_joinRows 81 = .ok (.getfield 182, 3) := by decide +kernel
theorem dX13_joinRows_84 : decode cX13_joinRows 84 = .ok (.iload_n 1, 1) := by decide +kernel
theorem dX13_joinRows_85 : decode cX13_joinRows 85 = .ok (.iconst 1, 1) := by decide +kernel
theorem dX13_joinRows_86 : decode cX13_joinRows 86 = .ok (.iadd, 1) := by decide +kernel
theorem dX13_joinRows_87 : decode cX13_joinRows 87 = .ok (.laload, 1) := by decide +kernel
theorem dX13_joinRows_88 : decode cX13_joinRows 88 = .ok (.l2i, 1) := by decide +kernel
theorem dX13_joinRows_89 : decode cX13_joinRows 89 = .ok (.istore 5, 2) := by decide +kernel
theorem dX13_joinRows_9 : decode cX13_joinRows 9 = .ok (.lcmp, 1) := by decide +kernel
theorem dX13_joinRows_91 : decode cX13_joinRows 91 = .ok (.aload_n 0, 1) := by decide +kernel
theorem dX13_joinRows_92 : decode cX13_joinRows 92 = .ok (.getfield 182, 3) := by decide +kernel
theorem dX13_joinRows_95 : decode cX13_joinRows 95 = .ok (.iload_n 2, 1) := by decide +kernel
theorem dX13_joinRows_96 : decode cX13_joinRows 96 = .ok (.iconst 1, 1) := by decide +kernel
theorem dX13_joinRows_97 : decode cX13_joinRows 97 = .ok (.iadd, 1) := by decide +kernel
theorem dX13_joinRows_98 : decode cX13_joinRows 98 = .ok (.laload, 1) := by decide +kernel
theorem dX13_joinRows_99 : decode cX13_joinRows 99 = .ok (.l2i, 1) := by decide +kernel
noncomputable def k_X13_joinRows_328 (l1 : Int32) (l2 : Int32) (l5 : Int32) (l6 : Int32) (l8 : Int32) (k0 : Int32) (k1 : Int32) (s : t_S) : Option ((Int32 × Int32 × Int32 × Int32 × Int32 × Int32 × t_S) ⊕ (t_S)) :=
 (f_X13_putMade k1 k0 s).bind (fun r1 =>
 some (.inl (l1, l2, l5, l6, r1.1, (l8 + 1), r1.2)))
set_option maxRecDepth 4000 in
set_option maxHeartbeats 1000000 in
theorem B_X13_joinRows_328 {D : va_G} {cy : Nat → ClassId} {ad : Nat → Nat} {bs : Nat} {X : State → Heap → Prop} (l1 : Int32) (l2 : Int32) (l5 : Int32) (l6 : Int32) (l8 : Int32) (k0 : Int32) (k1 : Int32) (s : t_S) (Q : (Int32 × Int32 × Int32 × Int32 × Int32 × Int32 × t_S) ⊕ (t_S) → Prop) (Hb288 : ∀ (y0 : Int32) (y1 : Int32) (y2 : Int32) (y3 : Int32) (y4 : Int32) (y5 : Int32) (y6 : t_S), Q (.inl (y0, y1, y2, y3, y4, y5, y6)) → mj_G D cy ad bs X cX13_joinRows 9 yX13_joinRows.cls none yX13_joinRows.name 3 0 0 1065 (t_P (fun v s' => v = none ∧ Q (.inr (s')))) 288 [(0, .ref 950), (1, .int (y0)), (2, .int (y1)), (5, .int (y2)), (6, .int (y3)), (7, .int (y4)), (8, .int (y5))] [] (t_m y6) 1065 0 0) (hk : t_hk (k_X13_joinRows_328 l1 l2 l5 l6 l8 k0 k1 s) Q) : mj_G D cy ad bs X cX13_joinRows 9 yX13_joinRows.cls none yX13_joinRows.name 3 0 0 1065 (t_P (fun v s' => v = none ∧ Q (.inr (s')))) 328 [(0, .ref 950), (1, .int l1), (2, .int l2), (5, .int l5), (6, .int l6), (8, .int l8)] [.int k0, .int k1, .ref 950] (t_m s) 1065 0 0 := by
  refine t_bndK hk (fun r1 er1 hk => ?_)
  refine t_callViE dX13_joinRows_328 M_X13_putMade (C_X13_putMade _ _ _ _ er1) ML_X13_956 IM_X13_putMade SE_X13_putMade qc_950 rfl (As := [.int k1, .int k0]) rfl rfl (Nat.le_of_ble_eq_true rfl) (Nat.le_of_ble_eq_true rfl) (Nat.le_of_ble_eq_true rfl) (Nat.le_of_ble_eq_true rfl) ?_
  refine mj_istore (lv2 := [(7, .int r1.1), (0, .ref 950), (1, .int l1), (2, .int l2), (5, .int l5), (6, .int l6), (8, .int l8)]) dX13_joinRows_331 (by decide) rfl ?_
  refine mj_iinc (k := 6) (v := (l8 + 1)) (lv2 := [(8, .int (l8 + 1)), (7, .int r1.1), (0, .ref 950), (1, .int l1), (2, .int l2), (5, .int l5), (6, .int l6)]) dX13_joinRows_333 rfl rfl (by decide) rfl ?_
  refine mj_goto 288 dX13_joinRows_336 (by decide) ?_
  refine mj_sublv [(0, .ref 950), (1, .int l1), (2, .int l2), (5, .int l5), (6, .int l6), (7, .int r1.1), (8, .int (l8 + 1))] [2, 3, 4, 5, 6, 1, 0] rfl ?_
  exact t_somK hk (fun hf => Hb288 l1 l2 l5 l6 r1.1 (l8 + 1) r1.2 hf)
noncomputable def k_X13_joinRows_339 (s : t_S) : Option (t_S) :=
 (f_X13_pushMade s).bind (fun r1 =>
 some (r1))
set_option maxRecDepth 4000 in
set_option maxHeartbeats 1000000 in
theorem B_X13_joinRows_339 {D : va_G} {cy : Nat → ClassId} {ad : Nat → Nat} {bs : Nat} {X : State → Heap → Prop} (s : t_S) (Q : t_S → Prop) (hk : t_hk (k_X13_joinRows_339 s) Q) : mj_G D cy ad bs X cX13_joinRows 9 yX13_joinRows.cls none yX13_joinRows.name 3 0 0 1065 (t_P (fun v s' => v = none ∧ Q (s'))) 339 [(0, .ref 950)] [] (t_m s) 1065 0 0 := by
  refine mj_aload_n dX13_joinRows_339 0 rfl ?_
  refine t_bndK hk (fun r1 er1 hk => ?_)
  refine t_callVvE dX13_joinRows_340 M_X13_pushMade (C_X13_pushMade _ _ er1) ML_X13_959 IM_X13_pushMade SE_X13_pushMade qc_950 rfl (As := []) rfl rfl (Nat.le_of_ble_eq_true rfl) (Nat.le_of_ble_eq_true rfl) (Nat.le_of_ble_eq_true rfl) (Nat.le_of_ble_eq_true rfl) ?_
  exact t_somK hk (fun hf => t_vret dX13_joinRows_343 rfl ⟨rfl, hf⟩ (Nat.le_of_ble_eq_true rfl) (Nat.le_of_ble_eq_true rfl))
noncomputable def k_X13_joinRows_288 (l1 : Int32) (l2 : Int32) (l5 : Int32) (l6 : Int32) (l7 : Int32) (l8 : Int32) (s : t_S) : Option ((Int32 × Int32 × Int32 × Int32 × Int32 × Int32 × t_S) ⊕ (t_S)) :=
 if (l5 + l6) ≤ l8 then ((k_X13_joinRows_339 s).map Sum.inr)
 else (if l5 ≤ l8 then ((f_X13_partOf l2 (l8 - l5) s).bind (fun r1 =>
 k_X13_joinRows_328 l1 l2 l5 l6 l8 r1 l7 s))
 else ((f_X13_partOf l1 l8 s).bind (fun r2 =>
 k_X13_joinRows_328 l1 l2 l5 l6 l8 r2 l7 s)))
set_option maxRecDepth 4000 in
set_option maxHeartbeats 1000000 in
theorem B_X13_joinRows_288 {D : va_G} {cy : Nat → ClassId} {ad : Nat → Nat} {bs : Nat} {X : State → Heap → Prop} (l1 : Int32) (l2 : Int32) (l5 : Int32) (l6 : Int32) (l7 : Int32) (l8 : Int32) (s : t_S) (Q : (Int32 × Int32 × Int32 × Int32 × Int32 × Int32 × t_S) ⊕ (t_S) → Prop) (Hb288 : ∀ (y0 : Int32) (y1 : Int32) (y2 : Int32) (y3 : Int32) (y4 : Int32) (y5 : Int32) (y6 : t_S), Q (.inl (y0, y1, y2, y3, y4, y5, y6)) → mj_G D cy ad bs X cX13_joinRows 9 yX13_joinRows.cls none yX13_joinRows.name 3 0 0 1065 (t_P (fun v s' => v = none ∧ Q (.inr (s')))) 288 [(0, .ref 950), (1, .int (y0)), (2, .int (y1)), (5, .int (y2)), (6, .int (y3)), (7, .int (y4)), (8, .int (y5))] [] (t_m y6) 1065 0 0) (hk : t_hk (k_X13_joinRows_288 l1 l2 l5 l6 l7 l8 s) Q) : mj_G D cy ad bs X cX13_joinRows 9 yX13_joinRows.cls none yX13_joinRows.name 3 0 0 1065 (t_P (fun v s' => v = none ∧ Q (.inr (s')))) 288 [(0, .ref 950), (1, .int l1), (2, .int l2), (5, .int l5), (6, .int l6), (7, .int l7), (8, .int l8)] [] (t_m s) 1065 0 0 := by
  refine mj_iload dX13_joinRows_288 6 rfl ?_
  refine mj_iload dX13_joinRows_290 3 rfl ?_
  refine mj_iload dX13_joinRows_292 4 rfl ?_
  refine mj_iadd dX13_joinRows_294 ?_
  refine mj_icmp_ge 339 dX13_joinRows_295 (by decide) (fun z => t_posK hk z (fun hk => ?_)) (fun z => t_negK hk z (fun hk => ?_))
  · refine mj_sublv [(0, .ref 950)] [0] rfl ?_
    refine t_mapK hk (fun hk => ?_)
    exact B_X13_joinRows_339 _ _ hk
  · refine mj_aload_n dX13_joinRows_298 0 rfl ?_
    refine mj_iload dX13_joinRows_299 5 rfl ?_
    refine mj_iload dX13_joinRows_301 6 rfl ?_
    refine mj_iload dX13_joinRows_303 3 rfl ?_
    refine mj_icmp_ge 318 dX13_joinRows_305 (by decide) (fun z => t_posK hk z (fun hk => ?_)) (fun z => t_negK hk z (fun hk => ?_))
    · refine mj_aload_n dX13_joinRows_318 0 rfl ?_
      refine mj_iload_n dX13_joinRows_319 2 rfl ?_
      refine mj_iload dX13_joinRows_320 6 rfl ?_
      refine mj_iload dX13_joinRows_322 3 rfl ?_
      refine mj_isub dX13_joinRows_324 ?_
      refine t_bndK hk (fun r1 er1 hk => ?_)
      refine t_callViP dX13_joinRows_325 M_X13_partOf (C_X13_partOf _ _ _ _ er1) ML_X13_855 IM_X13_partOf SE_X13_partOf qc_950 rfl (As := [.int l2, .int (l8 - l5)]) rfl rfl (Nat.le_of_ble_eq_true rfl) (Nat.le_of_ble_eq_true rfl) (Nat.le_of_ble_eq_true rfl) (Nat.le_of_ble_eq_true rfl) ?_
      refine mj_sublv [(0, .ref 950), (1, .int l1), (2, .int l2), (5, .int l5), (6, .int l6), (8, .int l8)] [0, 1, 2, 3, 4, 6] rfl ?_
      exact B_X13_joinRows_328 _ _ _ _ _ _ _ _ _ (fun y0 y1 y2 y3 y4 y5 y6 hx => Hb288 y0 y1 y2 y3 y4 y5 y6 hx) hk
    · refine mj_aload_n dX13_joinRows_308 0 rfl ?_
      refine mj_iload_n dX13_joinRows_309 1 rfl ?_
      refine mj_iload dX13_joinRows_310 6 rfl ?_
      refine t_bndK hk (fun r2 er2 hk => ?_)
      refine t_callViP dX13_joinRows_312 M_X13_partOf (C_X13_partOf _ _ _ _ er2) ML_X13_855 IM_X13_partOf SE_X13_partOf qc_950 rfl (As := [.int l1, .int l8]) rfl rfl (Nat.le_of_ble_eq_true rfl) (Nat.le_of_ble_eq_true rfl) (Nat.le_of_ble_eq_true rfl) (Nat.le_of_ble_eq_true rfl) ?_
      refine mj_goto 328 dX13_joinRows_315 (by decide) ?_
      refine mj_sublv [(0, .ref 950), (1, .int l1), (2, .int l2), (5, .int l5), (6, .int l6), (8, .int l8)] [0, 1, 2, 3, 4, 6] rfl ?_
      exact B_X13_joinRows_328 _ _ _ _ _ _ _ _ _ (fun y0 y1 y2 y3 y4 y5 y6 hx => Hb288 y0 y1 y2 y3 y4 y5 y6 hx) hk
noncomputable def b_X13_joinRows_288 (x : Int32 × Int32 × Int32 × Int32 × Int32 × Int32 × t_S) : Option ((Int32 × Int32 × Int32 × Int32 × Int32 × Int32 × t_S) ⊕ (t_S)) := k_X13_joinRows_288 x.1 x.2.1 x.2.2.1 x.2.2.2.1 x.2.2.2.2.1 x.2.2.2.2.2.1 x.2.2.2.2.2.2
set_option maxRecDepth 4000 in
set_option maxHeartbeats 1000000 in
theorem LH_X13_joinRows_288 {D : va_G} {cy : Nat → ClassId} {ad : Nat → Nat} {bs : Nat} {X : State → Heap → Prop} : ∀ (n : Nat) (y0 : Int32) (y1 : Int32) (y2 : Int32) (y3 : Int32) (y4 : Int32) (y5 : Int32) (y6 : t_S) (Q : t_S → Prop) (hk : t_hk (t_loop (b_X13_joinRows_288) n (y0, y1, y2, y3, y4, y5, y6)) Q), mj_G D cy ad bs X cX13_joinRows 9 yX13_joinRows.cls none yX13_joinRows.name 3 0 0 1065 (t_P (fun v s' => v = none ∧ Q (s'))) 288 [(0, .ref 950), (1, .int (y0)), (2, .int (y1)), (5, .int (y2)), (6, .int (y3)), (7, .int (y4)), (8, .int (y5))] [] (t_m y6) 1065 0 0 := by
  intro n
  induction n with
  | zero => intro y0 y1 y2 y3 y4 y5 y6 Q hk; obtain ⟨r, hr, _⟩ := hk; cases hr
  | succ n ih =>
    intro y0 y1 y2 y3 y4 y5 y6 Q hk
    exact B_X13_joinRows_288 y0 y1 y2 y3 y4 y5 y6 (fun y => t_lq (b_X13_joinRows_288) n Q y) (fun y0' y1' y2' y3' y4' y5' y6' hy => ih y0' y1' y2' y3' y4' y5' y6' Q hy) (t_lp hk)
noncomputable def k_X13_joinRows_240 (l1 : Int32) (l2 : Int32) (l5 : Int32) (l6 : Int32) (l7 : Int32) (k0 : Int32) (k1 : Int64) (k2 : Int32) (s : t_S) : Option ((Int32 × Int32 × Int32 × Int32 × Int32 × t_S) ⊕ (t_S)) :=
 if t_ix k2 8600 = true then
  t_let (t_setJ s 1007 (k2.toNatClampNeg) (k1 ||| (k0.toInt64 <<< (((8 : Int32) * (l7 - l7 / (8 : Int32) * (8 : Int32))).toInt64 &&& 63)))) (fun s1 =>
 some (.inl (l1, l2, l5, l6, (l7 + 1), s1)))
else none
set_option maxRecDepth 4000 in
set_option maxHeartbeats 1000000 in
theorem B_X13_joinRows_240 {D : va_G} {cy : Nat → ClassId} {ad : Nat → Nat} {bs : Nat} {X : State → Heap → Prop} (l1 : Int32) (l2 : Int32) (l5 : Int32) (l6 : Int32) (l7 : Int32) (k0 : Int32) (k1 : Int64) (k2 : Int32) (s : t_S) (Q : (Int32 × Int32 × Int32 × Int32 × Int32 × t_S) ⊕ (t_S) → Prop) (Hb190 : ∀ (y0 : Int32) (y1 : Int32) (y2 : Int32) (y3 : Int32) (y4 : Int32) (y5 : t_S), Q (.inl (y0, y1, y2, y3, y4, y5)) → mj_G D cy ad bs X cX13_joinRows 9 yX13_joinRows.cls none yX13_joinRows.name 3 0 0 1065 (t_P (fun v s' => v = none ∧ Q (.inr (s')))) 190 [(0, .ref 950), (1, .int (y0)), (2, .int (y1)), (5, .int (y2)), (6, .int (y3)), (7, .int (y4))] [] (t_m y5) 1065 0 0) (hk : t_hk (k_X13_joinRows_240 l1 l2 l5 l6 l7 k0 k1 k2 s) Q) : mj_G D cy ad bs X cX13_joinRows 9 yX13_joinRows.cls none yX13_joinRows.name 3 0 0 1065 (t_P (fun v s' => v = none ∧ Q (.inr (s')))) 240 [(0, .ref 950), (1, .int l1), (2, .int l2), (5, .int l5), (6, .int l6), (7, .int l7)] [.int k0, .long k1, .int k2, .ref 1007] (t_m s) 1065 0 0 := by
  refine mj_i2l (v := k0.toInt64) dX13_joinRows_240 rfl ?_
  refine mj_bipush (v := 8) dX13_joinRows_241 (by decide) ?_
  refine mj_iload dX13_joinRows_243 5 rfl ?_
  refine mj_bipush (v := 8) dX13_joinRows_245 (by decide) ?_
  refine mj_irem dX13_joinRows_247 (by decide) ?_
  refine mj_imul dX13_joinRows_248 ?_
  refine mj_lshl dX13_joinRows_249 rfl ?_
  refine mj_lor dX13_joinRows_250 ?_
  refine t_chkK hk (fun c0 hk => ?_)
  refine t_lastK dX13_joinRows_251 qa_1007 (t_ixv c0) (fun s1 ws1 => t_letE hk ws1 (fun hk => ?_))
  refine mj_iinc (k := 5) (v := (l7 + 1)) (lv2 := [(7, .int (l7 + 1)), (0, .ref 950), (1, .int l1), (2, .int l2), (5, .int l5), (6, .int l6)]) dX13_joinRows_252 rfl rfl (by decide) rfl ?_
  refine mj_goto 190 dX13_joinRows_255 (by decide) ?_
  refine mj_sublv [(0, .ref 950), (1, .int l1), (2, .int l2), (5, .int l5), (6, .int l6), (7, .int (l7 + 1))] [1, 2, 3, 4, 5, 0] rfl ?_
  exact t_somK hk (fun hf => Hb190 l1 l2 l5 l6 (l7 + 1) s1 hf)
noncomputable def k_X13_joinRows_190 (l1 : Int32) (l2 : Int32) (l5 : Int32) (l6 : Int32) (l7 : Int32) (s : t_S) : Option ((Int32 × Int32 × Int32 × Int32 × Int32 × t_S) ⊕ (t_S)) :=
 if (l5 + l6) ≤ l7 then ((k_X13_joinRows_339 s).map Sum.inr)
 else (if t_ix ((2 : Int32) + (l7 / (8 : Int32))) 8600 = true then
  if l5 ≤ l7 then ((f_X13_signOf l2 (l7 - l5) s).bind (fun r2 =>
 k_X13_joinRows_240 l1 l2 l5 l6 l7 r2 (s.2.1 1007 (((2 : Int32) + (l7 / (8 : Int32))).toNatClampNeg)) ((2 : Int32) + (l7 / (8 : Int32))) s))
 else ((f_X13_signOf l1 l7 s).bind (fun r3 =>
 k_X13_joinRows_240 l1 l2 l5 l6 l7 r3 (s.2.1 1007 (((2 : Int32) + (l7 / (8 : Int32))).toNatClampNeg)) ((2 : Int32) + (l7 / (8 : Int32))) s))
else none)
set_option maxRecDepth 4000 in
set_option maxHeartbeats 1000000 in
theorem B_X13_joinRows_190 {D : va_G} {cy : Nat → ClassId} {ad : Nat → Nat} {bs : Nat} {X : State → Heap → Prop} (l1 : Int32) (l2 : Int32) (l5 : Int32) (l6 : Int32) (l7 : Int32) (s : t_S) (Q : (Int32 × Int32 × Int32 × Int32 × Int32 × t_S) ⊕ (t_S) → Prop) (Hb190 : ∀ (y0 : Int32) (y1 : Int32) (y2 : Int32) (y3 : Int32) (y4 : Int32) (y5 : t_S), Q (.inl (y0, y1, y2, y3, y4, y5)) → mj_G D cy ad bs X cX13_joinRows 9 yX13_joinRows.cls none yX13_joinRows.name 3 0 0 1065 (t_P (fun v s' => v = none ∧ Q (.inr (s')))) 190 [(0, .ref 950), (1, .int (y0)), (2, .int (y1)), (5, .int (y2)), (6, .int (y3)), (7, .int (y4))] [] (t_m y5) 1065 0 0) (hk : t_hk (k_X13_joinRows_190 l1 l2 l5 l6 l7 s) Q) : mj_G D cy ad bs X cX13_joinRows 9 yX13_joinRows.cls none yX13_joinRows.name 3 0 0 1065 (t_P (fun v s' => v = none ∧ Q (.inr (s')))) 190 [(0, .ref 950), (1, .int l1), (2, .int l2), (5, .int l5), (6, .int l6), (7, .int l7)] [] (t_m s) 1065 0 0 := by
  refine mj_iload dX13_joinRows_190 5 rfl ?_
  refine mj_iload dX13_joinRows_192 3 rfl ?_
  refine mj_iload dX13_joinRows_194 4 rfl ?_
  refine mj_iadd dX13_joinRows_196 ?_
  refine mj_icmp_ge 258 dX13_joinRows_197 (by decide) (fun z => t_posK hk z (fun hk => ?_)) (fun z => t_negK hk z (fun hk => ?_))
  · refine t_mapK hk (fun hk => ?_)
    refine mj_goto 339 dX13_joinRows_258 (by decide) ?_
    refine mj_sublv [(0, .ref 950)] [0] rfl ?_
    exact B_X13_joinRows_339 _ _ hk
  · refine mj_aload_n dX13_joinRows_200 0 rfl ?_
    refine t_getR 1007 dX13_joinRows_201 F_X13_185 qr_950_99 ?_
    refine mj_iconst (v := 2) dX13_joinRows_204 (by decide) ?_
    refine mj_iload dX13_joinRows_205 5 rfl ?_
    refine mj_bipush (v := 8) dX13_joinRows_207 (by decide) ?_
    refine mj_idiv dX13_joinRows_209 (by decide) ?_
    refine mj_iadd dX13_joinRows_210 ?_
    refine mj_dup2 dX13_joinRows_211 rfl rfl ?_
    refine t_chkK hk (fun c0 hk => ?_)
    refine t_lald dX13_joinRows_212 qa_1007 (t_ixv c0) ?_
    refine mj_iload dX13_joinRows_213 5 rfl ?_
    refine mj_iload dX13_joinRows_215 3 rfl ?_
    refine mj_icmp_ge 230 dX13_joinRows_217 (by decide) (fun z => t_posK hk z (fun hk => ?_)) (fun z => t_negK hk z (fun hk => ?_))
    · refine mj_aload_n dX13_joinRows_230 0 rfl ?_
      refine mj_iload_n dX13_joinRows_231 2 rfl ?_
      refine mj_iload dX13_joinRows_232 5 rfl ?_
      refine mj_iload dX13_joinRows_234 3 rfl ?_
      refine mj_isub dX13_joinRows_236 ?_
      refine t_bndK hk (fun r2 er2 hk => ?_)
      refine t_callViP dX13_joinRows_237 M_X13_signOf (C_X13_signOf _ _ _ _ er2) ML_X13_996 IM_X13_signOf SE_X13_signOf qc_950 rfl (As := [.int l2, .int (l7 - l5)]) rfl rfl (Nat.le_of_ble_eq_true rfl) (Nat.le_of_ble_eq_true rfl) (Nat.le_of_ble_eq_true rfl) (Nat.le_of_ble_eq_true rfl) ?_
      exact B_X13_joinRows_240 _ _ _ _ _ _ _ _ _ _ (fun y0 y1 y2 y3 y4 y5 hx => Hb190 y0 y1 y2 y3 y4 y5 hx) hk
    · refine mj_aload_n dX13_joinRows_220 0 rfl ?_
      refine mj_iload_n dX13_joinRows_221 1 rfl ?_
      refine mj_iload dX13_joinRows_222 5 rfl ?_
      refine t_bndK hk (fun r3 er3 hk => ?_)
      refine t_callViP dX13_joinRows_224 M_X13_signOf (C_X13_signOf _ _ _ _ er3) ML_X13_996 IM_X13_signOf SE_X13_signOf qc_950 rfl (As := [.int l1, .int l7]) rfl rfl (Nat.le_of_ble_eq_true rfl) (Nat.le_of_ble_eq_true rfl) (Nat.le_of_ble_eq_true rfl) (Nat.le_of_ble_eq_true rfl) ?_
      refine mj_goto 240 dX13_joinRows_227 (by decide) ?_
      exact B_X13_joinRows_240 _ _ _ _ _ _ _ _ _ _ (fun y0 y1 y2 y3 y4 y5 hx => Hb190 y0 y1 y2 y3 y4 y5 hx) hk
noncomputable def b_X13_joinRows_190 (x : Int32 × Int32 × Int32 × Int32 × Int32 × t_S) : Option ((Int32 × Int32 × Int32 × Int32 × Int32 × t_S) ⊕ (t_S)) := k_X13_joinRows_190 x.1 x.2.1 x.2.2.1 x.2.2.2.1 x.2.2.2.2.1 x.2.2.2.2.2
set_option maxRecDepth 4000 in
set_option maxHeartbeats 1000000 in
theorem LH_X13_joinRows_190 {D : va_G} {cy : Nat → ClassId} {ad : Nat → Nat} {bs : Nat} {X : State → Heap → Prop} : ∀ (n : Nat) (y0 : Int32) (y1 : Int32) (y2 : Int32) (y3 : Int32) (y4 : Int32) (y5 : t_S) (Q : t_S → Prop) (hk : t_hk (t_loop (b_X13_joinRows_190) n (y0, y1, y2, y3, y4, y5)) Q), mj_G D cy ad bs X cX13_joinRows 9 yX13_joinRows.cls none yX13_joinRows.name 3 0 0 1065 (t_P (fun v s' => v = none ∧ Q (s'))) 190 [(0, .ref 950), (1, .int (y0)), (2, .int (y1)), (5, .int (y2)), (6, .int (y3)), (7, .int (y4))] [] (t_m y5) 1065 0 0 := by
  intro n
  induction n with
  | zero => intro y0 y1 y2 y3 y4 y5 Q hk; obtain ⟨r, hr, _⟩ := hk; cases hr
  | succ n ih =>
    intro y0 y1 y2 y3 y4 y5 Q hk
    exact B_X13_joinRows_190 y0 y1 y2 y3 y4 y5 (fun y => t_lq (b_X13_joinRows_190) n Q y) (fun y0' y1' y2' y3' y4' y5' hy => ih y0' y1' y2' y3' y4' y5' Q hy) (t_lp hk)
noncomputable def k_X13_joinRows_165 (l1 : Int32) (l2 : Int32) (l5 : Int32) (l6 : Int32) (l7 : Int32) (s : t_S) : Option ((Int32 × Int32 × Int32 × Int32 × Int32 × t_S) ⊕ (t_S)) :=
 if (5 : Int32) ≤ l7 then ((t_loop (b_X13_joinRows_190) t_N (l1, l2, l5, l6, 0, s)).map Sum.inr)
 else (if t_ix ((2 : Int32) + l7) 8600 = true then
  t_let (t_setJ s 1007 (((2 : Int32) + l7).toNatClampNeg) (0 : Int64)) (fun s1 =>
 some (.inl (l1, l2, l5, l6, (l7 + 1), s1)))
else none)
set_option maxRecDepth 4000 in
set_option maxHeartbeats 1000000 in
theorem B_X13_joinRows_165 {D : va_G} {cy : Nat → ClassId} {ad : Nat → Nat} {bs : Nat} {X : State → Heap → Prop} (l1 : Int32) (l2 : Int32) (l5 : Int32) (l6 : Int32) (l7 : Int32) (s : t_S) (Q : (Int32 × Int32 × Int32 × Int32 × Int32 × t_S) ⊕ (t_S) → Prop) (Hb165 : ∀ (y0 : Int32) (y1 : Int32) (y2 : Int32) (y3 : Int32) (y4 : Int32) (y5 : t_S), Q (.inl (y0, y1, y2, y3, y4, y5)) → mj_G D cy ad bs X cX13_joinRows 9 yX13_joinRows.cls none yX13_joinRows.name 3 0 0 1065 (t_P (fun v s' => v = none ∧ Q (.inr (s')))) 165 [(0, .ref 950), (1, .int (y0)), (2, .int (y1)), (5, .int (y2)), (6, .int (y3)), (7, .int (y4))] [] (t_m y5) 1065 0 0) (hk : t_hk (k_X13_joinRows_165 l1 l2 l5 l6 l7 s) Q) : mj_G D cy ad bs X cX13_joinRows 9 yX13_joinRows.cls none yX13_joinRows.name 3 0 0 1065 (t_P (fun v s' => v = none ∧ Q (.inr (s')))) 165 [(0, .ref 950), (1, .int l1), (2, .int l2), (5, .int l5), (6, .int l6), (7, .int l7)] [] (t_m s) 1065 0 0 := by
  refine mj_iload dX13_joinRows_165 5 rfl ?_
  refine mj_iconst (v := 5) dX13_joinRows_167 (by decide) ?_
  refine mj_icmp_ge 187 dX13_joinRows_168 (by decide) (fun z => t_posK hk z (fun hk => ?_)) (fun z => t_negK hk z (fun hk => ?_))
  · refine t_mapK hk (fun hk => ?_)
    refine mj_iconst (v := 0) dX13_joinRows_187 (by decide) ?_
    refine mj_istore (lv2 := [(7, .int 0), (0, .ref 950), (1, .int l1), (2, .int l2), (5, .int l5), (6, .int l6)]) dX13_joinRows_188 (by decide) rfl ?_
    refine mj_sublv [(0, .ref 950), (1, .int l1), (2, .int l2), (5, .int l5), (6, .int l6), (7, .int 0)] [1, 2, 3, 4, 5, 0] rfl ?_
    exact LH_X13_joinRows_190 _ l1 l2 l5 l6 0 s _ hk
  · refine mj_aload_n dX13_joinRows_171 0 rfl ?_
    refine t_getR 1007 dX13_joinRows_172 F_X13_185 qr_950_99 ?_
    refine mj_iconst (v := 2) dX13_joinRows_175 (by decide) ?_
    refine mj_iload dX13_joinRows_176 5 rfl ?_
    refine mj_iadd dX13_joinRows_178 ?_
    refine mj_lconst (v := 0) dX13_joinRows_179 (by decide) ?_
    refine t_chkK hk (fun c0 hk => ?_)
    refine t_lastK dX13_joinRows_180 qa_1007 (t_ixv c0) (fun s1 ws1 => t_letE hk ws1 (fun hk => ?_))
    refine mj_iinc (k := 5) (v := (l7 + 1)) (lv2 := [(7, .int (l7 + 1)), (0, .ref 950), (1, .int l1), (2, .int l2), (5, .int l5), (6, .int l6)]) dX13_joinRows_181 rfl rfl (by decide) rfl ?_
    refine mj_goto 165 dX13_joinRows_184 (by decide) ?_
    refine mj_sublv [(0, .ref 950), (1, .int l1), (2, .int l2), (5, .int l5), (6, .int l6), (7, .int (l7 + 1))] [1, 2, 3, 4, 5, 0] rfl ?_
    exact t_somK hk (fun hf => Hb165 l1 l2 l5 l6 (l7 + 1) s1 hf)
noncomputable def b_X13_joinRows_165 (x : Int32 × Int32 × Int32 × Int32 × Int32 × t_S) : Option ((Int32 × Int32 × Int32 × Int32 × Int32 × t_S) ⊕ (t_S)) := k_X13_joinRows_165 x.1 x.2.1 x.2.2.1 x.2.2.2.1 x.2.2.2.2.1 x.2.2.2.2.2
set_option maxRecDepth 4000 in
set_option maxHeartbeats 1000000 in
theorem LH_X13_joinRows_165 {D : va_G} {cy : Nat → ClassId} {ad : Nat → Nat} {bs : Nat} {X : State → Heap → Prop} : ∀ (n : Nat) (y0 : Int32) (y1 : Int32) (y2 : Int32) (y3 : Int32) (y4 : Int32) (y5 : t_S) (Q : t_S → Prop) (hk : t_hk (t_loop (b_X13_joinRows_165) n (y0, y1, y2, y3, y4, y5)) Q), mj_G D cy ad bs X cX13_joinRows 9 yX13_joinRows.cls none yX13_joinRows.name 3 0 0 1065 (t_P (fun v s' => v = none ∧ Q (s'))) 165 [(0, .ref 950), (1, .int (y0)), (2, .int (y1)), (5, .int (y2)), (6, .int (y3)), (7, .int (y4))] [] (t_m y5) 1065 0 0 := by
  intro n
  induction n with
  | zero => intro y0 y1 y2 y3 y4 y5 Q hk; obtain ⟨r, hr, _⟩ := hk; cases hr
  | succ n ih =>
    intro y0 y1 y2 y3 y4 y5 Q hk
    exact B_X13_joinRows_165 y0 y1 y2 y3 y4 y5 (fun y => t_lq (b_X13_joinRows_165) n Q y) (fun y0' y1' y2' y3' y4' y5' hy => ih y0' y1' y2' y3' y4' y5' Q hy) (t_lp hk)
noncomputable def k_X13_joinRows_118 (l1 : Int32) (l2 : Int32) (l3 : Int32) (l5 : Int32) (l6 : Int32) (k0 : Int32) (k1 : Int32) (s : t_S) : Option (t_S) :=
 if k1 ≤ k0 then (t_let (t_setI s 950 98 ((s.1 950 98) - (2 : Int32))) (fun s1 =>
 if l3 = (0 : Int32) then (t_let (t_setJ s1 1007 ((0 : Int32).toNatClampNeg) (8 : Int64)) (fun s2 =>
 t_let (t_setJ s2 1007 ((1 : Int32).toNatClampNeg) ((l5 + l6).toInt64)) (fun s3 =>
 t_loop (b_X13_joinRows_288) t_N (l1, l2, l5, l6, 2, 0, s3))))
 else (t_let (t_setJ s1 1007 ((0 : Int32).toNatClampNeg) (2 : Int64)) (fun s4 =>
 t_let (t_setJ s4 1007 ((1 : Int32).toNatClampNeg) ((l5 + l6).toInt64)) (fun s5 =>
 t_loop (b_X13_joinRows_165) t_N (l1, l2, l5, l6, 0, s5))))))
 else ((f_X13_error (3 : Int32) s).bind (fun r1 =>
 some (r1)))
set_option maxRecDepth 4000 in
set_option maxHeartbeats 1000000 in
theorem B_X13_joinRows_118 {D : va_G} {cy : Nat → ClassId} {ad : Nat → Nat} {bs : Nat} {X : State → Heap → Prop} (l1 : Int32) (l2 : Int32) (l3 : Int32) (l5 : Int32) (l6 : Int32) (k0 : Int32) (k1 : Int32) (s : t_S) (Q : t_S → Prop) (hk : t_hk (k_X13_joinRows_118 l1 l2 l3 l5 l6 k0 k1 s) Q) : mj_G D cy ad bs X cX13_joinRows 9 yX13_joinRows.cls none yX13_joinRows.name 3 0 0 1065 (t_P (fun v s' => v = none ∧ Q (s'))) 118 [(0, .ref 950), (1, .int l1), (2, .int l2), (3, .int l3), (5, .int l5), (6, .int l6)] [.int k0, .int k1] (t_m s) 1065 0 0 := by
  refine mj_icmp_le 127 dX13_joinRows_118 (by decide) (fun z => t_posK hk z (fun hk => ?_)) (fun z => t_negK hk z (fun hk => ?_))
  · refine mj_aload_n dX13_joinRows_127 0 rfl ?_
    refine mj_aload_n dX13_joinRows_128 0 rfl ?_
    refine t_getI dX13_joinRows_129 F_X13_858 qf_950_98 ?_
    refine mj_iconst (v := 2) dX13_joinRows_132 (by decide) ?_
    refine mj_isub dX13_joinRows_133 ?_
    refine t_putIK dX13_joinRows_134 F_X13_858 qf_950_98 rfl (fun s1 ws1 => t_letE hk ws1 (fun hk => ?_))
    refine mj_iload_n dX13_joinRows_137 3 rfl ?_
    refine mj_if_eq 261 dX13_joinRows_138 (by decide) (fun z => t_posK hk z (fun hk => ?_)) (fun z => t_negK hk z (fun hk => ?_))
    · refine mj_aload_n dX13_joinRows_261 0 rfl ?_
      refine t_getR 1007 dX13_joinRows_262 F_X13_185 qr_950_99 ?_
      refine mj_iconst (v := 0) dX13_joinRows_265 (by decide) ?_
      refine mj_ldc2 dX13_joinRows_266 K_X13_951 ?_
      refine t_lastK dX13_joinRows_269 qa_1007 (by unfold vp_in; decide) (fun s2 ws2 => t_letE hk ws2 (fun hk => ?_))
      refine mj_aload_n dX13_joinRows_270 0 rfl ?_
      refine t_getR 1007 dX13_joinRows_271 F_X13_185 qr_950_99 ?_
      refine mj_iconst (v := 1) dX13_joinRows_274 (by decide) ?_
      refine mj_iload dX13_joinRows_275 4 rfl ?_
      refine mj_iload dX13_joinRows_277 5 rfl ?_
      refine mj_iadd dX13_joinRows_279 ?_
      refine mj_i2l (v := (l5 + l6).toInt64) dX13_joinRows_280 rfl ?_
      refine t_lastK dX13_joinRows_281 qa_1007 (by unfold vp_in; decide) (fun s3 ws3 => t_letE hk ws3 (fun hk => ?_))
      refine mj_iconst (v := 2) dX13_joinRows_282 (by decide) ?_
      refine mj_istore (lv2 := [(7, .int 2), (0, .ref 950), (1, .int l1), (2, .int l2), (3, .int l3), (5, .int l5), (6, .int l6)]) dX13_joinRows_283 (by decide) rfl ?_
      refine mj_iconst (v := 0) dX13_joinRows_285 (by decide) ?_
      refine mj_istore (lv2 := [(8, .int 0), (7, .int 2), (0, .ref 950), (1, .int l1), (2, .int l2), (3, .int l3), (5, .int l5), (6, .int l6)]) dX13_joinRows_286 (by decide) rfl ?_
      refine mj_sublv [(0, .ref 950), (1, .int l1), (2, .int l2), (5, .int l5), (6, .int l6), (7, .int 2), (8, .int 0)] [2, 3, 4, 6, 7, 1, 0] rfl ?_
      exact LH_X13_joinRows_288 _ l1 l2 l5 l6 2 0 s3 _ hk
    · refine mj_aload_n dX13_joinRows_141 0 rfl ?_
      refine t_getR 1007 dX13_joinRows_142 F_X13_185 qr_950_99 ?_
      refine mj_iconst (v := 0) dX13_joinRows_145 (by decide) ?_
      refine mj_ldc2 dX13_joinRows_146 K_X13_994 ?_
      refine t_lastK dX13_joinRows_149 qa_1007 (by unfold vp_in; decide) (fun s4 ws4 => t_letE hk ws4 (fun hk => ?_))
      refine mj_aload_n dX13_joinRows_150 0 rfl ?_
      refine t_getR 1007 dX13_joinRows_151 F_X13_185 qr_950_99 ?_
      refine mj_iconst (v := 1) dX13_joinRows_154 (by decide) ?_
      refine mj_iload dX13_joinRows_155 4 rfl ?_
      refine mj_iload dX13_joinRows_157 5 rfl ?_
      refine mj_iadd dX13_joinRows_159 ?_
      refine mj_i2l (v := (l5 + l6).toInt64) dX13_joinRows_160 rfl ?_
      refine t_lastK dX13_joinRows_161 qa_1007 (by unfold vp_in; decide) (fun s5 ws5 => t_letE hk ws5 (fun hk => ?_))
      refine mj_iconst (v := 0) dX13_joinRows_162 (by decide) ?_
      refine mj_istore (lv2 := [(7, .int 0), (0, .ref 950), (1, .int l1), (2, .int l2), (3, .int l3), (5, .int l5), (6, .int l6)]) dX13_joinRows_163 (by decide) rfl ?_
      refine mj_sublv [(0, .ref 950), (1, .int l1), (2, .int l2), (5, .int l5), (6, .int l6), (7, .int 0)] [1, 2, 3, 5, 6, 0] rfl ?_
      exact LH_X13_joinRows_165 _ l1 l2 l5 l6 0 s5 _ hk
  · refine mj_aload_n dX13_joinRows_121 0 rfl ?_
    refine mj_iconst (v := 3) dX13_joinRows_122 (by decide) ?_
    refine t_bndK hk (fun r1 er1 hk => ?_)
    refine t_callVvE dX13_joinRows_123 M_X13_error (C_X13_error _ _ _ er1) ML_X13_866 IM_X13_error SE_X13_error qc_950 rfl (As := [.int 3]) rfl rfl (Nat.le_of_ble_eq_true rfl) (Nat.le_of_ble_eq_true rfl) (Nat.le_of_ble_eq_true rfl) (Nat.le_of_ble_eq_true rfl) ?_
    exact t_somK hk (fun hf => t_vret dX13_joinRows_126 rfl ⟨rfl, hf⟩ (Nat.le_of_ble_eq_true rfl) (Nat.le_of_ble_eq_true rfl))
noncomputable def k_X13_joinRows_80 (l1 : Int32) (l2 : Int32) (l3 : Int32) (s : t_S) : Option (t_S) :=
 if t_ix (l1 + (1 : Int32)) 626600 = true then
  if t_ix (l2 + (1 : Int32)) 626600 = true then
  if l3 = (0 : Int32) then (k_X13_joinRows_118 l1 l2 l3 ((s.2.1 1006 ((l1 + (1 : Int32)).toNatClampNeg)).toInt32) ((s.2.1 1006 ((l2 + (1 : Int32)).toNatClampNeg)).toInt32) 16 (((s.2.1 1006 ((l1 + (1 : Int32)).toNatClampNeg)).toInt32) + ((s.2.1 1006 ((l2 + (1 : Int32)).toNatClampNeg)).toInt32)) s)
 else (k_X13_joinRows_118 l1 l2 l3 ((s.2.1 1006 ((l1 + (1 : Int32)).toNatClampNeg)).toInt32) ((s.2.1 1006 ((l2 + (1 : Int32)).toNatClampNeg)).toInt32) 40 (((s.2.1 1006 ((l1 + (1 : Int32)).toNatClampNeg)).toInt32) + ((s.2.1 1006 ((l2 + (1 : Int32)).toNatClampNeg)).toInt32)) s)
else none
else none
set_option maxRecDepth 4000 in
set_option maxHeartbeats 1000000 in
theorem B_X13_joinRows_80 {D : va_G} {cy : Nat → ClassId} {ad : Nat → Nat} {bs : Nat} {X : State → Heap → Prop} (l1 : Int32) (l2 : Int32) (l3 : Int32) (s : t_S) (Q : t_S → Prop) (hk : t_hk (k_X13_joinRows_80 l1 l2 l3 s) Q) : mj_G D cy ad bs X cX13_joinRows 9 yX13_joinRows.cls none yX13_joinRows.name 3 0 0 1065 (t_P (fun v s' => v = none ∧ Q (s'))) 80 [(0, .ref 950), (1, .int l1), (2, .int l2), (3, .int l3)] [] (t_m s) 1065 0 0 := by
  refine mj_aload_n dX13_joinRows_80 0 rfl ?_
  refine t_getR 1006 dX13_joinRows_81 F_X13_182 qr_950_95 ?_
  refine mj_iload_n dX13_joinRows_84 1 rfl ?_
  refine mj_iconst (v := 1) dX13_joinRows_85 (by decide) ?_
  refine mj_iadd dX13_joinRows_86 ?_
  refine t_chkK hk (fun c0 hk => ?_)
  refine t_lald dX13_joinRows_87 qa_1006 (t_ixv c0) ?_
  refine mj_l2i (v := (s.2.1 1006 ((l1 + (1 : Int32)).toNatClampNeg)).toInt32) dX13_joinRows_88 rfl ?_
  refine mj_istore (lv2 := [(5, .int ((s.2.1 1006 ((l1 + (1 : Int32)).toNatClampNeg)).toInt32)), (0, .ref 950), (1, .int l1), (2, .int l2), (3, .int l3)]) dX13_joinRows_89 (by decide) rfl ?_
  refine mj_aload_n dX13_joinRows_91 1 rfl ?_
  refine t_getR 1006 dX13_joinRows_92 F_X13_182 qr_950_95 ?_
  refine mj_iload_n dX13_joinRows_95 3 rfl ?_
  refine mj_iconst (v := 1) dX13_joinRows_96 (by decide) ?_
  refine mj_iadd dX13_joinRows_97 ?_
  refine t_chkK hk (fun c1 hk => ?_)
  refine t_lald dX13_joinRows_98 qa_1006 (t_ixv c1) ?_
  refine mj_l2i (v := (s.2.1 1006 ((l2 + (1 : Int32)).toNatClampNeg)).toInt32) dX13_joinRows_99 rfl ?_
  refine mj_istore (lv2 := [(6, .int ((s.2.1 1006 ((l2 + (1 : Int32)).toNatClampNeg)).toInt32)), (5, .int ((s.2.1 1006 ((l1 + (1 : Int32)).toNatClampNeg)).toInt32)), (0, .ref 950), (1, .int l1), (2, .int l2), (3, .int l3)]) dX13_joinRows_100 (by decide) rfl ?_
  refine mj_iload dX13_joinRows_102 1 rfl ?_
  refine mj_iload dX13_joinRows_104 0 rfl ?_
  refine mj_iadd dX13_joinRows_106 ?_
  refine mj_iload_n dX13_joinRows_107 5 rfl ?_
  refine mj_if_eq 116 dX13_joinRows_108 (by decide) (fun z => t_posK hk z (fun hk => ?_)) (fun z => t_negK hk z (fun hk => ?_))
  · refine mj_bipush (v := 16) dX13_joinRows_116 (by decide) ?_
    refine mj_sublv [(0, .ref 950), (1, .int l1), (2, .int l2), (3, .int l3), (5, .int ((s.2.1 1006 ((l1 + (1 : Int32)).toNatClampNeg)).toInt32)), (6, .int ((s.2.1 1006 ((l2 + (1 : Int32)).toNatClampNeg)).toInt32))] [2, 3, 4, 5, 1, 0] rfl ?_
    exact B_X13_joinRows_118 _ _ _ _ _ _ _ _ _ hk
  · refine mj_bipush (v := 40) dX13_joinRows_111 (by decide) ?_
    refine mj_goto 118 dX13_joinRows_113 (by decide) ?_
    refine mj_sublv [(0, .ref 950), (1, .int l1), (2, .int l2), (3, .int l3), (5, .int ((s.2.1 1006 ((l1 + (1 : Int32)).toNatClampNeg)).toInt32)), (6, .int ((s.2.1 1006 ((l2 + (1 : Int32)).toNatClampNeg)).toInt32))] [2, 3, 4, 5, 1, 0] rfl ?_
    exact B_X13_joinRows_118 _ _ _ _ _ _ _ _ _ hk
noncomputable def k_X13_joinRows_63 (l1 : Int32) (l2 : Int32) (l3 : Int32) (k0 : Int32) (s : t_S) : Option (t_S) :=
 if l3 = (0 : Int32) then (if k0 = (0 : Int32) then ((f_X13_error (1 : Int32) s).bind (fun r1 =>
 some (r1)))
 else (k_X13_joinRows_80 l1 l2 l3 s))
 else (k_X13_joinRows_80 l1 l2 l3 s)
set_option maxRecDepth 4000 in
set_option maxHeartbeats 1000000 in
theorem B_X13_joinRows_63 {D : va_G} {cy : Nat → ClassId} {ad : Nat → Nat} {bs : Nat} {X : State → Heap → Prop} (l1 : Int32) (l2 : Int32) (l3 : Int32) (k0 : Int32) (s : t_S) (Q : t_S → Prop) (hk : t_hk (k_X13_joinRows_63 l1 l2 l3 k0 s) Q) : mj_G D cy ad bs X cX13_joinRows 9 yX13_joinRows.cls none yX13_joinRows.name 3 0 0 1065 (t_P (fun v s' => v = none ∧ Q (s'))) 63 [(0, .ref 950), (1, .int l1), (2, .int l2), (3, .int l3)] [.int k0] (t_m s) 1065 0 0 := by
  refine mj_istore (lv2 := [(4, .int k0), (0, .ref 950), (1, .int l1), (2, .int l2), (3, .int l3)]) dX13_joinRows_63 (by decide) rfl ?_
  refine mj_iload_n dX13_joinRows_65 4 rfl ?_
  refine mj_if_ne 80 dX13_joinRows_66 (by decide) (fun z => t_negK hk z (fun hk => ?_)) (fun z => t_posK hk z (fun hk => ?_))
  · refine mj_sublv [(0, .ref 950), (1, .int l1), (2, .int l2), (3, .int l3)] [1, 2, 3, 4] rfl ?_
    exact B_X13_joinRows_80 _ _ _ _ _ hk
  · refine mj_iload dX13_joinRows_69 0 rfl ?_
    refine mj_if_ne 80 dX13_joinRows_71 (by decide) (fun z => t_negK hk z (fun hk => ?_)) (fun z => t_posK hk z (fun hk => ?_))
    · refine mj_sublv [(0, .ref 950), (1, .int l1), (2, .int l2), (3, .int l3)] [1, 2, 3, 4] rfl ?_
      exact B_X13_joinRows_80 _ _ _ _ _ hk
    · refine mj_aload_n dX13_joinRows_74 1 rfl ?_
      refine mj_iconst (v := 1) dX13_joinRows_75 (by decide) ?_
      refine t_bndK hk (fun r1 er1 hk => ?_)
      refine t_callVvE dX13_joinRows_76 M_X13_error (C_X13_error _ _ _ er1) ML_X13_866 IM_X13_error SE_X13_error qc_950 rfl (As := [.int 1]) rfl rfl (Nat.le_of_ble_eq_true rfl) (Nat.le_of_ble_eq_true rfl) (Nat.le_of_ble_eq_true rfl) (Nat.le_of_ble_eq_true rfl) ?_
      exact t_somK hk (fun hf => t_vret dX13_joinRows_79 rfl ⟨rfl, hf⟩ (Nat.le_of_ble_eq_true rfl) (Nat.le_of_ble_eq_true rfl))
noncomputable def k_X13_joinRows_62 (l1 : Int32) (l2 : Int32) (l3 : Int32) (s : t_S) : Option (t_S) :=
 k_X13_joinRows_63 l1 l2 l3 0 s
set_option maxRecDepth 4000 in
set_option maxHeartbeats 1000000 in
theorem B_X13_joinRows_62 {D : va_G} {cy : Nat → ClassId} {ad : Nat → Nat} {bs : Nat} {X : State → Heap → Prop} (l1 : Int32) (l2 : Int32) (l3 : Int32) (s : t_S) (Q : t_S → Prop) (hk : t_hk (k_X13_joinRows_62 l1 l2 l3 s) Q) : mj_G D cy ad bs X cX13_joinRows 9 yX13_joinRows.cls none yX13_joinRows.name 3 0 0 1065 (t_P (fun v s' => v = none ∧ Q (s'))) 62 [(0, .ref 950), (1, .int l1), (2, .int l2), (3, .int l3)] [] (t_m s) 1065 0 0 := by
  refine mj_iconst (v := 0) dX13_joinRows_62 (by decide) ?_
  exact B_X13_joinRows_63 _ _ _ _ _ _ hk
noncomputable def k_X13_joinRows_31 (l1 : Int32) (l2 : Int32) (k0 : Int32) (s : t_S) : Option (t_S) :=
 if t_ix l1 626600 = true then
  if (lg_cmp (s.2.1 1006 (l1.toNatClampNeg)) (8 : Int64)) = (0 : Int32) then (if t_ix l2 626600 = true then
  if (lg_cmp (s.2.1 1006 (l2.toNatClampNeg)) (8 : Int64)) = (0 : Int32) then (k_X13_joinRows_63 l1 l2 k0 1 s)
 else (k_X13_joinRows_62 l1 l2 k0 s)
else none)
 else (k_X13_joinRows_62 l1 l2 k0 s)
else none
set_option maxRecDepth 4000 in
set_option maxHeartbeats 1000000 in
theorem B_X13_joinRows_31 {D : va_G} {cy : Nat → ClassId} {ad : Nat → Nat} {bs : Nat} {X : State → Heap → Prop} (l1 : Int32) (l2 : Int32) (k0 : Int32) (s : t_S) (Q : t_S → Prop) (hk : t_hk (k_X13_joinRows_31 l1 l2 k0 s) Q) : mj_G D cy ad bs X cX13_joinRows 9 yX13_joinRows.cls none yX13_joinRows.name 3 0 0 1065 (t_P (fun v s' => v = none ∧ Q (s'))) 31 [(0, .ref 950), (1, .int l1), (2, .int l2)] [.int k0] (t_m s) 1065 0 0 := by
  refine mj_istore_n 3 (lv2 := [(3, .int k0), (0, .ref 950), (1, .int l1), (2, .int l2)]) dX13_joinRows_31 rfl (by decide) rfl ?_
  refine mj_aload_n dX13_joinRows_32 1 rfl ?_
  refine t_getR 1006 dX13_joinRows_33 F_X13_182 qr_950_95 ?_
  refine mj_iload_n dX13_joinRows_36 2 rfl ?_
  refine t_chkK hk (fun c0 hk => ?_)
  refine t_lald dX13_joinRows_37 qa_1006 (t_ixv c0) ?_
  refine mj_ldc2 dX13_joinRows_38 K_X13_951 ?_
  refine mj_lcmp dX13_joinRows_41 ?_
  refine mj_if_ne 62 dX13_joinRows_42 (by decide) (fun z => t_negK hk z (fun hk => ?_)) (fun z => t_posK hk z (fun hk => ?_))
  · refine mj_sublv [(0, .ref 950), (1, .int l1), (2, .int l2), (3, .int k0)] [1, 2, 3, 0] rfl ?_
    exact B_X13_joinRows_62 _ _ _ _ _ hk
  · refine mj_aload_n dX13_joinRows_45 1 rfl ?_
    refine t_getR 1006 dX13_joinRows_46 F_X13_182 qr_950_95 ?_
    refine mj_iload_n dX13_joinRows_49 3 rfl ?_
    refine t_chkK hk (fun c1 hk => ?_)
    refine t_lald dX13_joinRows_50 qa_1006 (t_ixv c1) ?_
    refine mj_ldc2 dX13_joinRows_51 K_X13_951 ?_
    refine mj_lcmp dX13_joinRows_54 ?_
    refine mj_if_ne 62 dX13_joinRows_55 (by decide) (fun z => t_negK hk z (fun hk => ?_)) (fun z => t_posK hk z (fun hk => ?_))
    · refine mj_sublv [(0, .ref 950), (1, .int l1), (2, .int l2), (3, .int k0)] [1, 2, 3, 0] rfl ?_
      exact B_X13_joinRows_62 _ _ _ _ _ hk
    · refine mj_iconst (v := 1) dX13_joinRows_58 (by decide) ?_
      refine mj_goto 63 dX13_joinRows_59 (by decide) ?_
      refine mj_sublv [(0, .ref 950), (1, .int l1), (2, .int l2), (3, .int k0)] [1, 2, 3, 0] rfl ?_
      exact B_X13_joinRows_63 _ _ _ _ _ _ hk
noncomputable def k_X13_joinRows_30 (l1 : Int32) (l2 : Int32) (s : t_S) : Option (t_S) :=
 k_X13_joinRows_31 l1 l2 0 s
set_option maxRecDepth 4000 in
set_option maxHeartbeats 1000000 in
theorem B_X13_joinRows_30 {D : va_G} {cy : Nat → ClassId} {ad : Nat → Nat} {bs : Nat} {X : State → Heap → Prop} (l1 : Int32) (l2 : Int32) (s : t_S) (Q : t_S → Prop) (hk : t_hk (k_X13_joinRows_30 l1 l2 s) Q) : mj_G D cy ad bs X cX13_joinRows 9 yX13_joinRows.cls none yX13_joinRows.name 3 0 0 1065 (t_P (fun v s' => v = none ∧ Q (s'))) 30 [(0, .ref 950), (1, .int l1), (2, .int l2)] [] (t_m s) 1065 0 0 := by
  refine mj_iconst (v := 0) dX13_joinRows_30 (by decide) ?_
  exact B_X13_joinRows_31 _ _ _ _ _ hk
noncomputable def f_X13_joinRows (x1 : Int32) (x2 : Int32) (s : t_S) : Option (t_S) :=
 if t_ix x1 626600 = true then
  if (lg_cmp (s.2.1 1006 (x1.toNatClampNeg)) (2 : Int64)) = (0 : Int32) then (if t_ix x2 626600 = true then
  if (lg_cmp (s.2.1 1006 (x2.toNatClampNeg)) (2 : Int64)) = (0 : Int32) then (k_X13_joinRows_31 x1 x2 1 s)
 else (k_X13_joinRows_30 x1 x2 s)
else none)
 else (k_X13_joinRows_30 x1 x2 s)
else none
set_option maxRecDepth 4000 in
set_option maxHeartbeats 1000000 in
theorem C_X13_joinRows (x1 : Int32) (x2 : Int32) (s : t_S) (r : t_S) (hr : f_X13_joinRows x1 x2 s = some r) : t_C yX13_joinRows cX13_joinRows 9 none 3 [.ref 950, .int x1, .int x2] s (fun v s' => v = none ∧ s' = r) := by
  refine t_C.imp (P := fun v s' => v = none ∧ (fun q => q = r) (s')) (t_C.of (by decide +kernel) (Nat.le_of_ble_eq_true rfl) ?_) (fun v s' hp => hp)
  intro D cy ad bs X
  have hk : t_hk (f_X13_joinRows x1 x2 s) (fun q => q = r) := ⟨r, hr, rfl⟩
  show mj_G D cy ad bs X cX13_joinRows 9 yX13_joinRows.cls none yX13_joinRows.name 3 0 0 1065 (t_P (fun v s' => v = none ∧ (fun q => q = r) (s'))) 0 [(0, .ref 950), (1, .int x1), (2, .int x2)] [] (t_m s) 1065 0 0
  refine mj_aload_n dX13_joinRows_0 0 rfl ?_
  refine t_getR 1006 dX13_joinRows_1 F_X13_182 qr_950_95 ?_
  refine mj_iload_n dX13_joinRows_4 1 rfl ?_
  refine t_chkK hk (fun c0 hk => ?_)
  refine t_lald dX13_joinRows_5 qa_1006 (t_ixv c0) ?_
  refine mj_ldc2 dX13_joinRows_6 K_X13_994 ?_
  refine mj_lcmp dX13_joinRows_9 ?_
  refine mj_if_ne 30 dX13_joinRows_10 (by decide) (fun z => t_negK hk z (fun hk => ?_)) (fun z => t_posK hk z (fun hk => ?_))
  · exact B_X13_joinRows_30 _ _ _ _ hk
  · refine mj_aload_n dX13_joinRows_13 0 rfl ?_
    refine t_getR 1006 dX13_joinRows_14 F_X13_182 qr_950_95 ?_
    refine mj_iload_n dX13_joinRows_17 2 rfl ?_
    refine t_chkK hk (fun c1 hk => ?_)
    refine t_lald dX13_joinRows_18 qa_1006 (t_ixv c1) ?_
    refine mj_ldc2 dX13_joinRows_19 K_X13_994 ?_
    refine mj_lcmp dX13_joinRows_22 ?_
    refine mj_if_ne 30 dX13_joinRows_23 (by decide) (fun z => t_negK hk z (fun hk => ?_)) (fun z => t_posK hk z (fun hk => ?_))
    · exact B_X13_joinRows_30 _ _ _ _ hk
    · refine mj_iconst (v := 1) dX13_joinRows_26 (by decide) ?_
      refine mj_goto 31 dX13_joinRows_27 (by decide) ?_
      exact B_X13_joinRows_31 _ _ _ _ _ hk

theorem dX13_size_0 : decode cX13_size 0 = .ok (.lload_n 0, 1) := by decide +kernel
theorem dX13_size_1 : decode cX13_size 1 = .ok (.lconst 0, 1) := by decide +kernel
theorem dX13_size_11 : decode cX13_size 11 = .ok (.lload_n 0, 1) := by decide +kernel
theorem dX13_size_12 : decode cX13_size 12 = .ok (.lreturn, 1) := by decide +kernel
theorem dX13_size_2 : decode cX13_size 2 = .ok (.lcmp, 1) := by decide +kernel
theorem dX13_size_3 : decode cX13_size 3 = .ok (.ifCond .ge 8, 3) := by decide +kernel
theorem dX13_size_6 : decode cX13_size 6 = .ok (.lload_n 0, 1) := by decide +kernel
theorem dX13_size_7 : decode cX13_size 7 = .ok (.lneg, 1) := by decide +kernel
theorem dX13_size_8 : decode cX13_size 8 = .ok (.goto 4, 3) := by decide +kernel
noncomputable def f_X13_size (x1 : Int64) (s : t_S) : Int64 :=
 if (0 : Int32) ≤ (lg_cmp x1 (0 : Int64)) then (x1)
 else ((-x1))
set_option maxRecDepth 4000 in
set_option maxHeartbeats 1000000 in
theorem C_X13_size (x1 : Int64) (s : t_S) : t_C yX13_size cX13_size 2 (some .long) 0 [.long x1] s (fun v s' => v = some (.long (f_X13_size x1 s)) ∧ s' = s) := by
  refine t_C.imp (P := fun v s' => s' = s ∧ ∃ x, v = some (.long x) ∧ (fun r => r = f_X13_size x1 s) (x)) (t_C.of (by decide +kernel) (Nat.le_of_ble_eq_true rfl) ?_) (fun v s' hp => by obtain ⟨rfl, x, rfl, rfl⟩ := hp; exact ⟨rfl, rfl⟩)
  intro D cy ad bs X
  have hk : t_ht (f_X13_size x1 s) (fun r => r = f_X13_size x1 s) := rfl
  show mj_G D cy ad bs X cX13_size 2 yX13_size.cls (some .long) yX13_size.name 0 0 0 1065 (t_P (fun v s' => s' = s ∧ ∃ x, v = some (.long x) ∧ (fun r => r = f_X13_size x1 s) (x))) 0 [(0, .long x1)] [] (t_m s) 1065 0 0
  refine mj_lload_n dX13_size_0 0 rfl ?_
  refine mj_lconst (v := 0) dX13_size_1 (by decide) ?_
  refine mj_lcmp dX13_size_2 ?_
  refine mj_if_ge 11 dX13_size_3 (by decide) (fun z => t_posTK hk z (fun hk => ?_)) (fun z => t_negTK hk z (fun hk => ?_))
  · refine mj_lload_n dX13_size_11 0 rfl ?_
    exact t_lret dX13_size_12 rfl ⟨rfl, _, rfl, hk⟩ (Nat.le_of_ble_eq_true rfl) (Nat.le_of_ble_eq_true rfl)
  · refine mj_lload_n dX13_size_6 0 rfl ?_
    refine mj_lneg dX13_size_7 ?_
    refine mj_goto 12 dX13_size_8 (by decide) ?_
    exact t_lret dX13_size_12 rfl ⟨rfl, _, rfl, hk⟩ (Nat.le_of_ble_eq_true rfl) (Nat.le_of_ble_eq_true rfl)

