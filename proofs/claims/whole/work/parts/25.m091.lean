/-! Methods as functions, 91: X13_doLine, X13_doStep, X13_drop, X13_encode, X13_end -/
theorem dX13_doLine_0 : decode cX13_doLine 0 = .ok (.aload_n 0, 1) := by decide +kernel
theorem dX13_doLine_1 : decode cX13_doLine 1 = .ok (.getfield 126, 3) := by decide +kernel
theorem dX13_doLine_101 : decode cX13_doLine 101 = .ok (.aload_n 0, 1) := by decide +kernel
theorem dX13_doLine_102 : decode cX13_doLine 102 = .ok (.iload_n 1, 1) := by decide +kernel
theorem dX13_doLine_103 : decode cX13_doLine 103 = .ok (.iload_n 2, 1) := by decide +kernel
theorem dX13_doLine_104 : decode cX13_doLine 104 = .ok (.iload_n 3, 1) := by decide +kernel
theorem dX13_doLine_105 : decode cX13_doLine 105 = .ok (.invokevirtual 1371, 3) := by decide +kernel
theorem dX13_doLine_108 : decode cX13_doLine 108 = .ok (.return_, 1) := by decide +kernel
theorem dX13_doLine_109 : decode cX13_doLine 109 = .ok (.aload_n 0, 1) := by decide +kernel
theorem dX13_doLine_110 : decode cX13_doLine 110 = .ok (.aload_n 0, 1) := by decide +kernel
theorem dX13_doLine_111 : decode cX13_doLine 111 = .ok (.getfield 147, 3) := by decide +kernel
theorem dX13_doLine_114 : decode cX13_doLine 114 = .ok (.iload_n 3, 1) := by decide +kernel
theorem dX13_doLine_115 : decode cX13_doLine 115 = .ok (.iaload, 1) := by decide +kernel
theorem dX13_doLine_116 : decode cX13_doLine 116 = .ok (.invokestatic 897, 3) := by decide +kernel
theorem dX13_doLine_119 : decode cX13_doLine 119 = .ok (.aload_n 0, 1) := by decide +kernel
theorem dX13_doLine_120 : decode cX13_doLine 120 = .ok (.getfield 842, 3) := by decide +kernel
theorem dX13_doLine_123 : decode cX13_doLine 123 = .ok (.ifCond .ne 22, 3) := by decide +kernel
theorem dX13_doLine_126 : decode cX13_doLine 126 = .ok (.aload_n 0, 1) := by decide +kernel
theorem dX13_doLine_127 : decode cX13_doLine 127 = .ok (.getfield 182, 3) := by decide +kernel
theorem dX13_doLine_130 : decode cX13_doLine 130 = .ok (.aload_n 0, 1) := by decide +kernel
theorem dX13_doLine_131 : decode cX13_doLine 131 = .ok (.invokevirtual 941, 3) := by decide +kernel
theorem dX13_doLine_134 : decode cX13_doLine 134 = .ok (.laload, 1) := by decide +kernel
theorem dX13_doLine_135 : decode cX13_doLine 135 = .ok (.lconst 1, 1) := by decide +kernel
theorem dX13_doLine_136 : decode cX13_doLine 136 = .ok (.lcmp, 1) := by decide +kernel
theorem dX13_doLine_137 : decode cX13_doLine 137 = .ok (.ifCond .eq 8, 3) := by decide +kernel
theorem dX13_doLine_140 : decode cX13_doLine 140 = .ok (.aload_n 0, 1) := by decide +kernel
theorem dX13_doLine_141 : decode cX13_doLine 141 = .ok (.iconst 1, 1) := by decide +kernel
theorem dX13_doLine_142 : decode cX13_doLine 142 = .ok (.invokevirtual 866, 3) := by decide +kernel
theorem dX13_doLine_145 : decode cX13_doLine 145 = .ok (.aload_n 0, 1) := by decide +kernel
theorem dX13_doLine_146 : decode cX13_doLine 146 = .ok (.getfield 842, 3) := by decide +kernel
theorem dX13_doLine_149 : decode cX13_doLine 149 = .ok (.ifCond .ne 93, 3) := by decide +kernel
theorem dX13_doLine_152 : decode cX13_doLine 152 = .ok (.aload_n 0, 1) := by decide +kernel
theorem dX13_doLine_153 : decode cX13_doLine 153 = .ok (.getfield 182, 3) := by decide +kernel
theorem dX13_doLine_156 : decode cX13_doLine 156 = .ok (.aload_n 0, 1) := by decide +kernel
theorem dX13_doLine_157 : decode cX13_doLine 157 = .ok (.invokevirtual 941, 3) := by decide +kernel
theorem dX13_doLine_160 : decode cX13_doLine 160 = .ok (.iconst 1, 1) := by decide +kernel
theorem dX13_doLine_161 : decode cX13_doLine 161 = .ok (.iadd, 1) := by decide +kernel
theorem dX13_doLine_162 : decode cX13_doLine 162 = .ok (.laload, 1) := by decide +kernel
theorem dX13_doLine_163 : decode cX13_doLine 163 = .ok (.lconst 1, 1) := by decide +kernel
theorem dX13_doLine_164 : decode cX13_doLine 164 = .ok (.lcmp, 1) := by decide +kernel
theorem dX13_doLine_165 : decode cX13_doLine 165 = .ok (.ifCond .ne 7, 3) := by decide +kernel
theorem dX13_doLine_168 : decode cX13_doLine 168 = .ok (.iconst 1, 1) := by decide +kernel
theorem dX13_doLine_169 : decode cX13_doLine 169 = .ok (.goto 4, 3) := by decide +kernel
theorem dX13_doLine_172 : decode cX13_doLine 172 = .ok (.iconst 0, 1) := by decide +kernel
theorem dX13_doLine_173 : decode cX13_doLine 173 = .ok (.istore 4, 2) := by decide +kernel
theorem dX13_doLine_175 : decode cX13_doLine 175 = .ok (.iload 4, 2) := by decide +kernel
theorem dX13_doLine_177 : decode cX13_doLine 177 = .ok (.ifCond .eq 12, 3) := by decide +kernel
theorem dX13_doLine_180 : decode cX13_doLine 180 = .ok (.aload_n 0, 1) := by decide +kernel
theorem dX13_doLine_181 : decode cX13_doLine 181 = .ok (.getfield 156, 3) := by decide +kernel
theorem dX13_doLine_184 : decode cX13_doLine 184 = .ok (.iload_n 3, 1) := by decide +kernel
theorem dX13_doLine_185 : decode cX13_doLine 185 = .ok (.iaload, 1) := by decide +kernel
theorem dX13_doLine_186 : decode cX13_doLine 186 = .ok (.goto 9, 3) := by decide +kernel
theorem dX13_doLine_189 : decode cX13_doLine 189 = .ok (.aload_n 0, 1) := by decide +kernel
theorem dX13_doLine_190 : decode cX13_doLine 190 = .ok (.getfield 159, 3) := by decide +kernel
theorem dX13_doLine_193 : decode cX13_doLine 193 = .ok (.iload_n 3, 1) := by decide +kernel
theorem dX13_doLine_194 : decode cX13_doLine 194 = .ok (.iaload, 1) := by decide +kernel
theorem dX13_doLine_195 : decode cX13_doLine 195 = .ok (.istore 5, 2) := by decide +kernel
theorem dX13_doLine_197 : decode cX13_doLine 197 = .ok (.aload_n 0, 1) := by decide +kernel
theorem dX13_doLine_198 : decode cX13_doLine 198 = .ok (.getfield 288, 3) := by decide +kernel
theorem dX13_doLine_201 : decode cX13_doLine 201 = .ok (.bipush 8, 2) := by decide +kernel
theorem dX13_doLine_203 : decode cX13_doLine 203 = .ok (.iload_n 1, 1) := by decide +kernel
theorem dX13_doLine_204 : decode cX13_doLine 204 = .ok (.imul, 1) := by decide +kernel
theorem dX13_doLine_205 : decode cX13_doLine 205 = .ok (.iload_n 2, 1) := by decide +kernel
theorem dX13_doLine_206 : decode cX13_doLine 206 = .ok (.iadd, 1) := by decide +kernel
theorem dX13_doLine_207 : decode cX13_doLine 207 = .ok (.iload 5, 2) := by decide +kernel
theorem dX13_doLine_209 : decode cX13_doLine 209 = .ok (.ifCond .lt 8, 3) := by decide +kernel
theorem dX13_doLine_212 : decode cX13_doLine 212 = .ok (.iload 5, 2) := by decide +kernel
theorem dX13_doLine_214 : decode cX13_doLine 214 = .ok (.goto 27, 3) := by decide +kernel
theorem dX13_doLine_217 : decode cX13_doLine 217 = .ok (.iload 4, 2) := by decide +kernel
theorem dX13_doLine_219 : decode cX13_doLine 219 = .ok (.ifCond .eq 17, 3) := by decide +kernel
theorem dX13_doLine_222 : decode cX13_doLine 222 = .ok (.aload_n 0, 1) := by decide +kernel
theorem dX13_doLine_223 : decode cX13_doLine 223 = .ok (.getfield 126, 3) := by decide +kernel
theorem dX13_doLine_226 : decode cX13_doLine 226 = .ok (.iload_n 3, 1) := by decide +kernel
theorem dX13_doLine_227 : decode cX13_doLine 227 = .ok (.iaload, 1) := by decide +kernel
theorem dX13_doLine_228 : decode cX13_doLine 228 = .ok (.iconst 4, 1) := by decide +kernel
theorem dX13_doLine_229 : decode cX13_doLine 229 = .ok (.if_icmp .ne 7, 3) := by decide +kernel
theorem dX13_doLine_232 : decode cX13_doLine 232 = .ok (.iload_n 3, 1) := by decide +kernel
theorem dX13_doLine_233 : decode cX13_doLine 233 = .ok (.goto 8, 3) := by decide +kernel
theorem dX13_doLine_236 : decode cX13_doLine 236 = .ok (.aload_n 0, 1) := by decide +kernel
theorem dX13_doLine_237 : decode cX13_doLine 237 = .ok (.iload_n 3, 1) := by decide +kernel
theorem dX13_doLine_238 : decode cX13_doLine 238 = .ok (.invokevirtual 1366, 3) := by decide +kernel
theorem dX13_doLine_241 : decode cX13_doLine 241 = .ok (.iastore, 1) := by decide +kernel
theorem dX13_doLine_242 : decode cX13_doLine 242 = .ok (.return_, 1) := by decide +kernel
theorem dX13_doLine_243 : decode cX13_doLine 243 = .ok (.aload_n 0, 1) := by decide +kernel
theorem dX13_doLine_244 : decode cX13_doLine 244 = .ok (.iload_n 1, 1) := by decide +kernel
theorem dX13_doLine_245 : decode cX13_doLine 245 = .ok (.iload_n 2, 1) := by decide +kernel
theorem dX13_doLine_246 : decode cX13_doLine 246 = .ok (.iload_n 3, 1) := by decide +kernel
theorem dX13_doLine_247 : decode cX13_doLine 247 = .ok (.invokevirtual 1374, 3) := by decide +kernel
theorem dX13_doLine_250 : decode cX13_doLine 250 = .ok (.return_, 1) := by decide +kernel
theorem dX13_doLine_251 : decode cX13_doLine 251 = .ok (.aload_n 0, 1) := by decide +kernel
theorem dX13_doLine_252 : decode cX13_doLine 252 = .ok (.iload_n 1, 1) := by decide +kernel
theorem dX13_doLine_253 : decode cX13_doLine 253 = .ok (.iload_n 3, 1) := by decide +kernel
theorem dX13_doLine_254 : decode cX13_doLine 254 = .ok (.invokevirtual 1377, 3) := by decide +kernel
theorem dX13_doLine_257 : decode cX13_doLine 257 = .ok (.return_, 1) := by decide +kernel
theorem dX13_doLine_258 : decode cX13_doLine 258 = .ok (.aload_n 0, 1) := by decide +kernel
theorem dX13_doLine_259 : decode cX13_doLine 259 = .ok (.iload_n 1, 1) := by decide +kernel
theorem dX13_doLine_260 : decode cX13_doLine 260 = .ok (.iload_n 2, 1) := by decide +kernel
theorem dX13_doLine_261 : decode cX13_doLine 261 = .ok (.iload_n 3, 1) := by decide +kernel
theorem dX13_doLine_262 : decode cX13_doLine 262 = .ok (.invokevirtual 1380, 3) := by decide +kernel
theorem dX13_doLine_265 : decode cX13_doLine 265 = .ok (.return_, 1) := by decide +kernel
theorem dX13_doLine_266 : decode cX13_doLine 266 = .ok (.aload_n 0, 1) := by decide +kernel
theorem dX13_doLine_267 : decode cX13_doLine 267 = .ok (.iload_n 1, 1) := by decide +kernel
theorem dX13_doLine_268 : decode cX13_doLine 268 = .ok (.iload_n 2, 1) := by decide +kernel
theorem dX13_doLine_269 : decode cX13_doLine 269 = .ok (.iload_n 3, 1) := by decide +kernel
theorem dX13_doLine_270 : decode cX13_doLine 270 = .ok (.invokevirtual 1383, 3) := by decide +kernel
theorem dX13_doLine_273 : decode cX13_doLine 273 = .ok (.return_, 1) := by decide +kernel
theorem dX13_doLine_274 : decode cX13_doLine 274 = .ok (.aload_n 0, 1) := by decide +kernel
theorem dX13_doLine_275 : decode cX13_doLine 275 = .ok (.iload_n 1, 1) := by decide +kernel
theorem dX13_doLine_276 : decode cX13_doLine 276 = .ok (.iload_n 2, 1) := by decide +kernel
theorem dX13_doLine_277 : decode cX13_doLine 277 = .ok (.iload_n 3, 1) := by decide +kernel
theorem dX13_doLine_278 : decode cX13_doLine 278 = .ok (.invokevirtual 1386, 3) := by decide +kernel
theorem dX13_doLine_281 : decode cX13_doLine 281 = .ok (.return_, 1) := by decide +kernel
theorem dX13_doLine_4 : decode cX13_doLine 4 = .ok (.iload_n 3, 1) := by decide +kernel
theorem dX13_doLine_5 : decode cX13_doLine 5 = .ok (.iaload, 1) := by decide +kernel
theorem dX13_doLine_6 : decode cX13_doLine 6 = .ok (.tableswitch 268 1 17 #[82, 82, 103, 103, 245, 252, 268, 268, 268, 237, 237, 268, 268, 268, 268, 268, 260], 82) := by decide +kernel
theorem dX13_doLine_88 : decode cX13_doLine 88 = .ok (.aload_n 0, 1) := by decide +kernel
theorem dX13_doLine_89 : decode cX13_doLine 89 = .ok (.iload_n 1, 1) := by decide +kernel
theorem dX13_doLine_90 : decode cX13_doLine 90 = .ok (.iload_n 3, 1) := by decide +kernel
theorem dX13_doLine_91 : decode cX13_doLine 91 = .ok (.invokevirtual 1369, 3) := by decide +kernel
theorem dX13_doLine_94 : decode cX13_doLine 94 = .ok (.aload_n 0, 1) := by decide +kernel
theorem dX13_doLine_95 : decode cX13_doLine 95 = .ok (.getfield 842, 3) := by decide +kernel
theorem dX13_doLine_98 : decode cX13_doLine 98 = .ok (.ifCond .ne 10, 3) := by decide +kernel
noncomputable def k_X13_doLine_241 (k0 : Int32) (k1 : Int32) (s : t_S) : Option (t_S) :=
 if t_ix k1 64 = true then
  t_let (t_setI s 1040 (k1.toNatClampNeg) k0) (fun s1 =>
 some (s1))
else none
set_option maxRecDepth 4000 in
set_option maxHeartbeats 1000000 in
theorem B_X13_doLine_241 {D : va_G} {cy : Nat → ClassId} {ad : Nat → Nat} {bs : Nat} {X : State → Heap → Prop} (k0 : Int32) (k1 : Int32) (s : t_S) (Q : t_S → Prop) (hk : t_hk (k_X13_doLine_241 k0 k1 s) Q) : mj_G D cy ad bs X cX13_doLine 6 yX13_doLine.cls none yX13_doLine.name 1888 0 0 1065 (t_P (fun v s' => v = none ∧ Q (s'))) 241 [] [.int k0, .int k1, .ref 1040] (t_m s) 1065 0 0 := by
  refine t_chkK hk (fun c0 hk => ?_)
  refine t_iastK dX13_doLine_241 qa_1040 (t_ixv c0) (fun s1 ws1 => t_letE hk ws1 (fun hk => ?_))
  exact t_somK hk (fun hf => t_vret dX13_doLine_242 rfl ⟨rfl, hf⟩ (Nat.le_of_ble_eq_true rfl) (Nat.le_of_ble_eq_true rfl))
noncomputable def k_X13_doLine_236 (l3 : Int32) (k0 : Int32) (s : t_S) : Option (t_S) :=
 (f_X13_behind l3 s).bind (fun r1 =>
 k_X13_doLine_241 r1 k0 s)
set_option maxRecDepth 4000 in
set_option maxHeartbeats 1000000 in
theorem B_X13_doLine_236 {D : va_G} {cy : Nat → ClassId} {ad : Nat → Nat} {bs : Nat} {X : State → Heap → Prop} (l3 : Int32) (k0 : Int32) (s : t_S) (Q : t_S → Prop) (hk : t_hk (k_X13_doLine_236 l3 k0 s) Q) : mj_G D cy ad bs X cX13_doLine 6 yX13_doLine.cls none yX13_doLine.name 1888 0 0 1065 (t_P (fun v s' => v = none ∧ Q (s'))) 236 [(0, .ref 950), (3, .int l3)] [.int k0, .ref 1040] (t_m s) 1065 0 0 := by
  refine mj_aload_n dX13_doLine_236 0 rfl ?_
  refine mj_iload_n dX13_doLine_237 1 rfl ?_
  refine t_bndK hk (fun r1 er1 hk => ?_)
  refine t_callViP dX13_doLine_238 M_X13_behind (C_X13_behind _ _ _ er1) ML_X13_1366 IM_X13_behind SE_X13_behind qc_950 rfl (As := [.int l3]) rfl rfl (Nat.le_of_ble_eq_true rfl) (Nat.le_of_ble_eq_true rfl) (Nat.le_of_ble_eq_true rfl) (Nat.le_of_ble_eq_true rfl) ?_
  refine mj_sublv [] [] rfl ?_
  exact B_X13_doLine_241 _ _ _ _ hk
noncomputable def k_X13_doLine_195 (l1 : Int32) (l2 : Int32) (l3 : Int32) (l4 : Int32) (k0 : Int32) (s : t_S) : Option (t_S) :=
 if k0 < (0 : Int32) then (if l4 = (0 : Int32) then (k_X13_doLine_236 l3 (((8 : Int32) * l1) + l2) s)
 else (if t_ix l3 401 = true then
  if (s.1 988 (l3.toNatClampNeg)) = (4 : Int32) then (k_X13_doLine_241 l3 (((8 : Int32) * l1) + l2) s)
 else (k_X13_doLine_236 l3 (((8 : Int32) * l1) + l2) s)
else none))
 else (k_X13_doLine_241 k0 (((8 : Int32) * l1) + l2) s)
set_option maxRecDepth 4000 in
set_option maxHeartbeats 1000000 in
theorem B_X13_doLine_195 {D : va_G} {cy : Nat → ClassId} {ad : Nat → Nat} {bs : Nat} {X : State → Heap → Prop} (l1 : Int32) (l2 : Int32) (l3 : Int32) (l4 : Int32) (k0 : Int32) (s : t_S) (Q : t_S → Prop) (hk : t_hk (k_X13_doLine_195 l1 l2 l3 l4 k0 s) Q) : mj_G D cy ad bs X cX13_doLine 6 yX13_doLine.cls none yX13_doLine.name 1888 0 0 1065 (t_P (fun v s' => v = none ∧ Q (s'))) 195 [(0, .ref 950), (1, .int l1), (2, .int l2), (3, .int l3), (4, .int l4)] [.int k0] (t_m s) 1065 0 0 := by
  refine mj_istore (lv2 := [(5, .int k0), (0, .ref 950), (1, .int l1), (2, .int l2), (3, .int l3), (4, .int l4)]) dX13_doLine_195 (by decide) rfl ?_
  refine mj_aload_n dX13_doLine_197 1 rfl ?_
  refine t_getR 1040 dX13_doLine_198 F_X13_288 qr_950_155 ?_
  refine mj_bipush (v := 8) dX13_doLine_201 (by decide) ?_
  refine mj_iload_n dX13_doLine_203 2 rfl ?_
  refine mj_imul dX13_doLine_204 ?_
  refine mj_iload_n dX13_doLine_205 3 rfl ?_
  refine mj_iadd dX13_doLine_206 ?_
  refine mj_iload dX13_doLine_207 0 rfl ?_
  refine mj_if_lt 217 dX13_doLine_209 (by decide) (fun z => t_posK hk z (fun hk => ?_)) (fun z => t_negK hk z (fun hk => ?_))
  · refine mj_iload dX13_doLine_217 5 rfl ?_
    refine mj_if_eq 236 dX13_doLine_219 (by decide) (fun z => t_posK hk z (fun hk => ?_)) (fun z => t_negK hk z (fun hk => ?_))
    · refine mj_sublv [(0, .ref 950), (3, .int l3)] [1, 4] rfl ?_
      exact B_X13_doLine_236 _ _ _ _ hk
    · refine mj_aload_n dX13_doLine_222 1 rfl ?_
      refine t_getR 988 dX13_doLine_223 F_X13_126 qr_950_66 ?_
      refine mj_iload_n dX13_doLine_226 4 rfl ?_
      refine t_chkK hk (fun c0 hk => ?_)
      refine t_iald dX13_doLine_227 qa_988 (t_ixv c0) ?_
      refine mj_iconst (v := 4) dX13_doLine_228 (by decide) ?_
      refine mj_icmp_ne 236 dX13_doLine_229 (by decide) (fun z => t_negK hk z (fun hk => ?_)) (fun z => t_posK hk z (fun hk => ?_))
      · refine mj_sublv [(0, .ref 950), (3, .int l3)] [1, 4] rfl ?_
        exact B_X13_doLine_236 _ _ _ _ hk
      · refine mj_iload_n dX13_doLine_232 4 rfl ?_
        refine mj_goto 241 dX13_doLine_233 (by decide) ?_
        refine mj_sublv [] [] rfl ?_
        exact B_X13_doLine_241 _ _ _ _ hk
  · refine mj_iload dX13_doLine_212 0 rfl ?_
    refine mj_goto 241 dX13_doLine_214 (by decide) ?_
    refine mj_sublv [] [] rfl ?_
    exact B_X13_doLine_241 _ _ _ _ hk
noncomputable def k_X13_doLine_173 (l1 : Int32) (l2 : Int32) (l3 : Int32) (k0 : Int32) (s : t_S) : Option (t_S) :=
 if k0 = (0 : Int32) then (if t_ix l3 401 = true then
  k_X13_doLine_195 l1 l2 l3 k0 (s.1 999 (l3.toNatClampNeg)) s
else none)
 else (if t_ix l3 401 = true then
  k_X13_doLine_195 l1 l2 l3 k0 (s.1 998 (l3.toNatClampNeg)) s
else none)
set_option maxRecDepth 4000 in
set_option maxHeartbeats 1000000 in
theorem B_X13_doLine_173 {D : va_G} {cy : Nat → ClassId} {ad : Nat → Nat} {bs : Nat} {X : State → Heap → Prop} (l1 : Int32) (l2 : Int32) (l3 : Int32) (k0 : Int32) (s : t_S) (Q : t_S → Prop) (hk : t_hk (k_X13_doLine_173 l1 l2 l3 k0 s) Q) : mj_G D cy ad bs X cX13_doLine 6 yX13_doLine.cls none yX13_doLine.name 1888 0 0 1065 (t_P (fun v s' => v = none ∧ Q (s'))) 173 [(0, .ref 950), (1, .int l1), (2, .int l2), (3, .int l3)] [.int k0] (t_m s) 1065 0 0 := by
  refine mj_istore (lv2 := [(4, .int k0), (0, .ref 950), (1, .int l1), (2, .int l2), (3, .int l3)]) dX13_doLine_173 (by decide) rfl ?_
  refine mj_iload dX13_doLine_175 0 rfl ?_
  refine mj_if_eq 189 dX13_doLine_177 (by decide) (fun z => t_posK hk z (fun hk => ?_)) (fun z => t_negK hk z (fun hk => ?_))
  · refine mj_aload_n dX13_doLine_189 1 rfl ?_
    refine t_getR 999 dX13_doLine_190 F_X13_159 qr_950_77 ?_
    refine mj_iload_n dX13_doLine_193 4 rfl ?_
    refine t_chkK hk (fun c0 hk => ?_)
    refine t_iald dX13_doLine_194 qa_999 (t_ixv c0) ?_
    refine mj_sublv [(0, .ref 950), (1, .int l1), (2, .int l2), (3, .int l3), (4, .int k0)] [1, 2, 3, 4, 0] rfl ?_
    exact B_X13_doLine_195 _ _ _ _ _ _ _ hk
  · refine mj_aload_n dX13_doLine_180 1 rfl ?_
    refine t_getR 998 dX13_doLine_181 F_X13_156 qr_950_76 ?_
    refine mj_iload_n dX13_doLine_184 4 rfl ?_
    refine t_chkK hk (fun c1 hk => ?_)
    refine t_iald dX13_doLine_185 qa_998 (t_ixv c1) ?_
    refine mj_goto 195 dX13_doLine_186 (by decide) ?_
    refine mj_sublv [(0, .ref 950), (1, .int l1), (2, .int l2), (3, .int l3), (4, .int k0)] [1, 2, 3, 4, 0] rfl ?_
    exact B_X13_doLine_195 _ _ _ _ _ _ _ hk
noncomputable def k_X13_doLine_145 (l1 : Int32) (l2 : Int32) (l3 : Int32) (s : t_S) : Option (t_S) :=
 if (s.1 950 97) = (0 : Int32) then (if t_ix ((f_X13_top s) + (1 : Int32)) 626600 = true then
  if (lg_cmp (s.2.1 1006 (((f_X13_top s) + (1 : Int32)).toNatClampNeg)) (1 : Int64)) = (0 : Int32) then (k_X13_doLine_173 l1 l2 l3 1 s)
 else (k_X13_doLine_173 l1 l2 l3 0 s)
else none)
 else (some (s))
set_option maxRecDepth 4000 in
set_option maxHeartbeats 1000000 in
theorem B_X13_doLine_145 {D : va_G} {cy : Nat → ClassId} {ad : Nat → Nat} {bs : Nat} {X : State → Heap → Prop} (l1 : Int32) (l2 : Int32) (l3 : Int32) (s : t_S) (Q : t_S → Prop) (hk : t_hk (k_X13_doLine_145 l1 l2 l3 s) Q) : mj_G D cy ad bs X cX13_doLine 6 yX13_doLine.cls none yX13_doLine.name 1888 0 0 1065 (t_P (fun v s' => v = none ∧ Q (s'))) 145 [(0, .ref 950), (1, .int l1), (2, .int l2), (3, .int l3)] [] (t_m s) 1065 0 0 := by
  refine mj_aload_n dX13_doLine_145 0 rfl ?_
  refine t_getI dX13_doLine_146 F_X13_842 qf_950_97 ?_
  refine mj_if_ne 242 dX13_doLine_149 (by decide) (fun z => t_negK hk z (fun hk => ?_)) (fun z => t_posK hk z (fun hk => ?_))
  · exact t_somK hk (fun hf => t_vret dX13_doLine_242 rfl ⟨rfl, hf⟩ (Nat.le_of_ble_eq_true rfl) (Nat.le_of_ble_eq_true rfl))
  · refine mj_aload_n dX13_doLine_152 0 rfl ?_
    refine t_getR 1006 dX13_doLine_153 F_X13_182 qr_950_95 ?_
    refine mj_aload_n dX13_doLine_156 0 rfl ?_
    refine t_callViP dX13_doLine_157 M_X13_top (C_X13_top _) ML_X13_941 IM_X13_top SE_X13_top qc_950 rfl (As := []) rfl rfl (Nat.le_of_ble_eq_true rfl) (Nat.le_of_ble_eq_true rfl) (Nat.le_of_ble_eq_true rfl) (Nat.le_of_ble_eq_true rfl) ?_
    refine mj_iconst (v := 1) dX13_doLine_160 (by decide) ?_
    refine mj_iadd dX13_doLine_161 ?_
    refine t_chkK hk (fun c1 hk => ?_)
    refine t_lald dX13_doLine_162 qa_1006 (t_ixv c1) ?_
    refine mj_lconst (v := 1) dX13_doLine_163 (by decide) ?_
    refine mj_lcmp dX13_doLine_164 ?_
    refine mj_if_ne 172 dX13_doLine_165 (by decide) (fun z => t_negK hk z (fun hk => ?_)) (fun z => t_posK hk z (fun hk => ?_))
    · refine mj_iconst (v := 0) dX13_doLine_172 (by decide) ?_
      exact B_X13_doLine_173 _ _ _ _ _ _ hk
    · refine mj_iconst (v := 1) dX13_doLine_168 (by decide) ?_
      refine mj_goto 173 dX13_doLine_169 (by decide) ?_
      exact B_X13_doLine_173 _ _ _ _ _ _ hk
noncomputable def f_X13_doLine (x1 : Int32) (x2 : Int32) (x3 : Int32) (s : t_S) : Option (t_S) :=
 if t_ix x3 401 = true then
  if (s.1 988 (x3.toNatClampNeg)).toInt < 1 ∨ 17 < (s.1 988 (x3.toNatClampNeg)).toInt then ((f_X13_doSimple x1 x2 x3 s).bind (fun r2 =>
 some (r2)))
 else if (s.1 988 (x3.toNatClampNeg)).toInt = 1 then ((f_X13_assign_ x1 x3 s).bind (fun r3 =>
 if (r3.1 950 97) = (0 : Int32) then ((f_X13_goOn x1 x2 x3 r3).bind (fun r4 =>
 some (r4)))
 else (some (r3))))
 else if (s.1 988 (x3.toNatClampNeg)).toInt = 2 then ((f_X13_assign_ x1 x3 s).bind (fun r5 =>
 if (r5.1 950 97) = (0 : Int32) then ((f_X13_goOn x1 x2 x3 r5).bind (fun r6 =>
 some (r6)))
 else (some (r5))))
 else if (s.1 988 (x3.toNatClampNeg)).toInt = 3 then ((f_X13_work (s.1 995 (x3.toNatClampNeg)) s).bind (fun r7 =>
 if (r7.1 950 97) = (0 : Int32) then (if t_ix (f_X13_top r7) 626600 = true then
  if (lg_cmp (r7.2.1 1006 ((f_X13_top r7).toNatClampNeg)) (1 : Int64)) = (0 : Int32) then (k_X13_doLine_145 x1 x2 x3 r7)
 else ((f_X13_error (1 : Int32) r7).bind (fun r10 =>
 k_X13_doLine_145 x1 x2 x3 r10))
else none)
 else (k_X13_doLine_145 x1 x2 x3 r7)))
 else if (s.1 988 (x3.toNatClampNeg)).toInt = 4 then ((f_X13_work (s.1 995 (x3.toNatClampNeg)) s).bind (fun r11 =>
 if (r11.1 950 97) = (0 : Int32) then (if t_ix (f_X13_top r11) 626600 = true then
  if (lg_cmp (r11.2.1 1006 ((f_X13_top r11).toNatClampNeg)) (1 : Int64)) = (0 : Int32) then (k_X13_doLine_145 x1 x2 x3 r11)
 else ((f_X13_error (1 : Int32) r11).bind (fun r14 =>
 k_X13_doLine_145 x1 x2 x3 r14))
else none)
 else (k_X13_doLine_145 x1 x2 x3 r11)))
 else if (s.1 988 (x3.toNatClampNeg)).toInt = 5 then ((f_X13_giveBack x1 x3 s).bind (fun r15 =>
 some (r15)))
 else if (s.1 988 (x3.toNatClampNeg)).toInt = 6 then ((f_X13_call x1 x2 x3 s).bind (fun r16 =>
 some (r16)))
 else if (s.1 988 (x3.toNatClampNeg)).toInt = 7 then ((f_X13_doSimple x1 x2 x3 s).bind (fun r17 =>
 some (r17)))
 else if (s.1 988 (x3.toNatClampNeg)).toInt = 8 then ((f_X13_doSimple x1 x2 x3 s).bind (fun r18 =>
 some (r18)))
 else if (s.1 988 (x3.toNatClampNeg)).toInt = 9 then ((f_X13_doSimple x1 x2 x3 s).bind (fun r19 =>
 some (r19)))
 else if (s.1 988 (x3.toNatClampNeg)).toInt = 10 then ((f_X13_alternatives x1 x2 x3 s).bind (fun r20 =>
 some (r20)))
 else if (s.1 988 (x3.toNatClampNeg)).toInt = 11 then ((f_X13_alternatives x1 x2 x3 s).bind (fun r21 =>
 some (r21)))
 else if (s.1 988 (x3.toNatClampNeg)).toInt = 12 then ((f_X13_doSimple x1 x2 x3 s).bind (fun r22 =>
 some (r22)))
 else if (s.1 988 (x3.toNatClampNeg)).toInt = 13 then ((f_X13_doSimple x1 x2 x3 s).bind (fun r23 =>
 some (r23)))
 else if (s.1 988 (x3.toNatClampNeg)).toInt = 14 then ((f_X13_doSimple x1 x2 x3 s).bind (fun r24 =>
 some (r24)))
 else if (s.1 988 (x3.toNatClampNeg)).toInt = 15 then ((f_X13_doSimple x1 x2 x3 s).bind (fun r25 =>
 some (r25)))
 else if (s.1 988 (x3.toNatClampNeg)).toInt = 16 then ((f_X13_doSimple x1 x2 x3 s).bind (fun r26 =>
 some (r26)))
 else ((f_X13_stop x1 x2 x3 s).bind (fun r27 =>
 some (r27)))
else none
set_option maxRecDepth 4000 in
set_option maxHeartbeats 1000000 in
theorem C_X13_doLine (x1 : Int32) (x2 : Int32) (x3 : Int32) (s : t_S) (r : t_S) (hr : f_X13_doLine x1 x2 x3 s = some r) : t_C yX13_doLine cX13_doLine 6 none 1888 [.ref 950, .int x1, .int x2, .int x3] s (fun v s' => v = none ∧ s' = r) := by
  refine t_C.imp (P := fun v s' => v = none ∧ (fun q => q = r) (s')) (t_C.of (by decide +kernel) (Nat.le_of_ble_eq_true rfl) ?_) (fun v s' hp => hp)
  intro D cy ad bs X
  have hk : t_hk (f_X13_doLine x1 x2 x3 s) (fun q => q = r) := ⟨r, hr, rfl⟩
  show mj_G D cy ad bs X cX13_doLine 6 yX13_doLine.cls none yX13_doLine.name 1888 0 0 1065 (t_P (fun v s' => v = none ∧ (fun q => q = r) (s'))) 0 [(0, .ref 950), (1, .int x1), (2, .int x2), (3, .int x3)] [] (t_m s) 1065 0 0
  refine mj_aload_n dX13_doLine_0 0 rfl ?_
  refine t_getR 988 dX13_doLine_1 F_X13_126 qr_950_66 ?_
  refine mj_iload_n dX13_doLine_4 3 rfl ?_
  refine t_chkK hk (fun c0 hk => ?_)
  refine t_iald dX13_doLine_5 qa_988 (t_ixv c0) ?_
  by_cases hout : (s.1 988 (x3.toNatClampNeg)).toInt < 1 ∨ 17 < (s.1 988 (x3.toNatClampNeg)).toInt
  · replace hk := t_pos hk hout
    refine mj_tableOut 274 dX13_doLine_6 hout (by decide) ?_
    refine mj_aload_n dX13_doLine_274 0 rfl ?_
    refine mj_iload_n dX13_doLine_275 1 rfl ?_
    refine mj_iload_n dX13_doLine_276 2 rfl ?_
    refine mj_iload_n dX13_doLine_277 3 rfl ?_
    refine t_bndK hk (fun r2 er2 hk => ?_)
    refine t_callVvE dX13_doLine_278 M_X13_doSimple (C_X13_doSimple _ _ _ _ _ er2) ML_X13_1386 IM_X13_doSimple SE_X13_doSimple qc_950 rfl (As := [.int x1, .int x2, .int x3]) rfl rfl (Nat.le_of_ble_eq_true rfl) (Nat.le_of_ble_eq_true rfl) (Nat.le_of_ble_eq_true rfl) (Nat.le_of_ble_eq_true rfl) ?_
    exact t_somK hk (fun hf => t_vret dX13_doLine_281 rfl ⟨rfl, hf⟩ (Nat.le_of_ble_eq_true rfl) (Nat.le_of_ble_eq_true rfl))
  · replace hk := t_neg hk hout
    have hh1 : ¬ (s.1 988 (x3.toNatClampNeg)).toInt < 1 := fun z => hout (Or.inl z)
    have hh2 : ¬ (17 : Int) < (s.1 988 (x3.toNatClampNeg)).toInt := fun z => hout (Or.inr z)
    by_cases h0 : (s.1 988 (x3.toNatClampNeg)).toInt = 1
    · replace hk := t_pos hk h0
      refine mj_tableIn 88 dX13_doLine_6 hh1 hh2 (by rw [h0]; rfl) (by decide) ?_
      refine mj_aload_n dX13_doLine_88 0 rfl ?_
      refine mj_iload_n dX13_doLine_89 1 rfl ?_
      refine mj_iload_n dX13_doLine_90 3 rfl ?_
      refine t_bndK hk (fun r3 er3 hk => ?_)
      refine t_callVvE dX13_doLine_91 M_X13_assign_ (C_X13_assign_ _ _ _ _ er3) ML_X13_1369 IM_X13_assign_ SE_X13_assign_ qc_950 rfl (As := [.int x1, .int x3]) rfl rfl (Nat.le_of_ble_eq_true rfl) (Nat.le_of_ble_eq_true rfl) (Nat.le_of_ble_eq_true rfl) (Nat.le_of_ble_eq_true rfl) ?_
      refine mj_aload_n dX13_doLine_94 0 rfl ?_
      refine t_getI dX13_doLine_95 F_X13_842 qf_950_97 ?_
      refine mj_if_ne 108 dX13_doLine_98 (by decide) (fun z => t_negK hk z (fun hk => ?_)) (fun z => t_posK hk z (fun hk => ?_))
      · exact t_somK hk (fun hf => t_vret dX13_doLine_108 rfl ⟨rfl, hf⟩ (Nat.le_of_ble_eq_true rfl) (Nat.le_of_ble_eq_true rfl))
      · refine mj_aload_n dX13_doLine_101 0 rfl ?_
        refine mj_iload_n dX13_doLine_102 1 rfl ?_
        refine mj_iload_n dX13_doLine_103 2 rfl ?_
        refine mj_iload_n dX13_doLine_104 3 rfl ?_
        refine t_bndK hk (fun r4 er4 hk => ?_)
        refine t_callVvE dX13_doLine_105 M_X13_goOn (C_X13_goOn _ _ _ _ _ er4) ML_X13_1371 IM_X13_goOn SE_X13_goOn qc_950 rfl (As := [.int x1, .int x2, .int x3]) rfl rfl (Nat.le_of_ble_eq_true rfl) (Nat.le_of_ble_eq_true rfl) (Nat.le_of_ble_eq_true rfl) (Nat.le_of_ble_eq_true rfl) ?_
        exact t_somK hk (fun hf => t_vret dX13_doLine_108 rfl ⟨rfl, hf⟩ (Nat.le_of_ble_eq_true rfl) (Nat.le_of_ble_eq_true rfl))
    replace hk := t_neg hk h0
    by_cases h1 : (s.1 988 (x3.toNatClampNeg)).toInt = 2
    · replace hk := t_pos hk h1
      refine mj_tableIn 88 dX13_doLine_6 hh1 hh2 (by rw [h1]; rfl) (by decide) ?_
      refine mj_aload_n dX13_doLine_88 0 rfl ?_
      refine mj_iload_n dX13_doLine_89 1 rfl ?_
      refine mj_iload_n dX13_doLine_90 3 rfl ?_
      refine t_bndK hk (fun r5 er5 hk => ?_)
      refine t_callVvE dX13_doLine_91 M_X13_assign_ (C_X13_assign_ _ _ _ _ er5) ML_X13_1369 IM_X13_assign_ SE_X13_assign_ qc_950 rfl (As := [.int x1, .int x3]) rfl rfl (Nat.le_of_ble_eq_true rfl) (Nat.le_of_ble_eq_true rfl) (Nat.le_of_ble_eq_true rfl) (Nat.le_of_ble_eq_true rfl) ?_
      refine mj_aload_n dX13_doLine_94 0 rfl ?_
      refine t_getI dX13_doLine_95 F_X13_842 qf_950_97 ?_
      refine mj_if_ne 108 dX13_doLine_98 (by decide) (fun z => t_negK hk z (fun hk => ?_)) (fun z => t_posK hk z (fun hk => ?_))
      · exact t_somK hk (fun hf => t_vret dX13_doLine_108 rfl ⟨rfl, hf⟩ (Nat.le_of_ble_eq_true rfl) (Nat.le_of_ble_eq_true rfl))
      · refine mj_aload_n dX13_doLine_101 0 rfl ?_
        refine mj_iload_n dX13_doLine_102 1 rfl ?_
        refine mj_iload_n dX13_doLine_103 2 rfl ?_
        refine mj_iload_n dX13_doLine_104 3 rfl ?_
        refine t_bndK hk (fun r6 er6 hk => ?_)
        refine t_callVvE dX13_doLine_105 M_X13_goOn (C_X13_goOn _ _ _ _ _ er6) ML_X13_1371 IM_X13_goOn SE_X13_goOn qc_950 rfl (As := [.int x1, .int x2, .int x3]) rfl rfl (Nat.le_of_ble_eq_true rfl) (Nat.le_of_ble_eq_true rfl) (Nat.le_of_ble_eq_true rfl) (Nat.le_of_ble_eq_true rfl) ?_
        exact t_somK hk (fun hf => t_vret dX13_doLine_108 rfl ⟨rfl, hf⟩ (Nat.le_of_ble_eq_true rfl) (Nat.le_of_ble_eq_true rfl))
    replace hk := t_neg hk h1
    by_cases h2 : (s.1 988 (x3.toNatClampNeg)).toInt = 3
    · replace hk := t_pos hk h2
      refine mj_tableIn 109 dX13_doLine_6 hh1 hh2 (by rw [h2]; rfl) (by decide) ?_
      refine mj_aload_n dX13_doLine_109 0 rfl ?_
      refine mj_aload_n dX13_doLine_110 0 rfl ?_
      refine t_getR 995 dX13_doLine_111 F_X13_147 qr_950_73 ?_
      refine mj_iload_n dX13_doLine_114 3 rfl ?_
      refine t_iald dX13_doLine_115 qa_995 (t_ixv c0) ?_
      refine t_bndK hk (fun r7 er7 hk => ?_)
      refine t_callSvE dX13_doLine_116 M_X13_work (C_X13_work _ _ _ er7) ML_X13_897 SM_X13_work (As := [.ref 950, .int (s.1 995 (x3.toNatClampNeg))]) rfl rfl (Nat.le_of_ble_eq_true rfl) (Nat.le_of_ble_eq_true rfl) (Nat.le_of_ble_eq_true rfl) (Nat.le_of_ble_eq_true rfl) ?_
      refine mj_aload_n dX13_doLine_119 0 rfl ?_
      refine t_getI dX13_doLine_120 F_X13_842 qf_950_97 ?_
      refine mj_if_ne 145 dX13_doLine_123 (by decide) (fun z => t_negK hk z (fun hk => ?_)) (fun z => t_posK hk z (fun hk => ?_))
      · exact B_X13_doLine_145 _ _ _ _ _ hk
      · refine mj_aload_n dX13_doLine_126 0 rfl ?_
        refine t_getR 1006 dX13_doLine_127 F_X13_182 qr_950_95 ?_
        refine mj_aload_n dX13_doLine_130 0 rfl ?_
        refine t_callViP dX13_doLine_131 M_X13_top (C_X13_top _) ML_X13_941 IM_X13_top SE_X13_top qc_950 rfl (As := []) rfl rfl (Nat.le_of_ble_eq_true rfl) (Nat.le_of_ble_eq_true rfl) (Nat.le_of_ble_eq_true rfl) (Nat.le_of_ble_eq_true rfl) ?_
        refine t_chkK hk (fun c8 hk => ?_)
        refine t_lald dX13_doLine_134 qa_1006 (t_ixv c8) ?_
        refine mj_lconst (v := 1) dX13_doLine_135 (by decide) ?_
        refine mj_lcmp dX13_doLine_136 ?_
        refine mj_if_eq 145 dX13_doLine_137 (by decide) (fun z => t_posK hk z (fun hk => ?_)) (fun z => t_negK hk z (fun hk => ?_))
        · exact B_X13_doLine_145 _ _ _ _ _ hk
        · refine mj_aload_n dX13_doLine_140 0 rfl ?_
          refine mj_iconst (v := 1) dX13_doLine_141 (by decide) ?_
          refine t_bndK hk (fun r10 er10 hk => ?_)
          refine t_callVvE dX13_doLine_142 M_X13_error (C_X13_error _ _ _ er10) ML_X13_866 IM_X13_error SE_X13_error qc_950 rfl (As := [.int 1]) rfl rfl (Nat.le_of_ble_eq_true rfl) (Nat.le_of_ble_eq_true rfl) (Nat.le_of_ble_eq_true rfl) (Nat.le_of_ble_eq_true rfl) ?_
          exact B_X13_doLine_145 _ _ _ _ _ hk
    replace hk := t_neg hk h2
    by_cases h3 : (s.1 988 (x3.toNatClampNeg)).toInt = 4
    · replace hk := t_pos hk h3
      refine mj_tableIn 109 dX13_doLine_6 hh1 hh2 (by rw [h3]; rfl) (by decide) ?_
      refine mj_aload_n dX13_doLine_109 0 rfl ?_
      refine mj_aload_n dX13_doLine_110 0 rfl ?_
      refine t_getR 995 dX13_doLine_111 F_X13_147 qr_950_73 ?_
      refine mj_iload_n dX13_doLine_114 3 rfl ?_
      refine t_iald dX13_doLine_115 qa_995 (t_ixv c0) ?_
      refine t_bndK hk (fun r11 er11 hk => ?_)
      refine t_callSvE dX13_doLine_116 M_X13_work (C_X13_work _ _ _ er11) ML_X13_897 SM_X13_work (As := [.ref 950, .int (s.1 995 (x3.toNatClampNeg))]) rfl rfl (Nat.le_of_ble_eq_true rfl) (Nat.le_of_ble_eq_true rfl) (Nat.le_of_ble_eq_true rfl) (Nat.le_of_ble_eq_true rfl) ?_
      refine mj_aload_n dX13_doLine_119 0 rfl ?_
      refine t_getI dX13_doLine_120 F_X13_842 qf_950_97 ?_
      refine mj_if_ne 145 dX13_doLine_123 (by decide) (fun z => t_negK hk z (fun hk => ?_)) (fun z => t_posK hk z (fun hk => ?_))
      · exact B_X13_doLine_145 _ _ _ _ _ hk
      · refine mj_aload_n dX13_doLine_126 0 rfl ?_
        refine t_getR 1006 dX13_doLine_127 F_X13_182 qr_950_95 ?_
        refine mj_aload_n dX13_doLine_130 0 rfl ?_
        refine t_callViP dX13_doLine_131 M_X13_top (C_X13_top _) ML_X13_941 IM_X13_top SE_X13_top qc_950 rfl (As := []) rfl rfl (Nat.le_of_ble_eq_true rfl) (Nat.le_of_ble_eq_true rfl) (Nat.le_of_ble_eq_true rfl) (Nat.le_of_ble_eq_true rfl) ?_
        refine t_chkK hk (fun c12 hk => ?_)
        refine t_lald dX13_doLine_134 qa_1006 (t_ixv c12) ?_
        refine mj_lconst (v := 1) dX13_doLine_135 (by decide) ?_
        refine mj_lcmp dX13_doLine_136 ?_
        refine mj_if_eq 145 dX13_doLine_137 (by decide) (fun z => t_posK hk z (fun hk => ?_)) (fun z => t_negK hk z (fun hk => ?_))
        · exact B_X13_doLine_145 _ _ _ _ _ hk
        · refine mj_aload_n dX13_doLine_140 0 rfl ?_
          refine mj_iconst (v := 1) dX13_doLine_141 (by decide) ?_
          refine t_bndK hk (fun r14 er14 hk => ?_)
          refine t_callVvE dX13_doLine_142 M_X13_error (C_X13_error _ _ _ er14) ML_X13_866 IM_X13_error SE_X13_error qc_950 rfl (As := [.int 1]) rfl rfl (Nat.le_of_ble_eq_true rfl) (Nat.le_of_ble_eq_true rfl) (Nat.le_of_ble_eq_true rfl) (Nat.le_of_ble_eq_true rfl) ?_
          exact B_X13_doLine_145 _ _ _ _ _ hk
    replace hk := t_neg hk h3
    by_cases h4 : (s.1 988 (x3.toNatClampNeg)).toInt = 5
    · replace hk := t_pos hk h4
      refine mj_tableIn 251 dX13_doLine_6 hh1 hh2 (by rw [h4]; rfl) (by decide) ?_
      refine mj_aload_n dX13_doLine_251 0 rfl ?_
      refine mj_iload_n dX13_doLine_252 1 rfl ?_
      refine mj_iload_n dX13_doLine_253 3 rfl ?_
      refine t_bndK hk (fun r15 er15 hk => ?_)
      refine t_callVvE dX13_doLine_254 M_X13_giveBack (C_X13_giveBack _ _ _ _ er15) ML_X13_1377 IM_X13_giveBack SE_X13_giveBack qc_950 rfl (As := [.int x1, .int x3]) rfl rfl (Nat.le_of_ble_eq_true rfl) (Nat.le_of_ble_eq_true rfl) (Nat.le_of_ble_eq_true rfl) (Nat.le_of_ble_eq_true rfl) ?_
      exact t_somK hk (fun hf => t_vret dX13_doLine_257 rfl ⟨rfl, hf⟩ (Nat.le_of_ble_eq_true rfl) (Nat.le_of_ble_eq_true rfl))
    replace hk := t_neg hk h4
    by_cases h5 : (s.1 988 (x3.toNatClampNeg)).toInt = 6
    · replace hk := t_pos hk h5
      refine mj_tableIn 258 dX13_doLine_6 hh1 hh2 (by rw [h5]; rfl) (by decide) ?_
      refine mj_aload_n dX13_doLine_258 0 rfl ?_
      refine mj_iload_n dX13_doLine_259 1 rfl ?_
      refine mj_iload_n dX13_doLine_260 2 rfl ?_
      refine mj_iload_n dX13_doLine_261 3 rfl ?_
      refine t_bndK hk (fun r16 er16 hk => ?_)
      refine t_callVvE dX13_doLine_262 M_X13_call (C_X13_call _ _ _ _ _ er16) ML_X13_1380 IM_X13_call SE_X13_call qc_950 rfl (As := [.int x1, .int x2, .int x3]) rfl rfl (Nat.le_of_ble_eq_true rfl) (Nat.le_of_ble_eq_true rfl) (Nat.le_of_ble_eq_true rfl) (Nat.le_of_ble_eq_true rfl) ?_
      exact t_somK hk (fun hf => t_vret dX13_doLine_265 rfl ⟨rfl, hf⟩ (Nat.le_of_ble_eq_true rfl) (Nat.le_of_ble_eq_true rfl))
    replace hk := t_neg hk h5
    by_cases h6 : (s.1 988 (x3.toNatClampNeg)).toInt = 7
    · replace hk := t_pos hk h6
      refine mj_tableIn 274 dX13_doLine_6 hh1 hh2 (by rw [h6]; rfl) (by decide) ?_
      refine mj_aload_n dX13_doLine_274 0 rfl ?_
      refine mj_iload_n dX13_doLine_275 1 rfl ?_
      refine mj_iload_n dX13_doLine_276 2 rfl ?_
      refine mj_iload_n dX13_doLine_277 3 rfl ?_
      refine t_bndK hk (fun r17 er17 hk => ?_)
      refine t_callVvE dX13_doLine_278 M_X13_doSimple (C_X13_doSimple _ _ _ _ _ er17) ML_X13_1386 IM_X13_doSimple SE_X13_doSimple qc_950 rfl (As := [.int x1, .int x2, .int x3]) rfl rfl (Nat.le_of_ble_eq_true rfl) (Nat.le_of_ble_eq_true rfl) (Nat.le_of_ble_eq_true rfl) (Nat.le_of_ble_eq_true rfl) ?_
      exact t_somK hk (fun hf => t_vret dX13_doLine_281 rfl ⟨rfl, hf⟩ (Nat.le_of_ble_eq_true rfl) (Nat.le_of_ble_eq_true rfl))
    replace hk := t_neg hk h6
    by_cases h7 : (s.1 988 (x3.toNatClampNeg)).toInt = 8
    · replace hk := t_pos hk h7
      refine mj_tableIn 274 dX13_doLine_6 hh1 hh2 (by rw [h7]; rfl) (by decide) ?_
      refine mj_aload_n dX13_doLine_274 0 rfl ?_
      refine mj_iload_n dX13_doLine_275 1 rfl ?_
      refine mj_iload_n dX13_doLine_276 2 rfl ?_
      refine mj_iload_n dX13_doLine_277 3 rfl ?_
      refine t_bndK hk (fun r18 er18 hk => ?_)
      refine t_callVvE dX13_doLine_278 M_X13_doSimple (C_X13_doSimple _ _ _ _ _ er18) ML_X13_1386 IM_X13_doSimple SE_X13_doSimple qc_950 rfl (As := [.int x1, .int x2, .int x3]) rfl rfl (Nat.le_of_ble_eq_true rfl) (Nat.le_of_ble_eq_true rfl) (Nat.le_of_ble_eq_true rfl) (Nat.le_of_ble_eq_true rfl) ?_
      exact t_somK hk (fun hf => t_vret dX13_doLine_281 rfl ⟨rfl, hf⟩ (Nat.le_of_ble_eq_true rfl) (Nat.le_of_ble_eq_true rfl))
    replace hk := t_neg hk h7
    by_cases h8 : (s.1 988 (x3.toNatClampNeg)).toInt = 9
    · replace hk := t_pos hk h8
      refine mj_tableIn 274 dX13_doLine_6 hh1 hh2 (by rw [h8]; rfl) (by decide) ?_
      refine mj_aload_n dX13_doLine_274 0 rfl ?_
      refine mj_iload_n dX13_doLine_275 1 rfl ?_
      refine mj_iload_n dX13_doLine_276 2 rfl ?_
      refine mj_iload_n dX13_doLine_277 3 rfl ?_
      refine t_bndK hk (fun r19 er19 hk => ?_)
      refine t_callVvE dX13_doLine_278 M_X13_doSimple (C_X13_doSimple _ _ _ _ _ er19) ML_X13_1386 IM_X13_doSimple SE_X13_doSimple qc_950 rfl (As := [.int x1, .int x2, .int x3]) rfl rfl (Nat.le_of_ble_eq_true rfl) (Nat.le_of_ble_eq_true rfl) (Nat.le_of_ble_eq_true rfl) (Nat.le_of_ble_eq_true rfl) ?_
      exact t_somK hk (fun hf => t_vret dX13_doLine_281 rfl ⟨rfl, hf⟩ (Nat.le_of_ble_eq_true rfl) (Nat.le_of_ble_eq_true rfl))
    replace hk := t_neg hk h8
    by_cases h9 : (s.1 988 (x3.toNatClampNeg)).toInt = 10
    · replace hk := t_pos hk h9
      refine mj_tableIn 243 dX13_doLine_6 hh1 hh2 (by rw [h9]; rfl) (by decide) ?_
      refine mj_aload_n dX13_doLine_243 0 rfl ?_
      refine mj_iload_n dX13_doLine_244 1 rfl ?_
      refine mj_iload_n dX13_doLine_245 2 rfl ?_
      refine mj_iload_n dX13_doLine_246 3 rfl ?_
      refine t_bndK hk (fun r20 er20 hk => ?_)
      refine t_callVvE dX13_doLine_247 M_X13_alternatives (C_X13_alternatives _ _ _ _ _ er20) ML_X13_1374 IM_X13_alternatives SE_X13_alternatives qc_950 rfl (As := [.int x1, .int x2, .int x3]) rfl rfl (Nat.le_of_ble_eq_true rfl) (Nat.le_of_ble_eq_true rfl) (Nat.le_of_ble_eq_true rfl) (Nat.le_of_ble_eq_true rfl) ?_
      exact t_somK hk (fun hf => t_vret dX13_doLine_250 rfl ⟨rfl, hf⟩ (Nat.le_of_ble_eq_true rfl) (Nat.le_of_ble_eq_true rfl))
    replace hk := t_neg hk h9
    by_cases h10 : (s.1 988 (x3.toNatClampNeg)).toInt = 11
    · replace hk := t_pos hk h10
      refine mj_tableIn 243 dX13_doLine_6 hh1 hh2 (by rw [h10]; rfl) (by decide) ?_
      refine mj_aload_n dX13_doLine_243 0 rfl ?_
      refine mj_iload_n dX13_doLine_244 1 rfl ?_
      refine mj_iload_n dX13_doLine_245 2 rfl ?_
      refine mj_iload_n dX13_doLine_246 3 rfl ?_
      refine t_bndK hk (fun r21 er21 hk => ?_)
      refine t_callVvE dX13_doLine_247 M_X13_alternatives (C_X13_alternatives _ _ _ _ _ er21) ML_X13_1374 IM_X13_alternatives SE_X13_alternatives qc_950 rfl (As := [.int x1, .int x2, .int x3]) rfl rfl (Nat.le_of_ble_eq_true rfl) (Nat.le_of_ble_eq_true rfl) (Nat.le_of_ble_eq_true rfl) (Nat.le_of_ble_eq_true rfl) ?_
      exact t_somK hk (fun hf => t_vret dX13_doLine_250 rfl ⟨rfl, hf⟩ (Nat.le_of_ble_eq_true rfl) (Nat.le_of_ble_eq_true rfl))
    replace hk := t_neg hk h10
    by_cases h11 : (s.1 988 (x3.toNatClampNeg)).toInt = 12
    · replace hk := t_pos hk h11
      refine mj_tableIn 274 dX13_doLine_6 hh1 hh2 (by rw [h11]; rfl) (by decide) ?_
      refine mj_aload_n dX13_doLine_274 0 rfl ?_
      refine mj_iload_n dX13_doLine_275 1 rfl ?_
      refine mj_iload_n dX13_doLine_276 2 rfl ?_
      refine mj_iload_n dX13_doLine_277 3 rfl ?_
      refine t_bndK hk (fun r22 er22 hk => ?_)
      refine t_callVvE dX13_doLine_278 M_X13_doSimple (C_X13_doSimple _ _ _ _ _ er22) ML_X13_1386 IM_X13_doSimple SE_X13_doSimple qc_950 rfl (As := [.int x1, .int x2, .int x3]) rfl rfl (Nat.le_of_ble_eq_true rfl) (Nat.le_of_ble_eq_true rfl) (Nat.le_of_ble_eq_true rfl) (Nat.le_of_ble_eq_true rfl) ?_
      exact t_somK hk (fun hf => t_vret dX13_doLine_281 rfl ⟨rfl, hf⟩ (Nat.le_of_ble_eq_true rfl) (Nat.le_of_ble_eq_true rfl))
    replace hk := t_neg hk h11
    by_cases h12 : (s.1 988 (x3.toNatClampNeg)).toInt = 13
    · replace hk := t_pos hk h12
      refine mj_tableIn 274 dX13_doLine_6 hh1 hh2 (by rw [h12]; rfl) (by decide) ?_
      refine mj_aload_n dX13_doLine_274 0 rfl ?_
      refine mj_iload_n dX13_doLine_275 1 rfl ?_
      refine mj_iload_n dX13_doLine_276 2 rfl ?_
      refine mj_iload_n dX13_doLine_277 3 rfl ?_
      refine t_bndK hk (fun r23 er23 hk => ?_)
      refine t_callVvE dX13_doLine_278 M_X13_doSimple (C_X13_doSimple _ _ _ _ _ er23) ML_X13_1386 IM_X13_doSimple SE_X13_doSimple qc_950 rfl (As := [.int x1, .int x2, .int x3]) rfl rfl (Nat.le_of_ble_eq_true rfl) (Nat.le_of_ble_eq_true rfl) (Nat.le_of_ble_eq_true rfl) (Nat.le_of_ble_eq_true rfl) ?_
      exact t_somK hk (fun hf => t_vret dX13_doLine_281 rfl ⟨rfl, hf⟩ (Nat.le_of_ble_eq_true rfl) (Nat.le_of_ble_eq_true rfl))
    replace hk := t_neg hk h12
    by_cases h13 : (s.1 988 (x3.toNatClampNeg)).toInt = 14
    · replace hk := t_pos hk h13
      refine mj_tableIn 274 dX13_doLine_6 hh1 hh2 (by rw [h13]; rfl) (by decide) ?_
      refine mj_aload_n dX13_doLine_274 0 rfl ?_
      refine mj_iload_n dX13_doLine_275 1 rfl ?_
      refine mj_iload_n dX13_doLine_276 2 rfl ?_
      refine mj_iload_n dX13_doLine_277 3 rfl ?_
      refine t_bndK hk (fun r24 er24 hk => ?_)
      refine t_callVvE dX13_doLine_278 M_X13_doSimple (C_X13_doSimple _ _ _ _ _ er24) ML_X13_1386 IM_X13_doSimple SE_X13_doSimple qc_950 rfl (As := [.int x1, .int x2, .int x3]) rfl rfl (Nat.le_of_ble_eq_true rfl) (Nat.le_of_ble_eq_true rfl) (Nat.le_of_ble_eq_true rfl) (Nat.le_of_ble_eq_true rfl) ?_
      exact t_somK hk (fun hf => t_vret dX13_doLine_281 rfl ⟨rfl, hf⟩ (Nat.le_of_ble_eq_true rfl) (Nat.le_of_ble_eq_true rfl))
    replace hk := t_neg hk h13
    by_cases h14 : (s.1 988 (x3.toNatClampNeg)).toInt = 15
    · replace hk := t_pos hk h14
      refine mj_tableIn 274 dX13_doLine_6 hh1 hh2 (by rw [h14]; rfl) (by decide) ?_
      refine mj_aload_n dX13_doLine_274 0 rfl ?_
      refine mj_iload_n dX13_doLine_275 1 rfl ?_
      refine mj_iload_n dX13_doLine_276 2 rfl ?_
      refine mj_iload_n dX13_doLine_277 3 rfl ?_
      refine t_bndK hk (fun r25 er25 hk => ?_)
      refine t_callVvE dX13_doLine_278 M_X13_doSimple (C_X13_doSimple _ _ _ _ _ er25) ML_X13_1386 IM_X13_doSimple SE_X13_doSimple qc_950 rfl (As := [.int x1, .int x2, .int x3]) rfl rfl (Nat.le_of_ble_eq_true rfl) (Nat.le_of_ble_eq_true rfl) (Nat.le_of_ble_eq_true rfl) (Nat.le_of_ble_eq_true rfl) ?_
      exact t_somK hk (fun hf => t_vret dX13_doLine_281 rfl ⟨rfl, hf⟩ (Nat.le_of_ble_eq_true rfl) (Nat.le_of_ble_eq_true rfl))
    replace hk := t_neg hk h14
    by_cases h15 : (s.1 988 (x3.toNatClampNeg)).toInt = 16
    · replace hk := t_pos hk h15
      refine mj_tableIn 274 dX13_doLine_6 hh1 hh2 (by rw [h15]; rfl) (by decide) ?_
      refine mj_aload_n dX13_doLine_274 0 rfl ?_
      refine mj_iload_n dX13_doLine_275 1 rfl ?_
      refine mj_iload_n dX13_doLine_276 2 rfl ?_
      refine mj_iload_n dX13_doLine_277 3 rfl ?_
      refine t_bndK hk (fun r26 er26 hk => ?_)
      refine t_callVvE dX13_doLine_278 M_X13_doSimple (C_X13_doSimple _ _ _ _ _ er26) ML_X13_1386 IM_X13_doSimple SE_X13_doSimple qc_950 rfl (As := [.int x1, .int x2, .int x3]) rfl rfl (Nat.le_of_ble_eq_true rfl) (Nat.le_of_ble_eq_true rfl) (Nat.le_of_ble_eq_true rfl) (Nat.le_of_ble_eq_true rfl) ?_
      exact t_somK hk (fun hf => t_vret dX13_doLine_281 rfl ⟨rfl, hf⟩ (Nat.le_of_ble_eq_true rfl) (Nat.le_of_ble_eq_true rfl))
    replace hk := t_neg hk h15
    have h16 : (s.1 988 (x3.toNatClampNeg)).toInt = 17 := by omega
    refine mj_tableIn 266 dX13_doLine_6 hh1 hh2 (by rw [h16]; rfl) (by decide) ?_
    refine mj_aload_n dX13_doLine_266 0 rfl ?_
    refine mj_iload_n dX13_doLine_267 1 rfl ?_
    refine mj_iload_n dX13_doLine_268 2 rfl ?_
    refine mj_iload_n dX13_doLine_269 3 rfl ?_
    refine t_bndK hk (fun r27 er27 hk => ?_)
    refine t_callVvE dX13_doLine_270 M_X13_stop (C_X13_stop _ _ _ _ _ er27) ML_X13_1383 IM_X13_stop SE_X13_stop qc_950 rfl (As := [.int x1, .int x2, .int x3]) rfl rfl (Nat.le_of_ble_eq_true rfl) (Nat.le_of_ble_eq_true rfl) (Nat.le_of_ble_eq_true rfl) (Nat.le_of_ble_eq_true rfl) ?_
    exact t_somK hk (fun hf => t_vret dX13_doLine_273 rfl ⟨rfl, hf⟩ (Nat.le_of_ble_eq_true rfl) (Nat.le_of_ble_eq_true rfl))

theorem dX13_doStep_0 : decode cX13_doStep 0 = .ok (.aload_n 0, 1) := by decide +kernel
theorem dX13_doStep_1 : decode cX13_doStep 1 = .ok (.getfield 282, 3) := by decide +kernel
theorem dX13_doStep_10 : decode cX13_doStep 10 = .ok (.getfield 288, 3) := by decide +kernel
theorem dX13_doStep_100 : decode cX13_doStep 100 = .ok (.iload_n 1, 1) := by decide +kernel
theorem dX13_doStep_101 : decode cX13_doStep 101 = .ok (.dup2, 1) := by decide +kernel
theorem dX13_doStep_102 : decode cX13_doStep 102 = .ok (.iaload, 1) := by decide +kernel
theorem dX13_doStep_103 : decode cX13_doStep 103 = .ok (.iconst 1, 1) := by decide +kernel
theorem dX13_doStep_104 : decode cX13_doStep 104 = .ok (.iadd, 1) := by decide +kernel
theorem dX13_doStep_105 : decode cX13_doStep 105 = .ok (.iastore, 1) := by decide +kernel
theorem dX13_doStep_106 : decode cX13_doStep 106 = .ok (.aload_n 0, 1) := by decide +kernel
theorem dX13_doStep_107 : decode cX13_doStep 107 = .ok (.iload_n 1, 1) := by decide +kernel
theorem dX13_doStep_108 : decode cX13_doStep 108 = .ok (.invokevirtual 1337, 3) := by decide +kernel
theorem dX13_doStep_111 : decode cX13_doStep 111 = .ok (.iconst 1, 1) := by decide +kernel
theorem dX13_doStep_112 : decode cX13_doStep 112 = .ok (.ireturn, 1) := by decide +kernel
theorem dX13_doStep_13 : decode cX13_doStep 13 = .ok (.bipush 8, 2) := by decide +kernel
theorem dX13_doStep_15 : decode cX13_doStep 15 = .ok (.iload_n 1, 1) := by decide +kernel
theorem dX13_doStep_16 : decode cX13_doStep 16 = .ok (.imul, 1) := by decide +kernel
theorem dX13_doStep_17 : decode cX13_doStep 17 = .ok (.iload_n 2, 1) := by decide +kernel
theorem dX13_doStep_18 : decode cX13_doStep 18 = .ok (.iadd, 1) := by decide +kernel
theorem dX13_doStep_19 : decode cX13_doStep 19 = .ok (.iaload, 1) := by decide +kernel
theorem dX13_doStep_20 : decode cX13_doStep 20 = .ok (.istore_n 3, 1) := by decide +kernel
theorem dX13_doStep_21 : decode cX13_doStep 21 = .ok (.aload_n 0, 1) := by decide +kernel
theorem dX13_doStep_22 : decode cX13_doStep 22 = .ok (.iconst 0, 1) := by decide +kernel
theorem dX13_doStep_23 : decode cX13_doStep 23 = .ok (.putfield 842, 3) := by decide +kernel
theorem dX13_doStep_26 : decode cX13_doStep 26 = .ok (.aload_n 0, 1) := by decide +kernel
theorem dX13_doStep_27 : decode cX13_doStep 27 = .ok (.iconst 0, 1) := by decide +kernel
theorem dX13_doStep_28 : decode cX13_doStep 28 = .ok (.putfield 858, 3) := by decide +kernel
theorem dX13_doStep_31 : decode cX13_doStep 31 = .ok (.aload_n 0, 1) := by decide +kernel
theorem dX13_doStep_32 : decode cX13_doStep 32 = .ok (.iconst 0, 1) := by decide +kernel
theorem dX13_doStep_33 : decode cX13_doStep 33 = .ok (.putfield 882, 3) := by decide +kernel
theorem dX13_doStep_36 : decode cX13_doStep 36 = .ok (.aload_n 0, 1) := by decide +kernel
theorem dX13_doStep_37 : decode cX13_doStep 37 = .ok (.iconst 0, 1) := by decide +kernel
theorem dX13_doStep_38 : decode cX13_doStep 38 = .ok (.putfield 1360, 3) := by decide +kernel
theorem dX13_doStep_4 : decode cX13_doStep 4 = .ok (.iload_n 1, 1) := by decide +kernel
theorem dX13_doStep_41 : decode cX13_doStep 41 = .ok (.aload_n 0, 1) := by decide +kernel
theorem dX13_doStep_42 : decode cX13_doStep 42 = .ok (.iload_n 1, 1) := by decide +kernel
theorem dX13_doStep_43 : decode cX13_doStep 43 = .ok (.putfield 917, 3) := by decide +kernel
theorem dX13_doStep_46 : decode cX13_doStep 46 = .ok (.aload_n 0, 1) := by decide +kernel
theorem dX13_doStep_47 : decode cX13_doStep 47 = .ok (.aload_n 0, 1) := by decide +kernel
theorem dX13_doStep_48 : decode cX13_doStep 48 = .ok (.iload_n 1, 1) := by decide +kernel
theorem dX13_doStep_49 : decode cX13_doStep 49 = .ok (.iload_n 2, 1) := by decide +kernel
theorem dX13_doStep_5 : decode cX13_doStep 5 = .ok (.iaload, 1) := by decide +kernel
theorem dX13_doStep_50 : decode cX13_doStep 50 = .ok (.invokevirtual 1340, 3) := by decide +kernel
theorem dX13_doStep_53 : decode cX13_doStep 53 = .ok (.putfield 935, 3) := by decide +kernel
theorem dX13_doStep_56 : decode cX13_doStep 56 = .ok (.aload_n 0, 1) := by decide +kernel
theorem dX13_doStep_57 : decode cX13_doStep 57 = .ok (.iload_n 1, 1) := by decide +kernel
theorem dX13_doStep_58 : decode cX13_doStep 58 = .ok (.iload_n 2, 1) := by decide +kernel
theorem dX13_doStep_59 : decode cX13_doStep 59 = .ok (.iload_n 3, 1) := by decide +kernel
theorem dX13_doStep_6 : decode cX13_doStep 6 = .ok (.iconst 1, 1) := by decide +kernel
theorem dX13_doStep_60 : decode cX13_doStep 60 = .ok (.invokevirtual 1363, 3) := by decide +kernel
theorem dX13_doStep_63 : decode cX13_doStep 63 = .ok (.aload_n 0, 1) := by decide +kernel
theorem dX13_doStep_64 : decode cX13_doStep 64 = .ok (.getfield 842, 3) := by decide +kernel
theorem dX13_doStep_67 : decode cX13_doStep 67 = .ok (.ifCond .eq 20, 3) := by decide +kernel
theorem dX13_doStep_7 : decode cX13_doStep 7 = .ok (.isub, 1) := by decide +kernel
theorem dX13_doStep_70 : decode cX13_doStep 70 = .ok (.aload_n 0, 1) := by decide +kernel
theorem dX13_doStep_71 : decode cX13_doStep 71 = .ok (.getfield 300, 3) := by decide +kernel
theorem dX13_doStep_74 : decode cX13_doStep 74 = .ok (.iload_n 1, 1) := by decide +kernel
theorem dX13_doStep_75 : decode cX13_doStep 75 = .ok (.dup2, 1) := by decide +kernel
theorem dX13_doStep_76 : decode cX13_doStep 76 = .ok (.iaload, 1) := by decide +kernel
theorem dX13_doStep_77 : decode cX13_doStep 77 = .ok (.iconst 1, 1) := by decide +kernel
theorem dX13_doStep_78 : decode cX13_doStep 78 = .ok (.iadd, 1) := by decide +kernel
theorem dX13_doStep_79 : decode cX13_doStep 79 = .ok (.iastore, 1) := by decide +kernel
theorem dX13_doStep_8 : decode cX13_doStep 8 = .ok (.istore_n 2, 1) := by decide +kernel
theorem dX13_doStep_80 : decode cX13_doStep 80 = .ok (.aload_n 0, 1) := by decide +kernel
theorem dX13_doStep_81 : decode cX13_doStep 81 = .ok (.iload_n 1, 1) := by decide +kernel
theorem dX13_doStep_82 : decode cX13_doStep 82 = .ok (.invokevirtual 1330, 3) := by decide +kernel
theorem dX13_doStep_85 : decode cX13_doStep 85 = .ok (.iconst 1, 1) := by decide +kernel
theorem dX13_doStep_86 : decode cX13_doStep 86 = .ok (.ireturn, 1) := by decide +kernel
theorem dX13_doStep_87 : decode cX13_doStep 87 = .ok (.aload_n 0, 1) := by decide +kernel
theorem dX13_doStep_88 : decode cX13_doStep 88 = .ok (.getfield 1360, 3) := by decide +kernel
theorem dX13_doStep_9 : decode cX13_doStep 9 = .ok (.aload_n 0, 1) := by decide +kernel
theorem dX13_doStep_91 : decode cX13_doStep 91 = .ok (.ifCond .eq 5, 3) := by decide +kernel
theorem dX13_doStep_94 : decode cX13_doStep 94 = .ok (.iconst 0, 1) := by decide +kernel
theorem dX13_doStep_95 : decode cX13_doStep 95 = .ok (.ireturn, 1) := by decide +kernel
theorem dX13_doStep_96 : decode cX13_doStep 96 = .ok (.aload_n 0, 1) := by decide +kernel
theorem dX13_doStep_97 : decode cX13_doStep 97 = .ok (.getfield 300, 3) := by decide +kernel
noncomputable def f_X13_doStep (x1 : Int32) (s : t_S) : Option (Int32 × t_S) :=
 if t_ix x1 8 = true then
  if t_ix (((8 : Int32) * x1) + ((s.1 1038 (x1.toNatClampNeg)) - (1 : Int32))) 64 = true then
  t_let (t_setI s 950 97 (0 : Int32)) (fun s1 =>
 t_let (t_setI s1 950 98 (0 : Int32)) (fun s2 =>
 t_let (t_setI s2 950 103 (0 : Int32)) (fun s3 =>
 t_let (t_setI s3 950 174 (0 : Int32)) (fun s4 =>
 t_let (t_setI s4 950 100 x1) (fun s5 =>
 t_let (t_setI s5 950 101 (f_X13_frameSlot x1 ((s.1 1038 (x1.toNatClampNeg)) - (1 : Int32)) s5)) (fun s6 =>
 (f_X13_doLine x1 ((s.1 1038 (x1.toNatClampNeg)) - (1 : Int32)) (s.1 1040 ((((8 : Int32) * x1) + ((s.1 1038 (x1.toNatClampNeg)) - (1 : Int32))).toNatClampNeg)) s6).bind (fun r4 =>
 if (r4.1 950 97) = (0 : Int32) then (if (r4.1 950 174) = (0 : Int32) then (t_let (t_setI r4 1044 (x1.toNatClampNeg) ((r4.1 1044 (x1.toNatClampNeg)) + (1 : Int32))) (fun s7 =>
 (f_X13_settle x1 s7).bind (fun r5 =>
 some ((1 : Int32), r5))))
 else (some ((0 : Int32), r4)))
 else (t_let (t_setI r4 1044 (x1.toNatClampNeg) ((r4.1 1044 (x1.toNatClampNeg)) + (1 : Int32))) (fun s8 =>
 (f_X13_goWrong x1 s8).bind (fun r6 =>
 some ((1 : Int32), r6)))))))))))
else none
else none
set_option maxRecDepth 4000 in
set_option maxHeartbeats 1000000 in
theorem C_X13_doStep (x1 : Int32) (s : t_S) (r : Int32 × t_S) (hr : f_X13_doStep x1 s = some r) : t_C yX13_doStep cX13_doStep 4 (some .boolean) 1889 [.ref 950, .int x1] s (fun v s' => v = some (.int r.1) ∧ s' = r.2) := by
  refine t_C.imp (P := fun v s' => ∃ x, v = some (.int x) ∧ (fun q => q = r) ((x, s'))) (t_C.of (by decide +kernel) (Nat.le_of_ble_eq_true rfl) ?_) (fun v s' hp => by obtain ⟨x, rfl, rfl⟩ := hp; exact ⟨rfl, rfl⟩)
  intro D cy ad bs X
  have hk : t_hk (f_X13_doStep x1 s) (fun q => q = r) := ⟨r, hr, rfl⟩
  show mj_G D cy ad bs X cX13_doStep 4 yX13_doStep.cls (some .boolean) yX13_doStep.name 1889 0 0 1065 (t_P (fun v s' => ∃ x, v = some (.int x) ∧ (fun q => q = r) ((x, s')))) 0 [(0, .ref 950), (1, .int x1)] [] (t_m s) 1065 0 0
  refine mj_aload_n dX13_doStep_0 0 rfl ?_
  refine t_getR 1038 dX13_doStep_1 F_X13_282 qr_950_153 ?_
  refine mj_iload_n dX13_doStep_4 1 rfl ?_
  refine t_chkK hk (fun c0 hk => ?_)
  refine t_iald dX13_doStep_5 qa_1038 (t_ixv c0) ?_
  refine mj_iconst (v := 1) dX13_doStep_6 (by decide) ?_
  refine mj_isub dX13_doStep_7 ?_
  refine mj_istore_n 2 (lv2 := [(2, .int ((s.1 1038 (x1.toNatClampNeg)) - (1 : Int32))), (0, .ref 950), (1, .int x1)]) dX13_doStep_8 rfl (by decide) rfl ?_
  refine mj_aload_n dX13_doStep_9 1 rfl ?_
  refine t_getR 1040 dX13_doStep_10 F_X13_288 qr_950_155 ?_
  refine mj_bipush (v := 8) dX13_doStep_13 (by decide) ?_
  refine mj_iload_n dX13_doStep_15 2 rfl ?_
  refine mj_imul dX13_doStep_16 ?_
  refine mj_iload_n dX13_doStep_17 0 rfl ?_
  refine mj_iadd dX13_doStep_18 ?_
  refine t_chkK hk (fun c1 hk => ?_)
  refine t_iald dX13_doStep_19 qa_1040 (t_ixv c1) ?_
  refine mj_istore_n 3 (lv2 := [(3, .int (s.1 1040 ((((8 : Int32) * x1) + ((s.1 1038 (x1.toNatClampNeg)) - (1 : Int32))).toNatClampNeg))), (2, .int ((s.1 1038 (x1.toNatClampNeg)) - (1 : Int32))), (0, .ref 950), (1, .int x1)]) dX13_doStep_20 rfl (by decide) rfl ?_
  refine mj_aload_n dX13_doStep_21 2 rfl ?_
  refine mj_iconst (v := 0) dX13_doStep_22 (by decide) ?_
  refine t_putIK dX13_doStep_23 F_X13_842 qf_950_97 rfl (fun s1 ws1 => t_letE hk ws1 (fun hk => ?_))
  refine mj_aload_n dX13_doStep_26 2 rfl ?_
  refine mj_iconst (v := 0) dX13_doStep_27 (by decide) ?_
  refine t_putIK dX13_doStep_28 F_X13_858 qf_950_98 rfl (fun s2 ws2 => t_letE hk ws2 (fun hk => ?_))
  refine mj_aload_n dX13_doStep_31 2 rfl ?_
  refine mj_iconst (v := 0) dX13_doStep_32 (by decide) ?_
  refine t_putIK dX13_doStep_33 F_X13_882 qf_950_103 rfl (fun s3 ws3 => t_letE hk ws3 (fun hk => ?_))
  refine mj_aload_n dX13_doStep_36 2 rfl ?_
  refine mj_iconst (v := 0) dX13_doStep_37 (by decide) ?_
  refine t_putIK dX13_doStep_38 F_X13_1360 qf_950_174 (by decide) (fun s4 ws4 => t_letE hk ws4 (fun hk => ?_))
  refine mj_aload_n dX13_doStep_41 2 rfl ?_
  refine mj_iload_n dX13_doStep_42 3 rfl ?_
  refine t_putIK dX13_doStep_43 F_X13_917 qf_950_100 rfl (fun s5 ws5 => t_letE hk ws5 (fun hk => ?_))
  refine mj_aload_n dX13_doStep_46 2 rfl ?_
  refine mj_aload_n dX13_doStep_47 2 rfl ?_
  refine mj_iload_n dX13_doStep_48 3 rfl ?_
  refine mj_iload_n dX13_doStep_49 1 rfl ?_
  refine t_callViP dX13_doStep_50 M_X13_frameSlot (C_X13_frameSlot _ _ _) ML_X13_1340 IM_X13_frameSlot SE_X13_frameSlot qc_950 rfl (As := [.int x1, .int ((s.1 1038 (x1.toNatClampNeg)) - (1 : Int32))]) rfl rfl (Nat.le_of_ble_eq_true rfl) (Nat.le_of_ble_eq_true rfl) (Nat.le_of_ble_eq_true rfl) (Nat.le_of_ble_eq_true rfl) ?_
  refine t_putIK dX13_doStep_53 F_X13_935 qf_950_101 rfl (fun s6 ws6 => t_letE hk ws6 (fun hk => ?_))
  refine mj_aload_n dX13_doStep_56 2 rfl ?_
  refine mj_iload_n dX13_doStep_57 3 rfl ?_
  refine mj_iload_n dX13_doStep_58 1 rfl ?_
  refine mj_iload_n dX13_doStep_59 0 rfl ?_
  refine t_bndK hk (fun r4 er4 hk => ?_)
  refine t_callVvE dX13_doStep_60 M_X13_doLine (C_X13_doLine _ _ _ _ _ er4) ML_X13_1363 IM_X13_doLine SE_X13_doLine qc_950 rfl (As := [.int x1, .int ((s.1 1038 (x1.toNatClampNeg)) - (1 : Int32)), .int (s.1 1040 ((((8 : Int32) * x1) + ((s.1 1038 (x1.toNatClampNeg)) - (1 : Int32))).toNatClampNeg))]) rfl rfl (Nat.le_of_ble_eq_true rfl) (Nat.le_of_ble_eq_true rfl) (Nat.le_of_ble_eq_true rfl) (Nat.le_of_ble_eq_true rfl) ?_
  refine mj_aload_n dX13_doStep_63 2 rfl ?_
  refine t_getI dX13_doStep_64 F_X13_842 qf_950_97 ?_
  refine mj_if_eq 87 dX13_doStep_67 (by decide) (fun z => t_posK hk z (fun hk => ?_)) (fun z => t_negK hk z (fun hk => ?_))
  · refine mj_aload_n dX13_doStep_87 2 rfl ?_
    refine t_getI dX13_doStep_88 F_X13_1360 qf_950_174 ?_
    refine mj_if_eq 96 dX13_doStep_91 (by decide) (fun z => t_posK hk z (fun hk => ?_)) (fun z => t_negK hk z (fun hk => ?_))
    · refine mj_aload_n dX13_doStep_96 2 rfl ?_
      refine t_getR 1044 dX13_doStep_97 F_X13_300 qr_950_159 ?_
      refine mj_iload_n dX13_doStep_100 3 rfl ?_
      refine mj_dup2 dX13_doStep_101 rfl rfl ?_
      refine t_iald dX13_doStep_102 qa_1044 (t_ixv c0) ?_
      refine mj_iconst (v := 1) dX13_doStep_103 (by decide) ?_
      refine mj_iadd dX13_doStep_104 ?_
      refine t_iastK dX13_doStep_105 qa_1044 (t_ixv c0) (fun s7 ws7 => t_letE hk ws7 (fun hk => ?_))
      refine mj_aload_n dX13_doStep_106 2 rfl ?_
      refine mj_iload_n dX13_doStep_107 3 rfl ?_
      refine t_bndK hk (fun r5 er5 hk => ?_)
      refine t_callVvE dX13_doStep_108 M_X13_settle (C_X13_settle _ _ _ er5) ML_X13_1337 IM_X13_settle SE_X13_settle qc_950 rfl (As := [.int x1]) rfl rfl (Nat.le_of_ble_eq_true rfl) (Nat.le_of_ble_eq_true rfl) (Nat.le_of_ble_eq_true rfl) (Nat.le_of_ble_eq_true rfl) ?_
      refine mj_iconst (v := 1) dX13_doStep_111 (by decide) ?_
      exact t_somK hk (fun hf => t_iret dX13_doStep_112 rfl (by decide) ⟨_, rfl, hf⟩ (Nat.le_of_ble_eq_true rfl) (Nat.le_of_ble_eq_true rfl))
    · refine mj_iconst (v := 0) dX13_doStep_94 (by decide) ?_
      exact t_somK hk (fun hf => t_iret dX13_doStep_95 rfl (by decide) ⟨_, rfl, hf⟩ (Nat.le_of_ble_eq_true rfl) (Nat.le_of_ble_eq_true rfl))
  · refine mj_aload_n dX13_doStep_70 2 rfl ?_
    refine t_getR 1044 dX13_doStep_71 F_X13_300 qr_950_159 ?_
    refine mj_iload_n dX13_doStep_74 3 rfl ?_
    refine mj_dup2 dX13_doStep_75 rfl rfl ?_
    refine t_iald dX13_doStep_76 qa_1044 (t_ixv c0) ?_
    refine mj_iconst (v := 1) dX13_doStep_77 (by decide) ?_
    refine mj_iadd dX13_doStep_78 ?_
    refine t_iastK dX13_doStep_79 qa_1044 (t_ixv c0) (fun s8 ws8 => t_letE hk ws8 (fun hk => ?_))
    refine mj_aload_n dX13_doStep_80 2 rfl ?_
    refine mj_iload_n dX13_doStep_81 3 rfl ?_
    refine t_bndK hk (fun r6 er6 hk => ?_)
    refine t_callVvE dX13_doStep_82 M_X13_goWrong (C_X13_goWrong _ _ _ er6) ML_X13_1330 IM_X13_goWrong SE_X13_goWrong qc_950 rfl (As := [.int x1]) rfl rfl (Nat.le_of_ble_eq_true rfl) (Nat.le_of_ble_eq_true rfl) (Nat.le_of_ble_eq_true rfl) (Nat.le_of_ble_eq_true rfl) ?_
    refine mj_iconst (v := 1) dX13_doStep_85 (by decide) ?_
    exact t_somK hk (fun hf => t_iret dX13_doStep_86 rfl (by decide) ⟨_, rfl, hf⟩ (Nat.le_of_ble_eq_true rfl) (Nat.le_of_ble_eq_true rfl))

theorem dX13_drop_0 : decode cX13_drop 0 = .ok (.aload_n 0, 1) := by decide +kernel
theorem dX13_drop_1 : decode cX13_drop 1 = .ok (.getfield 654, 3) := by decide +kernel
theorem dX13_drop_10 : decode cX13_drop 10 = .ok (.dup, 1) := by decide +kernel
theorem dX13_drop_11 : decode cX13_drop 11 = .ok (.getfield 654, 3) := by decide +kernel
theorem dX13_drop_14 : decode cX13_drop 14 = .ok (.iconst 1, 1) := by decide +kernel
theorem dX13_drop_15 : decode cX13_drop 15 = .ok (.isub, 1) := by decide +kernel
theorem dX13_drop_16 : decode cX13_drop 16 = .ok (.putfield 654, 3) := by decide +kernel
theorem dX13_drop_19 : decode cX13_drop 19 = .ok (.aload_n 0, 1) := by decide +kernel
theorem dX13_drop_20 : decode cX13_drop 20 = .ok (.getfield 654, 3) := by decide +kernel
theorem dX13_drop_23 : decode cX13_drop 23 = .ok (.ireturn, 1) := by decide +kernel
theorem dX13_drop_4 : decode cX13_drop 4 = .ok (.ifCond .ne 5, 3) := by decide +kernel
theorem dX13_drop_7 : decode cX13_drop 7 = .ok (.iconst (-1), 1) := by decide +kernel
theorem dX13_drop_8 : decode cX13_drop 8 = .ok (.ireturn, 1) := by decide +kernel
theorem dX13_drop_9 : decode cX13_drop 9 = .ok (.aload_n 0, 1) := by decide +kernel
noncomputable def f_X13_drop (s : t_S) : Option (Int32 × t_S) :=
 if (s.1 950 96) = (0 : Int32) then (some ((-1 : Int32), s))
 else (t_let (t_setI s 950 96 ((s.1 950 96) - (1 : Int32))) (fun s1 =>
 some ((s1.1 950 96), s1)))
set_option maxRecDepth 4000 in
set_option maxHeartbeats 1000000 in
theorem C_X13_drop (s : t_S) (r : Int32 × t_S) (hr : f_X13_drop s = some r) : t_C yX13_drop cX13_drop 1 (some .int) 0 [.ref 950] s (fun v s' => v = some (.int r.1) ∧ s' = r.2) := by
  refine t_C.imp (P := fun v s' => ∃ x, v = some (.int x) ∧ (fun q => q = r) ((x, s'))) (t_C.of (by decide +kernel) (Nat.le_of_ble_eq_true rfl) ?_) (fun v s' hp => by obtain ⟨x, rfl, rfl⟩ := hp; exact ⟨rfl, rfl⟩)
  intro D cy ad bs X
  have hk : t_hk (f_X13_drop s) (fun q => q = r) := ⟨r, hr, rfl⟩
  show mj_G D cy ad bs X cX13_drop 1 yX13_drop.cls (some .int) yX13_drop.name 0 0 0 1065 (t_P (fun v s' => ∃ x, v = some (.int x) ∧ (fun q => q = r) ((x, s')))) 0 [(0, .ref 950)] [] (t_m s) 1065 0 0
  refine mj_aload_n dX13_drop_0 0 rfl ?_
  refine t_getI dX13_drop_1 F_X13_654 qf_950_96 ?_
  refine mj_if_ne 9 dX13_drop_4 (by decide) (fun z => t_negK hk z (fun hk => ?_)) (fun z => t_posK hk z (fun hk => ?_))
  · refine mj_aload_n dX13_drop_9 0 rfl ?_
    refine mj_dup dX13_drop_10 rfl ?_
    refine t_getI dX13_drop_11 F_X13_654 qf_950_96 ?_
    refine mj_iconst (v := 1) dX13_drop_14 (by decide) ?_
    refine mj_isub dX13_drop_15 ?_
    refine t_putIK dX13_drop_16 F_X13_654 qf_950_96 rfl (fun s1 ws1 => t_letE hk ws1 (fun hk => ?_))
    refine mj_aload_n dX13_drop_19 0 rfl ?_
    refine t_getI dX13_drop_20 F_X13_654 qf_950_96 ?_
    exact t_somK hk (fun hf => t_iret dX13_drop_23 rfl rfl ⟨_, rfl, hf⟩ (Nat.le_of_ble_eq_true rfl) (Nat.le_of_ble_eq_true rfl))
  · refine mj_iconst (v := (-1)) dX13_drop_7 (by decide) ?_
    exact t_somK hk (fun hf => t_iret dX13_drop_8 rfl rfl ⟨_, rfl, hf⟩ (Nat.le_of_ble_eq_true rfl) (Nat.le_of_ble_eq_true rfl))

theorem dX13_encode_0 : decode cX13_encode 0 = .ok (.aload_n 0, 1) := by decide +kernel
theorem dX13_encode_1 : decode cX13_encode 1 = .ok (.iload_n 2, 1) := by decide +kernel
theorem dX13_encode_10 : decode cX13_encode 10 = .ok (.invokevirtual 1002, 3) := by decide +kernel
theorem dX13_encode_13 : decode cX13_encode 13 = .ok (.ifCond .eq 5, 3) := by decide +kernel
theorem dX13_encode_16 : decode cX13_encode 16 = .ok (.iconst (-1), 1) := by decide +kernel
theorem dX13_encode_17 : decode cX13_encode 17 = .ok (.ireturn, 1) := by decide +kernel
theorem dX13_encode_18 : decode cX13_encode 18 = .ok (.aload_n 0, 1) := by decide +kernel
theorem dX13_encode_19 : decode cX13_encode 19 = .ok (.sipush 260, 3) := by decide +kernel
theorem dX13_encode_2 : decode cX13_encode 2 = .ok (.invokevirtual 1051, 3) := by decide +kernel
theorem dX13_encode_22 : decode cX13_encode 22 = .ok (.iconst 0, 1) := by decide +kernel
theorem dX13_encode_23 : decode cX13_encode 23 = .ok (.iload_n 1, 1) := by decide +kernel
theorem dX13_encode_24 : decode cX13_encode 24 = .ok (.iadd, 1) := by decide +kernel
theorem dX13_encode_25 : decode cX13_encode 25 = .ok (.imul, 1) := by decide +kernel
theorem dX13_encode_26 : decode cX13_encode 26 = .ok (.aload_n 0, 1) := by decide +kernel
theorem dX13_encode_27 : decode cX13_encode 27 = .ok (.getfield 57, 3) := by decide +kernel
theorem dX13_encode_30 : decode cX13_encode 30 = .ok (.iload_n 2, 1) := by decide +kernel
theorem dX13_encode_31 : decode cX13_encode 31 = .ok (.iaload, 1) := by decide +kernel
theorem dX13_encode_32 : decode cX13_encode 32 = .ok (.invokestatic 1045, 3) := by decide +kernel
theorem dX13_encode_35 : decode cX13_encode 35 = .ok (.ifCond .ne 6, 3) := by decide +kernel
theorem dX13_encode_38 : decode cX13_encode 38 = .ok (.bipush (-2), 2) := by decide +kernel
theorem dX13_encode_40 : decode cX13_encode 40 = .ok (.ireturn, 1) := by decide +kernel
theorem dX13_encode_41 : decode cX13_encode 41 = .ok (.aload_n 0, 1) := by decide +kernel
theorem dX13_encode_42 : decode cX13_encode 42 = .ok (.iconst 0, 1) := by decide +kernel
theorem dX13_encode_43 : decode cX13_encode 43 = .ok (.putfield 833, 3) := by decide +kernel
theorem dX13_encode_46 : decode cX13_encode 46 = .ok (.aload_n 0, 1) := by decide +kernel
theorem dX13_encode_47 : decode cX13_encode 47 = .ok (.sipush 260, 3) := by decide +kernel
theorem dX13_encode_5 : decode cX13_encode 5 = .ok (.ifCond .ne 11, 3) := by decide +kernel
theorem dX13_encode_50 : decode cX13_encode 50 = .ok (.iconst 0, 1) := by decide +kernel
theorem dX13_encode_51 : decode cX13_encode 51 = .ok (.iload_n 1, 1) := by decide +kernel
theorem dX13_encode_52 : decode cX13_encode 52 = .ok (.iadd, 1) := by decide +kernel
theorem dX13_encode_53 : decode cX13_encode 53 = .ok (.imul, 1) := by decide +kernel
theorem dX13_encode_54 : decode cX13_encode 54 = .ok (.aload_n 0, 1) := by decide +kernel
theorem dX13_encode_55 : decode cX13_encode 55 = .ok (.getfield 57, 3) := by decide +kernel
theorem dX13_encode_58 : decode cX13_encode 58 = .ok (.iload_n 2, 1) := by decide +kernel
theorem dX13_encode_59 : decode cX13_encode 59 = .ok (.iaload, 1) := by decide +kernel
theorem dX13_encode_60 : decode cX13_encode 60 = .ok (.invokestatic 1148, 3) := by decide +kernel
theorem dX13_encode_63 : decode cX13_encode 63 = .ok (.aload_n 0, 1) := by decide +kernel
theorem dX13_encode_64 : decode cX13_encode 64 = .ok (.getfield 833, 3) := by decide +kernel
theorem dX13_encode_67 : decode cX13_encode 67 = .ok (.ireturn, 1) := by decide +kernel
theorem dX13_encode_8 : decode cX13_encode 8 = .ok (.aload_n 0, 1) := by decide +kernel
theorem dX13_encode_9 : decode cX13_encode 9 = .ok (.iload_n 1, 1) := by decide +kernel
noncomputable def f_X13_encode (x1 : Int32) (x2 : Int32) (s : t_S) : Option (Int32 × t_S) :=
 if (f_X13_noType x2 s) = (0 : Int32) then (if (f_X13_noValue x1 s) = (0 : Int32) then (if t_ix x2 60 = true then
  (f_X13_fitsAt ((260 : Int32) * ((0 : Int32) + x1)) (s.1 965 (x2.toNatClampNeg)) s).bind (fun r4 =>
 if r4 = (0 : Int32) then (some ((-2 : Int32), s))
 else (t_let (t_setI s 950 121 (0 : Int32)) (fun s1 =>
 (f_X13_code ((260 : Int32) * ((0 : Int32) + x1)) (s1.1 965 (x2.toNatClampNeg)) s1).bind (fun r5 =>
 some ((r5.1 950 121), r5)))))
else none)
 else (some ((-1 : Int32), s)))
 else (some ((-1 : Int32), s))
set_option maxRecDepth 4000 in
set_option maxHeartbeats 1000000 in
theorem C_X13_encode (x1 : Int32) (x2 : Int32) (s : t_S) (r : Int32 × t_S) (hr : f_X13_encode x1 x2 s = some r) : t_C yX13_encode cX13_encode 3 (some .int) 305 [.ref 950, .int x1, .int x2] s (fun v s' => v = some (.int r.1) ∧ s' = r.2) := by
  refine t_C.imp (P := fun v s' => ∃ x, v = some (.int x) ∧ (fun q => q = r) ((x, s'))) (t_C.of (by decide +kernel) (Nat.le_of_ble_eq_true rfl) ?_) (fun v s' hp => by obtain ⟨x, rfl, rfl⟩ := hp; exact ⟨rfl, rfl⟩)
  intro D cy ad bs X
  have hk : t_hk (f_X13_encode x1 x2 s) (fun q => q = r) := ⟨r, hr, rfl⟩
  show mj_G D cy ad bs X cX13_encode 3 yX13_encode.cls (some .int) yX13_encode.name 305 0 0 1065 (t_P (fun v s' => ∃ x, v = some (.int x) ∧ (fun q => q = r) ((x, s')))) 0 [(0, .ref 950), (1, .int x1), (2, .int x2)] [] (t_m s) 1065 0 0
  refine mj_aload_n dX13_encode_0 0 rfl ?_
  refine mj_iload_n dX13_encode_1 2 rfl ?_
  refine t_callViP dX13_encode_2 M_X13_noType (C_X13_noType _ _) ML_X13_1051 IM_X13_noType SE_X13_noType qc_950 rfl (As := [.int x2]) rfl rfl (Nat.le_of_ble_eq_true rfl) (Nat.le_of_ble_eq_true rfl) (Nat.le_of_ble_eq_true rfl) (Nat.le_of_ble_eq_true rfl) ?_
  refine mj_if_ne 16 dX13_encode_5 (by decide) (fun z => t_negK hk z (fun hk => ?_)) (fun z => t_posK hk z (fun hk => ?_))
  · refine mj_iconst (v := (-1)) dX13_encode_16 (by decide) ?_
    exact t_somK hk (fun hf => t_iret dX13_encode_17 rfl rfl ⟨_, rfl, hf⟩ (Nat.le_of_ble_eq_true rfl) (Nat.le_of_ble_eq_true rfl))
  · refine mj_aload_n dX13_encode_8 0 rfl ?_
    refine mj_iload_n dX13_encode_9 1 rfl ?_
    refine t_callViP dX13_encode_10 M_X13_noValue (C_X13_noValue _ _) ML_X13_1002 IM_X13_noValue SE_X13_noValue qc_950 rfl (As := [.int x1]) rfl rfl (Nat.le_of_ble_eq_true rfl) (Nat.le_of_ble_eq_true rfl) (Nat.le_of_ble_eq_true rfl) (Nat.le_of_ble_eq_true rfl) ?_
    refine mj_if_eq 18 dX13_encode_13 (by decide) (fun z => t_posK hk z (fun hk => ?_)) (fun z => t_negK hk z (fun hk => ?_))
    · refine mj_aload_n dX13_encode_18 0 rfl ?_
      refine mj_sipush (v := 260) dX13_encode_19 (by decide) ?_
      refine mj_iconst (v := 0) dX13_encode_22 (by decide) ?_
      refine mj_iload_n dX13_encode_23 1 rfl ?_
      refine mj_iadd dX13_encode_24 ?_
      refine mj_imul dX13_encode_25 ?_
      refine mj_aload_n dX13_encode_26 0 rfl ?_
      refine t_getR 965 dX13_encode_27 F_X13_57 qr_950_38 ?_
      refine mj_iload_n dX13_encode_30 2 rfl ?_
      refine t_chkK hk (fun c2 hk => ?_)
      refine t_iald dX13_encode_31 qa_965 (t_ixv c2) ?_
      refine t_bndK hk (fun r4 er4 hk => ?_)
      refine t_callSiP dX13_encode_32 M_X13_fitsAt (C_X13_fitsAt _ _ _ _ er4) ML_X13_1045 SM_X13_fitsAt (As := [.ref 950, .int ((260 : Int32) * ((0 : Int32) + x1)), .int (s.1 965 (x2.toNatClampNeg))]) rfl rfl (Nat.le_of_ble_eq_true rfl) (Nat.le_of_ble_eq_true rfl) (Nat.le_of_ble_eq_true rfl) (Nat.le_of_ble_eq_true rfl) ?_
      refine mj_if_ne 41 dX13_encode_35 (by decide) (fun z => t_negK hk z (fun hk => ?_)) (fun z => t_posK hk z (fun hk => ?_))
      · refine mj_aload_n dX13_encode_41 0 rfl ?_
        refine mj_iconst (v := 0) dX13_encode_42 (by decide) ?_
        refine t_putIK dX13_encode_43 F_X13_833 qf_950_121 rfl (fun s1 ws1 => t_letE hk ws1 (fun hk => ?_))
        refine mj_aload_n dX13_encode_46 0 rfl ?_
        refine mj_sipush (v := 260) dX13_encode_47 (by decide) ?_
        refine mj_iconst (v := 0) dX13_encode_50 (by decide) ?_
        refine mj_iload_n dX13_encode_51 1 rfl ?_
        refine mj_iadd dX13_encode_52 ?_
        refine mj_imul dX13_encode_53 ?_
        refine mj_aload_n dX13_encode_54 0 rfl ?_
        refine t_getR 965 dX13_encode_55 F_X13_57 qr_950_38 ?_
        refine mj_iload_n dX13_encode_58 2 rfl ?_
        refine t_iald dX13_encode_59 qa_965 (t_ixv c2) ?_
        refine t_bndK hk (fun r5 er5 hk => ?_)
        refine t_callSvE dX13_encode_60 M_X13_code (C_X13_code _ _ _ _ er5) ML_X13_1148 SM_X13_code (As := [.ref 950, .int ((260 : Int32) * ((0 : Int32) + x1)), .int (s1.1 965 (x2.toNatClampNeg))]) rfl rfl (Nat.le_of_ble_eq_true rfl) (Nat.le_of_ble_eq_true rfl) (Nat.le_of_ble_eq_true rfl) (Nat.le_of_ble_eq_true rfl) ?_
        refine mj_aload_n dX13_encode_63 0 rfl ?_
        refine t_getI dX13_encode_64 F_X13_833 qf_950_121 ?_
        exact t_somK hk (fun hf => t_iret dX13_encode_67 rfl rfl ⟨_, rfl, hf⟩ (Nat.le_of_ble_eq_true rfl) (Nat.le_of_ble_eq_true rfl))
      · refine mj_bipush (v := (-2)) dX13_encode_38 (by decide) ?_
        exact t_somK hk (fun hf => t_iret dX13_encode_40 rfl rfl ⟨_, rfl, hf⟩ (Nat.le_of_ble_eq_true rfl) (Nat.le_of_ble_eq_true rfl))
    · refine mj_iconst (v := (-1)) dX13_encode_16 (by decide) ?_
      exact t_somK hk (fun hf => t_iret dX13_encode_17 rfl rfl ⟨_, rfl, hf⟩ (Nat.le_of_ble_eq_true rfl) (Nat.le_of_ble_eq_true rfl))

theorem dX13_end_0 : decode cX13_end 0 = .ok (.iload_n 1, 1) := by decide +kernel
theorem dX13_end_1 : decode cX13_end 1 = .ok (.i2l, 1) := by decide +kernel
theorem dX13_end_12 : decode cX13_end 12 = .ok (.aload_n 0, 1) := by decide +kernel
theorem dX13_end_13 : decode cX13_end 13 = .ok (.getfield 366, 3) := by decide +kernel
theorem dX13_end_16 : decode cX13_end 16 = .ok (.bipush 20, 2) := by decide +kernel
theorem dX13_end_18 : decode cX13_end 18 = .ok (.if_icmp .ge 5, 3) := by decide +kernel
theorem dX13_end_2 : decode cX13_end 2 = .ok (.lconst 0, 1) := by decide +kernel
theorem dX13_end_21 : decode cX13_end 21 = .ok (.iconst (-1), 1) := by decide +kernel
theorem dX13_end_22 : decode cX13_end 22 = .ok (.ireturn, 1) := by decide +kernel
theorem dX13_end_23 : decode cX13_end 23 = .ok (.aload_n 0, 1) := by decide +kernel
theorem dX13_end_24 : decode cX13_end 24 = .ok (.aload_n 0, 1) := by decide +kernel
theorem dX13_end_25 : decode cX13_end 25 = .ok (.getfield 366, 3) := by decide +kernel
theorem dX13_end_28 : decode cX13_end 28 = .ok (.iload_n 1, 1) := by decide +kernel
theorem dX13_end_29 : decode cX13_end 29 = .ok (.iadd, 1) := by decide +kernel
theorem dX13_end_3 : decode cX13_end 3 = .ok (.ldc2_w 369, 3) := by decide +kernel
theorem dX13_end_30 : decode cX13_end 30 = .ok (.bipush 20, 2) := by decide +kernel
theorem dX13_end_32 : decode cX13_end 32 = .ok (.isub, 1) := by decide +kernel
theorem dX13_end_33 : decode cX13_end 33 = .ok (.putfield 366, 3) := by decide +kernel
theorem dX13_end_36 : decode cX13_end 36 = .ok (.aload_n 0, 1) := by decide +kernel
theorem dX13_end_37 : decode cX13_end 37 = .ok (.getfield 366, 3) := by decide +kernel
theorem dX13_end_40 : decode cX13_end 40 = .ok (.ireturn, 1) := by decide +kernel
theorem dX13_end_6 : decode cX13_end 6 = .ok (.invokestatic 371, 3) := by decide +kernel
theorem dX13_end_9 : decode cX13_end 9 = .ok (.ifCond .eq 12, 3) := by decide +kernel
noncomputable def f_X13_end (x1 : Int32) (s : t_S) : Option (Int32 × t_S) :=
 if (f_X13_in x1.toInt64 (0 : Int64) (20 : Int64) s) = (0 : Int32) then (some ((-1 : Int32), s))
 else (if (20 : Int32) ≤ (s.1 950 1) then (t_let (t_setI s 950 1 (((s.1 950 1) + x1) - (20 : Int32))) (fun s1 =>
 some ((s1.1 950 1), s1)))
 else (some ((-1 : Int32), s)))
set_option maxRecDepth 4000 in
set_option maxHeartbeats 1000000 in
theorem C_X13_end (x1 : Int32) (s : t_S) (r : Int32 × t_S) (hr : f_X13_end x1 s = some r) : t_C yX13_end cX13_end 2 (some .int) 1 [.ref 950, .int x1] s (fun v s' => v = some (.int r.1) ∧ s' = r.2) := by
  refine t_C.imp (P := fun v s' => ∃ x, v = some (.int x) ∧ (fun q => q = r) ((x, s'))) (t_C.of (by decide +kernel) (Nat.le_of_ble_eq_true rfl) ?_) (fun v s' hp => by obtain ⟨x, rfl, rfl⟩ := hp; exact ⟨rfl, rfl⟩)
  intro D cy ad bs X
  have hk : t_hk (f_X13_end x1 s) (fun q => q = r) := ⟨r, hr, rfl⟩
  show mj_G D cy ad bs X cX13_end 2 yX13_end.cls (some .int) yX13_end.name 1 0 0 1065 (t_P (fun v s' => ∃ x, v = some (.int x) ∧ (fun q => q = r) ((x, s')))) 0 [(0, .ref 950), (1, .int x1)] [] (t_m s) 1065 0 0
  refine mj_iload_n dX13_end_0 1 rfl ?_
  refine mj_i2l (v := x1.toInt64) dX13_end_1 rfl ?_
  refine mj_lconst (v := 0) dX13_end_2 (by decide) ?_
  refine mj_ldc2 dX13_end_3 K_X13_369 ?_
  refine t_callSiP dX13_end_6 M_X13_in (C_X13_in _ _ _ _) ML_X13_371 SM_X13_in (As := [.long x1.toInt64, .long 0, .long 20]) rfl rfl (Nat.le_of_ble_eq_true rfl) (Nat.le_of_ble_eq_true rfl) (Nat.le_of_ble_eq_true rfl) (Nat.le_of_ble_eq_true rfl) ?_
  refine mj_if_eq 21 dX13_end_9 (by decide) (fun z => t_posK hk z (fun hk => ?_)) (fun z => t_negK hk z (fun hk => ?_))
  · refine mj_iconst (v := (-1)) dX13_end_21 (by decide) ?_
    exact t_somK hk (fun hf => t_iret dX13_end_22 rfl rfl ⟨_, rfl, hf⟩ (Nat.le_of_ble_eq_true rfl) (Nat.le_of_ble_eq_true rfl))
  · refine mj_aload_n dX13_end_12 0 rfl ?_
    refine t_getI dX13_end_13 F_X13_366 qf_950_1 ?_
    refine mj_bipush (v := 20) dX13_end_16 (by decide) ?_
    refine mj_icmp_ge 23 dX13_end_18 (by decide) (fun z => t_posK hk z (fun hk => ?_)) (fun z => t_negK hk z (fun hk => ?_))
    · refine mj_aload_n dX13_end_23 0 rfl ?_
      refine mj_aload_n dX13_end_24 0 rfl ?_
      refine t_getI dX13_end_25 F_X13_366 qf_950_1 ?_
      refine mj_iload_n dX13_end_28 1 rfl ?_
      refine mj_iadd dX13_end_29 ?_
      refine mj_bipush (v := 20) dX13_end_30 (by decide) ?_
      refine mj_isub dX13_end_32 ?_
      refine t_putIK dX13_end_33 F_X13_366 qf_950_1 rfl (fun s1 ws1 => t_letE hk ws1 (fun hk => ?_))
      refine mj_aload_n dX13_end_36 0 rfl ?_
      refine t_getI dX13_end_37 F_X13_366 qf_950_1 ?_
      exact t_somK hk (fun hf => t_iret dX13_end_40 rfl rfl ⟨_, rfl, hf⟩ (Nat.le_of_ble_eq_true rfl) (Nat.le_of_ble_eq_true rfl))
    · refine mj_iconst (v := (-1)) dX13_end_21 (by decide) ?_
      exact t_somK hk (fun hf => t_iret dX13_end_22 rfl rfl ⟨_, rfl, hf⟩ (Nat.le_of_ble_eq_true rfl) (Nat.le_of_ble_eq_true rfl))

