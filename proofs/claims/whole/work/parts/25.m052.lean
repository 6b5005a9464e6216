/-! Methods as functions, 52: X13_reckon, X13_join, X13_isSpine, X13_pushTextOf, X13_pushCopy, X13_componentOf -/
theorem qa_958 : t_oka 958 2 13000 = true := by decide +kernel
theorem qa_963 : t_oka 963 1 24300 = true := by decide +kernel
theorem qr_950_20 : t_okr 950 13 20 958 = true := by decide +kernel
theorem qr_950_35 : t_okr 950 13 35 963 = true := by decide +kernel
theorem dX13_reckon_0 : decode cX13_reckon 0 = .ok (.iload_n 1, 1) := by decide +kernel
theorem dX13_reckon_1 : decode cX13_reckon 1 = .ok (.lookupswitch 244 #[(37, 156), (42, 93), (43, 75), (45, 84), (47, 156), (60, 193), (62, 210), (15421, 227)], 75) := by decide +kernel
theorem dX13_reckon_100 : decode cX13_reckon 100 = .ok (.lload_n 2, 1) := by decide +kernel
theorem dX13_reckon_101 : decode cX13_reckon 101 = .ok (.invokestatic 990, 3) := by decide +kernel
theorem dX13_reckon_104 : decode cX13_reckon 104 = .ok (.ldc2_w 864, 3) := by decide +kernel
theorem dX13_reckon_107 : decode cX13_reckon 107 = .ok (.lload 4, 2) := by decide +kernel
theorem dX13_reckon_109 : decode cX13_reckon 109 = .ok (.lconst 0, 1) := by decide +kernel
theorem dX13_reckon_110 : decode cX13_reckon 110 = .ok (.lcmp, 1) := by decide +kernel
theorem dX13_reckon_111 : decode cX13_reckon 111 = .ok (.ifCond .ne 7, 3) := by decide +kernel
theorem dX13_reckon_114 : decode cX13_reckon 114 = .ok (.lconst 1, 1) := by decide +kernel
theorem dX13_reckon_115 : decode cX13_reckon 115 = .ok (.goto 5, 3) := by decide +kernel
theorem dX13_reckon_118 : decode cX13_reckon 118 = .ok (.lload 4, 2) := by decide +kernel
theorem dX13_reckon_120 : decode cX13_reckon 120 = .ok (.invokestatic 990, 3) := by decide +kernel
theorem dX13_reckon_123 : decode cX13_reckon 123 = .ok (.ldiv, 1) := by decide +kernel
theorem dX13_reckon_124 : decode cX13_reckon 124 = .ok (.lconst 1, 1) := by decide +kernel
theorem dX13_reckon_125 : decode cX13_reckon 125 = .ok (.ladd, 1) := by decide +kernel
theorem dX13_reckon_126 : decode cX13_reckon 126 = .ok (.lcmp, 1) := by decide +kernel
theorem dX13_reckon_127 : decode cX13_reckon 127 = .ok (.ifCond .le 7, 3) := by decide +kernel
theorem dX13_reckon_130 : decode cX13_reckon 130 = .ok (.iconst 1, 1) := by decide +kernel
theorem dX13_reckon_131 : decode cX13_reckon 131 = .ok (.goto 4, 3) := by decide +kernel
theorem dX13_reckon_134 : decode cX13_reckon 134 = .ok (.iconst 0, 1) := by decide +kernel
theorem dX13_reckon_135 : decode cX13_reckon 135 = .ok (.istore 6, 2) := by decide +kernel
theorem dX13_reckon_137 : decode cX13_reckon 137 = .ok (.aload_n 0, 1) := by decide +kernel
theorem dX13_reckon_138 : decode cX13_reckon 138 = .ok (.iload 6, 2) := by decide +kernel
theorem dX13_reckon_140 : decode cX13_reckon 140 = .ok (.ifCond .eq 9, 3) := by decide +kernel
theorem dX13_reckon_143 : decode cX13_reckon 143 = .ok (.ldc2_w 992, 3) := by decide +kernel
theorem dX13_reckon_146 : decode cX13_reckon 146 = .ok (.goto 7, 3) := by decide +kernel
theorem dX13_reckon_149 : decode cX13_reckon 149 = .ok (.lload_n 2, 1) := by decide +kernel
theorem dX13_reckon_150 : decode cX13_reckon 150 = .ok (.lload 4, 2) := by decide +kernel
theorem dX13_reckon_152 : decode cX13_reckon 152 = .ok (.lmul, 1) := by decide +kernel
theorem dX13_reckon_153 : decode cX13_reckon 153 = .ok (.invokevirtual 906, 3) := by decide +kernel
theorem dX13_reckon_156 : decode cX13_reckon 156 = .ok (.return_, 1) := by decide +kernel
theorem dX13_reckon_157 : decode cX13_reckon 157 = .ok (.lload 4, 2) := by decide +kernel
theorem dX13_reckon_159 : decode cX13_reckon 159 = .ok (.lconst 0, 1) := by decide +kernel
theorem dX13_reckon_160 : decode cX13_reckon 160 = .ok (.lcmp, 1) := by decide +kernel
theorem dX13_reckon_161 : decode cX13_reckon 161 = .ok (.ifCond .ne 11, 3) := by decide +kernel
theorem dX13_reckon_164 : decode cX13_reckon 164 = .ok (.aload_n 0, 1) := by decide +kernel
theorem dX13_reckon_165 : decode cX13_reckon 165 = .ok (.iconst 3, 1) := by decide +kernel
theorem dX13_reckon_166 : decode cX13_reckon 166 = .ok (.invokevirtual 866, 3) := by decide +kernel
theorem dX13_reckon_169 : decode cX13_reckon 169 = .ok (.goto 24, 3) := by decide +kernel
theorem dX13_reckon_172 : decode cX13_reckon 172 = .ok (.aload_n 0, 1) := by decide +kernel
theorem dX13_reckon_173 : decode cX13_reckon 173 = .ok (.iload_n 1, 1) := by decide +kernel
theorem dX13_reckon_174 : decode cX13_reckon 174 = .ok (.bipush 47, 2) := by decide +kernel
theorem dX13_reckon_176 : decode cX13_reckon 176 = .ok (.if_icmp .ne 10, 3) := by decide +kernel
theorem dX13_reckon_179 : decode cX13_reckon 179 = .ok (.lload_n 2, 1) := by decide +kernel
theorem dX13_reckon_180 : decode cX13_reckon 180 = .ok (.lload 4, 2) := by decide +kernel
theorem dX13_reckon_182 : decode cX13_reckon 182 = .ok (.ldiv, 1) := by decide +kernel
theorem dX13_reckon_183 : decode cX13_reckon 183 = .ok (.goto 7, 3) := by decide +kernel
theorem dX13_reckon_186 : decode cX13_reckon 186 = .ok (.lload_n 2, 1) := by decide +kernel
theorem dX13_reckon_187 : decode cX13_reckon 187 = .ok (.lload 4, 2) := by decide +kernel
theorem dX13_reckon_189 : decode cX13_reckon 189 = .ok (.lrem, 1) := by decide +kernel
theorem dX13_reckon_190 : decode cX13_reckon 190 = .ok (.invokevirtual 906, 3) := by decide +kernel
theorem dX13_reckon_193 : decode cX13_reckon 193 = .ok (.return_, 1) := by decide +kernel
theorem dX13_reckon_194 : decode cX13_reckon 194 = .ok (.aload_n 0, 1) := by decide +kernel
theorem dX13_reckon_195 : decode cX13_reckon 195 = .ok (.lload_n 2, 1) := by decide +kernel
theorem dX13_reckon_196 : decode cX13_reckon 196 = .ok (.lload 4, 2) := by decide +kernel
theorem dX13_reckon_198 : decode cX13_reckon 198 = .ok (.lcmp, 1) := by decide +kernel
theorem dX13_reckon_199 : decode cX13_reckon 199 = .ok (.ifCond .ge 7, 3) := by decide +kernel
theorem dX13_reckon_202 : decode cX13_reckon 202 = .ok (.iconst 1, 1) := by decide +kernel
theorem dX13_reckon_203 : decode cX13_reckon 203 = .ok (.goto 4, 3) := by decide +kernel
theorem dX13_reckon_206 : decode cX13_reckon 206 = .ok (.iconst 0, 1) := by decide +kernel
theorem dX13_reckon_207 : decode cX13_reckon 207 = .ok (.invokevirtual 910, 3) := by decide +kernel
theorem dX13_reckon_210 : decode cX13_reckon 210 = .ok (.return_, 1) := by decide +kernel
theorem dX13_reckon_211 : decode cX13_reckon 211 = .ok (.aload_n 0, 1) := by decide +kernel
theorem dX13_reckon_212 : decode cX13_reckon 212 = .ok (.lload_n 2, 1) := by decide +kernel
theorem dX13_reckon_213 : decode cX13_reckon 213 = .ok (.lload 4, 2) := by decide +kernel
theorem dX13_reckon_215 : decode cX13_reckon 215 = .ok (.lcmp, 1) := by decide +kernel
theorem dX13_reckon_216 : decode cX13_reckon 216 = .ok (.ifCond .le 7, 3) := by decide +kernel
theorem dX13_reckon_219 : decode cX13_reckon 219 = .ok (.iconst 1, 1) := by decide +kernel
theorem dX13_reckon_220 : decode cX13_reckon 220 = .ok (.goto 4, 3) := by decide +kernel
theorem dX13_reckon_223 : decode cX13_reckon 223 = .ok (.iconst 0, 1) := by decide +kernel
theorem dX13_reckon_224 : decode cX13_reckon 224 = .ok (.invokevirtual 910, 3) := by decide +kernel
theorem dX13_reckon_227 : decode cX13_reckon 227 = .ok (.return_, 1) := by decide +kernel
theorem dX13_reckon_228 : decode cX13_reckon 228 = .ok (.aload_n 0, 1) := by decide +kernel
theorem dX13_reckon_229 : decode cX13_reckon 229 = .ok (.lload_n 2, 1) := by decide +kernel
theorem dX13_reckon_230 : decode cX13_reckon 230 = .ok (.lload 4, 2) := by decide +kernel
theorem dX13_reckon_232 : decode cX13_reckon 232 = .ok (.lcmp, 1) := by decide +kernel
theorem dX13_reckon_233 : decode cX13_reckon 233 = .ok (.ifCond .gt 7, 3) := by decide +kernel
theorem dX13_reckon_236 : decode cX13_reckon 236 = .ok (.iconst 1, 1) := by decide +kernel
theorem dX13_reckon_237 : decode cX13_reckon 237 = .ok (.goto 4, 3) := by decide +kernel
theorem dX13_reckon_240 : decode cX13_reckon 240 = .ok (.iconst 0, 1) := by decide +kernel
theorem dX13_reckon_241 : decode cX13_reckon 241 = .ok (.invokevirtual 910, 3) := by decide +kernel
theorem dX13_reckon_244 : decode cX13_reckon 244 = .ok (.return_, 1) := by decide +kernel
theorem dX13_reckon_245 : decode cX13_reckon 245 = .ok (.aload_n 0, 1) := by decide +kernel
theorem dX13_reckon_246 : decode cX13_reckon 246 = .ok (.lload_n 2, 1) := by decide +kernel
theorem dX13_reckon_247 : decode cX13_reckon 247 = .ok (.lload 4, 2) := by decide +kernel
theorem dX13_reckon_249 : decode cX13_reckon 249 = .ok (.lcmp, 1) := by decide +kernel
theorem dX13_reckon_250 : decode cX13_reckon 250 = .ok (.ifCond .lt 7, 3) := by decide +kernel
theorem dX13_reckon_253 : decode cX13_reckon 253 = .ok (.iconst 1, 1) := by decide +kernel
theorem dX13_reckon_254 : decode cX13_reckon 254 = .ok (.goto 4, 3) := by decide +kernel
theorem dX13_reckon_257 : decode cX13_reckon 257 = .ok (.iconst 0, 1) := by decide +kernel
theorem dX13_reckon_258 : decode cX13_reckon 258 = .ok (.invokevirtual 910, 3) := by decide +kernel
theorem dX13_reckon_261 : decode cX13_reckon 261 = .ok (.return_, 1) := by decide +kernel
theorem dX13_reckon_76 : decode cX13_reckon 76 = .ok (.aload_n 0, 1) := by decide +kernel
theorem dX13_reckon_77 : decode cX13_reckon 77 = .ok (.lload_n 2, 1) := by decide +kernel
theorem dX13_reckon_78 : decode cX13_reckon 78 = .ok (.lload 4, 2) := by decide +kernel
theorem dX13_reckon_80 : decode cX13_reckon 80 = .ok (.ladd, 1) := by decide +kernel
theorem dX13_reckon_81 : decode cX13_reckon 81 = .ok (.invokevirtual 906, 3) := by decide +kernel
theorem dX13_reckon_84 : decode cX13_reckon 84 = .ok (.return_, 1) := by decide +kernel
theorem dX13_reckon_85 : decode cX13_reckon 85 = .ok (.aload_n 0, 1) := by decide +kernel
theorem dX13_reckon_86 : decode cX13_reckon 86 = .ok (.lload_n 2, 1) := by decide +kernel
theorem dX13_reckon_87 : decode cX13_reckon 87 = .ok (.lload 4, 2) := by decide +kernel
theorem dX13_reckon_89 : decode cX13_reckon 89 = .ok (.lsub, 1) := by decide +kernel
theorem dX13_reckon_90 : decode cX13_reckon 90 = .ok (.invokevirtual 906, 3) := by decide +kernel
theorem dX13_reckon_93 : decode cX13_reckon 93 = .ok (.return_, 1) := by decide +kernel
theorem dX13_reckon_94 : decode cX13_reckon 94 = .ok (.lload_n 2, 1) := by decide +kernel
theorem dX13_reckon_95 : decode cX13_reckon 95 = .ok (.lconst 0, 1) := by decide +kernel
theorem dX13_reckon_96 : decode cX13_reckon 96 = .ok (.lcmp, 1) := by decide +kernel
theorem dX13_reckon_97 : decode cX13_reckon 97 = .ok (.ifCond .eq 37, 3) := by decide +kernel
noncomputable def k_X13_reckon_224 (k0 : Int32) (s : t_S) : Option (t_S) :=
 (f_X13_pushTruth k0 s).bind (fun r1 =>
 some (r1))
set_option maxRecDepth 4000 in
set_option maxHeartbeats 1000000 in
theorem B_X13_reckon_224 {D : va_G} {cy : Nat → ClassId} {ad : Nat → Nat} {bs : Nat} {X : State → Heap → Prop} (k0 : Int32) (s : t_S) (Q : t_S → Prop) (hk : t_hk (k_X13_reckon_224 k0 s) Q) : mj_G D cy ad bs X cX13_reckon 7 yX13_reckon.cls none yX13_reckon.name 2 0 0 1065 (t_P (fun v s' => v = none ∧ Q (s'))) 224 [] [.int k0, .ref 950] (t_m s) 1065 0 0 := by
  refine t_bndK hk (fun r1 er1 hk => ?_)
  refine t_callVvE dX13_reckon_224 M_X13_pushTruth (C_X13_pushTruth _ _ _ er1) ML_X13_910 IM_X13_pushTruth SE_X13_pushTruth qc_950 rfl (As := [.int k0]) rfl rfl (Nat.le_of_ble_eq_true rfl) (Nat.le_of_ble_eq_true rfl) (Nat.le_of_ble_eq_true rfl) (Nat.le_of_ble_eq_true rfl) ?_
  exact t_somK hk (fun hf => t_vret dX13_reckon_227 rfl ⟨rfl, hf⟩ (Nat.le_of_ble_eq_true rfl) (Nat.le_of_ble_eq_true rfl))
noncomputable def k_X13_reckon_258 (k0 : Int32) (s : t_S) : Option (t_S) :=
 (f_X13_pushTruth k0 s).bind (fun r1 =>
 some (r1))
set_option maxRecDepth 4000 in
set_option maxHeartbeats 1000000 in
theorem B_X13_reckon_258 {D : va_G} {cy : Nat → ClassId} {ad : Nat → Nat} {bs : Nat} {X : State → Heap → Prop} (k0 : Int32) (s : t_S) (Q : t_S → Prop) (hk : t_hk (k_X13_reckon_258 k0 s) Q) : mj_G D cy ad bs X cX13_reckon 7 yX13_reckon.cls none yX13_reckon.name 2 0 0 1065 (t_P (fun v s' => v = none ∧ Q (s'))) 258 [] [.int k0, .ref 950] (t_m s) 1065 0 0 := by
  refine t_bndK hk (fun r1 er1 hk => ?_)
  refine t_callVvE dX13_reckon_258 M_X13_pushTruth (C_X13_pushTruth _ _ _ er1) ML_X13_910 IM_X13_pushTruth SE_X13_pushTruth qc_950 rfl (As := [.int k0]) rfl rfl (Nat.le_of_ble_eq_true rfl) (Nat.le_of_ble_eq_true rfl) (Nat.le_of_ble_eq_true rfl) (Nat.le_of_ble_eq_true rfl) ?_
  exact t_somK hk (fun hf => t_vret dX13_reckon_261 rfl ⟨rfl, hf⟩ (Nat.le_of_ble_eq_true rfl) (Nat.le_of_ble_eq_true rfl))
noncomputable def k_X13_reckon_153 (k0 : Int64) (s : t_S) : Option (t_S) :=
 (f_X13_pushNumber k0 s).bind (fun r1 =>
 some (r1))
set_option maxRecDepth 4000 in
set_option maxHeartbeats 1000000 in
theorem B_X13_reckon_153 {D : va_G} {cy : Nat → ClassId} {ad : Nat → Nat} {bs : Nat} {X : State → Heap → Prop} (k0 : Int64) (s : t_S) (Q : t_S → Prop) (hk : t_hk (k_X13_reckon_153 k0 s) Q) : mj_G D cy ad bs X cX13_reckon 7 yX13_reckon.cls none yX13_reckon.name 2 0 0 1065 (t_P (fun v s' => v = none ∧ Q (s'))) 153 [] [.long k0, .ref 950] (t_m s) 1065 0 0 := by
  refine t_bndK hk (fun r1 er1 hk => ?_)
  refine t_callVvE dX13_reckon_153 M_X13_pushNumber (C_X13_pushNumber _ _ _ er1) ML_X13_906 IM_X13_pushNumber SE_X13_pushNumber qc_950 rfl (As := [.long k0]) rfl rfl (Nat.le_of_ble_eq_true rfl) (Nat.le_of_ble_eq_true rfl) (Nat.le_of_ble_eq_true rfl) (Nat.le_of_ble_eq_true rfl) ?_
  exact t_somK hk (fun hf => t_vret dX13_reckon_156 rfl ⟨rfl, hf⟩ (Nat.le_of_ble_eq_true rfl) (Nat.le_of_ble_eq_true rfl))
noncomputable def k_X13_reckon_135 (l2 : Int64) (l4 : Int64) (k0 : Int32) (s : t_S) : Option (t_S) :=
 if k0 = (0 : Int32) then (k_X13_reckon_153 (l2 * l4) s)
 else (k_X13_reckon_153 1000000000000001 s)
set_option maxRecDepth 4000 in
set_option maxHeartbeats 1000000 in
theorem B_X13_reckon_135 {D : va_G} {cy : Nat → ClassId} {ad : Nat → Nat} {bs : Nat} {X : State → Heap → Prop} (l2 : Int64) (l4 : Int64) (k0 : Int32) (s : t_S) (Q : t_S → Prop) (hk : t_hk (k_X13_reckon_135 l2 l4 k0 s) Q) : mj_G D cy ad bs X cX13_reckon 7 yX13_reckon.cls none yX13_reckon.name 2 0 0 1065 (t_P (fun v s' => v = none ∧ Q (s'))) 135 [(0, .ref 950), (2, .long l2), (4, .long l4)] [.int k0] (t_m s) 1065 0 0 := by
  refine mj_istore (lv2 := [(6, .int k0), (0, .ref 950), (2, .long l2), (4, .long l4)]) dX13_reckon_135 (by decide) rfl ?_
  refine mj_aload_n dX13_reckon_137 1 rfl ?_
  refine mj_iload dX13_reckon_138 0 rfl ?_
  refine mj_if_eq 149 dX13_reckon_140 (by decide) (fun z => t_posK hk z (fun hk => ?_)) (fun z => t_negK hk z (fun hk => ?_))
  · refine mj_lload_n dX13_reckon_149 2 rfl ?_
    refine mj_lload dX13_reckon_150 3 rfl ?_
    refine mj_lmul dX13_reckon_152 ?_
    refine mj_sublv [] [] rfl ?_
    exact B_X13_reckon_153 _ _ _ hk
  · refine mj_ldc2 dX13_reckon_143 K_X13_992 ?_
    refine mj_goto 153 dX13_reckon_146 (by decide) ?_
    refine mj_sublv [] [] rfl ?_
    exact B_X13_reckon_153 _ _ _ hk
noncomputable def k_X13_reckon_134 (l2 : Int64) (l4 : Int64) (s : t_S) : Option (t_S) :=
 k_X13_reckon_135 l2 l4 0 s
set_option maxRecDepth 4000 in
set_option maxHeartbeats 1000000 in
theorem B_X13_reckon_134 {D : va_G} {cy : Nat → ClassId} {ad : Nat → Nat} {bs : Nat} {X : State → Heap → Prop} (l2 : Int64) (l4 : Int64) (s : t_S) (Q : t_S → Prop) (hk : t_hk (k_X13_reckon_134 l2 l4 s) Q) : mj_G D cy ad bs X cX13_reckon 7 yX13_reckon.cls none yX13_reckon.name 2 0 0 1065 (t_P (fun v s' => v = none ∧ Q (s'))) 134 [(0, .ref 950), (2, .long l2), (4, .long l4)] [] (t_m s) 1065 0 0 := by
  refine mj_iconst (v := 0) dX13_reckon_134 (by decide) ?_
  exact B_X13_reckon_135 _ _ _ _ _ hk
noncomputable def k_X13_reckon_207 (k0 : Int32) (s : t_S) : Option (t_S) :=
 (f_X13_pushTruth k0 s).bind (fun r1 =>
 some (r1))
set_option maxRecDepth 4000 in
set_option maxHeartbeats 1000000 in
theorem B_X13_reckon_207 {D : va_G} {cy : Nat → ClassId} {ad : Nat → Nat} {bs : Nat} {X : State → Heap → Prop} (k0 : Int32) (s : t_S) (Q : t_S → Prop) (hk : t_hk (k_X13_reckon_207 k0 s) Q) : mj_G D cy ad bs X cX13_reckon 7 yX13_reckon.cls none yX13_reckon.name 2 0 0 1065 (t_P (fun v s' => v = none ∧ Q (s'))) 207 [] [.int k0, .ref 950] (t_m s) 1065 0 0 := by
  refine t_bndK hk (fun r1 er1 hk => ?_)
  refine t_callVvE dX13_reckon_207 M_X13_pushTruth (C_X13_pushTruth _ _ _ er1) ML_X13_910 IM_X13_pushTruth SE_X13_pushTruth qc_950 rfl (As := [.int k0]) rfl rfl (Nat.le_of_ble_eq_true rfl) (Nat.le_of_ble_eq_true rfl) (Nat.le_of_ble_eq_true rfl) (Nat.le_of_ble_eq_true rfl) ?_
  exact t_somK hk (fun hf => t_vret dX13_reckon_210 rfl ⟨rfl, hf⟩ (Nat.le_of_ble_eq_true rfl) (Nat.le_of_ble_eq_true rfl))
noncomputable def k_X13_reckon_241 (k0 : Int32) (s : t_S) : Option (t_S) :=
 (f_X13_pushTruth k0 s).bind (fun r1 =>
 some (r1))
set_option maxRecDepth 4000 in
set_option maxHeartbeats 1000000 in
theorem B_X13_reckon_241 {D : va_G} {cy : Nat → ClassId} {ad : Nat → Nat} {bs : Nat} {X : State → Heap → Prop} (k0 : Int32) (s : t_S) (Q : t_S → Prop) (hk : t_hk (k_X13_reckon_241 k0 s) Q) : mj_G D cy ad bs X cX13_reckon 7 yX13_reckon.cls none yX13_reckon.name 2 0 0 1065 (t_P (fun v s' => v = none ∧ Q (s'))) 241 [] [.int k0, .ref 950] (t_m s) 1065 0 0 := by
  refine t_bndK hk (fun r1 er1 hk => ?_)
  refine t_callVvE dX13_reckon_241 M_X13_pushTruth (C_X13_pushTruth _ _ _ er1) ML_X13_910 IM_X13_pushTruth SE_X13_pushTruth qc_950 rfl (As := [.int k0]) rfl rfl (Nat.le_of_ble_eq_true rfl) (Nat.le_of_ble_eq_true rfl) (Nat.le_of_ble_eq_true rfl) (Nat.le_of_ble_eq_true rfl) ?_
  exact t_somK hk (fun hf => t_vret dX13_reckon_244 rfl ⟨rfl, hf⟩ (Nat.le_of_ble_eq_true rfl) (Nat.le_of_ble_eq_true rfl))
noncomputable def k_X13_reckon_120 (l2 : Int64) (l4 : Int64) (k0 : Int64) (k1 : Int64) (k2 : Int64) (s : t_S) : Option (t_S) :=
 if ¬ (f_X13_size k0 s) = 0 then
  if (lg_cmp k2 ((k1 / (f_X13_size k0 s)) + (1 : Int64))) ≤ (0 : Int32) then (k_X13_reckon_134 l2 l4 s)
 else (k_X13_reckon_135 l2 l4 1 s)
else none
set_option maxRecDepth 4000 in
set_option maxHeartbeats 1000000 in
theorem B_X13_reckon_120 {D : va_G} {cy : Nat → ClassId} {ad : Nat → Nat} {bs : Nat} {X : State → Heap → Prop} (l2 : Int64) (l4 : Int64) (k0 : Int64) (k1 : Int64) (k2 : Int64) (s : t_S) (Q : t_S → Prop) (hk : t_hk (k_X13_reckon_120 l2 l4 k0 k1 k2 s) Q) : mj_G D cy ad bs X cX13_reckon 7 yX13_reckon.cls none yX13_reckon.name 2 0 0 1065 (t_P (fun v s' => v = none ∧ Q (s'))) 120 [(0, .ref 950), (2, .long l2), (4, .long l4)] [.long k0, .long k1, .long k2] (t_m s) 1065 0 0 := by
  refine t_callSlP dX13_reckon_120 M_X13_size (C_X13_size _ _) ML_X13_990 SM_X13_size (As := [.long k0]) rfl rfl (Nat.le_of_ble_eq_true rfl) (Nat.le_of_ble_eq_true rfl) (Nat.le_of_ble_eq_true rfl) (Nat.le_of_ble_eq_true rfl) ?_
  refine t_chkK hk (fun c1 hk => ?_)
  refine mj_ldiv dX13_reckon_123 c1 ?_
  refine mj_lconst (v := 1) dX13_reckon_124 (by decide) ?_
  refine mj_ladd dX13_reckon_125 ?_
  refine mj_lcmp dX13_reckon_126 ?_
  refine mj_if_le 134 dX13_reckon_127 (by decide) (fun z => t_posK hk z (fun hk => ?_)) (fun z => t_negK hk z (fun hk => ?_))
  · exact B_X13_reckon_134 _ _ _ _ hk
  · refine mj_iconst (v := 1) dX13_reckon_130 (by decide) ?_
    refine mj_goto 135 dX13_reckon_131 (by decide) ?_
    exact B_X13_reckon_135 _ _ _ _ _ hk
noncomputable def k_X13_reckon_190 (k0 : Int64) (s : t_S) : Option (t_S) :=
 (f_X13_pushNumber k0 s).bind (fun r1 =>
 some (r1))
set_option maxRecDepth 4000 in
set_option maxHeartbeats 1000000 in
theorem B_X13_reckon_190 {D : va_G} {cy : Nat → ClassId} {ad : Nat → Nat} {bs : Nat} {X : State → Heap → Prop} (k0 : Int64) (s : t_S) (Q : t_S → Prop) (hk : t_hk (k_X13_reckon_190 k0 s) Q) : mj_G D cy ad bs X cX13_reckon 7 yX13_reckon.cls none yX13_reckon.name 2 0 0 1065 (t_P (fun v s' => v = none ∧ Q (s'))) 190 [] [.long k0, .ref 950] (t_m s) 1065 0 0 := by
  refine t_bndK hk (fun r1 er1 hk => ?_)
  refine t_callVvE dX13_reckon_190 M_X13_pushNumber (C_X13_pushNumber _ _ _ er1) ML_X13_906 IM_X13_pushNumber SE_X13_pushNumber qc_950 rfl (As := [.long k0]) rfl rfl (Nat.le_of_ble_eq_true rfl) (Nat.le_of_ble_eq_true rfl) (Nat.le_of_ble_eq_true rfl) (Nat.le_of_ble_eq_true rfl) ?_
  exact t_somK hk (fun hf => t_vret dX13_reckon_193 rfl ⟨rfl, hf⟩ (Nat.le_of_ble_eq_true rfl) (Nat.le_of_ble_eq_true rfl))
noncomputable def f_X13_reckon (x1 : Int32) (x2 : Int64) (x3 : Int64) (s : t_S) : Option (t_S) :=
 if x1.toInt = 37 then (if (lg_cmp x3 (0 : Int64)) = (0 : Int32) then ((f_X13_error (3 : Int32) s).bind (fun r3 =>
 some (r3)))
 else (if x1 = (47 : Int32) then (if ¬ x3 = 0 then
  k_X13_reckon_190 (x2 / x3) s
else none)
 else (if ¬ x3 = 0 then
  k_X13_reckon_190 (x2 - x2 / x3 * x3) s
else none)))
 else if x1.toInt = 42 then (if (lg_cmp x2 (0 : Int64)) = (0 : Int32) then (k_X13_reckon_134 x2 x3 s)
 else (if (lg_cmp x3 (0 : Int64)) = (0 : Int32) then (k_X13_reckon_120 x2 x3 1 1000000000000000 (f_X13_size x2 s) s)
 else (k_X13_reckon_120 x2 x3 x3 1000000000000000 (f_X13_size x2 s) s)))
 else if x1.toInt = 43 then ((f_X13_pushNumber (x2 + x3) s).bind (fun r5 =>
 some (r5)))
 else if x1.toInt = 45 then ((f_X13_pushNumber (x2 - x3) s).bind (fun r6 =>
 some (r6)))
 else if x1.toInt = 47 then (if (lg_cmp x3 (0 : Int64)) = (0 : Int32) then ((f_X13_error (3 : Int32) s).bind (fun r9 =>
 some (r9)))
 else (if x1 = (47 : Int32) then (if ¬ x3 = 0 then
  k_X13_reckon_190 (x2 / x3) s
else none)
 else (if ¬ x3 = 0 then
  k_X13_reckon_190 (x2 - x2 / x3 * x3) s
else none)))
 else if x1.toInt = 60 then (if (0 : Int32) ≤ (lg_cmp x2 x3) then (k_X13_reckon_207 0 s)
 else (k_X13_reckon_207 1 s))
 else if x1.toInt = 62 then (if (lg_cmp x2 x3) ≤ (0 : Int32) then (k_X13_reckon_224 0 s)
 else (k_X13_reckon_224 1 s))
 else if x1.toInt = 15421 then (if (0 : Int32) < (lg_cmp x2 x3) then (k_X13_reckon_241 0 s)
 else (k_X13_reckon_241 1 s))
 else (if (lg_cmp x2 x3) < (0 : Int32) then (k_X13_reckon_258 0 s)
 else (k_X13_reckon_258 1 s))
set_option maxRecDepth 4000 in
set_option maxHeartbeats 1000000 in
theorem C_X13_reckon (x1 : Int32) (x2 : Int64) (x3 : Int64) (s : t_S) (r : t_S) (hr : f_X13_reckon x1 x2 x3 s = some r) : t_C yX13_reckon cX13_reckon 7 none 2 [.ref 950, .int x1, .long x2, .long x3] s (fun v s' => v = none ∧ s' = r) := by
  refine t_C.imp (P := fun v s' => v = none ∧ (fun q => q = r) (s')) (t_C.of (by decide +kernel) (Nat.le_of_ble_eq_true rfl) ?_) (fun v s' hp => hp)
  intro D cy ad bs X
  have hk : t_hk (f_X13_reckon x1 x2 x3 s) (fun q => q = r) := ⟨r, hr, rfl⟩
  show mj_G D cy ad bs X cX13_reckon 7 yX13_reckon.cls none yX13_reckon.name 2 0 0 1065 (t_P (fun v s' => v = none ∧ (fun q => q = r) (s'))) 0 [(0, .ref 950), (1, .int x1), (2, .long x2), (4, .long x3)] [] (t_m s) 1065 0 0
  refine mj_iload_n dX13_reckon_0 1 rfl ?_
  by_cases h0 : x1.toInt = 37
  · replace hk := t_pos hk h0
    refine mj_lookup 157 dX13_reckon_1 (by decide) (by rw [h0] <;> rfl) (by decide) ?_
    refine mj_lload dX13_reckon_157 3 rfl ?_
    refine mj_lconst (v := 0) dX13_reckon_159 (by decide) ?_
    refine mj_lcmp dX13_reckon_160 ?_
    refine mj_if_ne 172 dX13_reckon_161 (by decide) (fun z => t_negK hk z (fun hk => ?_)) (fun z => t_posK hk z (fun hk => ?_))
    · refine mj_aload_n dX13_reckon_172 0 rfl ?_
      refine mj_iload_n dX13_reckon_173 1 rfl ?_
      refine mj_bipush (v := 47) dX13_reckon_174 (by decide) ?_
      refine mj_icmp_ne 186 dX13_reckon_176 (by decide) (fun z => t_negK hk z (fun hk => ?_)) (fun z => t_posK hk z (fun hk => ?_))
      · refine mj_lload_n dX13_reckon_186 2 rfl ?_
        refine mj_lload dX13_reckon_187 3 rfl ?_
        refine t_chkK hk (fun c0 hk => ?_)
        refine mj_lrem dX13_reckon_189 c0 ?_
        refine mj_sublv [] [] rfl ?_
        exact B_X13_reckon_190 _ _ _ hk
      · refine mj_lload_n dX13_reckon_179 2 rfl ?_
        refine mj_lload dX13_reckon_180 3 rfl ?_
        refine t_chkK hk (fun c1 hk => ?_)
        refine mj_ldiv dX13_reckon_182 c1 ?_
        refine mj_goto 190 dX13_reckon_183 (by decide) ?_
        refine mj_sublv [] [] rfl ?_
        exact B_X13_reckon_190 _ _ _ hk
    · refine mj_aload_n dX13_reckon_164 0 rfl ?_
      refine mj_iconst (v := 3) dX13_reckon_165 (by decide) ?_
      refine t_bndK hk (fun r3 er3 hk => ?_)
      refine t_callVvE dX13_reckon_166 M_X13_error (C_X13_error _ _ _ er3) ML_X13_866 IM_X13_error SE_X13_error qc_950 rfl (As := [.int 3]) rfl rfl (Nat.le_of_ble_eq_true rfl) (Nat.le_of_ble_eq_true rfl) (Nat.le_of_ble_eq_true rfl) (Nat.le_of_ble_eq_true rfl) ?_
      refine mj_goto 193 dX13_reckon_169 (by decide) ?_
      exact t_somK hk (fun hf => t_vret dX13_reckon_193 rfl ⟨rfl, hf⟩ (Nat.le_of_ble_eq_true rfl) (Nat.le_of_ble_eq_true rfl))
  replace hk := t_neg hk h0
  by_cases h1 : x1.toInt = 42
  · replace hk := t_pos hk h1
    refine mj_lookup 94 dX13_reckon_1 (by decide) (by rw [h1] <;> rfl) (by decide) ?_
    refine mj_lload_n dX13_reckon_94 2 rfl ?_
    refine mj_lconst (v := 0) dX13_reckon_95 (by decide) ?_
    refine mj_lcmp dX13_reckon_96 ?_
    refine mj_if_eq 134 dX13_reckon_97 (by decide) (fun z => t_posK hk z (fun hk => ?_)) (fun z => t_negK hk z (fun hk => ?_))
    · refine mj_sublv [(0, .ref 950), (2, .long x2), (4, .long x3)] [0, 2, 3] rfl ?_
      exact B_X13_reckon_134 _ _ _ _ hk
    · refine mj_lload_n dX13_reckon_100 2 rfl ?_
      refine t_callSlP dX13_reckon_101 M_X13_size (C_X13_size _ _) ML_X13_990 SM_X13_size (As := [.long x2]) rfl rfl (Nat.le_of_ble_eq_true rfl) (Nat.le_of_ble_eq_true rfl) (Nat.le_of_ble_eq_true rfl) (Nat.le_of_ble_eq_true rfl) ?_
      refine mj_ldc2 dX13_reckon_104 K_X13_864 ?_
      refine mj_lload dX13_reckon_107 3 rfl ?_
      refine mj_lconst (v := 0) dX13_reckon_109 (by decide) ?_
      refine mj_lcmp dX13_reckon_110 ?_
      refine mj_if_ne 118 dX13_reckon_111 (by decide) (fun z => t_negK hk z (fun hk => ?_)) (fun z => t_posK hk z (fun hk => ?_))
      · refine mj_lload dX13_reckon_118 3 rfl ?_
        refine mj_sublv [(0, .ref 950), (2, .long x2), (4, .long x3)] [0, 2, 3] rfl ?_
        exact B_X13_reckon_120 _ _ _ _ _ _ _ hk
      · refine mj_lconst (v := 1) dX13_reckon_114 (by decide) ?_
        refine mj_goto 120 dX13_reckon_115 (by decide) ?_
        refine mj_sublv [(0, .ref 950), (2, .long x2), (4, .long x3)] [0, 2, 3] rfl ?_
        exact B_X13_reckon_120 _ _ _ _ _ _ _ hk
  replace hk := t_neg hk h1
  by_cases h2 : x1.toInt = 43
  · replace hk := t_pos hk h2
    refine mj_lookup 76 dX13_reckon_1 (by decide) (by rw [h2] <;> rfl) (by decide) ?_
    refine mj_aload_n dX13_reckon_76 0 rfl ?_
    refine mj_lload_n dX13_reckon_77 2 rfl ?_
    refine mj_lload dX13_reckon_78 3 rfl ?_
    refine mj_ladd dX13_reckon_80 ?_
    refine t_bndK hk (fun r5 er5 hk => ?_)
    refine t_callVvE dX13_reckon_81 M_X13_pushNumber (C_X13_pushNumber _ _ _ er5) ML_X13_906 IM_X13_pushNumber SE_X13_pushNumber qc_950 rfl (As := [.long (x2 + x3)]) rfl rfl (Nat.le_of_ble_eq_true rfl) (Nat.le_of_ble_eq_true rfl) (Nat.le_of_ble_eq_true rfl) (Nat.le_of_ble_eq_true rfl) ?_
    exact t_somK hk (fun hf => t_vret dX13_reckon_84 rfl ⟨rfl, hf⟩ (Nat.le_of_ble_eq_true rfl) (Nat.le_of_ble_eq_true rfl))
  replace hk := t_neg hk h2
  by_cases h3 : x1.toInt = 45
  · replace hk := t_pos hk h3
    refine mj_lookup 85 dX13_reckon_1 (by decide) (by rw [h3] <;> rfl) (by decide) ?_
    refine mj_aload_n dX13_reckon_85 0 rfl ?_
    refine mj_lload_n dX13_reckon_86 2 rfl ?_
    refine mj_lload dX13_reckon_87 3 rfl ?_
    refine mj_lsub dX13_reckon_89 ?_
    refine t_bndK hk (fun r6 er6 hk => ?_)
    refine t_callVvE dX13_reckon_90 M_X13_pushNumber (C_X13_pushNumber _ _ _ er6) ML_X13_906 IM_X13_pushNumber SE_X13_pushNumber qc_950 rfl (As := [.long (x2 - x3)]) rfl rfl (Nat.le_of_ble_eq_true rfl) (Nat.le_of_ble_eq_true rfl) (Nat.le_of_ble_eq_true rfl) (Nat.le_of_ble_eq_true rfl) ?_
    exact t_somK hk (fun hf => t_vret dX13_reckon_93 rfl ⟨rfl, hf⟩ (Nat.le_of_ble_eq_true rfl) (Nat.le_of_ble_eq_true rfl))
  replace hk := t_neg hk h3
  by_cases h4 : x1.toInt = 47
  · replace hk := t_pos hk h4
    refine mj_lookup 157 dX13_reckon_1 (by decide) (by rw [h4] <;> rfl) (by decide) ?_
    refine mj_lload dX13_reckon_157 3 rfl ?_
    refine mj_lconst (v := 0) dX13_reckon_159 (by decide) ?_
    refine mj_lcmp dX13_reckon_160 ?_
    refine mj_if_ne 172 dX13_reckon_161 (by decide) (fun z => t_negK hk z (fun hk => ?_)) (fun z => t_posK hk z (fun hk => ?_))
    · refine mj_aload_n dX13_reckon_172 0 rfl ?_
      refine mj_iload_n dX13_reckon_173 1 rfl ?_
      refine mj_bipush (v := 47) dX13_reckon_174 (by decide) ?_
      refine mj_icmp_ne 186 dX13_reckon_176 (by decide) (fun z => t_negK hk z (fun hk => ?_)) (fun z => t_posK hk z (fun hk => ?_))
      · refine mj_lload_n dX13_reckon_186 2 rfl ?_
        refine mj_lload dX13_reckon_187 3 rfl ?_
        refine t_chkK hk (fun c6 hk => ?_)
        refine mj_lrem dX13_reckon_189 c6 ?_
        refine mj_sublv [] [] rfl ?_
        exact B_X13_reckon_190 _ _ _ hk
      · refine mj_lload_n dX13_reckon_179 2 rfl ?_
        refine mj_lload dX13_reckon_180 3 rfl ?_
        refine t_chkK hk (fun c7 hk => ?_)
        refine mj_ldiv dX13_reckon_182 c7 ?_
        refine mj_goto 190 dX13_reckon_183 (by decide) ?_
        refine mj_sublv [] [] rfl ?_
        exact B_X13_reckon_190 _ _ _ hk
    · refine mj_aload_n dX13_reckon_164 0 rfl ?_
      refine mj_iconst (v := 3) dX13_reckon_165 (by decide) ?_
      refine t_bndK hk (fun r9 er9 hk => ?_)
      refine t_callVvE dX13_reckon_166 M_X13_error (C_X13_error _ _ _ er9) ML_X13_866 IM_X13_error SE_X13_error qc_950 rfl (As := [.int 3]) rfl rfl (Nat.le_of_ble_eq_true rfl) (Nat.le_of_ble_eq_true rfl) (Nat.le_of_ble_eq_true rfl) (Nat.le_of_ble_eq_true rfl) ?_
      refine mj_goto 193 dX13_reckon_169 (by decide) ?_
      exact t_somK hk (fun hf => t_vret dX13_reckon_193 rfl ⟨rfl, hf⟩ (Nat.le_of_ble_eq_true rfl) (Nat.le_of_ble_eq_true rfl))
  replace hk := t_neg hk h4
  by_cases h5 : x1.toInt = 60
  · replace hk := t_pos hk h5
    refine mj_lookup 194 dX13_reckon_1 (by decide) (by rw [h5] <;> rfl) (by decide) ?_
    refine mj_aload_n dX13_reckon_194 0 rfl ?_
    refine mj_lload_n dX13_reckon_195 2 rfl ?_
    refine mj_lload dX13_reckon_196 3 rfl ?_
    refine mj_lcmp dX13_reckon_198 ?_
    refine mj_if_ge 206 dX13_reckon_199 (by decide) (fun z => t_posK hk z (fun hk => ?_)) (fun z => t_negK hk z (fun hk => ?_))
    · refine mj_iconst (v := 0) dX13_reckon_206 (by decide) ?_
      refine mj_sublv [] [] rfl ?_
      exact B_X13_reckon_207 _ _ _ hk
    · refine mj_iconst (v := 1) dX13_reckon_202 (by decide) ?_
      refine mj_goto 207 dX13_reckon_203 (by decide) ?_
      refine mj_sublv [] [] rfl ?_
      exact B_X13_reckon_207 _ _ _ hk
  replace hk := t_neg hk h5
  by_cases h6 : x1.toInt = 62
  · replace hk := t_pos hk h6
    refine mj_lookup 211 dX13_reckon_1 (by decide) (by rw [h6] <;> rfl) (by decide) ?_
    refine mj_aload_n dX13_reckon_211 0 rfl ?_
    refine mj_lload_n dX13_reckon_212 2 rfl ?_
    refine mj_lload dX13_reckon_213 3 rfl ?_
    refine mj_lcmp dX13_reckon_215 ?_
    refine mj_if_le 223 dX13_reckon_216 (by decide) (fun z => t_posK hk z (fun hk => ?_)) (fun z => t_negK hk z (fun hk => ?_))
    · refine mj_iconst (v := 0) dX13_reckon_223 (by decide) ?_
      refine mj_sublv [] [] rfl ?_
      exact B_X13_reckon_224 _ _ _ hk
    · refine mj_iconst (v := 1) dX13_reckon_219 (by decide) ?_
      refine mj_goto 224 dX13_reckon_220 (by decide) ?_
      refine mj_sublv [] [] rfl ?_
      exact B_X13_reckon_224 _ _ _ hk
  replace hk := t_neg hk h6
  by_cases h7 : x1.toInt = 15421
  · replace hk := t_pos hk h7
    refine mj_lookup 228 dX13_reckon_1 (by decide) (by rw [h7] <;> rfl) (by decide) ?_
    refine mj_aload_n dX13_reckon_228 0 rfl ?_
    refine mj_lload_n dX13_reckon_229 2 rfl ?_
    refine mj_lload dX13_reckon_230 3 rfl ?_
    refine mj_lcmp dX13_reckon_232 ?_
    refine mj_if_gt 240 dX13_reckon_233 (by decide) (fun z => t_posK hk z (fun hk => ?_)) (fun z => t_negK hk z (fun hk => ?_))
    · refine mj_iconst (v := 0) dX13_reckon_240 (by decide) ?_
      refine mj_sublv [] [] rfl ?_
      exact B_X13_reckon_241 _ _ _ hk
    · refine mj_iconst (v := 1) dX13_reckon_236 (by decide) ?_
      refine mj_goto 241 dX13_reckon_237 (by decide) ?_
      refine mj_sublv [] [] rfl ?_
      exact B_X13_reckon_241 _ _ _ hk
  replace hk := t_neg hk h7
  refine mj_lookup 245 dX13_reckon_1 (by decide) (t_lk0 _ (And.intro h0 (And.intro h1 (And.intro h2 (And.intro h3 (And.intro h4 (And.intro h5 (And.intro h6 (And.intro h7 trivial))))))))) (by decide) ?_
  refine mj_aload_n dX13_reckon_245 0 rfl ?_
  refine mj_lload_n dX13_reckon_246 2 rfl ?_
  refine mj_lload dX13_reckon_247 3 rfl ?_
  refine mj_lcmp dX13_reckon_249 ?_
  refine mj_if_lt 257 dX13_reckon_250 (by decide) (fun z => t_posK hk z (fun hk => ?_)) (fun z => t_negK hk z (fun hk => ?_))
  · refine mj_iconst (v := 0) dX13_reckon_257 (by decide) ?_
    refine mj_sublv [] [] rfl ?_
    exact B_X13_reckon_258 _ _ _ hk
  · refine mj_iconst (v := 1) dX13_reckon_253 (by decide) ?_
    refine mj_goto 258 dX13_reckon_254 (by decide) ?_
    refine mj_sublv [] [] rfl ?_
    exact B_X13_reckon_258 _ _ _ hk

theorem dX13_join_0 : decode cX13_join 0 = .ok (.aload_n 0, 1) := by decide +kernel
theorem dX13_join_1 : decode cX13_join 1 = .ok (.invokevirtual 948, 3) := by decide +kernel
theorem dX13_join_10 : decode cX13_join 10 = .ok (.iload_n 1, 1) := by decide +kernel
theorem dX13_join_101 : decode cX13_join 101 = .ok (.iload_n 3, 1) := by decide +kernel
theorem dX13_join_102 : decode cX13_join 102 = .ok (.laload, 1) := by decide +kernel
theorem dX13_join_103 : decode cX13_join 103 = .ok (.lconst 0, 1) := by decide +kernel
theorem dX13_join_104 : decode cX13_join 104 = .ok (.lcmp, 1) := by decide +kernel
theorem dX13_join_105 : decode cX13_join 105 = .ok (.ifCond .eq 11, 3) := by decide +kernel
theorem dX13_join_108 : decode cX13_join 108 = .ok (.aload_n 0, 1) := by decide +kernel
theorem dX13_join_109 : decode cX13_join 109 = .ok (.iconst 1, 1) := by decide +kernel
theorem dX13_join_11 : decode cX13_join 11 = .ok (.sipush 15677, 3) := by decide +kernel
theorem dX13_join_110 : decode cX13_join 110 = .ok (.invokevirtual 866, 3) := by decide +kernel
theorem dX13_join_113 : decode cX13_join 113 = .ok (.goto 34, 3) := by decide +kernel
theorem dX13_join_116 : decode cX13_join 116 = .ok (.aload_n 0, 1) := by decide +kernel
theorem dX13_join_117 : decode cX13_join 117 = .ok (.aload_n 0, 1) := by decide +kernel
theorem dX13_join_118 : decode cX13_join 118 = .ok (.getfield 858, 3) := by decide +kernel
theorem dX13_join_121 : decode cX13_join 121 = .ok (.iconst 2, 1) := by decide +kernel
theorem dX13_join_122 : decode cX13_join 122 = .ok (.isub, 1) := by decide +kernel
theorem dX13_join_123 : decode cX13_join 123 = .ok (.putfield 858, 3) := by decide +kernel
theorem dX13_join_126 : decode cX13_join 126 = .ok (.aload_n 0, 1) := by decide +kernel
theorem dX13_join_127 : decode cX13_join 127 = .ok (.iload_n 1, 1) := by decide +kernel
theorem dX13_join_128 : decode cX13_join 128 = .ok (.aload_n 0, 1) := by decide +kernel
theorem dX13_join_129 : decode cX13_join 129 = .ok (.getfield 182, 3) := by decide +kernel
theorem dX13_join_132 : decode cX13_join 132 = .ok (.iload_n 2, 1) := by decide +kernel
theorem dX13_join_133 : decode cX13_join 133 = .ok (.iconst 1, 1) := by decide +kernel
theorem dX13_join_134 : decode cX13_join 134 = .ok (.iadd, 1) := by decide +kernel
theorem dX13_join_135 : decode cX13_join 135 = .ok (.laload, 1) := by decide +kernel
theorem dX13_join_136 : decode cX13_join 136 = .ok (.aload_n 0, 1) := by decide +kernel
theorem dX13_join_137 : decode cX13_join 137 = .ok (.getfield 182, 3) := by decide +kernel
theorem dX13_join_14 : decode cX13_join 14 = .ok (.if_icmp .eq 10, 3) := by decide +kernel
theorem dX13_join_140 : decode cX13_join 140 = .ok (.iload_n 3, 1) := by decide +kernel
theorem dX13_join_141 : decode cX13_join 141 = .ok (.iconst 1, 1) := by decide +kernel
theorem dX13_join_142 : decode cX13_join 142 = .ok (.iadd, 1) := by decide +kernel
theorem dX13_join_143 : decode cX13_join 143 = .ok (.laload, 1) := by decide +kernel
theorem dX13_join_144 : decode cX13_join 144 = .ok (.invokevirtual 986, 3) := by decide +kernel
theorem dX13_join_147 : decode cX13_join 147 = .ok (.return_, 1) := by decide +kernel
theorem dX13_join_17 : decode cX13_join 17 = .ok (.iload_n 1, 1) := by decide +kernel
theorem dX13_join_18 : decode cX13_join 18 = .ok (.sipush 8509, 3) := by decide +kernel
theorem dX13_join_21 : decode cX13_join 21 = .ok (.if_icmp .ne 50, 3) := by decide +kernel
theorem dX13_join_24 : decode cX13_join 24 = .ok (.aload_n 0, 1) := by decide +kernel
theorem dX13_join_25 : decode cX13_join 25 = .ok (.iload_n 2, 1) := by decide +kernel
theorem dX13_join_26 : decode cX13_join 26 = .ok (.iload_n 3, 1) := by decide +kernel
theorem dX13_join_27 : decode cX13_join 27 = .ok (.invokevirtual 980, 3) := by decide +kernel
theorem dX13_join_30 : decode cX13_join 30 = .ok (.istore 4, 2) := by decide +kernel
theorem dX13_join_32 : decode cX13_join 32 = .ok (.aload_n 0, 1) := by decide +kernel
theorem dX13_join_33 : decode cX13_join 33 = .ok (.aload_n 0, 1) := by decide +kernel
theorem dX13_join_34 : decode cX13_join 34 = .ok (.getfield 858, 3) := by decide +kernel
theorem dX13_join_37 : decode cX13_join 37 = .ok (.iconst 2, 1) := by decide +kernel
theorem dX13_join_38 : decode cX13_join 38 = .ok (.isub, 1) := by decide +kernel
theorem dX13_join_39 : decode cX13_join 39 = .ok (.putfield 858, 3) := by decide +kernel
theorem dX13_join_4 : decode cX13_join 4 = .ok (.istore_n 2, 1) := by decide +kernel
theorem dX13_join_42 : decode cX13_join 42 = .ok (.aload_n 0, 1) := by decide +kernel
theorem dX13_join_43 : decode cX13_join 43 = .ok (.iload 4, 2) := by decide +kernel
theorem dX13_join_45 : decode cX13_join 45 = .ok (.iload_n 1, 1) := by decide +kernel
theorem dX13_join_46 : decode cX13_join 46 = .ok (.sipush 15677, 3) := by decide +kernel
theorem dX13_join_49 : decode cX13_join 49 = .ok (.if_icmp .ne 7, 3) := by decide +kernel
theorem dX13_join_5 : decode cX13_join 5 = .ok (.aload_n 0, 1) := by decide +kernel
theorem dX13_join_52 : decode cX13_join 52 = .ok (.iconst 1, 1) := by decide +kernel
theorem dX13_join_53 : decode cX13_join 53 = .ok (.goto 4, 3) := by decide +kernel
theorem dX13_join_56 : decode cX13_join 56 = .ok (.iconst 0, 1) := by decide +kernel
theorem dX13_join_57 : decode cX13_join 57 = .ok (.if_icmp .ne 7, 3) := by decide +kernel
theorem dX13_join_6 : decode cX13_join 6 = .ok (.invokevirtual 941, 3) := by decide +kernel
theorem dX13_join_60 : decode cX13_join 60 = .ok (.iconst 1, 1) := by decide +kernel
theorem dX13_join_61 : decode cX13_join 61 = .ok (.goto 4, 3) := by decide +kernel
theorem dX13_join_64 : decode cX13_join 64 = .ok (.iconst 0, 1) := by decide +kernel
theorem dX13_join_65 : decode cX13_join 65 = .ok (.invokevirtual 910, 3) := by decide +kernel
theorem dX13_join_68 : decode cX13_join 68 = .ok (.goto 79, 3) := by decide +kernel
theorem dX13_join_71 : decode cX13_join 71 = .ok (.iload_n 1, 1) := by decide +kernel
theorem dX13_join_72 : decode cX13_join 72 = .ok (.bipush 38, 2) := by decide +kernel
theorem dX13_join_74 : decode cX13_join 74 = .ok (.if_icmp .ne 12, 3) := by decide +kernel
theorem dX13_join_77 : decode cX13_join 77 = .ok (.aload_n 0, 1) := by decide +kernel
theorem dX13_join_78 : decode cX13_join 78 = .ok (.iload_n 2, 1) := by decide +kernel
theorem dX13_join_79 : decode cX13_join 79 = .ok (.iload_n 3, 1) := by decide +kernel
theorem dX13_join_80 : decode cX13_join 80 = .ok (.invokevirtual 983, 3) := by decide +kernel
theorem dX13_join_83 : decode cX13_join 83 = .ok (.goto 64, 3) := by decide +kernel
theorem dX13_join_86 : decode cX13_join 86 = .ok (.aload_n 0, 1) := by decide +kernel
theorem dX13_join_87 : decode cX13_join 87 = .ok (.getfield 182, 3) := by decide +kernel
theorem dX13_join_9 : decode cX13_join 9 = .ok (.istore_n 3, 1) := by decide +kernel
theorem dX13_join_90 : decode cX13_join 90 = .ok (.iload_n 2, 1) := by decide +kernel
theorem dX13_join_91 : decode cX13_join 91 = .ok (.laload, 1) := by decide +kernel
theorem dX13_join_92 : decode cX13_join 92 = .ok (.lconst 0, 1) := by decide +kernel
theorem dX13_join_93 : decode cX13_join 93 = .ok (.lcmp, 1) := by decide +kernel
theorem dX13_join_94 : decode cX13_join 94 = .ok (.ifCond .ne 14, 3) := by decide +kernel
theorem dX13_join_97 : decode cX13_join 97 = .ok (.aload_n 0, 1) := by decide +kernel
theorem dX13_join_98 : decode cX13_join 98 = .ok (.getfield 182, 3) := by decide +kernel
noncomputable def k_X13_join_65 (k0 : Int32) (s : t_S) : Option (t_S) :=
 (f_X13_pushTruth k0 s).bind (fun r1 =>
 some (r1))
set_option maxRecDepth 4000 in
set_option maxHeartbeats 1000000 in
theorem B_X13_join_65 {D : va_G} {cy : Nat → ClassId} {ad : Nat → Nat} {bs : Nat} {X : State → Heap → Prop} (k0 : Int32) (s : t_S) (Q : t_S → Prop) (hk : t_hk (k_X13_join_65 k0 s) Q) : mj_G D cy ad bs X cX13_join 5 yX13_join.cls none yX13_join.name 4 0 0 1065 (t_P (fun v s' => v = none ∧ Q (s'))) 65 [] [.int k0, .ref 950] (t_m s) 1065 0 0 := by
  refine t_bndK hk (fun r1 er1 hk => ?_)
  refine t_callVvE dX13_join_65 M_X13_pushTruth (C_X13_pushTruth _ _ _ er1) ML_X13_910 IM_X13_pushTruth SE_X13_pushTruth qc_950 rfl (As := [.int k0]) rfl rfl (Nat.le_of_ble_eq_true rfl) (Nat.le_of_ble_eq_true rfl) (Nat.le_of_ble_eq_true rfl) (Nat.le_of_ble_eq_true rfl) ?_
  refine mj_goto 147 dX13_join_68 (by decide) ?_
  exact t_somK hk (fun hf => t_vret dX13_join_147 rfl ⟨rfl, hf⟩ (Nat.le_of_ble_eq_true rfl) (Nat.le_of_ble_eq_true rfl))
noncomputable def k_X13_join_57 (k0 : Int32) (k1 : Int32) (s : t_S) : Option (t_S) :=
 if k1 = k0 then (k_X13_join_65 1 s)
 else (k_X13_join_65 0 s)
set_option maxRecDepth 4000 in
set_option maxHeartbeats 1000000 in
theorem B_X13_join_57 {D : va_G} {cy : Nat → ClassId} {ad : Nat → Nat} {bs : Nat} {X : State → Heap → Prop} (k0 : Int32) (k1 : Int32) (s : t_S) (Q : t_S → Prop) (hk : t_hk (k_X13_join_57 k0 k1 s) Q) : mj_G D cy ad bs X cX13_join 5 yX13_join.cls none yX13_join.name 4 0 0 1065 (t_P (fun v s' => v = none ∧ Q (s'))) 57 [] [.int k0, .int k1, .ref 950] (t_m s) 1065 0 0 := by
  refine mj_icmp_ne 64 dX13_join_57 (by decide) (fun z => t_negK hk z (fun hk => ?_)) (fun z => t_posK hk z (fun hk => ?_))
  · refine mj_iconst (v := 0) dX13_join_64 (by decide) ?_
    exact B_X13_join_65 _ _ _ hk
  · refine mj_iconst (v := 1) dX13_join_60 (by decide) ?_
    refine mj_goto 65 dX13_join_61 (by decide) ?_
    exact B_X13_join_65 _ _ _ hk
noncomputable def k_X13_join_24 (l1 : Int32) (l2 : Int32) (l3 : Int32) (s : t_S) : Option (t_S) :=
 (f_X13_isAlike l2 l3 s).bind (fun r1 =>
 t_let (t_setI s 950 98 ((s.1 950 98) - (2 : Int32))) (fun s1 =>
 if l1 = (15677 : Int32) then (k_X13_join_57 1 r1 s1)
 else (k_X13_join_57 0 r1 s1)))
set_option maxRecDepth 4000 in
set_option maxHeartbeats 1000000 in
theorem B_X13_join_24 {D : va_G} {cy : Nat → ClassId} {ad : Nat → Nat} {bs : Nat} {X : State → Heap → Prop} (l1 : Int32) (l2 : Int32) (l3 : Int32) (s : t_S) (Q : t_S → Prop) (hk : t_hk (k_X13_join_24 l1 l2 l3 s) Q) : mj_G D cy ad bs X cX13_join 5 yX13_join.cls none yX13_join.name 4 0 0 1065 (t_P (fun v s' => v = none ∧ Q (s'))) 24 [(0, .ref 950), (1, .int l1), (2, .int l2), (3, .int l3)] [] (t_m s) 1065 0 0 := by
  refine mj_aload_n dX13_join_24 0 rfl ?_
  refine mj_iload_n dX13_join_25 2 rfl ?_
  refine mj_iload_n dX13_join_26 3 rfl ?_
  refine t_bndK hk (fun r1 er1 hk => ?_)
  refine t_callViP dX13_join_27 M_X13_isAlike (C_X13_isAlike _ _ _ _ er1) ML_X13_980 IM_X13_isAlike SE_X13_isAlike qc_950 rfl (As := [.int l2, .int l3]) rfl rfl (Nat.le_of_ble_eq_true rfl) (Nat.le_of_ble_eq_true rfl) (Nat.le_of_ble_eq_true rfl) (Nat.le_of_ble_eq_true rfl) ?_
  refine mj_istore (lv2 := [(4, .int r1), (0, .ref 950), (1, .int l1), (2, .int l2), (3, .int l3)]) dX13_join_30 (by decide) rfl ?_
  refine mj_aload_n dX13_join_32 1 rfl ?_
  refine mj_aload_n dX13_join_33 1 rfl ?_
  refine t_getI dX13_join_34 F_X13_858 qf_950_98 ?_
  refine mj_iconst (v := 2) dX13_join_37 (by decide) ?_
  refine mj_isub dX13_join_38 ?_
  refine t_putIK dX13_join_39 F_X13_858 qf_950_98 rfl (fun s1 ws1 => t_letE hk ws1 (fun hk => ?_))
  refine mj_aload_n dX13_join_42 1 rfl ?_
  refine mj_iload dX13_join_43 0 rfl ?_
  refine mj_iload_n dX13_join_45 2 rfl ?_
  refine mj_sipush (v := 15677) dX13_join_46 (by decide) ?_
  refine mj_icmp_ne 56 dX13_join_49 (by decide) (fun z => t_negK hk z (fun hk => ?_)) (fun z => t_posK hk z (fun hk => ?_))
  · refine mj_iconst (v := 0) dX13_join_56 (by decide) ?_
    refine mj_sublv [] [] rfl ?_
    exact B_X13_join_57 _ _ _ _ hk
  · refine mj_iconst (v := 1) dX13_join_52 (by decide) ?_
    refine mj_goto 57 dX13_join_53 (by decide) ?_
    refine mj_sublv [] [] rfl ?_
    exact B_X13_join_57 _ _ _ _ hk
noncomputable def k_X13_join_108 (s : t_S) : Option (t_S) :=
 (f_X13_error (1 : Int32) s).bind (fun r1 =>
 some (r1))
set_option maxRecDepth 4000 in
set_option maxHeartbeats 1000000 in
theorem B_X13_join_108 {D : va_G} {cy : Nat → ClassId} {ad : Nat → Nat} {bs : Nat} {X : State → Heap → Prop} (s : t_S) (Q : t_S → Prop) (hk : t_hk (k_X13_join_108 s) Q) : mj_G D cy ad bs X cX13_join 5 yX13_join.cls none yX13_join.name 4 0 0 1065 (t_P (fun v s' => v = none ∧ Q (s'))) 108 [(0, .ref 950)] [] (t_m s) 1065 0 0 := by
  refine mj_aload_n dX13_join_108 0 rfl ?_
  refine mj_iconst (v := 1) dX13_join_109 (by decide) ?_
  refine t_bndK hk (fun r1 er1 hk => ?_)
  refine t_callVvE dX13_join_110 M_X13_error (C_X13_error _ _ _ er1) ML_X13_866 IM_X13_error SE_X13_error qc_950 rfl (As := [.int 1]) rfl rfl (Nat.le_of_ble_eq_true rfl) (Nat.le_of_ble_eq_true rfl) (Nat.le_of_ble_eq_true rfl) (Nat.le_of_ble_eq_true rfl) ?_
  refine mj_goto 147 dX13_join_113 (by decide) ?_
  exact t_somK hk (fun hf => t_vret dX13_join_147 rfl ⟨rfl, hf⟩ (Nat.le_of_ble_eq_true rfl) (Nat.le_of_ble_eq_true rfl))
noncomputable def f_X13_join (x1 : Int32) (s : t_S) : Option (t_S) :=
 if x1 = (15677 : Int32) then (k_X13_join_24 x1 (f_X13_under s) (f_X13_top s) s)
 else (if x1 = (8509 : Int32) then (k_X13_join_24 x1 (f_X13_under s) (f_X13_top s) s)
 else (if x1 = (38 : Int32) then ((f_X13_joinRows (f_X13_under s) (f_X13_top s) s).bind (fun r8 =>
 some (r8)))
 else (if t_ix (f_X13_under s) 626600 = true then
  if (lg_cmp (s.2.1 1006 ((f_X13_under s).toNatClampNeg)) (0 : Int64)) = (0 : Int32) then (if t_ix (f_X13_top s) 626600 = true then
  if (lg_cmp (s.2.1 1006 ((f_X13_top s).toNatClampNeg)) (0 : Int64)) = (0 : Int32) then (t_let (t_setI s 950 98 ((s.1 950 98) - (2 : Int32))) (fun s1 =>
 if t_ix ((f_X13_under s) + (1 : Int32)) 626600 = true then
  if t_ix ((f_X13_top s) + (1 : Int32)) 626600 = true then
  (f_X13_reckon x1 (s1.2.1 1006 (((f_X13_under s) + (1 : Int32)).toNatClampNeg)) (s1.2.1 1006 (((f_X13_top s) + (1 : Int32)).toNatClampNeg)) s1).bind (fun r7 =>
 some (r7))
else none
else none))
 else (k_X13_join_108 s)
else none)
 else (k_X13_join_108 s)
else none)))
set_option maxRecDepth 4000 in
set_option maxHeartbeats 1000000 in
theorem C_X13_join (x1 : Int32) (s : t_S) (r : t_S) (hr : f_X13_join x1 s = some r) : t_C yX13_join cX13_join 5 none 4 [.ref 950, .int x1] s (fun v s' => v = none ∧ s' = r) := by
  refine t_C.imp (P := fun v s' => v = none ∧ (fun q => q = r) (s')) (t_C.of (by decide +kernel) (Nat.le_of_ble_eq_true rfl) ?_) (fun v s' hp => hp)
  intro D cy ad bs X
  have hk : t_hk (f_X13_join x1 s) (fun q => q = r) := ⟨r, hr, rfl⟩
  show mj_G D cy ad bs X cX13_join 5 yX13_join.cls none yX13_join.name 4 0 0 1065 (t_P (fun v s' => v = none ∧ (fun q => q = r) (s'))) 0 [(0, .ref 950), (1, .int x1)] [] (t_m s) 1065 0 0
  refine mj_aload_n dX13_join_0 0 rfl ?_
  refine t_callViP dX13_join_1 M_X13_under (C_X13_under _) ML_X13_948 IM_X13_under SE_X13_under qc_950 rfl (As := []) rfl rfl (Nat.le_of_ble_eq_true rfl) (Nat.le_of_ble_eq_true rfl) (Nat.le_of_ble_eq_true rfl) (Nat.le_of_ble_eq_true rfl) ?_
  refine mj_istore_n 2 (lv2 := [(2, .int (f_X13_under s)), (0, .ref 950), (1, .int x1)]) dX13_join_4 rfl (by decide) rfl ?_
  refine mj_aload_n dX13_join_5 1 rfl ?_
  refine t_callViP dX13_join_6 M_X13_top (C_X13_top _) ML_X13_941 IM_X13_top SE_X13_top qc_950 rfl (As := []) rfl rfl (Nat.le_of_ble_eq_true rfl) (Nat.le_of_ble_eq_true rfl) (Nat.le_of_ble_eq_true rfl) (Nat.le_of_ble_eq_true rfl) ?_
  refine mj_istore_n 3 (lv2 := [(3, .int (f_X13_top s)), (2, .int (f_X13_under s)), (0, .ref 950), (1, .int x1)]) dX13_join_9 rfl (by decide) rfl ?_
  refine mj_iload_n dX13_join_10 3 rfl ?_
  refine mj_sipush (v := 15677) dX13_join_11 (by decide) ?_
  refine mj_icmp_eq 24 dX13_join_14 (by decide) (fun z => t_posK hk z (fun hk => ?_)) (fun z => t_negK hk z (fun hk => ?_))
  · refine mj_sublv [(0, .ref 950), (1, .int x1), (2, .int (f_X13_under s)), (3, .int (f_X13_top s))] [2, 3, 1, 0] rfl ?_
    exact B_X13_join_24 _ _ _ _ _ hk
  · refine mj_iload_n dX13_join_17 3 rfl ?_
    refine mj_sipush (v := 8509) dX13_join_18 (by decide) ?_
    refine mj_icmp_ne 71 dX13_join_21 (by decide) (fun z => t_negK hk z (fun hk => ?_)) (fun z => t_posK hk z (fun hk => ?_))
    · refine mj_iload_n dX13_join_71 3 rfl ?_
      refine mj_bipush (v := 38) dX13_join_72 (by decide) ?_
      refine mj_icmp_ne 86 dX13_join_74 (by decide) (fun z => t_negK hk z (fun hk => ?_)) (fun z => t_posK hk z (fun hk => ?_))
      · refine mj_aload_n dX13_join_86 2 rfl ?_
        refine t_getR 1006 dX13_join_87 F_X13_182 qr_950_95 ?_
        refine mj_iload_n dX13_join_90 1 rfl ?_
        refine t_chkK hk (fun c2 hk => ?_)
        refine t_lald dX13_join_91 qa_1006 (t_ixv c2) ?_
        refine mj_lconst (v := 0) dX13_join_92 (by decide) ?_
        refine mj_lcmp dX13_join_93 ?_
        refine mj_if_ne 108 dX13_join_94 (by decide) (fun z => t_negK hk z (fun hk => ?_)) (fun z => t_posK hk z (fun hk => ?_))
        · refine mj_sublv [(0, .ref 950)] [2] rfl ?_
          exact B_X13_join_108 _ _ hk
        · refine mj_aload_n dX13_join_97 2 rfl ?_
          refine t_getR 1006 dX13_join_98 F_X13_182 qr_950_95 ?_
          refine mj_iload_n dX13_join_101 0 rfl ?_
          refine t_chkK hk (fun c3 hk => ?_)
          refine t_lald dX13_join_102 qa_1006 (t_ixv c3) ?_
          refine mj_lconst (v := 0) dX13_join_103 (by decide) ?_
          refine mj_lcmp dX13_join_104 ?_
          refine mj_if_eq 116 dX13_join_105 (by decide) (fun z => t_posK hk z (fun hk => ?_)) (fun z => t_negK hk z (fun hk => ?_))
          · refine mj_aload_n dX13_join_116 2 rfl ?_
            refine mj_aload_n dX13_join_117 2 rfl ?_
            refine t_getI dX13_join_118 F_X13_858 qf_950_98 ?_
            refine mj_iconst (v := 2) dX13_join_121 (by decide) ?_
            refine mj_isub dX13_join_122 ?_
            refine t_putIK dX13_join_123 F_X13_858 qf_950_98 rfl (fun s1 ws1 => t_letE hk ws1 (fun hk => ?_))
            refine mj_aload_n dX13_join_126 2 rfl ?_
            refine mj_iload_n dX13_join_127 3 rfl ?_
            refine mj_aload_n dX13_join_128 2 rfl ?_
            refine t_getR 1006 dX13_join_129 F_X13_182 qr_950_95 ?_
            refine mj_iload_n dX13_join_132 1 rfl ?_
            refine mj_iconst (v := 1) dX13_join_133 (by decide) ?_
            refine mj_iadd dX13_join_134 ?_
            refine t_chkK hk (fun c4 hk => ?_)
            refine t_lald dX13_join_135 qa_1006 (t_ixv c4) ?_
            refine mj_aload_n dX13_join_136 2 rfl ?_
            refine t_getR 1006 dX13_join_137 F_X13_182 qr_950_95 ?_
            refine mj_iload_n dX13_join_140 0 rfl ?_
            refine mj_iconst (v := 1) dX13_join_141 (by decide) ?_
            refine mj_iadd dX13_join_142 ?_
            refine t_chkK hk (fun c5 hk => ?_)
            refine t_lald dX13_join_143 qa_1006 (t_ixv c5) ?_
            refine t_bndK hk (fun r7 er7 hk => ?_)
            refine t_callVvE dX13_join_144 M_X13_reckon (C_X13_reckon _ _ _ _ _ er7) ML_X13_986 IM_X13_reckon SE_X13_reckon qc_950 rfl (As := [.int x1, .long (s1.2.1 1006 (((f_X13_under s) + (1 : Int32)).toNatClampNeg)), .long (s1.2.1 1006 (((f_X13_top s) + (1 : Int32)).toNatClampNeg))]) rfl rfl (Nat.le_of_ble_eq_true rfl) (Nat.le_of_ble_eq_true rfl) (Nat.le_of_ble_eq_true rfl) (Nat.le_of_ble_eq_true rfl) ?_
            exact t_somK hk (fun hf => t_vret dX13_join_147 rfl ⟨rfl, hf⟩ (Nat.le_of_ble_eq_true rfl) (Nat.le_of_ble_eq_true rfl))
          · refine mj_sublv [(0, .ref 950)] [2] rfl ?_
            exact B_X13_join_108 _ _ hk
      · refine mj_aload_n dX13_join_77 2 rfl ?_
        refine mj_iload_n dX13_join_78 1 rfl ?_
        refine mj_iload_n dX13_join_79 0 rfl ?_
        refine t_bndK hk (fun r8 er8 hk => ?_)
        refine t_callVvE dX13_join_80 M_X13_joinRows (C_X13_joinRows _ _ _ _ er8) ML_X13_983 IM_X13_joinRows SE_X13_joinRows qc_950 rfl (As := [.int (f_X13_under s), .int (f_X13_top s)]) rfl rfl (Nat.le_of_ble_eq_true rfl) (Nat.le_of_ble_eq_true rfl) (Nat.le_of_ble_eq_true rfl) (Nat.le_of_ble_eq_true rfl) ?_
        refine mj_goto 147 dX13_join_83 (by decide) ?_
        exact t_somK hk (fun hf => t_vret dX13_join_147 rfl ⟨rfl, hf⟩ (Nat.le_of_ble_eq_true rfl) (Nat.le_of_ble_eq_true rfl))
    · refine mj_sublv [(0, .ref 950), (1, .int x1), (2, .int (f_X13_under s)), (3, .int (f_X13_top s))] [2, 3, 1, 0] rfl ?_
      exact B_X13_join_24 _ _ _ _ _ hk

theorem dX13_isSpine_0 : decode cX13_isSpine 0 = .ok (.iload_n 1, 1) := by decide +kernel
theorem dX13_isSpine_1 : decode cX13_isSpine 1 = .ok (.i2l, 1) := by decide +kernel
theorem dX13_isSpine_11 : decode cX13_isSpine 11 = .ok (.ifCond .ne 9, 3) := by decide +kernel
theorem dX13_isSpine_14 : decode cX13_isSpine 14 = .ok (.iload_n 1, 1) := by decide +kernel
theorem dX13_isSpine_15 : decode cX13_isSpine 15 = .ok (.bipush 72, 2) := by decide +kernel
theorem dX13_isSpine_17 : decode cX13_isSpine 17 = .ok (.if_icmp .ne 7, 3) := by decide +kernel
theorem dX13_isSpine_2 : decode cX13_isSpine 2 = .ok (.ldc2_w 878, 3) := by decide +kernel
theorem dX13_isSpine_20 : decode cX13_isSpine 20 = .ok (.iconst 1, 1) := by decide +kernel
theorem dX13_isSpine_21 : decode cX13_isSpine 21 = .ok (.goto 4, 3) := by decide +kernel
theorem dX13_isSpine_24 : decode cX13_isSpine 24 = .ok (.iconst 0, 1) := by decide +kernel
theorem dX13_isSpine_25 : decode cX13_isSpine 25 = .ok (.ireturn, 1) := by decide +kernel
theorem dX13_isSpine_5 : decode cX13_isSpine 5 = .ok (.ldc2_w 880, 3) := by decide +kernel
theorem dX13_isSpine_8 : decode cX13_isSpine 8 = .ok (.invokestatic 371, 3) := by decide +kernel
noncomputable def k_X13_isSpine_20 (s : t_S) : Int32 :=
 (1 : Int32)
set_option maxRecDepth 4000 in
set_option maxHeartbeats 1000000 in
theorem B_X13_isSpine_20 {D : va_G} {cy : Nat → ClassId} {ad : Nat → Nat} {bs : Nat} {X : State → Heap → Prop} (s : t_S) (Q : Int32 → Prop) (hk : t_ht (k_X13_isSpine_20 s) Q) : mj_G D cy ad bs X cX13_isSpine 2 yX13_isSpine.cls (some .boolean) yX13_isSpine.name 1 0 0 1065 (t_P (fun v s' => s' = s ∧ ∃ x, v = some (.int x) ∧ Q (x))) 20 [] [] (t_m s) 1065 0 0 := by
  refine mj_iconst (v := 1) dX13_isSpine_20 (by decide) ?_
  refine mj_goto 25 dX13_isSpine_21 (by decide) ?_
  exact t_iret dX13_isSpine_25 rfl (by decide) ⟨rfl, _, rfl, hk⟩ (Nat.le_of_ble_eq_true rfl) (Nat.le_of_ble_eq_true rfl)
noncomputable def f_X13_isSpine (x1 : Int32) (s : t_S) : Int32 :=
 if (f_X13_in x1.toInt64 (64 : Int64) (70 : Int64) s) = (0 : Int32) then (if x1 = (72 : Int32) then (k_X13_isSpine_20 s)
 else ((0 : Int32)))
 else (k_X13_isSpine_20 s)
set_option maxRecDepth 4000 in
set_option maxHeartbeats 1000000 in
theorem C_X13_isSpine (x1 : Int32) (s : t_S) : t_C yX13_isSpine cX13_isSpine 2 (some .boolean) 1 [.ref 950, .int x1] s (fun v s' => v = some (.int (f_X13_isSpine x1 s)) ∧ s' = s) := by
  refine t_C.imp (P := fun v s' => s' = s ∧ ∃ x, v = some (.int x) ∧ (fun r => r = f_X13_isSpine x1 s) (x)) (t_C.of (by decide +kernel) (Nat.le_of_ble_eq_true rfl) ?_) (fun v s' hp => by obtain ⟨rfl, x, rfl, rfl⟩ := hp; exact ⟨rfl, rfl⟩)
  intro D cy ad bs X
  have hk : t_ht (f_X13_isSpine x1 s) (fun r => r = f_X13_isSpine x1 s) := rfl
  show mj_G D cy ad bs X cX13_isSpine 2 yX13_isSpine.cls (some .boolean) yX13_isSpine.name 1 0 0 1065 (t_P (fun v s' => s' = s ∧ ∃ x, v = some (.int x) ∧ (fun r => r = f_X13_isSpine x1 s) (x))) 0 [(0, .ref 950), (1, .int x1)] [] (t_m s) 1065 0 0
  refine mj_iload_n dX13_isSpine_0 1 rfl ?_
  refine mj_i2l (v := x1.toInt64) dX13_isSpine_1 rfl ?_
  refine mj_ldc2 dX13_isSpine_2 K_X13_878 ?_
  refine mj_ldc2 dX13_isSpine_5 K_X13_880 ?_
  refine t_callSiP dX13_isSpine_8 M_X13_in (C_X13_in _ _ _ _) ML_X13_371 SM_X13_in (As := [.long x1.toInt64, .long 64, .long 70]) rfl rfl (Nat.le_of_ble_eq_true rfl) (Nat.le_of_ble_eq_true rfl) (Nat.le_of_ble_eq_true rfl) (Nat.le_of_ble_eq_true rfl) ?_
  refine mj_if_ne 20 dX13_isSpine_11 (by decide) (fun z => t_negTK hk z (fun hk => ?_)) (fun z => t_posTK hk z (fun hk => ?_))
  · refine mj_sublv [] [] rfl ?_
    exact B_X13_isSpine_20 _ _ hk
  · refine mj_iload_n dX13_isSpine_14 1 rfl ?_
    refine mj_bipush (v := 72) dX13_isSpine_15 (by decide) ?_
    refine mj_icmp_ne 24 dX13_isSpine_17 (by decide) (fun z => t_negTK hk z (fun hk => ?_)) (fun z => t_posTK hk z (fun hk => ?_))
    · refine mj_iconst (v := 0) dX13_isSpine_24 (by decide) ?_
      exact t_iret dX13_isSpine_25 rfl (by decide) ⟨rfl, _, rfl, hk⟩ (Nat.le_of_ble_eq_true rfl) (Nat.le_of_ble_eq_true rfl)
    · refine mj_sublv [] [] rfl ?_
      exact B_X13_isSpine_20 _ _ hk

theorem dX13_pushTextOf_0 : decode cX13_pushTextOf 0 = .ok (.aload_n 0, 1) := by decide +kernel
theorem dX13_pushTextOf_1 : decode cX13_pushTextOf 1 = .ok (.iconst 2, 1) := by decide +kernel
theorem dX13_pushTextOf_102 : decode cX13_pushTextOf 102 = .ok (.return_, 1) := by decide +kernel
theorem dX13_pushTextOf_11 : decode cX13_pushTextOf 11 = .ok (.istore_n 2, 1) := by decide +kernel
theorem dX13_pushTextOf_12 : decode cX13_pushTextOf 12 = .ok (.iconst 0, 1) := by decide +kernel
theorem dX13_pushTextOf_13 : decode cX13_pushTextOf 13 = .ok (.istore_n 3, 1) := by decide +kernel
theorem dX13_pushTextOf_14 : decode cX13_pushTextOf 14 = .ok (.iload_n 3, 1) := by decide +kernel
theorem dX13_pushTextOf_15 : decode cX13_pushTextOf 15 = .ok (.aload_n 0, 1) := by decide +kernel
theorem dX13_pushTextOf_16 : decode cX13_pushTextOf 16 = .ok (.getfield 36, 3) := by decide +kernel
theorem dX13_pushTextOf_19 : decode cX13_pushTextOf 19 = .ok (.iload_n 1, 1) := by decide +kernel
theorem dX13_pushTextOf_2 : decode cX13_pushTextOf 2 = .ok (.aload_n 0, 1) := by decide +kernel
theorem dX13_pushTextOf_20 : decode cX13_pushTextOf 20 = .ok (.laload, 1) := by decide +kernel
theorem dX13_pushTextOf_21 : decode cX13_pushTextOf 21 = .ok (.invokestatic 845, 3) := by decide +kernel
theorem dX13_pushTextOf_24 : decode cX13_pushTextOf 24 = .ok (.if_icmp .ge 20, 3) := by decide +kernel
theorem dX13_pushTextOf_27 : decode cX13_pushTextOf 27 = .ok (.aload_n 0, 1) := by decide +kernel
theorem dX13_pushTextOf_28 : decode cX13_pushTextOf 28 = .ok (.getfield 182, 3) := by decide +kernel
theorem dX13_pushTextOf_3 : decode cX13_pushTextOf 3 = .ok (.getfield 36, 3) := by decide +kernel
theorem dX13_pushTextOf_31 : decode cX13_pushTextOf 31 = .ok (.iload_n 2, 1) := by decide +kernel
theorem dX13_pushTextOf_32 : decode cX13_pushTextOf 32 = .ok (.iconst 2, 1) := by decide +kernel
theorem dX13_pushTextOf_33 : decode cX13_pushTextOf 33 = .ok (.iadd, 1) := by decide +kernel
theorem dX13_pushTextOf_34 : decode cX13_pushTextOf 34 = .ok (.iload_n 3, 1) := by decide +kernel
theorem dX13_pushTextOf_35 : decode cX13_pushTextOf 35 = .ok (.iadd, 1) := by decide +kernel
theorem dX13_pushTextOf_36 : decode cX13_pushTextOf 36 = .ok (.lconst 0, 1) := by decide +kernel
theorem dX13_pushTextOf_37 : decode cX13_pushTextOf 37 = .ok (.lastore, 1) := by decide +kernel
theorem dX13_pushTextOf_38 : decode cX13_pushTextOf 38 = .ok (.iinc 3 1, 3) := by decide +kernel
theorem dX13_pushTextOf_41 : decode cX13_pushTextOf 41 = .ok (.goto (-27), 3) := by decide +kernel
theorem dX13_pushTextOf_44 : decode cX13_pushTextOf 44 = .ok (.iconst 0, 1) := by decide +kernel
theorem dX13_pushTextOf_45 : decode cX13_pushTextOf 45 = .ok (.istore_n 3, 1) := by decide +kernel
theorem dX13_pushTextOf_46 : decode cX13_pushTextOf 46 = .ok (.iload_n 3, 1) := by decide +kernel
theorem dX13_pushTextOf_47 : decode cX13_pushTextOf 47 = .ok (.aload_n 0, 1) := by decide +kernel
theorem dX13_pushTextOf_48 : decode cX13_pushTextOf 48 = .ok (.getfield 36, 3) := by decide +kernel
theorem dX13_pushTextOf_51 : decode cX13_pushTextOf 51 = .ok (.iload_n 1, 1) := by decide +kernel
theorem dX13_pushTextOf_52 : decode cX13_pushTextOf 52 = .ok (.laload, 1) := by decide +kernel
theorem dX13_pushTextOf_53 : decode cX13_pushTextOf 53 = .ok (.l2i, 1) := by decide +kernel
theorem dX13_pushTextOf_54 : decode cX13_pushTextOf 54 = .ok (.if_icmp .ge 48, 3) := by decide +kernel
theorem dX13_pushTextOf_57 : decode cX13_pushTextOf 57 = .ok (.aload_n 0, 1) := by decide +kernel
theorem dX13_pushTextOf_58 : decode cX13_pushTextOf 58 = .ok (.getfield 182, 3) := by decide +kernel
theorem dX13_pushTextOf_6 : decode cX13_pushTextOf 6 = .ok (.iload_n 1, 1) := by decide +kernel
theorem dX13_pushTextOf_61 : decode cX13_pushTextOf 61 = .ok (.iload_n 2, 1) := by decide +kernel
theorem dX13_pushTextOf_62 : decode cX13_pushTextOf 62 = .ok (.iconst 2, 1) := by decide +kernel
theorem dX13_pushTextOf_63 : decode cX13_pushTextOf 63 = .ok (.iadd, 1) := by decide +kernel
theorem dX13_pushTextOf_64 : decode cX13_pushTextOf 64 = .ok (.iload_n 3, 1) := by decide +kernel
theorem dX13_pushTextOf_65 : decode cX13_pushTextOf 65 = .ok (.bipush 8, 2) := by decide +kernel
theorem dX13_pushTextOf_67 : decode cX13_pushTextOf 67 = .ok (.idiv, 1) := by decide +kernel
theorem dX13_pushTextOf_68 : decode cX13_pushTextOf 68 = .ok (.iadd, 1) := by decide +kernel
theorem dX13_pushTextOf_69 : decode cX13_pushTextOf 69 = .ok (.dup2, 1) := by decide +kernel
theorem dX13_pushTextOf_7 : decode cX13_pushTextOf 7 = .ok (.laload, 1) := by decide +kernel
theorem dX13_pushTextOf_70 : decode cX13_pushTextOf 70 = .ok (.laload, 1) := by decide +kernel
theorem dX13_pushTextOf_71 : decode cX13_pushTextOf 71 = .ok (.aload_n 0, 1) := by decide +kernel
theorem dX13_pushTextOf_72 : decode cX13_pushTextOf 72 = .ok (.getfield 51, 3) := by decide +kernel
theorem dX13_pushTextOf_75 : decode cX13_pushTextOf 75 = .ok (.aload_n 0, 1) := by decide +kernel
theorem dX13_pushTextOf_76 : decode cX13_pushTextOf 76 = .ok (.getfield 32, 3) := by decide +kernel
theorem dX13_pushTextOf_79 : decode cX13_pushTextOf 79 = .ok (.iload_n 1, 1) := by decide +kernel
theorem dX13_pushTextOf_8 : decode cX13_pushTextOf 8 = .ok (.invokevirtual 869, 3) := by decide +kernel
theorem dX13_pushTextOf_80 : decode cX13_pushTextOf 80 = .ok (.laload, 1) := by decide +kernel
theorem dX13_pushTextOf_81 : decode cX13_pushTextOf 81 = .ok (.l2i, 1) := by decide +kernel
theorem dX13_pushTextOf_82 : decode cX13_pushTextOf 82 = .ok (.iload_n 3, 1) := by decide +kernel
theorem dX13_pushTextOf_83 : decode cX13_pushTextOf 83 = .ok (.iadd, 1) := by decide +kernel
theorem dX13_pushTextOf_84 : decode cX13_pushTextOf 84 = .ok (.iaload, 1) := by decide +kernel
theorem dX13_pushTextOf_85 : decode cX13_pushTextOf 85 = .ok (.i2l, 1) := by decide +kernel
theorem dX13_pushTextOf_86 : decode cX13_pushTextOf 86 = .ok (.bipush 8, 2) := by decide +kernel
theorem dX13_pushTextOf_88 : decode cX13_pushTextOf 88 = .ok (.iload_n 3, 1) := by decide +kernel
theorem dX13_pushTextOf_89 : decode cX13_pushTextOf 89 = .ok (.bipush 8, 2) := by decide +kernel
theorem dX13_pushTextOf_91 : decode cX13_pushTextOf 91 = .ok (.irem, 1) := by decide +kernel
theorem dX13_pushTextOf_92 : decode cX13_pushTextOf 92 = .ok (.imul, 1) := by decide +kernel
theorem dX13_pushTextOf_93 : decode cX13_pushTextOf 93 = .ok (.lshl, 1) := by decide +kernel
theorem dX13_pushTextOf_94 : decode cX13_pushTextOf 94 = .ok (.lor, 1) := by decide +kernel
theorem dX13_pushTextOf_95 : decode cX13_pushTextOf 95 = .ok (.lastore, 1) := by decide +kernel
theorem dX13_pushTextOf_96 : decode cX13_pushTextOf 96 = .ok (.iinc 3 1, 3) := by decide +kernel
theorem dX13_pushTextOf_99 : decode cX13_pushTextOf 99 = .ok (.goto (-53), 3) := by decide +kernel
noncomputable def k_X13_pushTextOf_46 (l1 : Int32) (l2 : Int32) (l3 : Int32) (s : t_S) : Option ((Int32 × Int32 × Int32 × t_S) ⊕ (t_S)) :=
 if t_ix l1 13000 = true then
  if ((s.2.1 958 (l1.toNatClampNeg)).toInt32) ≤ l3 then ((some (s)).map Sum.inr)
 else (if t_ix ((l2 + (2 : Int32)) + (l3 / (8 : Int32))) 626600 = true then
  if t_ix (((s.2.1 957 (l1.toNatClampNeg)).toInt32) + l3) 24300 = true then
  t_let (t_setJ s 1006 (((l2 + (2 : Int32)) + (l3 / (8 : Int32))).toNatClampNeg) ((s.2.1 1006 (((l2 + (2 : Int32)) + (l3 / (8 : Int32))).toNatClampNeg)) ||| (((s.1 963 ((((s.2.1 957 (l1.toNatClampNeg)).toInt32) + l3).toNatClampNeg)).toInt64) <<< (((8 : Int32) * (l3 - l3 / (8 : Int32) * (8 : Int32))).toInt64 &&& 63)))) (fun s1 =>
 some (.inl (l1, l2, (l3 + 1), s1)))
else none
else none)
else none
set_option maxRecDepth 4000 in
set_option maxHeartbeats 1000000 in
theorem B_X13_pushTextOf_46 {D : va_G} {cy : Nat → ClassId} {ad : Nat → Nat} {bs : Nat} {X : State → Heap → Prop} (l1 : Int32) (l2 : Int32) (l3 : Int32) (s : t_S) (Q : (Int32 × Int32 × Int32 × t_S) ⊕ (t_S) → Prop) (Hb46 : ∀ (y0 : Int32) (y1 : Int32) (y2 : Int32) (y3 : t_S), Q (.inl (y0, y1, y2, y3)) → mj_G D cy ad bs X cX13_pushTextOf 4 yX13_pushTextOf.cls none yX13_pushTextOf.name 1 0 0 1065 (t_P (fun v s' => v = none ∧ Q (.inr (s')))) 46 [(0, .ref 950), (1, .int (y0)), (2, .int (y1)), (3, .int (y2))] [] (t_m y3) 1065 0 0) (hk : t_hk (k_X13_pushTextOf_46 l1 l2 l3 s) Q) : mj_G D cy ad bs X cX13_pushTextOf 4 yX13_pushTextOf.cls none yX13_pushTextOf.name 1 0 0 1065 (t_P (fun v s' => v = none ∧ Q (.inr (s')))) 46 [(0, .ref 950), (1, .int l1), (2, .int l2), (3, .int l3)] [] (t_m s) 1065 0 0 := by
  refine mj_iload_n dX13_pushTextOf_46 3 rfl ?_
  refine mj_aload_n dX13_pushTextOf_47 0 rfl ?_
  refine t_getR 958 dX13_pushTextOf_48 F_X13_36 qr_950_20 ?_
  refine mj_iload_n dX13_pushTextOf_51 1 rfl ?_
  refine t_chkK hk (fun c0 hk => ?_)
  refine t_lald dX13_pushTextOf_52 qa_958 (t_ixv c0) ?_
  refine mj_l2i (v := (s.2.1 958 (l1.toNatClampNeg)).toInt32) dX13_pushTextOf_53 rfl ?_
  refine mj_icmp_ge 102 dX13_pushTextOf_54 (by decide) (fun z => t_posK hk z (fun hk => ?_)) (fun z => t_negK hk z (fun hk => ?_))
  · refine t_mapK hk (fun hk => ?_)
    exact t_somK hk (fun hf => t_vret dX13_pushTextOf_102 rfl ⟨rfl, hf⟩ (Nat.le_of_ble_eq_true rfl) (Nat.le_of_ble_eq_true rfl))
  · refine mj_aload_n dX13_pushTextOf_57 0 rfl ?_
    refine t_getR 1006 dX13_pushTextOf_58 F_X13_182 qr_950_95 ?_
    refine mj_iload_n dX13_pushTextOf_61 2 rfl ?_
    refine mj_iconst (v := 2) dX13_pushTextOf_62 (by decide) ?_
    refine mj_iadd dX13_pushTextOf_63 ?_
    refine mj_iload_n dX13_pushTextOf_64 3 rfl ?_
    refine mj_bipush (v := 8) dX13_pushTextOf_65 (by decide) ?_
    refine mj_idiv dX13_pushTextOf_67 (by decide) ?_
    refine mj_iadd dX13_pushTextOf_68 ?_
    refine mj_dup2 dX13_pushTextOf_69 rfl rfl ?_
    refine t_chkK hk (fun c1 hk => ?_)
    refine t_lald dX13_pushTextOf_70 qa_1006 (t_ixv c1) ?_
    refine mj_aload_n dX13_pushTextOf_71 0 rfl ?_
    refine t_getR 963 dX13_pushTextOf_72 F_X13_51 qr_950_35 ?_
    refine mj_aload_n dX13_pushTextOf_75 0 rfl ?_
    refine t_getR 957 dX13_pushTextOf_76 F_X13_32 qr_950_19 ?_
    refine mj_iload_n dX13_pushTextOf_79 1 rfl ?_
    refine t_lald dX13_pushTextOf_80 qa_957 (t_ixv c0) ?_
    refine mj_l2i (v := (s.2.1 957 (l1.toNatClampNeg)).toInt32) dX13_pushTextOf_81 rfl ?_
    refine mj_iload_n dX13_pushTextOf_82 3 rfl ?_
    refine mj_iadd dX13_pushTextOf_83 ?_
    refine t_chkK hk (fun c2 hk => ?_)
    refine t_iald dX13_pushTextOf_84 qa_963 (t_ixv c2) ?_
    refine mj_i2l (v := (s.1 963 ((((s.2.1 957 (l1.toNatClampNeg)).toInt32) + l3).toNatClampNeg)).toInt64) dX13_pushTextOf_85 rfl ?_
    refine mj_bipush (v := 8) dX13_pushTextOf_86 (by decide) ?_
    refine mj_iload_n dX13_pushTextOf_88 3 rfl ?_
    refine mj_bipush (v := 8) dX13_pushTextOf_89 (by decide) ?_
    refine mj_irem dX13_pushTextOf_91 (by decide) ?_
    refine mj_imul dX13_pushTextOf_92 ?_
    refine mj_lshl dX13_pushTextOf_93 rfl ?_
    refine mj_lor dX13_pushTextOf_94 ?_
    refine t_lastK dX13_pushTextOf_95 qa_1006 (t_ixv c1) (fun s1 ws1 => t_letE hk ws1 (fun hk => ?_))
    refine mj_iinc (k := 3) (v := (l3 + 1)) (lv2 := [(3, .int (l3 + 1)), (0, .ref 950), (1, .int l1), (2, .int l2)]) dX13_pushTextOf_96 rfl rfl (by decide) rfl ?_
    refine mj_goto 46 dX13_pushTextOf_99 (by decide) ?_
    refine mj_sublv [(0, .ref 950), (1, .int l1), (2, .int l2), (3, .int (l3 + 1))] [1, 2, 3, 0] rfl ?_
    exact t_somK hk (fun hf => Hb46 l1 l2 (l3 + 1) s1 hf)
noncomputable def b_X13_pushTextOf_46 (x : Int32 × Int32 × Int32 × t_S) : Option ((Int32 × Int32 × Int32 × t_S) ⊕ (t_S)) := k_X13_pushTextOf_46 x.1 x.2.1 x.2.2.1 x.2.2.2
set_option maxRecDepth 4000 in
set_option maxHeartbeats 1000000 in
theorem LH_X13_pushTextOf_46 {D : va_G} {cy : Nat → ClassId} {ad : Nat → Nat} {bs : Nat} {X : State → Heap → Prop} : ∀ (n : Nat) (y0 : Int32) (y1 : Int32) (y2 : Int32) (y3 : t_S) (Q : t_S → Prop) (hk : t_hk (t_loop (b_X13_pushTextOf_46) n (y0, y1, y2, y3)) Q), mj_G D cy ad bs X cX13_pushTextOf 4 yX13_pushTextOf.cls none yX13_pushTextOf.name 1 0 0 1065 (t_P (fun v s' => v = none ∧ Q (s'))) 46 [(0, .ref 950), (1, .int (y0)), (2, .int (y1)), (3, .int (y2))] [] (t_m y3) 1065 0 0 := by
  intro n
  induction n with
  | zero => intro y0 y1 y2 y3 Q hk; obtain ⟨r, hr, _⟩ := hk; cases hr
  | succ n ih =>
    intro y0 y1 y2 y3 Q hk
    exact B_X13_pushTextOf_46 y0 y1 y2 y3 (fun y => t_lq (b_X13_pushTextOf_46) n Q y) (fun y0' y1' y2' y3' hy => ih y0' y1' y2' y3' Q hy) (t_lp hk)
noncomputable def k_X13_pushTextOf_14 (l1 : Int32) (l2 : Int32) (l3 : Int32) (s : t_S) : Option ((Int32 × Int32 × Int32 × t_S) ⊕ (t_S)) :=
 if t_ix l1 13000 = true then
  (f_X13_packs (s.2.1 958 (l1.toNatClampNeg)) s).bind (fun r2 =>
 if r2 ≤ l3 then ((t_loop (b_X13_pushTextOf_46) t_N (l1, l2, 0, s)).map Sum.inr)
 else (if t_ix ((l2 + (2 : Int32)) + l3) 626600 = true then
  t_let (t_setJ s 1006 (((l2 + (2 : Int32)) + l3).toNatClampNeg) (0 : Int64)) (fun s1 =>
 some (.inl (l1, l2, (l3 + 1), s1)))
else none))
else none
set_option maxRecDepth 4000 in
set_option maxHeartbeats 1000000 in
theorem B_X13_pushTextOf_14 {D : va_G} {cy : Nat → ClassId} {ad : Nat → Nat} {bs : Nat} {X : State → Heap → Prop} (l1 : Int32) (l2 : Int32) (l3 : Int32) (s : t_S) (Q : (Int32 × Int32 × Int32 × t_S) ⊕ (t_S) → Prop) (Hb14 : ∀ (y0 : Int32) (y1 : Int32) (y2 : Int32) (y3 : t_S), Q (.inl (y0, y1, y2, y3)) → mj_G D cy ad bs X cX13_pushTextOf 4 yX13_pushTextOf.cls none yX13_pushTextOf.name 1 0 0 1065 (t_P (fun v s' => v = none ∧ Q (.inr (s')))) 14 [(0, .ref 950), (1, .int (y0)), (2, .int (y1)), (3, .int (y2))] [] (t_m y3) 1065 0 0) (hk : t_hk (k_X13_pushTextOf_14 l1 l2 l3 s) Q) : mj_G D cy ad bs X cX13_pushTextOf 4 yX13_pushTextOf.cls none yX13_pushTextOf.name 1 0 0 1065 (t_P (fun v s' => v = none ∧ Q (.inr (s')))) 14 [(0, .ref 950), (1, .int l1), (2, .int l2), (3, .int l3)] [] (t_m s) 1065 0 0 := by
  refine mj_iload_n dX13_pushTextOf_14 3 rfl ?_
  refine mj_aload_n dX13_pushTextOf_15 0 rfl ?_
  refine t_getR 958 dX13_pushTextOf_16 F_X13_36 qr_950_20 ?_
  refine mj_iload_n dX13_pushTextOf_19 1 rfl ?_
  refine t_chkK hk (fun c0 hk => ?_)
  refine t_lald dX13_pushTextOf_20 qa_958 (t_ixv c0) ?_
  refine t_bndK hk (fun r2 er2 hk => ?_)
  refine t_callSiP dX13_pushTextOf_21 M_X13_packs (C_X13_packs _ _ _ er2) ML_X13_845 SM_X13_packs (As := [.long (s.2.1 958 (l1.toNatClampNeg))]) rfl rfl (Nat.le_of_ble_eq_true rfl) (Nat.le_of_ble_eq_true rfl) (Nat.le_of_ble_eq_true rfl) (Nat.le_of_ble_eq_true rfl) ?_
  refine mj_icmp_ge 44 dX13_pushTextOf_24 (by decide) (fun z => t_posK hk z (fun hk => ?_)) (fun z => t_negK hk z (fun hk => ?_))
  · refine t_mapK hk (fun hk => ?_)
    refine mj_iconst (v := 0) dX13_pushTextOf_44 (by decide) ?_
    refine mj_istore_n 3 (lv2 := [(3, .int 0), (0, .ref 950), (1, .int l1), (2, .int l2)]) dX13_pushTextOf_45 rfl (by decide) rfl ?_
    refine mj_sublv [(0, .ref 950), (1, .int l1), (2, .int l2), (3, .int 0)] [1, 2, 3, 0] rfl ?_
    exact LH_X13_pushTextOf_46 _ l1 l2 0 s _ hk
  · refine mj_aload_n dX13_pushTextOf_27 0 rfl ?_
    refine t_getR 1006 dX13_pushTextOf_28 F_X13_182 qr_950_95 ?_
    refine mj_iload_n dX13_pushTextOf_31 2 rfl ?_
    refine mj_iconst (v := 2) dX13_pushTextOf_32 (by decide) ?_
    refine mj_iadd dX13_pushTextOf_33 ?_
    refine mj_iload_n dX13_pushTextOf_34 3 rfl ?_
    refine mj_iadd dX13_pushTextOf_35 ?_
    refine mj_lconst (v := 0) dX13_pushTextOf_36 (by decide) ?_
    refine t_chkK hk (fun c2 hk => ?_)
    refine t_lastK dX13_pushTextOf_37 qa_1006 (t_ixv c2) (fun s1 ws1 => t_letE hk ws1 (fun hk => ?_))
    refine mj_iinc (k := 3) (v := (l3 + 1)) (lv2 := [(3, .int (l3 + 1)), (0, .ref 950), (1, .int l1), (2, .int l2)]) dX13_pushTextOf_38 rfl rfl (by decide) rfl ?_
    refine mj_goto 14 dX13_pushTextOf_41 (by decide) ?_
    refine mj_sublv [(0, .ref 950), (1, .int l1), (2, .int l2), (3, .int (l3 + 1))] [1, 2, 3, 0] rfl ?_
    exact t_somK hk (fun hf => Hb14 l1 l2 (l3 + 1) s1 hf)
noncomputable def b_X13_pushTextOf_14 (x : Int32 × Int32 × Int32 × t_S) : Option ((Int32 × Int32 × Int32 × t_S) ⊕ (t_S)) := k_X13_pushTextOf_14 x.1 x.2.1 x.2.2.1 x.2.2.2
set_option maxRecDepth 4000 in
set_option maxHeartbeats 1000000 in
theorem LH_X13_pushTextOf_14 {D : va_G} {cy : Nat → ClassId} {ad : Nat → Nat} {bs : Nat} {X : State → Heap → Prop} : ∀ (n : Nat) (y0 : Int32) (y1 : Int32) (y2 : Int32) (y3 : t_S) (Q : t_S → Prop) (hk : t_hk (t_loop (b_X13_pushTextOf_14) n (y0, y1, y2, y3)) Q), mj_G D cy ad bs X cX13_pushTextOf 4 yX13_pushTextOf.cls none yX13_pushTextOf.name 1 0 0 1065 (t_P (fun v s' => v = none ∧ Q (s'))) 14 [(0, .ref 950), (1, .int (y0)), (2, .int (y1)), (3, .int (y2))] [] (t_m y3) 1065 0 0 := by
  intro n
  induction n with
  | zero => intro y0 y1 y2 y3 Q hk; obtain ⟨r, hr, _⟩ := hk; cases hr
  | succ n ih =>
    intro y0 y1 y2 y3 Q hk
    exact B_X13_pushTextOf_14 y0 y1 y2 y3 (fun y => t_lq (b_X13_pushTextOf_14) n Q y) (fun y0' y1' y2' y3' hy => ih y0' y1' y2' y3' Q hy) (t_lp hk)
noncomputable def f_X13_pushTextOf (x1 : Int32) (s : t_S) : Option (t_S) :=
 if t_ix x1 13000 = true then
  (f_X13_push (2 : Int32) (s.2.1 958 (x1.toNatClampNeg)) s).bind (fun r2 =>
 t_loop (b_X13_pushTextOf_14) t_N (x1, r2.1, 0, r2.2))
else none
set_option maxRecDepth 4000 in
set_option maxHeartbeats 1000000 in
theorem C_X13_pushTextOf (x1 : Int32) (s : t_S) (r : t_S) (hr : f_X13_pushTextOf x1 s = some r) : t_C yX13_pushTextOf cX13_pushTextOf 4 none 1 [.ref 950, .int x1] s (fun v s' => v = none ∧ s' = r) := by
  refine t_C.imp (P := fun v s' => v = none ∧ (fun q => q = r) (s')) (t_C.of (by decide +kernel) (Nat.le_of_ble_eq_true rfl) ?_) (fun v s' hp => hp)
  intro D cy ad bs X
  have hk : t_hk (f_X13_pushTextOf x1 s) (fun q => q = r) := ⟨r, hr, rfl⟩
  show mj_G D cy ad bs X cX13_pushTextOf 4 yX13_pushTextOf.cls none yX13_pushTextOf.name 1 0 0 1065 (t_P (fun v s' => v = none ∧ (fun q => q = r) (s'))) 0 [(0, .ref 950), (1, .int x1)] [] (t_m s) 1065 0 0
  refine mj_aload_n dX13_pushTextOf_0 0 rfl ?_
  refine mj_iconst (v := 2) dX13_pushTextOf_1 (by decide) ?_
  refine mj_aload_n dX13_pushTextOf_2 0 rfl ?_
  refine t_getR 958 dX13_pushTextOf_3 F_X13_36 qr_950_20 ?_
  refine mj_iload_n dX13_pushTextOf_6 1 rfl ?_
  refine t_chkK hk (fun c0 hk => ?_)
  refine t_lald dX13_pushTextOf_7 qa_958 (t_ixv c0) ?_
  refine t_bndK hk (fun r2 er2 hk => ?_)
  refine t_callViE dX13_pushTextOf_8 M_X13_push (C_X13_push _ _ _ _ er2) ML_X13_869 IM_X13_push SE_X13_push qc_950 rfl (As := [.int 2, .long (s.2.1 958 (x1.toNatClampNeg))]) rfl rfl (Nat.le_of_ble_eq_true rfl) (Nat.le_of_ble_eq_true rfl) (Nat.le_of_ble_eq_true rfl) (Nat.le_of_ble_eq_true rfl) ?_
  refine mj_istore_n 2 (lv2 := [(2, .int r2.1), (0, .ref 950), (1, .int x1)]) dX13_pushTextOf_11 rfl (by decide) rfl ?_
  refine mj_iconst (v := 0) dX13_pushTextOf_12 (by decide) ?_
  refine mj_istore_n 3 (lv2 := [(3, .int 0), (2, .int r2.1), (0, .ref 950), (1, .int x1)]) dX13_pushTextOf_13 rfl (by decide) rfl ?_
  refine mj_sublv [(0, .ref 950), (1, .int x1), (2, .int r2.1), (3, .int 0)] [2, 3, 1, 0] rfl ?_
  exact LH_X13_pushTextOf_14 _ x1 r2.1 0 r2.2 _ hk

theorem dX13_pushCopy_0 : decode cX13_pushCopy 0 = .ok (.aload_n 0, 1) := by decide +kernel
theorem dX13_pushCopy_1 : decode cX13_pushCopy 1 = .ok (.iload_n 1, 1) := by decide +kernel
theorem dX13_pushCopy_12 : decode cX13_pushCopy 12 = .ok (.aload_n 0, 1) := by decide +kernel
theorem dX13_pushCopy_13 : decode cX13_pushCopy 13 = .ok (.dup, 1) := by decide +kernel
theorem dX13_pushCopy_14 : decode cX13_pushCopy 14 = .ok (.getfield 858, 3) := by decide +kernel
theorem dX13_pushCopy_17 : decode cX13_pushCopy 17 = .ok (.iconst 1, 1) := by decide +kernel
theorem dX13_pushCopy_18 : decode cX13_pushCopy 18 = .ok (.iadd, 1) := by decide +kernel
theorem dX13_pushCopy_19 : decode cX13_pushCopy 19 = .ok (.putfield 858, 3) := by decide +kernel
theorem dX13_pushCopy_2 : decode cX13_pushCopy 2 = .ok (.bipush 40, 2) := by decide +kernel
theorem dX13_pushCopy_22 : decode cX13_pushCopy 22 = .ok (.return_, 1) := by decide +kernel
theorem dX13_pushCopy_4 : decode cX13_pushCopy 4 = .ok (.aload_n 0, 1) := by decide +kernel
theorem dX13_pushCopy_5 : decode cX13_pushCopy 5 = .ok (.getfield 858, 3) := by decide +kernel
theorem dX13_pushCopy_8 : decode cX13_pushCopy 8 = .ok (.iadd, 1) := by decide +kernel
theorem dX13_pushCopy_9 : decode cX13_pushCopy 9 = .ok (.invokevirtual 861, 3) := by decide +kernel
noncomputable def f_X13_pushCopy (x1 : Int32) (s : t_S) : Option (t_S) :=
 (f_X13_copy x1 ((40 : Int32) + (s.1 950 98)) s).bind (fun r1 =>
 t_let (t_setI r1 950 98 ((r1.1 950 98) + (1 : Int32))) (fun s1 =>
 some (s1)))
set_option maxRecDepth 4000 in
set_option maxHeartbeats 1000000 in
theorem C_X13_pushCopy (x1 : Int32) (s : t_S) (r : t_S) (hr : f_X13_pushCopy x1 s = some r) : t_C yX13_pushCopy cX13_pushCopy 2 none 3 [.ref 950, .int x1] s (fun v s' => v = none ∧ s' = r) := by
  refine t_C.imp (P := fun v s' => v = none ∧ (fun q => q = r) (s')) (t_C.of (by decide +kernel) (Nat.le_of_ble_eq_true rfl) ?_) (fun v s' hp => hp)
  intro D cy ad bs X
  have hk : t_hk (f_X13_pushCopy x1 s) (fun q => q = r) := ⟨r, hr, rfl⟩
  show mj_G D cy ad bs X cX13_pushCopy 2 yX13_pushCopy.cls none yX13_pushCopy.name 3 0 0 1065 (t_P (fun v s' => v = none ∧ (fun q => q = r) (s'))) 0 [(0, .ref 950), (1, .int x1)] [] (t_m s) 1065 0 0
  refine mj_aload_n dX13_pushCopy_0 0 rfl ?_
  refine mj_iload_n dX13_pushCopy_1 1 rfl ?_
  refine mj_bipush (v := 40) dX13_pushCopy_2 (by decide) ?_
  refine mj_aload_n dX13_pushCopy_4 0 rfl ?_
  refine t_getI dX13_pushCopy_5 F_X13_858 qf_950_98 ?_
  refine mj_iadd dX13_pushCopy_8 ?_
  refine t_bndK hk (fun r1 er1 hk => ?_)
  refine t_callVvE dX13_pushCopy_9 M_X13_copy (C_X13_copy _ _ _ _ er1) ML_X13_861 IM_X13_copy SE_X13_copy qc_950 rfl (As := [.int x1, .int ((40 : Int32) + (s.1 950 98))]) rfl rfl (Nat.le_of_ble_eq_true rfl) (Nat.le_of_ble_eq_true rfl) (Nat.le_of_ble_eq_true rfl) (Nat.le_of_ble_eq_true rfl) ?_
  refine mj_aload_n dX13_pushCopy_12 0 rfl ?_
  refine mj_dup dX13_pushCopy_13 rfl ?_
  refine t_getI dX13_pushCopy_14 F_X13_858 qf_950_98 ?_
  refine mj_iconst (v := 1) dX13_pushCopy_17 (by decide) ?_
  refine mj_iadd dX13_pushCopy_18 ?_
  refine t_putIK dX13_pushCopy_19 F_X13_858 qf_950_98 rfl (fun s1 ws1 => t_letE hk ws1 (fun hk => ?_))
  exact t_somK hk (fun hf => t_vret dX13_pushCopy_22 rfl ⟨rfl, hf⟩ (Nat.le_of_ble_eq_true rfl) (Nat.le_of_ble_eq_true rfl))

theorem dX13_componentOf_0 : decode cX13_componentOf 0 = .ok (.iload_n 1, 1) := by decide +kernel
theorem dX13_componentOf_1 : decode cX13_componentOf 1 = .ok (.sipush 2000, 3) := by decide +kernel
theorem dX13_componentOf_11 : decode cX13_componentOf 11 = .ok (.if_icmp .ge 27, 3) := by decide +kernel
theorem dX13_componentOf_14 : decode cX13_componentOf 14 = .ok (.aload_n 0, 1) := by decide +kernel
theorem dX13_componentOf_15 : decode cX13_componentOf 15 = .ok (.aload_n 0, 1) := by decide +kernel
theorem dX13_componentOf_16 : decode cX13_componentOf 16 = .ok (.getfield 72, 3) := by decide +kernel
theorem dX13_componentOf_19 : decode cX13_componentOf 19 = .ok (.iconst 0, 1) := by decide +kernel
theorem dX13_componentOf_20 : decode cX13_componentOf 20 = .ok (.aload_n 0, 1) := by decide +kernel
theorem dX13_componentOf_21 : decode cX13_componentOf 21 = .ok (.getfield 630, 3) := by decide +kernel
theorem dX13_componentOf_24 : decode cX13_componentOf 24 = .ok (.aload_n 0, 1) := by decide +kernel
theorem dX13_componentOf_25 : decode cX13_componentOf 25 = .ok (.getfield 108, 3) := by decide +kernel
theorem dX13_componentOf_28 : decode cX13_componentOf 28 = .ok (.iload_n 1, 1) := by decide +kernel
theorem dX13_componentOf_29 : decode cX13_componentOf 29 = .ok (.sipush 2000, 3) := by decide +kernel
theorem dX13_componentOf_32 : decode cX13_componentOf 32 = .ok (.isub, 1) := by decide +kernel
theorem dX13_componentOf_33 : decode cX13_componentOf 33 = .ok (.iaload, 1) := by decide +kernel
theorem dX13_componentOf_34 : decode cX13_componentOf 34 = .ok (.invokevirtual 788, 3) := by decide +kernel
theorem dX13_componentOf_37 : decode cX13_componentOf 37 = .ok (.ireturn, 1) := by decide +kernel
theorem dX13_componentOf_38 : decode cX13_componentOf 38 = .ok (.iload_n 1, 1) := by decide +kernel
theorem dX13_componentOf_39 : decode cX13_componentOf 39 = .ok (.sipush 1000, 3) := by decide +kernel
theorem dX13_componentOf_4 : decode cX13_componentOf 4 = .ok (.if_icmp .lt 34, 3) := by decide +kernel
theorem dX13_componentOf_42 : decode cX13_componentOf 42 = .ok (.if_icmp .lt 18, 3) := by decide +kernel
theorem dX13_componentOf_45 : decode cX13_componentOf 45 = .ok (.iload_n 1, 1) := by decide +kernel
theorem dX13_componentOf_46 : decode cX13_componentOf 46 = .ok (.sipush 2000, 3) := by decide +kernel
theorem dX13_componentOf_49 : decode cX13_componentOf 49 = .ok (.if_icmp .ge 11, 3) := by decide +kernel
theorem dX13_componentOf_52 : decode cX13_componentOf 52 = .ok (.iload_n 1, 1) := by decide +kernel
theorem dX13_componentOf_53 : decode cX13_componentOf 53 = .ok (.sipush 1000, 3) := by decide +kernel
theorem dX13_componentOf_56 : decode cX13_componentOf 56 = .ok (.isub, 1) := by decide +kernel
theorem dX13_componentOf_57 : decode cX13_componentOf 57 = .ok (.goto 4, 3) := by decide +kernel
theorem dX13_componentOf_60 : decode cX13_componentOf 60 = .ok (.iconst (-1), 1) := by decide +kernel
theorem dX13_componentOf_61 : decode cX13_componentOf 61 = .ok (.ireturn, 1) := by decide +kernel
theorem dX13_componentOf_7 : decode cX13_componentOf 7 = .ok (.iload_n 1, 1) := by decide +kernel
theorem dX13_componentOf_8 : decode cX13_componentOf 8 = .ok (.sipush 3000, 3) := by decide +kernel
noncomputable def k_X13_componentOf_38 (l1 : Int32) (s : t_S) : Option (Int32) :=
 if l1 < (1000 : Int32) then (some (-1 : Int32))
 else (if (2000 : Int32) ≤ l1 then (some (-1 : Int32))
 else (some (l1 - (1000 : Int32))))
set_option maxRecDepth 4000 in
set_option maxHeartbeats 1000000 in
theorem B_X13_componentOf_38 {D : va_G} {cy : Nat → ClassId} {ad : Nat → Nat} {bs : Nat} {X : State → Heap → Prop} (l1 : Int32) (s : t_S) (Q : Int32 → Prop) (hk : t_hk (k_X13_componentOf_38 l1 s) Q) : mj_G D cy ad bs X cX13_componentOf 2 yX13_componentOf.cls (some .int) yX13_componentOf.name 1 0 0 1065 (t_P (fun v s' => s' = s ∧ ∃ x, v = some (.int x) ∧ Q (x))) 38 [(1, .int l1)] [] (t_m s) 1065 0 0 := by
  refine mj_iload_n dX13_componentOf_38 0 rfl ?_
  refine mj_sipush (v := 1000) dX13_componentOf_39 (by decide) ?_
  refine mj_icmp_lt 60 dX13_componentOf_42 (by decide) (fun z => t_posK hk z (fun hk => ?_)) (fun z => t_negK hk z (fun hk => ?_))
  · refine mj_iconst (v := (-1)) dX13_componentOf_60 (by decide) ?_
    exact t_somK hk (fun hf => t_iret dX13_componentOf_61 rfl rfl ⟨rfl, _, rfl, hf⟩ (Nat.le_of_ble_eq_true rfl) (Nat.le_of_ble_eq_true rfl))
  · refine mj_iload_n dX13_componentOf_45 0 rfl ?_
    refine mj_sipush (v := 2000) dX13_componentOf_46 (by decide) ?_
    refine mj_icmp_ge 60 dX13_componentOf_49 (by decide) (fun z => t_posK hk z (fun hk => ?_)) (fun z => t_negK hk z (fun hk => ?_))
    · refine mj_iconst (v := (-1)) dX13_componentOf_60 (by decide) ?_
      exact t_somK hk (fun hf => t_iret dX13_componentOf_61 rfl rfl ⟨rfl, _, rfl, hf⟩ (Nat.le_of_ble_eq_true rfl) (Nat.le_of_ble_eq_true rfl))
    · refine mj_iload_n dX13_componentOf_52 0 rfl ?_
      refine mj_sipush (v := 1000) dX13_componentOf_53 (by decide) ?_
      refine mj_isub dX13_componentOf_56 ?_
      refine mj_goto 61 dX13_componentOf_57 (by decide) ?_
      exact t_somK hk (fun hf => t_iret dX13_componentOf_61 rfl rfl ⟨rfl, _, rfl, hf⟩ (Nat.le_of_ble_eq_true rfl) (Nat.le_of_ble_eq_true rfl))
noncomputable def f_X13_componentOf (x1 : Int32) (s : t_S) : Option (Int32) :=
 if x1 < (2000 : Int32) then (k_X13_componentOf_38 x1 s)
 else (if (3000 : Int32) ≤ x1 then (k_X13_componentOf_38 x1 s)
 else (if t_ix (x1 - (2000 : Int32)) 40 = true then
  (f_X13_find 970 (0 : Int32) (s.1 950 55) (s.1 982 ((x1 - (2000 : Int32)).toNatClampNeg)) s).bind (fun r2 =>
 some (r2))
else none))
set_option maxRecDepth 4000 in
set_option maxHeartbeats 1000000 in
theorem C_X13_componentOf (x1 : Int32) (s : t_S) (r : Int32) (hr : f_X13_componentOf x1 s = some r) : t_C yX13_componentOf cX13_componentOf 2 (some .int) 1 [.ref 950, .int x1] s (fun v s' => v = some (.int r) ∧ s' = s) := by
  refine t_C.imp (P := fun v s' => s' = s ∧ ∃ x, v = some (.int x) ∧ (fun q => q = r) (x)) (t_C.of (by decide +kernel) (Nat.le_of_ble_eq_true rfl) ?_) (fun v s' hp => by obtain ⟨rfl, x, rfl, rfl⟩ := hp; exact ⟨rfl, rfl⟩)
  intro D cy ad bs X
  have hk : t_hk (f_X13_componentOf x1 s) (fun q => q = r) := ⟨r, hr, rfl⟩
  show mj_G D cy ad bs X cX13_componentOf 2 yX13_componentOf.cls (some .int) yX13_componentOf.name 1 0 0 1065 (t_P (fun v s' => s' = s ∧ ∃ x, v = some (.int x) ∧ (fun q => q = r) (x))) 0 [(0, .ref 950), (1, .int x1)] [] (t_m s) 1065 0 0
  refine mj_iload_n dX13_componentOf_0 1 rfl ?_
  refine mj_sipush (v := 2000) dX13_componentOf_1 (by decide) ?_
  refine mj_icmp_lt 38 dX13_componentOf_4 (by decide) (fun z => t_posK hk z (fun hk => ?_)) (fun z => t_negK hk z (fun hk => ?_))
  · refine mj_sublv [(1, .int x1)] [1] rfl ?_
    exact B_X13_componentOf_38 _ _ _ hk
  · refine mj_iload_n dX13_componentOf_7 1 rfl ?_
    refine mj_sipush (v := 3000) dX13_componentOf_8 (by decide) ?_
    refine mj_icmp_ge 38 dX13_componentOf_11 (by decide) (fun z => t_posK hk z (fun hk => ?_)) (fun z => t_negK hk z (fun hk => ?_))
    · refine mj_sublv [(1, .int x1)] [1] rfl ?_
      exact B_X13_componentOf_38 _ _ _ hk
    · refine mj_aload_n dX13_componentOf_14 0 rfl ?_
      refine mj_aload_n dX13_componentOf_15 0 rfl ?_
      refine t_getR 970 dX13_componentOf_16 F_X13_72 qr_950_45 ?_
      refine mj_iconst (v := 0) dX13_componentOf_19 (by decide) ?_
      refine mj_aload_n dX13_componentOf_20 0 rfl ?_
      refine t_getI dX13_componentOf_21 F_X13_630 qf_950_55 ?_
      refine mj_aload_n dX13_componentOf_24 0 rfl ?_
      refine t_getR 982 dX13_componentOf_25 F_X13_108 qr_950_58 ?_
      refine mj_iload_n dX13_componentOf_28 1 rfl ?_
      refine mj_sipush (v := 2000) dX13_componentOf_29 (by decide) ?_
      refine mj_isub dX13_componentOf_32 ?_
      refine t_chkK hk (fun c0 hk => ?_)
      refine t_iald dX13_componentOf_33 qa_982 (t_ixv c0) ?_
      refine t_bndK hk (fun r2 er2 hk => ?_)
      refine t_callViP dX13_componentOf_34 M_X13_find (C_X13_find _ _ _ _ _ _ er2) ML_X13_788 IM_X13_find SE_X13_find qc_950 rfl (As := [.ref 970, .int 0, .int (s.1 950 55), .int (s.1 982 ((x1 - (2000 : Int32)).toNatClampNeg))]) rfl rfl (Nat.le_of_ble_eq_true rfl) (Nat.le_of_ble_eq_true rfl) (Nat.le_of_ble_eq_true rfl) (Nat.le_of_ble_eq_true rfl) ?_
      exact t_somK hk (fun hf => t_iret dX13_componentOf_37 rfl rfl ⟨rfl, _, rfl, hf⟩ (Nat.le_of_ble_eq_true rfl) (Nat.le_of_ble_eq_true rfl))

