/-! Methods as functions, 34: X6_readPlain -/
theorem dX6_readPlain_0 : decode cX6_readPlain 0 = .ok (.aload_n 0, 1) := by decide +kernel
theorem dX6_readPlain_1 : decode cX6_readPlain 1 = .ok (.getfield 48, 3) := by decide +kernel
theorem dX6_readPlain_10 : decode cX6_readPlain 10 = .ok (.iload_n 2, 1) := by decide +kernel
theorem dX6_readPlain_100 : decode cX6_readPlain 100 = .ok (.aload_n 0, 1) := by decide +kernel
theorem dX6_readPlain_101 : decode cX6_readPlain 101 = .ok (.iload_n 1, 1) := by decide +kernel
theorem dX6_readPlain_102 : decode cX6_readPlain 102 = .ok (.invokevirtual 558, 3) := by decide +kernel
theorem dX6_readPlain_105 : decode cX6_readPlain 105 = .ok (.goto 161, 3) := by decide +kernel
theorem dX6_readPlain_108 : decode cX6_readPlain 108 = .ok (.aload_n 0, 1) := by decide +kernel
theorem dX6_readPlain_109 : decode cX6_readPlain 109 = .ok (.getfield 28, 3) := by decide +kernel
theorem dX6_readPlain_11 : decode cX6_readPlain 11 = .ok (.tableswitch 255 1 19 #[89, 255, 255, 255, 97, 120, 135, 196, 207, 255, 255, 255, 255, 225, 244, 255, 255, 255, 97], 89) := by decide +kernel
theorem dX6_readPlain_112 : decode cX6_readPlain 112 = .ok (.getfield 85, 3) := by decide +kernel
theorem dX6_readPlain_115 : decode cX6_readPlain 115 = .ok (.bipush 59, 2) := by decide +kernel
theorem dX6_readPlain_117 : decode cX6_readPlain 117 = .ok (.if_icmp .eq 149, 3) := by decide +kernel
theorem dX6_readPlain_120 : decode cX6_readPlain 120 = .ok (.aload_n 3, 1) := by decide +kernel
theorem dX6_readPlain_121 : decode cX6_readPlain 121 = .ok (.iconst 5, 1) := by decide +kernel
theorem dX6_readPlain_122 : decode cX6_readPlain 122 = .ok (.aload_n 0, 1) := by decide +kernel
theorem dX6_readPlain_123 : decode cX6_readPlain 123 = .ok (.iconst (-1), 1) := by decide +kernel
theorem dX6_readPlain_124 : decode cX6_readPlain 124 = .ok (.invokevirtual 120, 3) := by decide +kernel
theorem dX6_readPlain_127 : decode cX6_readPlain 127 = .ok (.iastore, 1) := by decide +kernel
theorem dX6_readPlain_128 : decode cX6_readPlain 128 = .ok (.goto 138, 3) := by decide +kernel
theorem dX6_readPlain_131 : decode cX6_readPlain 131 = .ok (.aload_n 0, 1) := by decide +kernel
theorem dX6_readPlain_132 : decode cX6_readPlain 132 = .ok (.iload_n 1, 1) := by decide +kernel
theorem dX6_readPlain_133 : decode cX6_readPlain 133 = .ok (.bipush 9, 2) := by decide +kernel
theorem dX6_readPlain_135 : decode cX6_readPlain 135 = .ok (.invokevirtual 561, 3) := by decide +kernel
theorem dX6_readPlain_138 : decode cX6_readPlain 138 = .ok (.aload_n 0, 1) := by decide +kernel
theorem dX6_readPlain_139 : decode cX6_readPlain 139 = .ok (.iload_n 1, 1) := by decide +kernel
theorem dX6_readPlain_140 : decode cX6_readPlain 140 = .ok (.invokevirtual 564, 3) := by decide +kernel
theorem dX6_readPlain_143 : decode cX6_readPlain 143 = .ok (.goto 123, 3) := by decide +kernel
theorem dX6_readPlain_146 : decode cX6_readPlain 146 = .ok (.aload_n 3, 1) := by decide +kernel
theorem dX6_readPlain_147 : decode cX6_readPlain 147 = .ok (.bipush 6, 2) := by decide +kernel
theorem dX6_readPlain_149 : decode cX6_readPlain 149 = .ok (.iconst 1, 1) := by decide +kernel
theorem dX6_readPlain_150 : decode cX6_readPlain 150 = .ok (.aload_n 0, 1) := by decide +kernel
theorem dX6_readPlain_151 : decode cX6_readPlain 151 = .ok (.getfield 28, 3) := by decide +kernel
theorem dX6_readPlain_154 : decode cX6_readPlain 154 = .ok (.getfield 85, 3) := by decide +kernel
theorem dX6_readPlain_157 : decode cX6_readPlain 157 = .ok (.iadd, 1) := by decide +kernel
theorem dX6_readPlain_158 : decode cX6_readPlain 158 = .ok (.sipush 244, 3) := by decide +kernel
theorem dX6_readPlain_161 : decode cX6_readPlain 161 = .ok (.isub, 1) := by decide +kernel
theorem dX6_readPlain_162 : decode cX6_readPlain 162 = .ok (.iastore, 1) := by decide +kernel
theorem dX6_readPlain_163 : decode cX6_readPlain 163 = .ok (.aload_n 0, 1) := by decide +kernel
theorem dX6_readPlain_164 : decode cX6_readPlain 164 = .ok (.getfield 28, 3) := by decide +kernel
theorem dX6_readPlain_167 : decode cX6_readPlain 167 = .ok (.getfield 85, 3) := by decide +kernel
theorem dX6_readPlain_170 : decode cX6_readPlain 170 = .ok (.sipush 244, 3) := by decide +kernel
theorem dX6_readPlain_173 : decode cX6_readPlain 173 = .ok (.if_icmp .lt 16, 3) := by decide +kernel
theorem dX6_readPlain_176 : decode cX6_readPlain 176 = .ok (.aload_n 0, 1) := by decide +kernel
theorem dX6_readPlain_177 : decode cX6_readPlain 177 = .ok (.getfield 28, 3) := by decide +kernel
theorem dX6_readPlain_180 : decode cX6_readPlain 180 = .ok (.getfield 85, 3) := by decide +kernel
theorem dX6_readPlain_183 : decode cX6_readPlain 183 = .ok (.sipush 246, 3) := by decide +kernel
theorem dX6_readPlain_186 : decode cX6_readPlain 186 = .ok (.if_icmp .le 11, 3) := by decide +kernel
theorem dX6_readPlain_189 : decode cX6_readPlain 189 = .ok (.aload_n 0, 1) := by decide +kernel
theorem dX6_readPlain_190 : decode cX6_readPlain 190 = .ok (.getfield 28, 3) := by decide +kernel
theorem dX6_readPlain_193 : decode cX6_readPlain 193 = .ok (.iconst 2, 1) := by decide +kernel
theorem dX6_readPlain_194 : decode cX6_readPlain 194 = .ok (.invokevirtual 100, 3) := by decide +kernel
theorem dX6_readPlain_197 : decode cX6_readPlain 197 = .ok (.aload_n 0, 1) := by decide +kernel
theorem dX6_readPlain_198 : decode cX6_readPlain 198 = .ok (.getfield 28, 3) := by decide +kernel
theorem dX6_readPlain_201 : decode cX6_readPlain 201 = .ok (.invokevirtual 170, 3) := by decide +kernel
theorem dX6_readPlain_204 : decode cX6_readPlain 204 = .ok (.goto 62, 3) := by decide +kernel
theorem dX6_readPlain_207 : decode cX6_readPlain 207 = .ok (.aload_n 3, 1) := by decide +kernel
theorem dX6_readPlain_208 : decode cX6_readPlain 208 = .ok (.iconst 5, 1) := by decide +kernel
theorem dX6_readPlain_209 : decode cX6_readPlain 209 = .ok (.aload_n 0, 1) := by decide +kernel
theorem dX6_readPlain_210 : decode cX6_readPlain 210 = .ok (.iconst (-1), 1) := by decide +kernel
theorem dX6_readPlain_211 : decode cX6_readPlain 211 = .ok (.invokevirtual 120, 3) := by decide +kernel
theorem dX6_readPlain_214 : decode cX6_readPlain 214 = .ok (.iastore, 1) := by decide +kernel
theorem dX6_readPlain_215 : decode cX6_readPlain 215 = .ok (.goto 51, 3) := by decide +kernel
theorem dX6_readPlain_218 : decode cX6_readPlain 218 = .ok (.aload_n 0, 1) := by decide +kernel
theorem dX6_readPlain_219 : decode cX6_readPlain 219 = .ok (.iconst 5, 1) := by decide +kernel
theorem dX6_readPlain_220 : decode cX6_readPlain 220 = .ok (.iload_n 1, 1) := by decide +kernel
theorem dX6_readPlain_221 : decode cX6_readPlain 221 = .ok (.iconst 0, 1) := by decide +kernel
theorem dX6_readPlain_222 : decode cX6_readPlain 222 = .ok (.invokevirtual 250, 3) := by decide +kernel
theorem dX6_readPlain_225 : decode cX6_readPlain 225 = .ok (.aload_n 3, 1) := by decide +kernel
theorem dX6_readPlain_226 : decode cX6_readPlain 226 = .ok (.iconst 5, 1) := by decide +kernel
theorem dX6_readPlain_227 : decode cX6_readPlain 227 = .ok (.aload_n 0, 1) := by decide +kernel
theorem dX6_readPlain_228 : decode cX6_readPlain 228 = .ok (.iconst (-1), 1) := by decide +kernel
theorem dX6_readPlain_229 : decode cX6_readPlain 229 = .ok (.invokevirtual 120, 3) := by decide +kernel
theorem dX6_readPlain_232 : decode cX6_readPlain 232 = .ok (.iastore, 1) := by decide +kernel
theorem dX6_readPlain_233 : decode cX6_readPlain 233 = .ok (.goto 33, 3) := by decide +kernel
theorem dX6_readPlain_236 : decode cX6_readPlain 236 = .ok (.aload_n 0, 1) := by decide +kernel
theorem dX6_readPlain_237 : decode cX6_readPlain 237 = .ok (.bipush 6, 2) := by decide +kernel
theorem dX6_readPlain_239 : decode cX6_readPlain 239 = .ok (.iload_n 1, 1) := by decide +kernel
theorem dX6_readPlain_240 : decode cX6_readPlain 240 = .ok (.iconst 0, 1) := by decide +kernel
theorem dX6_readPlain_241 : decode cX6_readPlain 241 = .ok (.invokevirtual 250, 3) := by decide +kernel
theorem dX6_readPlain_244 : decode cX6_readPlain 244 = .ok (.aload_n 3, 1) := by decide +kernel
theorem dX6_readPlain_245 : decode cX6_readPlain 245 = .ok (.iconst 5, 1) := by decide +kernel
theorem dX6_readPlain_246 : decode cX6_readPlain 246 = .ok (.aload_n 0, 1) := by decide +kernel
theorem dX6_readPlain_247 : decode cX6_readPlain 247 = .ok (.iconst (-1), 1) := by decide +kernel
theorem dX6_readPlain_248 : decode cX6_readPlain 248 = .ok (.invokevirtual 120, 3) := by decide +kernel
theorem dX6_readPlain_251 : decode cX6_readPlain 251 = .ok (.iastore, 1) := by decide +kernel
theorem dX6_readPlain_252 : decode cX6_readPlain 252 = .ok (.goto 14, 3) := by decide +kernel
theorem dX6_readPlain_255 : decode cX6_readPlain 255 = .ok (.aload_n 0, 1) := by decide +kernel
theorem dX6_readPlain_256 : decode cX6_readPlain 256 = .ok (.bipush 6, 2) := by decide +kernel
theorem dX6_readPlain_258 : decode cX6_readPlain 258 = .ok (.iload_n 1, 1) := by decide +kernel
theorem dX6_readPlain_259 : decode cX6_readPlain 259 = .ok (.iconst 0, 1) := by decide +kernel
theorem dX6_readPlain_260 : decode cX6_readPlain 260 = .ok (.invokevirtual 250, 3) := by decide +kernel
theorem dX6_readPlain_263 : decode cX6_readPlain 263 = .ok (.goto 3, 3) := by decide +kernel
theorem dX6_readPlain_266 : decode cX6_readPlain 266 = .ok (.return_, 1) := by decide +kernel
theorem dX6_readPlain_4 : decode cX6_readPlain 4 = .ok (.getfield 531, 3) := by decide +kernel
theorem dX6_readPlain_7 : decode cX6_readPlain 7 = .ok (.iload_n 1, 1) := by decide +kernel
theorem dX6_readPlain_8 : decode cX6_readPlain 8 = .ok (.aaload, 1) := by decide +kernel
theorem dX6_readPlain_9 : decode cX6_readPlain 9 = .ok (.astore_n 3, 1) := by decide +kernel
noncomputable def k_X6_readPlain_197 (s : t_S) : Option (t_S) :=
 (f_X2_advance s).bind (fun r1 =>
 some (r1))
set_option maxRecDepth 4000 in
set_option maxHeartbeats 1000000 in
theorem B_X6_readPlain_197 {D : va_G} {cy : Nat → ClassId} {ad : Nat → Nat} {bs : Nat} {X : State → Heap → Prop} (s : t_S) (Q : t_S → Prop) (hk : t_hk (k_X6_readPlain_197 s) Q) : mj_G D cy ad bs X cX6_readPlain 4 yX6_readPlain.cls none yX6_readPlain.name 255 0 0 1065 (t_P (fun v s' => v = none ∧ Q (s'))) 197 [(0, .ref 845)] [] (t_m s) 1065 0 0 := by
  refine mj_aload_n dX6_readPlain_197 0 rfl ?_
  refine t_getR 1 dX6_readPlain_198 F_X6_28 qr_845_0 ?_
  refine t_bndK hk (fun r1 er1 hk => ?_)
  refine t_callVvE dX6_readPlain_201 M_X2_advance (C_X2_advance _ _ er1) ML_X6_170 IM_X2_advance SE_X2_advance qc_1 rfl (As := []) rfl rfl (Nat.le_of_ble_eq_true rfl) (Nat.le_of_ble_eq_true rfl) (Nat.le_of_ble_eq_true rfl) (Nat.le_of_ble_eq_true rfl) ?_
  refine mj_goto 266 dX6_readPlain_204 (by decide) ?_
  exact t_somK hk (fun hf => t_vret dX6_readPlain_266 rfl ⟨rfl, hf⟩ (Nat.le_of_ble_eq_true rfl) (Nat.le_of_ble_eq_true rfl))
noncomputable def k_X6_readPlain_189 (s : t_S) : Option (t_S) :=
 (f_X2_fail (2 : Int32) s).bind (fun r1 =>
 k_X6_readPlain_197 r1)
set_option maxRecDepth 4000 in
set_option maxHeartbeats 1000000 in
theorem B_X6_readPlain_189 {D : va_G} {cy : Nat → ClassId} {ad : Nat → Nat} {bs : Nat} {X : State → Heap → Prop} (s : t_S) (Q : t_S → Prop) (hk : t_hk (k_X6_readPlain_189 s) Q) : mj_G D cy ad bs X cX6_readPlain 4 yX6_readPlain.cls none yX6_readPlain.name 255 0 0 1065 (t_P (fun v s' => v = none ∧ Q (s'))) 189 [(0, .ref 845)] [] (t_m s) 1065 0 0 := by
  refine mj_aload_n dX6_readPlain_189 0 rfl ?_
  refine t_getR 1 dX6_readPlain_190 F_X6_28 qr_845_0 ?_
  refine mj_iconst (v := 2) dX6_readPlain_193 (by decide) ?_
  refine t_bndK hk (fun r1 er1 hk => ?_)
  refine t_callVvE dX6_readPlain_194 M_X2_fail (C_X2_fail _ _ _ er1) ML_X6_100 IM_X2_fail SE_X2_fail qc_1 rfl (As := [.int 2]) rfl rfl (Nat.le_of_ble_eq_true rfl) (Nat.le_of_ble_eq_true rfl) (Nat.le_of_ble_eq_true rfl) (Nat.le_of_ble_eq_true rfl) ?_
  exact B_X6_readPlain_197 _ _ hk
noncomputable def f_X6_readPlain (x1 : Int32) (x2 : Int32) (s : t_S) : Option (t_S) :=
 if t_ix x1 400 = true then
  if x2.toInt < 1 ∨ 19 < x2.toInt then (some (s))
 else if x2.toInt = 1 then ((f_X6_readVar x1 s).bind (fun r2 =>
 some (r2)))
 else if x2.toInt = 2 then (some (s))
 else if x2.toInt = 3 then (some (s))
 else if x2.toInt = 4 then (some (s))
 else if x2.toInt = 5 then (if (s.1 1 8) = (59 : Int32) then (some (s))
 else ((f_X6_readExp (-1 : Int32) s).bind (fun r3 =>
 t_let (t_setI r3.2 (445 + 1 * (x1.toNatClampNeg)) ((5 : Int32).toNatClampNeg) r3.1) (fun s1 =>
 some (s1)))))
 else if x2.toInt = 6 then ((f_X6_readCall x1 (9 : Int32) s).bind (fun r4 =>
 (f_X6_readInto x1 r4).bind (fun r5 =>
 some (r5))))
 else if x2.toInt = 7 then (t_let (t_setI s (445 + 1 * (x1.toNatClampNeg)) ((6 : Int32).toNatClampNeg) (((1 : Int32) + (s.1 1 8)) - (244 : Int32))) (fun s2 =>
 if (s2.1 1 8) < (244 : Int32) then (k_X6_readPlain_189 s2)
 else (if (s2.1 1 8) ≤ (246 : Int32) then (k_X6_readPlain_197 s2)
 else (k_X6_readPlain_189 s2))))
 else if x2.toInt = 8 then ((f_X6_readExp (-1 : Int32) s).bind (fun r6 =>
 t_let (t_setI r6.2 (445 + 1 * (x1.toNatClampNeg)) ((5 : Int32).toNatClampNeg) r6.1) (fun s3 =>
 some (s3))))
 else if x2.toInt = 9 then ((f_X6_link (5 : Int32) x1 (0 : Int32) s).bind (fun r7 =>
 (f_X6_readExp (-1 : Int32) r7).bind (fun r8 =>
 t_let (t_setI r8.2 (445 + 1 * (x1.toNatClampNeg)) ((5 : Int32).toNatClampNeg) r8.1) (fun s4 =>
 some (s4)))))
 else if x2.toInt = 10 then (some (s))
 else if x2.toInt = 11 then (some (s))
 else if x2.toInt = 12 then (some (s))
 else if x2.toInt = 13 then (some (s))
 else if x2.toInt = 14 then ((f_X6_link (6 : Int32) x1 (0 : Int32) s).bind (fun r9 =>
 (f_X6_readExp (-1 : Int32) r9).bind (fun r10 =>
 t_let (t_setI r10.2 (445 + 1 * (x1.toNatClampNeg)) ((5 : Int32).toNatClampNeg) r10.1) (fun s5 =>
 some (s5)))))
 else if x2.toInt = 15 then ((f_X6_link (6 : Int32) x1 (0 : Int32) s).bind (fun r11 =>
 some (r11)))
 else if x2.toInt = 16 then (some (s))
 else if x2.toInt = 17 then (some (s))
 else if x2.toInt = 18 then (some (s))
 else (if (s.1 1 8) = (59 : Int32) then (some (s))
 else ((f_X6_readExp (-1 : Int32) s).bind (fun r12 =>
 t_let (t_setI r12.2 (445 + 1 * (x1.toNatClampNeg)) ((5 : Int32).toNatClampNeg) r12.1) (fun s6 =>
 some (s6)))))
else none
set_option maxRecDepth 4000 in
set_option maxHeartbeats 1000000 in
theorem C_X6_readPlain (x1 : Int32) (x2 : Int32) (s : t_S) (r : t_S) (hr : f_X6_readPlain x1 x2 s = some r) : t_C yX6_readPlain cX6_readPlain 4 none 255 [.ref 845, .int x1, .int x2] s (fun v s' => v = none ∧ s' = r) := by
  refine t_C.imp (P := fun v s' => v = none ∧ (fun q => q = r) (s')) (t_C.of (by decide +kernel) (Nat.le_of_ble_eq_true rfl) ?_) (fun v s' hp => hp)
  intro D cy ad bs X
  have hk : t_hk (f_X6_readPlain x1 x2 s) (fun q => q = r) := ⟨r, hr, rfl⟩
  show mj_G D cy ad bs X cX6_readPlain 4 yX6_readPlain.cls none yX6_readPlain.name 255 0 0 1065 (t_P (fun v s' => v = none ∧ (fun q => q = r) (s'))) 0 [(0, .ref 845), (1, .int x1), (2, .int x2)] [] (t_m s) 1065 0 0
  refine mj_aload_n dX6_readPlain_0 0 rfl ?_
  refine t_getR 428 dX6_readPlain_1 F_X6_48 qr_845_4 ?_
  refine t_getR 444 dX6_readPlain_4 F_X6_531 qr_428_17 ?_
  refine mj_iload_n dX6_readPlain_7 1 rfl ?_
  refine t_chkK hk (fun c0 hk => ?_)
  refine t_aaldI dX6_readPlain_8 qq_444 (t_ixv c0) ?_
  refine mj_astore_n 3 (lv2 := [(3, .ref (445 + 1 * (x1.toNatClampNeg))), (0, .ref 845), (1, .int x1), (2, .int x2)]) dX6_readPlain_9 rfl (by decide) rfl ?_
  refine mj_iload_n dX6_readPlain_10 3 rfl ?_
  by_cases hout : x2.toInt < 1 ∨ 19 < x2.toInt
  · replace hk := t_pos hk hout
    refine mj_tableOut 266 dX6_readPlain_11 hout (by decide) ?_
    exact t_somK hk (fun hf => t_vret dX6_readPlain_266 rfl ⟨rfl, hf⟩ (Nat.le_of_ble_eq_true rfl) (Nat.le_of_ble_eq_true rfl))
  · replace hk := t_neg hk hout
    have hh1 : ¬ x2.toInt < 1 := fun z => hout (Or.inl z)
    have hh2 : ¬ (19 : Int) < x2.toInt := fun z => hout (Or.inr z)
    by_cases h0 : x2.toInt = 1
    · replace hk := t_pos hk h0
      refine mj_tableIn 100 dX6_readPlain_11 hh1 hh2 (by rw [h0]; rfl) (by decide) ?_
      refine mj_aload_n dX6_readPlain_100 1 rfl ?_
      refine mj_iload_n dX6_readPlain_101 2 rfl ?_
      refine t_bndK hk (fun r2 er2 hk => ?_)
      refine t_callVvE dX6_readPlain_102 M_X6_readVar (C_X6_readVar _ _ _ er2) ML_X6_558 IM_X6_readVar SE_X6_readVar qc_845 rfl (As := [.int x1]) rfl rfl (Nat.le_of_ble_eq_true rfl) (Nat.le_of_ble_eq_true rfl) (Nat.le_of_ble_eq_true rfl) (Nat.le_of_ble_eq_true rfl) ?_
      refine mj_goto 266 dX6_readPlain_105 (by decide) ?_
      exact t_somK hk (fun hf => t_vret dX6_readPlain_266 rfl ⟨rfl, hf⟩ (Nat.le_of_ble_eq_true rfl) (Nat.le_of_ble_eq_true rfl))
    replace hk := t_neg hk h0
    by_cases h1 : x2.toInt = 2
    · replace hk := t_pos hk h1
      refine mj_tableIn 266 dX6_readPlain_11 hh1 hh2 (by rw [h1]; rfl) (by decide) ?_
      exact t_somK hk (fun hf => t_vret dX6_readPlain_266 rfl ⟨rfl, hf⟩ (Nat.le_of_ble_eq_true rfl) (Nat.le_of_ble_eq_true rfl))
    replace hk := t_neg hk h1
    by_cases h2 : x2.toInt = 3
    · replace hk := t_pos hk h2
      refine mj_tableIn 266 dX6_readPlain_11 hh1 hh2 (by rw [h2]; rfl) (by decide) ?_
      exact t_somK hk (fun hf => t_vret dX6_readPlain_266 rfl ⟨rfl, hf⟩ (Nat.le_of_ble_eq_true rfl) (Nat.le_of_ble_eq_true rfl))
    replace hk := t_neg hk h2
    by_cases h3 : x2.toInt = 4
    · replace hk := t_pos hk h3
      refine mj_tableIn 266 dX6_readPlain_11 hh1 hh2 (by rw [h3]; rfl) (by decide) ?_
      exact t_somK hk (fun hf => t_vret dX6_readPlain_266 rfl ⟨rfl, hf⟩ (Nat.le_of_ble_eq_true rfl) (Nat.le_of_ble_eq_true rfl))
    replace hk := t_neg hk h3
    by_cases h4 : x2.toInt = 5
    · replace hk := t_pos hk h4
      refine mj_tableIn 108 dX6_readPlain_11 hh1 hh2 (by rw [h4]; rfl) (by decide) ?_
      refine mj_aload_n dX6_readPlain_108 1 rfl ?_
      refine t_getR 1 dX6_readPlain_109 F_X6_28 qr_845_0 ?_
      refine t_getI dX6_readPlain_112 F_X6_85 qf_1_8 ?_
      refine mj_bipush (v := 59) dX6_readPlain_115 (by decide) ?_
      refine mj_icmp_eq 266 dX6_readPlain_117 (by decide) (fun z => t_posK hk z (fun hk => ?_)) (fun z => t_negK hk z (fun hk => ?_))
      · exact t_somK hk (fun hf => t_vret dX6_readPlain_266 rfl ⟨rfl, hf⟩ (Nat.le_of_ble_eq_true rfl) (Nat.le_of_ble_eq_true rfl))
      · refine mj_aload_n dX6_readPlain_120 0 rfl ?_
        refine mj_iconst (v := 5) dX6_readPlain_121 (by decide) ?_
        refine mj_aload_n dX6_readPlain_122 1 rfl ?_
        refine mj_iconst (v := (-1)) dX6_readPlain_123 (by decide) ?_
        refine t_bndK hk (fun r3 er3 hk => ?_)
        refine t_callViE dX6_readPlain_124 M_X6_readExp (C_X6_readExp _ _ _ er3) ML_X6_120 IM_X6_readExp SE_X6_readExp qc_845 rfl (As := [.int (-1)]) rfl rfl (Nat.le_of_ble_eq_true rfl) (Nat.le_of_ble_eq_true rfl) (Nat.le_of_ble_eq_true rfl) (Nat.le_of_ble_eq_true rfl) ?_
        refine t_iastK dX6_readPlain_127 (t_row445 (t_ixn c0)) (by unfold vp_in; decide) (fun s1 ws1 => t_letE hk ws1 (fun hk => ?_))
        refine mj_goto 266 dX6_readPlain_128 (by decide) ?_
        exact t_somK hk (fun hf => t_vret dX6_readPlain_266 rfl ⟨rfl, hf⟩ (Nat.le_of_ble_eq_true rfl) (Nat.le_of_ble_eq_true rfl))
    replace hk := t_neg hk h4
    by_cases h5 : x2.toInt = 6
    · replace hk := t_pos hk h5
      refine mj_tableIn 131 dX6_readPlain_11 hh1 hh2 (by rw [h5]; rfl) (by decide) ?_
      refine mj_aload_n dX6_readPlain_131 1 rfl ?_
      refine mj_iload_n dX6_readPlain_132 2 rfl ?_
      refine mj_bipush (v := 9) dX6_readPlain_133 (by decide) ?_
      refine t_bndK hk (fun r4 er4 hk => ?_)
      refine t_callVvE dX6_readPlain_135 M_X6_readCall (C_X6_readCall _ _ _ _ er4) ML_X6_561 IM_X6_readCall SE_X6_readCall qc_845 rfl (As := [.int x1, .int 9]) rfl rfl (Nat.le_of_ble_eq_true rfl) (Nat.le_of_ble_eq_true rfl) (Nat.le_of_ble_eq_true rfl) (Nat.le_of_ble_eq_true rfl) ?_
      refine mj_aload_n dX6_readPlain_138 1 rfl ?_
      refine mj_iload_n dX6_readPlain_139 2 rfl ?_
      refine t_bndK hk (fun r5 er5 hk => ?_)
      refine t_callVvE dX6_readPlain_140 M_X6_readInto (C_X6_readInto _ _ _ er5) ML_X6_564 IM_X6_readInto SE_X6_readInto qc_845 rfl (As := [.int x1]) rfl rfl (Nat.le_of_ble_eq_true rfl) (Nat.le_of_ble_eq_true rfl) (Nat.le_of_ble_eq_true rfl) (Nat.le_of_ble_eq_true rfl) ?_
      refine mj_goto 266 dX6_readPlain_143 (by decide) ?_
      exact t_somK hk (fun hf => t_vret dX6_readPlain_266 rfl ⟨rfl, hf⟩ (Nat.le_of_ble_eq_true rfl) (Nat.le_of_ble_eq_true rfl))
    replace hk := t_neg hk h5
    by_cases h6 : x2.toInt = 7
    · replace hk := t_pos hk h6
      refine mj_tableIn 146 dX6_readPlain_11 hh1 hh2 (by rw [h6]; rfl) (by decide) ?_
      refine mj_aload_n dX6_readPlain_146 0 rfl ?_
      refine mj_bipush (v := 6) dX6_readPlain_147 (by decide) ?_
      refine mj_iconst (v := 1) dX6_readPlain_149 (by decide) ?_
      refine mj_aload_n dX6_readPlain_150 1 rfl ?_
      refine t_getR 1 dX6_readPlain_151 F_X6_28 qr_845_0 ?_
      refine t_getI dX6_readPlain_154 F_X6_85 qf_1_8 ?_
      refine mj_iadd dX6_readPlain_157 ?_
      refine mj_sipush (v := 244) dX6_readPlain_158 (by decide) ?_
      refine mj_isub dX6_readPlain_161 ?_
      refine t_iastK dX6_readPlain_162 (t_row445 (t_ixn c0)) (by unfold vp_in; decide) (fun s2 ws2 => t_letE hk ws2 (fun hk => ?_))
      refine mj_aload_n dX6_readPlain_163 1 rfl ?_
      refine t_getR 1 dX6_readPlain_164 F_X6_28 qr_845_0 ?_
      refine t_getI dX6_readPlain_167 F_X6_85 qf_1_8 ?_
      refine mj_sipush (v := 244) dX6_readPlain_170 (by decide) ?_
      refine mj_icmp_lt 189 dX6_readPlain_173 (by decide) (fun z => t_posK hk z (fun hk => ?_)) (fun z => t_negK hk z (fun hk => ?_))
      · refine mj_sublv [(0, .ref 845)] [1] rfl ?_
        exact B_X6_readPlain_189 _ _ hk
      · refine mj_aload_n dX6_readPlain_176 1 rfl ?_
        refine t_getR 1 dX6_readPlain_177 F_X6_28 qr_845_0 ?_
        refine t_getI dX6_readPlain_180 F_X6_85 qf_1_8 ?_
        refine mj_sipush (v := 246) dX6_readPlain_183 (by decide) ?_
        refine mj_icmp_le 197 dX6_readPlain_186 (by decide) (fun z => t_posK hk z (fun hk => ?_)) (fun z => t_negK hk z (fun hk => ?_))
        · refine mj_sublv [(0, .ref 845)] [1] rfl ?_
          exact B_X6_readPlain_197 _ _ hk
        · refine mj_sublv [(0, .ref 845)] [1] rfl ?_
          exact B_X6_readPlain_189 _ _ hk
    replace hk := t_neg hk h6
    by_cases h7 : x2.toInt = 8
    · replace hk := t_pos hk h7
      refine mj_tableIn 207 dX6_readPlain_11 hh1 hh2 (by rw [h7]; rfl) (by decide) ?_
      refine mj_aload_n dX6_readPlain_207 0 rfl ?_
      refine mj_iconst (v := 5) dX6_readPlain_208 (by decide) ?_
      refine mj_aload_n dX6_readPlain_209 1 rfl ?_
      refine mj_iconst (v := (-1)) dX6_readPlain_210 (by decide) ?_
      refine t_bndK hk (fun r6 er6 hk => ?_)
      refine t_callViE dX6_readPlain_211 M_X6_readExp (C_X6_readExp _ _ _ er6) ML_X6_120 IM_X6_readExp SE_X6_readExp qc_845 rfl (As := [.int (-1)]) rfl rfl (Nat.le_of_ble_eq_true rfl) (Nat.le_of_ble_eq_true rfl) (Nat.le_of_ble_eq_true rfl) (Nat.le_of_ble_eq_true rfl) ?_
      refine t_iastK dX6_readPlain_214 (t_row445 (t_ixn c0)) (by unfold vp_in; decide) (fun s3 ws3 => t_letE hk ws3 (fun hk => ?_))
      refine mj_goto 266 dX6_readPlain_215 (by decide) ?_
      exact t_somK hk (fun hf => t_vret dX6_readPlain_266 rfl ⟨rfl, hf⟩ (Nat.le_of_ble_eq_true rfl) (Nat.le_of_ble_eq_true rfl))
    replace hk := t_neg hk h7
    by_cases h8 : x2.toInt = 9
    · replace hk := t_pos hk h8
      refine mj_tableIn 218 dX6_readPlain_11 hh1 hh2 (by rw [h8]; rfl) (by decide) ?_
      refine mj_aload_n dX6_readPlain_218 1 rfl ?_
      refine mj_iconst (v := 5) dX6_readPlain_219 (by decide) ?_
      refine mj_iload_n dX6_readPlain_220 2 rfl ?_
      refine mj_iconst (v := 0) dX6_readPlain_221 (by decide) ?_
      refine t_bndK hk (fun r7 er7 hk => ?_)
      refine t_callVvE dX6_readPlain_222 M_X6_link (C_X6_link _ _ _ _ _ er7) ML_X6_250 IM_X6_link SE_X6_link qc_845 rfl (As := [.int 5, .int x1, .int 0]) rfl rfl (Nat.le_of_ble_eq_true rfl) (Nat.le_of_ble_eq_true rfl) (Nat.le_of_ble_eq_true rfl) (Nat.le_of_ble_eq_true rfl) ?_
      refine mj_aload_n dX6_readPlain_225 0 rfl ?_
      refine mj_iconst (v := 5) dX6_readPlain_226 (by decide) ?_
      refine mj_aload_n dX6_readPlain_227 1 rfl ?_
      refine mj_iconst (v := (-1)) dX6_readPlain_228 (by decide) ?_
      refine t_bndK hk (fun r8 er8 hk => ?_)
      refine t_callViE dX6_readPlain_229 M_X6_readExp (C_X6_readExp _ _ _ er8) ML_X6_120 IM_X6_readExp SE_X6_readExp qc_845 rfl (As := [.int (-1)]) rfl rfl (Nat.le_of_ble_eq_true rfl) (Nat.le_of_ble_eq_true rfl) (Nat.le_of_ble_eq_true rfl) (Nat.le_of_ble_eq_true rfl) ?_
      refine t_iastK dX6_readPlain_232 (t_row445 (t_ixn c0)) (by unfold vp_in; decide) (fun s4 ws4 => t_letE hk ws4 (fun hk => ?_))
      refine mj_goto 266 dX6_readPlain_233 (by decide) ?_
      exact t_somK hk (fun hf => t_vret dX6_readPlain_266 rfl ⟨rfl, hf⟩ (Nat.le_of_ble_eq_true rfl) (Nat.le_of_ble_eq_true rfl))
    replace hk := t_neg hk h8
    by_cases h9 : x2.toInt = 10
    · replace hk := t_pos hk h9
      refine mj_tableIn 266 dX6_readPlain_11 hh1 hh2 (by rw [h9]; rfl) (by decide) ?_
      exact t_somK hk (fun hf => t_vret dX6_readPlain_266 rfl ⟨rfl, hf⟩ (Nat.le_of_ble_eq_true rfl) (Nat.le_of_ble_eq_true rfl))
    replace hk := t_neg hk h9
    by_cases h10 : x2.toInt = 11
    · replace hk := t_pos hk h10
      refine mj_tableIn 266 dX6_readPlain_11 hh1 hh2 (by rw [h10]; rfl) (by decide) ?_
      exact t_somK hk (fun hf => t_vret dX6_readPlain_266 rfl ⟨rfl, hf⟩ (Nat.le_of_ble_eq_true rfl) (Nat.le_of_ble_eq_true rfl))
    replace hk := t_neg hk h10
    by_cases h11 : x2.toInt = 12
    · replace hk := t_pos hk h11
      refine mj_tableIn 266 dX6_readPlain_11 hh1 hh2 (by rw [h11]; rfl) (by decide) ?_
      exact t_somK hk (fun hf => t_vret dX6_readPlain_266 rfl ⟨rfl, hf⟩ (Nat.le_of_ble_eq_true rfl) (Nat.le_of_ble_eq_true rfl))
    replace hk := t_neg hk h11
    by_cases h12 : x2.toInt = 13
    · replace hk := t_pos hk h12
      refine mj_tableIn 266 dX6_readPlain_11 hh1 hh2 (by rw [h12]; rfl) (by decide) ?_
      exact t_somK hk (fun hf => t_vret dX6_readPlain_266 rfl ⟨rfl, hf⟩ (Nat.le_of_ble_eq_true rfl) (Nat.le_of_ble_eq_true rfl))
    replace hk := t_neg hk h12
    by_cases h13 : x2.toInt = 14
    · replace hk := t_pos hk h13
      refine mj_tableIn 236 dX6_readPlain_11 hh1 hh2 (by rw [h13]; rfl) (by decide) ?_
      refine mj_aload_n dX6_readPlain_236 1 rfl ?_
      refine mj_bipush (v := 6) dX6_readPlain_237 (by decide) ?_
      refine mj_iload_n dX6_readPlain_239 2 rfl ?_
      refine mj_iconst (v := 0) dX6_readPlain_240 (by decide) ?_
      refine t_bndK hk (fun r9 er9 hk => ?_)
      refine t_callVvE dX6_readPlain_241 M_X6_link (C_X6_link _ _ _ _ _ er9) ML_X6_250 IM_X6_link SE_X6_link qc_845 rfl (As := [.int 6, .int x1, .int 0]) rfl rfl (Nat.le_of_ble_eq_true rfl) (Nat.le_of_ble_eq_true rfl) (Nat.le_of_ble_eq_true rfl) (Nat.le_of_ble_eq_true rfl) ?_
      refine mj_aload_n dX6_readPlain_244 0 rfl ?_
      refine mj_iconst (v := 5) dX6_readPlain_245 (by decide) ?_
      refine mj_aload_n dX6_readPlain_246 1 rfl ?_
      refine mj_iconst (v := (-1)) dX6_readPlain_247 (by decide) ?_
      refine t_bndK hk (fun r10 er10 hk => ?_)
      refine t_callViE dX6_readPlain_248 M_X6_readExp (C_X6_readExp _ _ _ er10) ML_X6_120 IM_X6_readExp SE_X6_readExp qc_845 rfl (As := [.int (-1)]) rfl rfl (Nat.le_of_ble_eq_true rfl) (Nat.le_of_ble_eq_true rfl) (Nat.le_of_ble_eq_true rfl) (Nat.le_of_ble_eq_true rfl) ?_
      refine t_iastK dX6_readPlain_251 (t_row445 (t_ixn c0)) (by unfold vp_in; decide) (fun s5 ws5 => t_letE hk ws5 (fun hk => ?_))
      refine mj_goto 266 dX6_readPlain_252 (by decide) ?_
      exact t_somK hk (fun hf => t_vret dX6_readPlain_266 rfl ⟨rfl, hf⟩ (Nat.le_of_ble_eq_true rfl) (Nat.le_of_ble_eq_true rfl))
    replace hk := t_neg hk h13
    by_cases h14 : x2.toInt = 15
    · replace hk := t_pos hk h14
      refine mj_tableIn 255 dX6_readPlain_11 hh1 hh2 (by rw [h14]; rfl) (by decide) ?_
      refine mj_aload_n dX6_readPlain_255 1 rfl ?_
      refine mj_bipush (v := 6) dX6_readPlain_256 (by decide) ?_
      refine mj_iload_n dX6_readPlain_258 2 rfl ?_
      refine mj_iconst (v := 0) dX6_readPlain_259 (by decide) ?_
      refine t_bndK hk (fun r11 er11 hk => ?_)
      refine t_callVvE dX6_readPlain_260 M_X6_link (C_X6_link _ _ _ _ _ er11) ML_X6_250 IM_X6_link SE_X6_link qc_845 rfl (As := [.int 6, .int x1, .int 0]) rfl rfl (Nat.le_of_ble_eq_true rfl) (Nat.le_of_ble_eq_true rfl) (Nat.le_of_ble_eq_true rfl) (Nat.le_of_ble_eq_true rfl) ?_
      refine mj_goto 266 dX6_readPlain_263 (by decide) ?_
      exact t_somK hk (fun hf => t_vret dX6_readPlain_266 rfl ⟨rfl, hf⟩ (Nat.le_of_ble_eq_true rfl) (Nat.le_of_ble_eq_true rfl))
    replace hk := t_neg hk h14
    by_cases h15 : x2.toInt = 16
    · replace hk := t_pos hk h15
      refine mj_tableIn 266 dX6_readPlain_11 hh1 hh2 (by rw [h15]; rfl) (by decide) ?_
      exact t_somK hk (fun hf => t_vret dX6_readPlain_266 rfl ⟨rfl, hf⟩ (Nat.le_of_ble_eq_true rfl) (Nat.le_of_ble_eq_true rfl))
    replace hk := t_neg hk h15
    by_cases h16 : x2.toInt = 17
    · replace hk := t_pos hk h16
      refine mj_tableIn 266 dX6_readPlain_11 hh1 hh2 (by rw [h16]; rfl) (by decide) ?_
      exact t_somK hk (fun hf => t_vret dX6_readPlain_266 rfl ⟨rfl, hf⟩ (Nat.le_of_ble_eq_true rfl) (Nat.le_of_ble_eq_true rfl))
    replace hk := t_neg hk h16
    by_cases h17 : x2.toInt = 18
    · replace hk := t_pos hk h17
      refine mj_tableIn 266 dX6_readPlain_11 hh1 hh2 (by rw [h17]; rfl) (by decide) ?_
      exact t_somK hk (fun hf => t_vret dX6_readPlain_266 rfl ⟨rfl, hf⟩ (Nat.le_of_ble_eq_true rfl) (Nat.le_of_ble_eq_true rfl))
    replace hk := t_neg hk h17
    have h18 : x2.toInt = 19 := by omega
    refine mj_tableIn 108 dX6_readPlain_11 hh1 hh2 (by rw [h18]; rfl) (by decide) ?_
    refine mj_aload_n dX6_readPlain_108 1 rfl ?_
    refine t_getR 1 dX6_readPlain_109 F_X6_28 qr_845_0 ?_
    refine t_getI dX6_readPlain_112 F_X6_85 qf_1_8 ?_
    refine mj_bipush (v := 59) dX6_readPlain_115 (by decide) ?_
    refine mj_icmp_eq 266 dX6_readPlain_117 (by decide) (fun z => t_posK hk z (fun hk => ?_)) (fun z => t_negK hk z (fun hk => ?_))
    · exact t_somK hk (fun hf => t_vret dX6_readPlain_266 rfl ⟨rfl, hf⟩ (Nat.le_of_ble_eq_true rfl) (Nat.le_of_ble_eq_true rfl))
    · refine mj_aload_n dX6_readPlain_120 0 rfl ?_
      refine mj_iconst (v := 5) dX6_readPlain_121 (by decide) ?_
      refine mj_aload_n dX6_readPlain_122 1 rfl ?_
      refine mj_iconst (v := (-1)) dX6_readPlain_123 (by decide) ?_
      refine t_bndK hk (fun r12 er12 hk => ?_)
      refine t_callViE dX6_readPlain_124 M_X6_readExp (C_X6_readExp _ _ _ er12) ML_X6_120 IM_X6_readExp SE_X6_readExp qc_845 rfl (As := [.int (-1)]) rfl rfl (Nat.le_of_ble_eq_true rfl) (Nat.le_of_ble_eq_true rfl) (Nat.le_of_ble_eq_true rfl) (Nat.le_of_ble_eq_true rfl) ?_
      refine t_iastK dX6_readPlain_127 (t_row445 (t_ixn c0)) (by unfold vp_in; decide) (fun s6 ws6 => t_letE hk ws6 (fun hk => ?_))
      refine mj_goto 266 dX6_readPlain_128 (by decide) ?_
      exact t_somK hk (fun hf => t_vret dX6_readPlain_266 rfl ⟨rfl, hf⟩ (Nat.le_of_ble_eq_true rfl) (Nat.le_of_ble_eq_true rfl))

