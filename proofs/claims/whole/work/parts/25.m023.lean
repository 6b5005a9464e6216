/-! Methods as functions, 23: X3_settleOwn, X3_settleTempl, X5_hasPort -/
theorem qa_443 : t_oka 443 1 320 = true := by decide +kernel
theorem qr_428_16 : t_okr 428 5 16 443 = true := by decide +kernel
theorem qr_846_1 : t_okr 846 3 1 316 = true := by decide +kernel
theorem qr_846_2 : t_okr 846 3 2 353 = true := by decide +kernel
theorem dX3_settleOwn_0 : decode cX3_settleOwn 0 = .ok (.iload_n 1, 1) := by decide +kernel
theorem dX3_settleOwn_1 : decode cX3_settleOwn 1 = .ok (.tableswitch 172 5 14 #[55, 73, 91, 172, 172, 172, 172, 172, 172, 138], 55) := by decide +kernel
theorem dX3_settleOwn_101 : decode cX3_settleOwn 101 = .ok (.bipush (-2), 2) := by decide +kernel
theorem dX3_settleOwn_103 : decode cX3_settleOwn 103 = .ok (.iload 5, 2) := by decide +kernel
theorem dX3_settleOwn_105 : decode cX3_settleOwn 105 = .ok (.isub, 1) := by decide +kernel
theorem dX3_settleOwn_106 : decode cX3_settleOwn 106 = .ok (.goto 4, 3) := by decide +kernel
theorem dX3_settleOwn_109 : decode cX3_settleOwn 109 = .ok (.iload_n 3, 1) := by decide +kernel
theorem dX3_settleOwn_110 : decode cX3_settleOwn 110 = .ok (.iload_n 2, 1) := by decide +kernel
theorem dX3_settleOwn_111 : decode cX3_settleOwn 111 = .ok (.invokevirtual 124, 3) := by decide +kernel
theorem dX3_settleOwn_114 : decode cX3_settleOwn 114 = .ok (.istore 6, 2) := by decide +kernel
theorem dX3_settleOwn_116 : decode cX3_settleOwn 116 = .ok (.aload_n 0, 1) := by decide +kernel
theorem dX3_settleOwn_117 : decode cX3_settleOwn 117 = .ok (.getfield 26, 3) := by decide +kernel
theorem dX3_settleOwn_120 : decode cX3_settleOwn 120 = .ok (.getfield 127, 3) := by decide +kernel
theorem dX3_settleOwn_123 : decode cX3_settleOwn 123 = .ok (.iload 4, 2) := by decide +kernel
theorem dX3_settleOwn_125 : decode cX3_settleOwn 125 = .ok (.iload 6, 2) := by decide +kernel
theorem dX3_settleOwn_127 : decode cX3_settleOwn 127 = .ok (.iastore, 1) := by decide +kernel
theorem dX3_settleOwn_128 : decode cX3_settleOwn 128 = .ok (.iload 6, 2) := by decide +kernel
theorem dX3_settleOwn_130 : decode cX3_settleOwn 130 = .ok (.ifCond .lt 7, 3) := by decide +kernel
theorem dX3_settleOwn_133 : decode cX3_settleOwn 133 = .ok (.iconst 1, 1) := by decide +kernel
theorem dX3_settleOwn_134 : decode cX3_settleOwn 134 = .ok (.goto 4, 3) := by decide +kernel
theorem dX3_settleOwn_137 : decode cX3_settleOwn 137 = .ok (.iconst 0, 1) := by decide +kernel
theorem dX3_settleOwn_138 : decode cX3_settleOwn 138 = .ok (.ireturn, 1) := by decide +kernel
theorem dX3_settleOwn_139 : decode cX3_settleOwn 139 = .ok (.aload_n 0, 1) := by decide +kernel
theorem dX3_settleOwn_140 : decode cX3_settleOwn 140 = .ok (.getfield 30, 3) := by decide +kernel
theorem dX3_settleOwn_143 : decode cX3_settleOwn 143 = .ok (.iload_n 3, 1) := by decide +kernel
theorem dX3_settleOwn_144 : decode cX3_settleOwn 144 = .ok (.iload_n 2, 1) := by decide +kernel
theorem dX3_settleOwn_145 : decode cX3_settleOwn 145 = .ok (.invokevirtual 132, 3) := by decide +kernel
theorem dX3_settleOwn_148 : decode cX3_settleOwn 148 = .ok (.istore 7, 2) := by decide +kernel
theorem dX3_settleOwn_150 : decode cX3_settleOwn 150 = .ok (.aload_n 0, 1) := by decide +kernel
theorem dX3_settleOwn_151 : decode cX3_settleOwn 151 = .ok (.iload 4, 2) := by decide +kernel
theorem dX3_settleOwn_153 : decode cX3_settleOwn 153 = .ok (.bipush 7, 2) := by decide +kernel
theorem dX3_settleOwn_155 : decode cX3_settleOwn 155 = .ok (.iload 7, 2) := by decide +kernel
theorem dX3_settleOwn_157 : decode cX3_settleOwn 157 = .ok (.ifCond .ge 7, 3) := by decide +kernel
theorem dX3_settleOwn_160 : decode cX3_settleOwn 160 = .ok (.iconst (-1), 1) := by decide +kernel
theorem dX3_settleOwn_161 : decode cX3_settleOwn 161 = .ok (.goto 8, 3) := by decide +kernel
theorem dX3_settleOwn_164 : decode cX3_settleOwn 164 = .ok (.bipush 8, 2) := by decide +kernel
theorem dX3_settleOwn_166 : decode cX3_settleOwn 166 = .ok (.iload 7, 2) := by decide +kernel
theorem dX3_settleOwn_168 : decode cX3_settleOwn 168 = .ok (.iadd, 1) := by decide +kernel
theorem dX3_settleOwn_169 : decode cX3_settleOwn 169 = .ok (.invokevirtual 100, 3) := by decide +kernel
theorem dX3_settleOwn_172 : decode cX3_settleOwn 172 = .ok (.ireturn, 1) := by decide +kernel
theorem dX3_settleOwn_173 : decode cX3_settleOwn 173 = .ok (.aload_n 0, 1) := by decide +kernel
theorem dX3_settleOwn_174 : decode cX3_settleOwn 174 = .ok (.getfield 30, 3) := by decide +kernel
theorem dX3_settleOwn_177 : decode cX3_settleOwn 177 = .ok (.iload_n 3, 1) := by decide +kernel
theorem dX3_settleOwn_178 : decode cX3_settleOwn 178 = .ok (.iload_n 2, 1) := by decide +kernel
theorem dX3_settleOwn_179 : decode cX3_settleOwn 179 = .ok (.invokevirtual 132, 3) := by decide +kernel
theorem dX3_settleOwn_182 : decode cX3_settleOwn 182 = .ok (.istore 7, 2) := by decide +kernel
theorem dX3_settleOwn_184 : decode cX3_settleOwn 184 = .ok (.iload 7, 2) := by decide +kernel
theorem dX3_settleOwn_186 : decode cX3_settleOwn 186 = .ok (.ifCond .ge 13, 3) := by decide +kernel
theorem dX3_settleOwn_189 : decode cX3_settleOwn 189 = .ok (.aload_n 0, 1) := by decide +kernel
theorem dX3_settleOwn_190 : decode cX3_settleOwn 190 = .ok (.getfield 14, 3) := by decide +kernel
theorem dX3_settleOwn_193 : decode cX3_settleOwn 193 = .ok (.getfield 135, 3) := by decide +kernel
theorem dX3_settleOwn_196 : decode cX3_settleOwn 196 = .ok (.iload_n 2, 1) := by decide +kernel
theorem dX3_settleOwn_197 : decode cX3_settleOwn 197 = .ok (.baload, 1) := by decide +kernel
theorem dX3_settleOwn_198 : decode cX3_settleOwn 198 = .ok (.ireturn, 1) := by decide +kernel
theorem dX3_settleOwn_199 : decode cX3_settleOwn 199 = .ok (.aload_n 0, 1) := by decide +kernel
theorem dX3_settleOwn_200 : decode cX3_settleOwn 200 = .ok (.getfield 26, 3) := by decide +kernel
theorem dX3_settleOwn_203 : decode cX3_settleOwn 203 = .ok (.getfield 139, 3) := by decide +kernel
theorem dX3_settleOwn_206 : decode cX3_settleOwn 206 = .ok (.iload 4, 2) := by decide +kernel
theorem dX3_settleOwn_208 : decode cX3_settleOwn 208 = .ok (.iconst 4, 1) := by decide +kernel
theorem dX3_settleOwn_209 : decode cX3_settleOwn 209 = .ok (.iastore, 1) := by decide +kernel
theorem dX3_settleOwn_210 : decode cX3_settleOwn 210 = .ok (.aload_n 0, 1) := by decide +kernel
theorem dX3_settleOwn_211 : decode cX3_settleOwn 211 = .ok (.getfield 26, 3) := by decide +kernel
theorem dX3_settleOwn_214 : decode cX3_settleOwn 214 = .ok (.getfield 127, 3) := by decide +kernel
theorem dX3_settleOwn_217 : decode cX3_settleOwn 217 = .ok (.iload 4, 2) := by decide +kernel
theorem dX3_settleOwn_219 : decode cX3_settleOwn 219 = .ok (.iload 7, 2) := by decide +kernel
theorem dX3_settleOwn_221 : decode cX3_settleOwn 221 = .ok (.iastore, 1) := by decide +kernel
theorem dX3_settleOwn_222 : decode cX3_settleOwn 222 = .ok (.iconst 1, 1) := by decide +kernel
theorem dX3_settleOwn_223 : decode cX3_settleOwn 223 = .ok (.ireturn, 1) := by decide +kernel
theorem dX3_settleOwn_56 : decode cX3_settleOwn 56 = .ok (.aload_n 0, 1) := by decide +kernel
theorem dX3_settleOwn_57 : decode cX3_settleOwn 57 = .ok (.iload 4, 2) := by decide +kernel
theorem dX3_settleOwn_59 : decode cX3_settleOwn 59 = .ok (.bipush 6, 2) := by decide +kernel
theorem dX3_settleOwn_61 : decode cX3_settleOwn 61 = .ok (.aload_n 0, 1) := by decide +kernel
theorem dX3_settleOwn_62 : decode cX3_settleOwn 62 = .ok (.getfield 30, 3) := by decide +kernel
theorem dX3_settleOwn_65 : decode cX3_settleOwn 65 = .ok (.iload_n 3, 1) := by decide +kernel
theorem dX3_settleOwn_66 : decode cX3_settleOwn 66 = .ok (.iload_n 2, 1) := by decide +kernel
theorem dX3_settleOwn_67 : decode cX3_settleOwn 67 = .ok (.invokevirtual 121, 3) := by decide +kernel
theorem dX3_settleOwn_70 : decode cX3_settleOwn 70 = .ok (.invokevirtual 100, 3) := by decide +kernel
theorem dX3_settleOwn_73 : decode cX3_settleOwn 73 = .ok (.ireturn, 1) := by decide +kernel
theorem dX3_settleOwn_74 : decode cX3_settleOwn 74 = .ok (.aload_n 0, 1) := by decide +kernel
theorem dX3_settleOwn_75 : decode cX3_settleOwn 75 = .ok (.iload 4, 2) := by decide +kernel
theorem dX3_settleOwn_77 : decode cX3_settleOwn 77 = .ok (.bipush 6, 2) := by decide +kernel
theorem dX3_settleOwn_79 : decode cX3_settleOwn 79 = .ok (.aload_n 0, 1) := by decide +kernel
theorem dX3_settleOwn_80 : decode cX3_settleOwn 80 = .ok (.getfield 30, 3) := by decide +kernel
theorem dX3_settleOwn_83 : decode cX3_settleOwn 83 = .ok (.iload_n 3, 1) := by decide +kernel
theorem dX3_settleOwn_84 : decode cX3_settleOwn 84 = .ok (.iload_n 2, 1) := by decide +kernel
theorem dX3_settleOwn_85 : decode cX3_settleOwn 85 = .ok (.invokevirtual 124, 3) := by decide +kernel
theorem dX3_settleOwn_88 : decode cX3_settleOwn 88 = .ok (.invokevirtual 100, 3) := by decide +kernel
theorem dX3_settleOwn_91 : decode cX3_settleOwn 91 = .ok (.ireturn, 1) := by decide +kernel
theorem dX3_settleOwn_92 : decode cX3_settleOwn 92 = .ok (.aload_n 0, 1) := by decide +kernel
theorem dX3_settleOwn_93 : decode cX3_settleOwn 93 = .ok (.getfield 30, 3) := by decide +kernel
theorem dX3_settleOwn_96 : decode cX3_settleOwn 96 = .ok (.iload 5, 2) := by decide +kernel
theorem dX3_settleOwn_98 : decode cX3_settleOwn 98 = .ok (.ifCond .ge 11, 3) := by decide +kernel
noncomputable def k_X3_settleOwn_169 (k0 : Int32) (k1 : Int32) (k2 : Int32) (s : t_S) : Option (Int32 × t_S) :=
 (f_X3_put k2 k1 k0 s).bind (fun r1 =>
 if r1.1 = 0 ∨ r1.1 = 1 then
  some (r1.1, r1.2)
else none)
set_option maxRecDepth 4000 in
set_option maxHeartbeats 1000000 in
theorem B_X3_settleOwn_169 {D : va_G} {cy : Nat → ClassId} {ad : Nat → Nat} {bs : Nat} {X : State → Heap → Prop} (k0 : Int32) (k1 : Int32) (k2 : Int32) (s : t_S) (Q : Int32 × t_S → Prop) (hk : t_hk (k_X3_settleOwn_169 k0 k1 k2 s) Q) : mj_G D cy ad bs X cX3_settleOwn 8 yX3_settleOwn.cls (some .boolean) yX3_settleOwn.name 2 0 0 1065 (t_P (fun v s' => ∃ x, v = some (.int x) ∧ Q ((x, s')))) 169 [] [.int k0, .int k1, .int k2, .ref 846] (t_m s) 1065 0 0 := by
  refine t_bndK hk (fun r1 er1 hk => ?_)
  refine t_callViE dX3_settleOwn_169 M_X3_put (C_X3_put _ _ _ _ _ er1) ML_X3_100 IM_X3_put SE_X3_put qc_846 rfl (As := [.int k2, .int k1, .int k0]) rfl rfl (Nat.le_of_ble_eq_true rfl) (Nat.le_of_ble_eq_true rfl) (Nat.le_of_ble_eq_true rfl) (Nat.le_of_ble_eq_true rfl) ?_
  refine t_chkK hk (fun c1 hk => ?_)
  exact t_somK hk (fun hf => t_iret dX3_settleOwn_172 rfl (t_zfit c1) ⟨_, rfl, hf⟩ (Nat.le_of_ble_eq_true rfl) (Nat.le_of_ble_eq_true rfl))
noncomputable def k_X3_settleOwn_110 (l2 : Int32) (l4 : Int32) (k0 : Int32) (s : t_S) : Option (Int32 × t_S) :=
 (f_X5_timerOf k0 l2 s).bind (fun r1 =>
 if t_ix l4 16000 = true then
  t_let (t_setI s 336 (l4.toNatClampNeg) r1) (fun s1 =>
 if r1 < (0 : Int32) then (some ((0 : Int32), s1))
 else (some ((1 : Int32), s1)))
else none)
set_option maxRecDepth 4000 in
set_option maxHeartbeats 1000000 in
theorem B_X3_settleOwn_110 {D : va_G} {cy : Nat → ClassId} {ad : Nat → Nat} {bs : Nat} {X : State → Heap → Prop} (l2 : Int32) (l4 : Int32) (k0 : Int32) (s : t_S) (Q : Int32 × t_S → Prop) (hk : t_hk (k_X3_settleOwn_110 l2 l4 k0 s) Q) : mj_G D cy ad bs X cX3_settleOwn 8 yX3_settleOwn.cls (some .boolean) yX3_settleOwn.name 2 0 0 1065 (t_P (fun v s' => ∃ x, v = some (.int x) ∧ Q ((x, s')))) 110 [(0, .ref 846), (2, .int l2), (4, .int l4)] [.int k0, .ref 428] (t_m s) 1065 0 0 := by
  refine mj_iload_n dX3_settleOwn_110 1 rfl ?_
  refine t_bndK hk (fun r1 er1 hk => ?_)
  refine t_callViP dX3_settleOwn_111 M_X5_timerOf (C_X5_timerOf _ _ _ _ er1) ML_X3_124 IM_X5_timerOf SE_X5_timerOf qc_428 rfl (As := [.int k0, .int l2]) rfl rfl (Nat.le_of_ble_eq_true rfl) (Nat.le_of_ble_eq_true rfl) (Nat.le_of_ble_eq_true rfl) (Nat.le_of_ble_eq_true rfl) ?_
  refine mj_istore (lv2 := [(6, .int r1), (0, .ref 846), (2, .int l2), (4, .int l4)]) dX3_settleOwn_114 (by decide) rfl ?_
  refine mj_aload_n dX3_settleOwn_116 1 rfl ?_
  refine t_getR 334 dX3_settleOwn_117 F_X3_26 qr_846_3 ?_
  refine t_getR 336 dX3_settleOwn_120 F_X3_127 qr_334_1 ?_
  refine mj_iload dX3_settleOwn_123 3 rfl ?_
  refine mj_iload dX3_settleOwn_125 0 rfl ?_
  refine t_chkK hk (fun c1 hk => ?_)
  refine t_iastK dX3_settleOwn_127 qa_336 (t_ixv c1) (fun s1 ws1 => t_letE hk ws1 (fun hk => ?_))
  refine mj_iload dX3_settleOwn_128 0 rfl ?_
  refine mj_if_lt 137 dX3_settleOwn_130 (by decide) (fun z => t_posK hk z (fun hk => ?_)) (fun z => t_negK hk z (fun hk => ?_))
  · refine mj_iconst (v := 0) dX3_settleOwn_137 (by decide) ?_
    exact t_somK hk (fun hf => t_iret dX3_settleOwn_138 rfl (by decide) ⟨_, rfl, hf⟩ (Nat.le_of_ble_eq_true rfl) (Nat.le_of_ble_eq_true rfl))
  · refine mj_iconst (v := 1) dX3_settleOwn_133 (by decide) ?_
    refine mj_goto 138 dX3_settleOwn_134 (by decide) ?_
    exact t_somK hk (fun hf => t_iret dX3_settleOwn_138 rfl (by decide) ⟨_, rfl, hf⟩ (Nat.le_of_ble_eq_true rfl) (Nat.le_of_ble_eq_true rfl))
noncomputable def f_X3_settleOwn (x1 : Int32) (x2 : Int32) (x3 : Int32) (x4 : Int32) (x5 : Int32) (s : t_S) : Option (Int32 × t_S) :=
 if x1.toInt < 5 ∨ 14 < x1.toInt then ((f_X5_varOf x3 x2 s).bind (fun r1 =>
 if (0 : Int32) ≤ r1 then (if t_ix x4 16000 = true then
  t_let (t_setI s 335 (x4.toNatClampNeg) (4 : Int32)) (fun s1 =>
 t_let (t_setI s1 336 (x4.toNatClampNeg) r1) (fun s2 =>
 some ((1 : Int32), s2)))
else none)
 else (if t_ix x2 8000 = true then
  if (s.1 7 (x2.toNatClampNeg)) = 0 ∨ (s.1 7 (x2.toNatClampNeg)) = 1 then
  some ((s.1 7 (x2.toNatClampNeg)), s)
else none
else none)))
 else if x1.toInt = 5 then ((f_X5_portOf x3 x2 s).bind (fun r5 =>
 (f_X3_put x4 (6 : Int32) r5 s).bind (fun r6 =>
 if r6.1 = 0 ∨ r6.1 = 1 then
  some (r6.1, r6.2)
else none)))
 else if x1.toInt = 6 then ((f_X5_timerOf x3 x2 s).bind (fun r8 =>
 (f_X3_put x4 (6 : Int32) r8 s).bind (fun r9 =>
 if r9.1 = 0 ∨ r9.1 = 1 then
  some (r9.1, r9.2)
else none)))
 else if x1.toInt = 7 then (if (0 : Int32) ≤ x5 then (k_X3_settleOwn_110 x2 x4 x3 s)
 else (k_X3_settleOwn_110 x2 x4 ((-2 : Int32) - x5) s))
 else if x1.toInt = 8 then ((f_X5_varOf x3 x2 s).bind (fun r11 =>
 if (0 : Int32) ≤ r11 then (if t_ix x4 16000 = true then
  t_let (t_setI s 335 (x4.toNatClampNeg) (4 : Int32)) (fun s3 =>
 t_let (t_setI s3 336 (x4.toNatClampNeg) r11) (fun s4 =>
 some ((1 : Int32), s4)))
else none)
 else (if t_ix x2 8000 = true then
  if (s.1 7 (x2.toNatClampNeg)) = 0 ∨ (s.1 7 (x2.toNatClampNeg)) = 1 then
  some ((s.1 7 (x2.toNatClampNeg)), s)
else none
else none)))
 else if x1.toInt = 9 then ((f_X5_varOf x3 x2 s).bind (fun r15 =>
 if (0 : Int32) ≤ r15 then (if t_ix x4 16000 = true then
  t_let (t_setI s 335 (x4.toNatClampNeg) (4 : Int32)) (fun s5 =>
 t_let (t_setI s5 336 (x4.toNatClampNeg) r15) (fun s6 =>
 some ((1 : Int32), s6)))
else none)
 else (if t_ix x2 8000 = true then
  if (s.1 7 (x2.toNatClampNeg)) = 0 ∨ (s.1 7 (x2.toNatClampNeg)) = 1 then
  some ((s.1 7 (x2.toNatClampNeg)), s)
else none
else none)))
 else if x1.toInt = 10 then ((f_X5_varOf x3 x2 s).bind (fun r19 =>
 if (0 : Int32) ≤ r19 then (if t_ix x4 16000 = true then
  t_let (t_setI s 335 (x4.toNatClampNeg) (4 : Int32)) (fun s7 =>
 t_let (t_setI s7 336 (x4.toNatClampNeg) r19) (fun s8 =>
 some ((1 : Int32), s8)))
else none)
 else (if t_ix x2 8000 = true then
  if (s.1 7 (x2.toNatClampNeg)) = 0 ∨ (s.1 7 (x2.toNatClampNeg)) = 1 then
  some ((s.1 7 (x2.toNatClampNeg)), s)
else none
else none)))
 else if x1.toInt = 11 then ((f_X5_varOf x3 x2 s).bind (fun r23 =>
 if (0 : Int32) ≤ r23 then (if t_ix x4 16000 = true then
  t_let (t_setI s 335 (x4.toNatClampNeg) (4 : Int32)) (fun s9 =>
 t_let (t_setI s9 336 (x4.toNatClampNeg) r23) (fun s10 =>
 some ((1 : Int32), s10)))
else none)
 else (if t_ix x2 8000 = true then
  if (s.1 7 (x2.toNatClampNeg)) = 0 ∨ (s.1 7 (x2.toNatClampNeg)) = 1 then
  some ((s.1 7 (x2.toNatClampNeg)), s)
else none
else none)))
 else if x1.toInt = 12 then ((f_X5_varOf x3 x2 s).bind (fun r27 =>
 if (0 : Int32) ≤ r27 then (if t_ix x4 16000 = true then
  t_let (t_setI s 335 (x4.toNatClampNeg) (4 : Int32)) (fun s11 =>
 t_let (t_setI s11 336 (x4.toNatClampNeg) r27) (fun s12 =>
 some ((1 : Int32), s12)))
else none)
 else (if t_ix x2 8000 = true then
  if (s.1 7 (x2.toNatClampNeg)) = 0 ∨ (s.1 7 (x2.toNatClampNeg)) = 1 then
  some ((s.1 7 (x2.toNatClampNeg)), s)
else none
else none)))
 else if x1.toInt = 13 then ((f_X5_varOf x3 x2 s).bind (fun r31 =>
 if (0 : Int32) ≤ r31 then (if t_ix x4 16000 = true then
  t_let (t_setI s 335 (x4.toNatClampNeg) (4 : Int32)) (fun s13 =>
 t_let (t_setI s13 336 (x4.toNatClampNeg) r31) (fun s14 =>
 some ((1 : Int32), s14)))
else none)
 else (if t_ix x2 8000 = true then
  if (s.1 7 (x2.toNatClampNeg)) = 0 ∨ (s.1 7 (x2.toNatClampNeg)) = 1 then
  some ((s.1 7 (x2.toNatClampNeg)), s)
else none
else none)))
 else ((f_X5_varOf x3 x2 s).bind (fun r35 =>
 if (0 : Int32) ≤ r35 then (k_X3_settleOwn_169 ((8 : Int32) + r35) 7 x4 s)
 else (k_X3_settleOwn_169 (-1) 7 x4 s)))
set_option maxRecDepth 4000 in
set_option maxHeartbeats 1000000 in
theorem C_X3_settleOwn (x1 : Int32) (x2 : Int32) (x3 : Int32) (x4 : Int32) (x5 : Int32) (s : t_S) (r : Int32 × t_S) (hr : f_X3_settleOwn x1 x2 x3 x4 x5 s = some r) : t_C yX3_settleOwn cX3_settleOwn 8 (some .boolean) 2 [.ref 846, .int x1, .int x2, .int x3, .int x4, .int x5] s (fun v s' => v = some (.int r.1) ∧ s' = r.2) := by
  refine t_C.imp (P := fun v s' => ∃ x, v = some (.int x) ∧ (fun q => q = r) ((x, s'))) (t_C.of (by decide +kernel) (Nat.le_of_ble_eq_true rfl) ?_) (fun v s' hp => by obtain ⟨x, rfl, rfl⟩ := hp; exact ⟨rfl, rfl⟩)
  intro D cy ad bs X
  have hk : t_hk (f_X3_settleOwn x1 x2 x3 x4 x5 s) (fun q => q = r) := ⟨r, hr, rfl⟩
  show mj_G D cy ad bs X cX3_settleOwn 8 yX3_settleOwn.cls (some .boolean) yX3_settleOwn.name 2 0 0 1065 (t_P (fun v s' => ∃ x, v = some (.int x) ∧ (fun q => q = r) ((x, s')))) 0 [(0, .ref 846), (1, .int x1), (2, .int x2), (3, .int x3), (4, .int x4), (5, .int x5)] [] (t_m s) 1065 0 0
  refine mj_iload_n dX3_settleOwn_0 1 rfl ?_
  by_cases hout : x1.toInt < 5 ∨ 14 < x1.toInt
  · replace hk := t_pos hk hout
    refine mj_tableOut 173 dX3_settleOwn_1 hout (by decide) ?_
    refine mj_aload_n dX3_settleOwn_173 0 rfl ?_
    refine t_getR 428 dX3_settleOwn_174 F_X3_30 qr_846_4 ?_
    refine mj_iload_n dX3_settleOwn_177 3 rfl ?_
    refine mj_iload_n dX3_settleOwn_178 2 rfl ?_
    refine t_bndK hk (fun r1 er1 hk => ?_)
    refine t_callViP dX3_settleOwn_179 M_X5_varOf (C_X5_varOf _ _ _ _ er1) ML_X3_132 IM_X5_varOf SE_X5_varOf qc_428 rfl (As := [.int x3, .int x2]) rfl rfl (Nat.le_of_ble_eq_true rfl) (Nat.le_of_ble_eq_true rfl) (Nat.le_of_ble_eq_true rfl) (Nat.le_of_ble_eq_true rfl) ?_
    refine mj_istore (lv2 := [(7, .int r1), (0, .ref 846), (1, .int x1), (2, .int x2), (3, .int x3), (4, .int x4), (5, .int x5)]) dX3_settleOwn_182 (by decide) rfl ?_
    refine mj_iload dX3_settleOwn_184 0 rfl ?_
    refine mj_if_ge 199 dX3_settleOwn_186 (by decide) (fun z => t_posK hk z (fun hk => ?_)) (fun z => t_negK hk z (fun hk => ?_))
    · refine mj_aload_n dX3_settleOwn_199 1 rfl ?_
      refine t_getR 334 dX3_settleOwn_200 F_X3_26 qr_846_3 ?_
      refine t_getR 335 dX3_settleOwn_203 F_X3_139 qr_334_0 ?_
      refine mj_iload dX3_settleOwn_206 5 rfl ?_
      refine mj_iconst (v := 4) dX3_settleOwn_208 (by decide) ?_
      refine t_chkK hk (fun c1 hk => ?_)
      refine t_iastK dX3_settleOwn_209 qa_335 (t_ixv c1) (fun s1 ws1 => t_letE hk ws1 (fun hk => ?_))
      refine mj_aload_n dX3_settleOwn_210 1 rfl ?_
      refine t_getR 334 dX3_settleOwn_211 F_X3_26 qr_846_3 ?_
      refine t_getR 336 dX3_settleOwn_214 F_X3_127 qr_334_1 ?_
      refine mj_iload dX3_settleOwn_217 5 rfl ?_
      refine mj_iload dX3_settleOwn_219 0 rfl ?_
      refine t_iastK dX3_settleOwn_221 qa_336 (t_ixv c1) (fun s2 ws2 => t_letE hk ws2 (fun hk => ?_))
      refine mj_iconst (v := 1) dX3_settleOwn_222 (by decide) ?_
      exact t_somK hk (fun hf => t_iret dX3_settleOwn_223 rfl (by decide) ⟨_, rfl, hf⟩ (Nat.le_of_ble_eq_true rfl) (Nat.le_of_ble_eq_true rfl))
    · refine mj_aload_n dX3_settleOwn_189 1 rfl ?_
      refine t_getR 1 dX3_settleOwn_190 F_X3_14 qr_846_0 ?_
      refine t_getR 7 dX3_settleOwn_193 F_X3_135 qr_1_15 ?_
      refine mj_iload_n dX3_settleOwn_196 3 rfl ?_
      refine t_chkK hk (fun c2 hk => ?_)
      refine t_zald dX3_settleOwn_197 qa_7 (t_ixv c2) ?_
      refine t_chkK hk (fun c3 hk => ?_)
      exact t_somK hk (fun hf => t_iret dX3_settleOwn_198 rfl (t_zfit c3) ⟨_, rfl, hf⟩ (Nat.le_of_ble_eq_true rfl) (Nat.le_of_ble_eq_true rfl))
  · replace hk := t_neg hk hout
    have hh1 : ¬ x1.toInt < 5 := fun z => hout (Or.inl z)
    have hh2 : ¬ (14 : Int) < x1.toInt := fun z => hout (Or.inr z)
    by_cases h0 : x1.toInt = 5
    · replace hk := t_pos hk h0
      refine mj_tableIn 56 dX3_settleOwn_1 hh1 hh2 (by rw [h0]; rfl) (by decide) ?_
      refine mj_aload_n dX3_settleOwn_56 0 rfl ?_
      refine mj_iload dX3_settleOwn_57 4 rfl ?_
      refine mj_bipush (v := 6) dX3_settleOwn_59 (by decide) ?_
      refine mj_aload_n dX3_settleOwn_61 0 rfl ?_
      refine t_getR 428 dX3_settleOwn_62 F_X3_30 qr_846_4 ?_
      refine mj_iload_n dX3_settleOwn_65 3 rfl ?_
      refine mj_iload_n dX3_settleOwn_66 2 rfl ?_
      refine t_bndK hk (fun r5 er5 hk => ?_)
      refine t_callViP dX3_settleOwn_67 M_X5_portOf (C_X5_portOf _ _ _ _ er5) ML_X3_121 IM_X5_portOf SE_X5_portOf qc_428 rfl (As := [.int x3, .int x2]) rfl rfl (Nat.le_of_ble_eq_true rfl) (Nat.le_of_ble_eq_true rfl) (Nat.le_of_ble_eq_true rfl) (Nat.le_of_ble_eq_true rfl) ?_
      refine t_bndK hk (fun r6 er6 hk => ?_)
      refine t_callViE dX3_settleOwn_70 M_X3_put (C_X3_put _ _ _ _ _ er6) ML_X3_100 IM_X3_put SE_X3_put qc_846 rfl (As := [.int x4, .int 6, .int r5]) rfl rfl (Nat.le_of_ble_eq_true rfl) (Nat.le_of_ble_eq_true rfl) (Nat.le_of_ble_eq_true rfl) (Nat.le_of_ble_eq_true rfl) ?_
      refine t_chkK hk (fun c6 hk => ?_)
      exact t_somK hk (fun hf => t_iret dX3_settleOwn_73 rfl (t_zfit c6) ⟨_, rfl, hf⟩ (Nat.le_of_ble_eq_true rfl) (Nat.le_of_ble_eq_true rfl))
    replace hk := t_neg hk h0
    by_cases h1 : x1.toInt = 6
    · replace hk := t_pos hk h1
      refine mj_tableIn 74 dX3_settleOwn_1 hh1 hh2 (by rw [h1]; rfl) (by decide) ?_
      refine mj_aload_n dX3_settleOwn_74 0 rfl ?_
      refine mj_iload dX3_settleOwn_75 4 rfl ?_
      refine mj_bipush (v := 6) dX3_settleOwn_77 (by decide) ?_
      refine mj_aload_n dX3_settleOwn_79 0 rfl ?_
      refine t_getR 428 dX3_settleOwn_80 F_X3_30 qr_846_4 ?_
      refine mj_iload_n dX3_settleOwn_83 3 rfl ?_
      refine mj_iload_n dX3_settleOwn_84 2 rfl ?_
      refine t_bndK hk (fun r8 er8 hk => ?_)
      refine t_callViP dX3_settleOwn_85 M_X5_timerOf (C_X5_timerOf _ _ _ _ er8) ML_X3_124 IM_X5_timerOf SE_X5_timerOf qc_428 rfl (As := [.int x3, .int x2]) rfl rfl (Nat.le_of_ble_eq_true rfl) (Nat.le_of_ble_eq_true rfl) (Nat.le_of_ble_eq_true rfl) (Nat.le_of_ble_eq_true rfl) ?_
      refine t_bndK hk (fun r9 er9 hk => ?_)
      refine t_callViE dX3_settleOwn_88 M_X3_put (C_X3_put _ _ _ _ _ er9) ML_X3_100 IM_X3_put SE_X3_put qc_846 rfl (As := [.int x4, .int 6, .int r8]) rfl rfl (Nat.le_of_ble_eq_true rfl) (Nat.le_of_ble_eq_true rfl) (Nat.le_of_ble_eq_true rfl) (Nat.le_of_ble_eq_true rfl) ?_
      refine t_chkK hk (fun c9 hk => ?_)
      exact t_somK hk (fun hf => t_iret dX3_settleOwn_91 rfl (t_zfit c9) ⟨_, rfl, hf⟩ (Nat.le_of_ble_eq_true rfl) (Nat.le_of_ble_eq_true rfl))
    replace hk := t_neg hk h1
    by_cases h2 : x1.toInt = 7
    · replace hk := t_pos hk h2
      refine mj_tableIn 92 dX3_settleOwn_1 hh1 hh2 (by rw [h2]; rfl) (by decide) ?_
      refine mj_aload_n dX3_settleOwn_92 0 rfl ?_
      refine t_getR 428 dX3_settleOwn_93 F_X3_30 qr_846_4 ?_
      refine mj_iload dX3_settleOwn_96 5 rfl ?_
      refine mj_if_ge 109 dX3_settleOwn_98 (by decide) (fun z => t_posK hk z (fun hk => ?_)) (fun z => t_negK hk z (fun hk => ?_))
      · refine mj_iload_n dX3_settleOwn_109 3 rfl ?_
        refine mj_sublv [(0, .ref 846), (2, .int x2), (4, .int x4)] [0, 2, 4] rfl ?_
        exact B_X3_settleOwn_110 _ _ _ _ _ hk
      · refine mj_bipush (v := (-2)) dX3_settleOwn_101 (by decide) ?_
        refine mj_iload dX3_settleOwn_103 5 rfl ?_
        refine mj_isub dX3_settleOwn_105 ?_
        refine mj_goto 110 dX3_settleOwn_106 (by decide) ?_
        refine mj_sublv [(0, .ref 846), (2, .int x2), (4, .int x4)] [0, 2, 4] rfl ?_
        exact B_X3_settleOwn_110 _ _ _ _ _ hk
    replace hk := t_neg hk h2
    by_cases h3 : x1.toInt = 8
    · replace hk := t_pos hk h3
      refine mj_tableIn 173 dX3_settleOwn_1 hh1 hh2 (by rw [h3]; rfl) (by decide) ?_
      refine mj_aload_n dX3_settleOwn_173 0 rfl ?_
      refine t_getR 428 dX3_settleOwn_174 F_X3_30 qr_846_4 ?_
      refine mj_iload_n dX3_settleOwn_177 3 rfl ?_
      refine mj_iload_n dX3_settleOwn_178 2 rfl ?_
      refine t_bndK hk (fun r11 er11 hk => ?_)
      refine t_callViP dX3_settleOwn_179 M_X5_varOf (C_X5_varOf _ _ _ _ er11) ML_X3_132 IM_X5_varOf SE_X5_varOf qc_428 rfl (As := [.int x3, .int x2]) rfl rfl (Nat.le_of_ble_eq_true rfl) (Nat.le_of_ble_eq_true rfl) (Nat.le_of_ble_eq_true rfl) (Nat.le_of_ble_eq_true rfl) ?_
      refine mj_istore (lv2 := [(7, .int r11), (0, .ref 846), (1, .int x1), (2, .int x2), (3, .int x3), (4, .int x4), (5, .int x5)]) dX3_settleOwn_182 (by decide) rfl ?_
      refine mj_iload dX3_settleOwn_184 0 rfl ?_
      refine mj_if_ge 199 dX3_settleOwn_186 (by decide) (fun z => t_posK hk z (fun hk => ?_)) (fun z => t_negK hk z (fun hk => ?_))
      · refine mj_aload_n dX3_settleOwn_199 1 rfl ?_
        refine t_getR 334 dX3_settleOwn_200 F_X3_26 qr_846_3 ?_
        refine t_getR 335 dX3_settleOwn_203 F_X3_139 qr_334_0 ?_
        refine mj_iload dX3_settleOwn_206 5 rfl ?_
        refine mj_iconst (v := 4) dX3_settleOwn_208 (by decide) ?_
        refine t_chkK hk (fun c11 hk => ?_)
        refine t_iastK dX3_settleOwn_209 qa_335 (t_ixv c11) (fun s3 ws3 => t_letE hk ws3 (fun hk => ?_))
        refine mj_aload_n dX3_settleOwn_210 1 rfl ?_
        refine t_getR 334 dX3_settleOwn_211 F_X3_26 qr_846_3 ?_
        refine t_getR 336 dX3_settleOwn_214 F_X3_127 qr_334_1 ?_
        refine mj_iload dX3_settleOwn_217 5 rfl ?_
        refine mj_iload dX3_settleOwn_219 0 rfl ?_
        refine t_iastK dX3_settleOwn_221 qa_336 (t_ixv c11) (fun s4 ws4 => t_letE hk ws4 (fun hk => ?_))
        refine mj_iconst (v := 1) dX3_settleOwn_222 (by decide) ?_
        exact t_somK hk (fun hf => t_iret dX3_settleOwn_223 rfl (by decide) ⟨_, rfl, hf⟩ (Nat.le_of_ble_eq_true rfl) (Nat.le_of_ble_eq_true rfl))
      · refine mj_aload_n dX3_settleOwn_189 1 rfl ?_
        refine t_getR 1 dX3_settleOwn_190 F_X3_14 qr_846_0 ?_
        refine t_getR 7 dX3_settleOwn_193 F_X3_135 qr_1_15 ?_
        refine mj_iload_n dX3_settleOwn_196 3 rfl ?_
        refine t_chkK hk (fun c12 hk => ?_)
        refine t_zald dX3_settleOwn_197 qa_7 (t_ixv c12) ?_
        refine t_chkK hk (fun c13 hk => ?_)
        exact t_somK hk (fun hf => t_iret dX3_settleOwn_198 rfl (t_zfit c13) ⟨_, rfl, hf⟩ (Nat.le_of_ble_eq_true rfl) (Nat.le_of_ble_eq_true rfl))
    replace hk := t_neg hk h3
    by_cases h4 : x1.toInt = 9
    · replace hk := t_pos hk h4
      refine mj_tableIn 173 dX3_settleOwn_1 hh1 hh2 (by rw [h4]; rfl) (by decide) ?_
      refine mj_aload_n dX3_settleOwn_173 0 rfl ?_
      refine t_getR 428 dX3_settleOwn_174 F_X3_30 qr_846_4 ?_
      refine mj_iload_n dX3_settleOwn_177 3 rfl ?_
      refine mj_iload_n dX3_settleOwn_178 2 rfl ?_
      refine t_bndK hk (fun r15 er15 hk => ?_)
      refine t_callViP dX3_settleOwn_179 M_X5_varOf (C_X5_varOf _ _ _ _ er15) ML_X3_132 IM_X5_varOf SE_X5_varOf qc_428 rfl (As := [.int x3, .int x2]) rfl rfl (Nat.le_of_ble_eq_true rfl) (Nat.le_of_ble_eq_true rfl) (Nat.le_of_ble_eq_true rfl) (Nat.le_of_ble_eq_true rfl) ?_
      refine mj_istore (lv2 := [(7, .int r15), (0, .ref 846), (1, .int x1), (2, .int x2), (3, .int x3), (4, .int x4), (5, .int x5)]) dX3_settleOwn_182 (by decide) rfl ?_
      refine mj_iload dX3_settleOwn_184 0 rfl ?_
      refine mj_if_ge 199 dX3_settleOwn_186 (by decide) (fun z => t_posK hk z (fun hk => ?_)) (fun z => t_negK hk z (fun hk => ?_))
      · refine mj_aload_n dX3_settleOwn_199 1 rfl ?_
        refine t_getR 334 dX3_settleOwn_200 F_X3_26 qr_846_3 ?_
        refine t_getR 335 dX3_settleOwn_203 F_X3_139 qr_334_0 ?_
        refine mj_iload dX3_settleOwn_206 5 rfl ?_
        refine mj_iconst (v := 4) dX3_settleOwn_208 (by decide) ?_
        refine t_chkK hk (fun c15 hk => ?_)
        refine t_iastK dX3_settleOwn_209 qa_335 (t_ixv c15) (fun s5 ws5 => t_letE hk ws5 (fun hk => ?_))
        refine mj_aload_n dX3_settleOwn_210 1 rfl ?_
        refine t_getR 334 dX3_settleOwn_211 F_X3_26 qr_846_3 ?_
        refine t_getR 336 dX3_settleOwn_214 F_X3_127 qr_334_1 ?_
        refine mj_iload dX3_settleOwn_217 5 rfl ?_
        refine mj_iload dX3_settleOwn_219 0 rfl ?_
        refine t_iastK dX3_settleOwn_221 qa_336 (t_ixv c15) (fun s6 ws6 => t_letE hk ws6 (fun hk => ?_))
        refine mj_iconst (v := 1) dX3_settleOwn_222 (by decide) ?_
        exact t_somK hk (fun hf => t_iret dX3_settleOwn_223 rfl (by decide) ⟨_, rfl, hf⟩ (Nat.le_of_ble_eq_true rfl) (Nat.le_of_ble_eq_true rfl))
      · refine mj_aload_n dX3_settleOwn_189 1 rfl ?_
        refine t_getR 1 dX3_settleOwn_190 F_X3_14 qr_846_0 ?_
        refine t_getR 7 dX3_settleOwn_193 F_X3_135 qr_1_15 ?_
        refine mj_iload_n dX3_settleOwn_196 3 rfl ?_
        refine t_chkK hk (fun c16 hk => ?_)
        refine t_zald dX3_settleOwn_197 qa_7 (t_ixv c16) ?_
        refine t_chkK hk (fun c17 hk => ?_)
        exact t_somK hk (fun hf => t_iret dX3_settleOwn_198 rfl (t_zfit c17) ⟨_, rfl, hf⟩ (Nat.le_of_ble_eq_true rfl) (Nat.le_of_ble_eq_true rfl))
    replace hk := t_neg hk h4
    by_cases h5 : x1.toInt = 10
    · replace hk := t_pos hk h5
      refine mj_tableIn 173 dX3_settleOwn_1 hh1 hh2 (by rw [h5]; rfl) (by decide) ?_
      refine mj_aload_n dX3_settleOwn_173 0 rfl ?_
      refine t_getR 428 dX3_settleOwn_174 F_X3_30 qr_846_4 ?_
      refine mj_iload_n dX3_settleOwn_177 3 rfl ?_
      refine mj_iload_n dX3_settleOwn_178 2 rfl ?_
      refine t_bndK hk (fun r19 er19 hk => ?_)
      refine t_callViP dX3_settleOwn_179 M_X5_varOf (C_X5_varOf _ _ _ _ er19) ML_X3_132 IM_X5_varOf SE_X5_varOf qc_428 rfl (As := [.int x3, .int x2]) rfl rfl (Nat.le_of_ble_eq_true rfl) (Nat.le_of_ble_eq_true rfl) (Nat.le_of_ble_eq_true rfl) (Nat.le_of_ble_eq_true rfl) ?_
      refine mj_istore (lv2 := [(7, .int r19), (0, .ref 846), (1, .int x1), (2, .int x2), (3, .int x3), (4, .int x4), (5, .int x5)]) dX3_settleOwn_182 (by decide) rfl ?_
      refine mj_iload dX3_settleOwn_184 0 rfl ?_
      refine mj_if_ge 199 dX3_settleOwn_186 (by decide) (fun z => t_posK hk z (fun hk => ?_)) (fun z => t_negK hk z (fun hk => ?_))
      · refine mj_aload_n dX3_settleOwn_199 1 rfl ?_
        refine t_getR 334 dX3_settleOwn_200 F_X3_26 qr_846_3 ?_
        refine t_getR 335 dX3_settleOwn_203 F_X3_139 qr_334_0 ?_
        refine mj_iload dX3_settleOwn_206 5 rfl ?_
        refine mj_iconst (v := 4) dX3_settleOwn_208 (by decide) ?_
        refine t_chkK hk (fun c19 hk => ?_)
        refine t_iastK dX3_settleOwn_209 qa_335 (t_ixv c19) (fun s7 ws7 => t_letE hk ws7 (fun hk => ?_))
        refine mj_aload_n dX3_settleOwn_210 1 rfl ?_
        refine t_getR 334 dX3_settleOwn_211 F_X3_26 qr_846_3 ?_
        refine t_getR 336 dX3_settleOwn_214 F_X3_127 qr_334_1 ?_
        refine mj_iload dX3_settleOwn_217 5 rfl ?_
        refine mj_iload dX3_settleOwn_219 0 rfl ?_
        refine t_iastK dX3_settleOwn_221 qa_336 (t_ixv c19) (fun s8 ws8 => t_letE hk ws8 (fun hk => ?_))
        refine mj_iconst (v := 1) dX3_settleOwn_222 (by decide) ?_
        exact t_somK hk (fun hf => t_iret dX3_settleOwn_223 rfl (by decide) ⟨_, rfl, hf⟩ (Nat.le_of_ble_eq_true rfl) (Nat.le_of_ble_eq_true rfl))
      · refine mj_aload_n dX3_settleOwn_189 1 rfl ?_
        refine t_getR 1 dX3_settleOwn_190 F_X3_14 qr_846_0 ?_
        refine t_getR 7 dX3_settleOwn_193 F_X3_135 qr_1_15 ?_
        refine mj_iload_n dX3_settleOwn_196 3 rfl ?_
        refine t_chkK hk (fun c20 hk => ?_)
        refine t_zald dX3_settleOwn_197 qa_7 (t_ixv c20) ?_
        refine t_chkK hk (fun c21 hk => ?_)
        exact t_somK hk (fun hf => t_iret dX3_settleOwn_198 rfl (t_zfit c21) ⟨_, rfl, hf⟩ (Nat.le_of_ble_eq_true rfl) (Nat.le_of_ble_eq_true rfl))
    replace hk := t_neg hk h5
    by_cases h6 : x1.toInt = 11
    · replace hk := t_pos hk h6
      refine mj_tableIn 173 dX3_settleOwn_1 hh1 hh2 (by rw [h6]; rfl) (by decide) ?_
      refine mj_aload_n dX3_settleOwn_173 0 rfl ?_
      refine t_getR 428 dX3_settleOwn_174 F_X3_30 qr_846_4 ?_
      refine mj_iload_n dX3_settleOwn_177 3 rfl ?_
      refine mj_iload_n dX3_settleOwn_178 2 rfl ?_
      refine t_bndK hk (fun r23 er23 hk => ?_)
      refine t_callViP dX3_settleOwn_179 M_X5_varOf (C_X5_varOf _ _ _ _ er23) ML_X3_132 IM_X5_varOf SE_X5_varOf qc_428 rfl (As := [.int x3, .int x2]) rfl rfl (Nat.le_of_ble_eq_true rfl) (Nat.le_of_ble_eq_true rfl) (Nat.le_of_ble_eq_true rfl) (Nat.le_of_ble_eq_true rfl) ?_
      refine mj_istore (lv2 := [(7, .int r23), (0, .ref 846), (1, .int x1), (2, .int x2), (3, .int x3), (4, .int x4), (5, .int x5)]) dX3_settleOwn_182 (by decide) rfl ?_
      refine mj_iload dX3_settleOwn_184 0 rfl ?_
      refine mj_if_ge 199 dX3_settleOwn_186 (by decide) (fun z => t_posK hk z (fun hk => ?_)) (fun z => t_negK hk z (fun hk => ?_))
      · refine mj_aload_n dX3_settleOwn_199 1 rfl ?_
        refine t_getR 334 dX3_settleOwn_200 F_X3_26 qr_846_3 ?_
        refine t_getR 335 dX3_settleOwn_203 F_X3_139 qr_334_0 ?_
        refine mj_iload dX3_settleOwn_206 5 rfl ?_
        refine mj_iconst (v := 4) dX3_settleOwn_208 (by decide) ?_
        refine t_chkK hk (fun c23 hk => ?_)
        refine t_iastK dX3_settleOwn_209 qa_335 (t_ixv c23) (fun s9 ws9 => t_letE hk ws9 (fun hk => ?_))
        refine mj_aload_n dX3_settleOwn_210 1 rfl ?_
        refine t_getR 334 dX3_settleOwn_211 F_X3_26 qr_846_3 ?_
        refine t_getR 336 dX3_settleOwn_214 F_X3_127 qr_334_1 ?_
        refine mj_iload dX3_settleOwn_217 5 rfl ?_
        refine mj_iload dX3_settleOwn_219 0 rfl ?_
        refine t_iastK dX3_settleOwn_221 qa_336 (t_ixv c23) (fun s10 ws10 => t_letE hk ws10 (fun hk => ?_))
        refine mj_iconst (v := 1) dX3_settleOwn_222 (by decide) ?_
        exact t_somK hk (fun hf => t_iret dX3_settleOwn_223 rfl (by decide) ⟨_, rfl, hf⟩ (Nat.le_of_ble_eq_true rfl) (Nat.le_of_ble_eq_true rfl))
      · refine mj_aload_n dX3_settleOwn_189 1 rfl ?_
        refine t_getR 1 dX3_settleOwn_190 F_X3_14 qr_846_0 ?_
        refine t_getR 7 dX3_settleOwn_193 F_X3_135 qr_1_15 ?_
        refine mj_iload_n dX3_settleOwn_196 3 rfl ?_
        refine t_chkK hk (fun c24 hk => ?_)
        refine t_zald dX3_settleOwn_197 qa_7 (t_ixv c24) ?_
        refine t_chkK hk (fun c25 hk => ?_)
        exact t_somK hk (fun hf => t_iret dX3_settleOwn_198 rfl (t_zfit c25) ⟨_, rfl, hf⟩ (Nat.le_of_ble_eq_true rfl) (Nat.le_of_ble_eq_true rfl))
    replace hk := t_neg hk h6
    by_cases h7 : x1.toInt = 12
    · replace hk := t_pos hk h7
      refine mj_tableIn 173 dX3_settleOwn_1 hh1 hh2 (by rw [h7]; rfl) (by decide) ?_
      refine mj_aload_n dX3_settleOwn_173 0 rfl ?_
      refine t_getR 428 dX3_settleOwn_174 F_X3_30 qr_846_4 ?_
      refine mj_iload_n dX3_settleOwn_177 3 rfl ?_
      refine mj_iload_n dX3_settleOwn_178 2 rfl ?_
      refine t_bndK hk (fun r27 er27 hk => ?_)
      refine t_callViP dX3_settleOwn_179 M_X5_varOf (C_X5_varOf _ _ _ _ er27) ML_X3_132 IM_X5_varOf SE_X5_varOf qc_428 rfl (As := [.int x3, .int x2]) rfl rfl (Nat.le_of_ble_eq_true rfl) (Nat.le_of_ble_eq_true rfl) (Nat.le_of_ble_eq_true rfl) (Nat.le_of_ble_eq_true rfl) ?_
      refine mj_istore (lv2 := [(7, .int r27), (0, .ref 846), (1, .int x1), (2, .int x2), (3, .int x3), (4, .int x4), (5, .int x5)]) dX3_settleOwn_182 (by decide) rfl ?_
      refine mj_iload dX3_settleOwn_184 0 rfl ?_
      refine mj_if_ge 199 dX3_settleOwn_186 (by decide) (fun z => t_posK hk z (fun hk => ?_)) (fun z => t_negK hk z (fun hk => ?_))
      · refine mj_aload_n dX3_settleOwn_199 1 rfl ?_
        refine t_getR 334 dX3_settleOwn_200 F_X3_26 qr_846_3 ?_
        refine t_getR 335 dX3_settleOwn_203 F_X3_139 qr_334_0 ?_
        refine mj_iload dX3_settleOwn_206 5 rfl ?_
        refine mj_iconst (v := 4) dX3_settleOwn_208 (by decide) ?_
        refine t_chkK hk (fun c27 hk => ?_)
        refine t_iastK dX3_settleOwn_209 qa_335 (t_ixv c27) (fun s11 ws11 => t_letE hk ws11 (fun hk => ?_))
        refine mj_aload_n dX3_settleOwn_210 1 rfl ?_
        refine t_getR 334 dX3_settleOwn_211 F_X3_26 qr_846_3 ?_
        refine t_getR 336 dX3_settleOwn_214 F_X3_127 qr_334_1 ?_
        refine mj_iload dX3_settleOwn_217 5 rfl ?_
        refine mj_iload dX3_settleOwn_219 0 rfl ?_
        refine t_iastK dX3_settleOwn_221 qa_336 (t_ixv c27) (fun s12 ws12 => t_letE hk ws12 (fun hk => ?_))
        refine mj_iconst (v := 1) dX3_settleOwn_222 (by decide) ?_
        exact t_somK hk (fun hf => t_iret dX3_settleOwn_223 rfl (by decide) ⟨_, rfl, hf⟩ (Nat.le_of_ble_eq_true rfl) (Nat.le_of_ble_eq_true rfl))
      · refine mj_aload_n dX3_settleOwn_189 1 rfl ?_
        refine t_getR 1 dX3_settleOwn_190 F_X3_14 qr_846_0 ?_
        refine t_getR 7 dX3_settleOwn_193 F_X3_135 qr_1_15 ?_
        refine mj_iload_n dX3_settleOwn_196 3 rfl ?_
        refine t_chkK hk (fun c28 hk => ?_)
        refine t_zald dX3_settleOwn_197 qa_7 (t_ixv c28) ?_
        refine t_chkK hk (fun c29 hk => ?_)
        exact t_somK hk (fun hf => t_iret dX3_settleOwn_198 rfl (t_zfit c29) ⟨_, rfl, hf⟩ (Nat.le_of_ble_eq_true rfl) (Nat.le_of_ble_eq_true rfl))
    replace hk := t_neg hk h7
    by_cases h8 : x1.toInt = 13
    · replace hk := t_pos hk h8
      refine mj_tableIn 173 dX3_settleOwn_1 hh1 hh2 (by rw [h8]; rfl) (by decide) ?_
      refine mj_aload_n dX3_settleOwn_173 0 rfl ?_
      refine t_getR 428 dX3_settleOwn_174 F_X3_30 qr_846_4 ?_
      refine mj_iload_n dX3_settleOwn_177 3 rfl ?_
      refine mj_iload_n dX3_settleOwn_178 2 rfl ?_
      refine t_bndK hk (fun r31 er31 hk => ?_)
      refine t_callViP dX3_settleOwn_179 M_X5_varOf (C_X5_varOf _ _ _ _ er31) ML_X3_132 IM_X5_varOf SE_X5_varOf qc_428 rfl (As := [.int x3, .int x2]) rfl rfl (Nat.le_of_ble_eq_true rfl) (Nat.le_of_ble_eq_true rfl) (Nat.le_of_ble_eq_true rfl) (Nat.le_of_ble_eq_true rfl) ?_
      refine mj_istore (lv2 := [(7, .int r31), (0, .ref 846), (1, .int x1), (2, .int x2), (3, .int x3), (4, .int x4), (5, .int x5)]) dX3_settleOwn_182 (by decide) rfl ?_
      refine mj_iload dX3_settleOwn_184 0 rfl ?_
      refine mj_if_ge 199 dX3_settleOwn_186 (by decide) (fun z => t_posK hk z (fun hk => ?_)) (fun z => t_negK hk z (fun hk => ?_))
      · refine mj_aload_n dX3_settleOwn_199 1 rfl ?_
        refine t_getR 334 dX3_settleOwn_200 F_X3_26 qr_846_3 ?_
        refine t_getR 335 dX3_settleOwn_203 F_X3_139 qr_334_0 ?_
        refine mj_iload dX3_settleOwn_206 5 rfl ?_
        refine mj_iconst (v := 4) dX3_settleOwn_208 (by decide) ?_
        refine t_chkK hk (fun c31 hk => ?_)
        refine t_iastK dX3_settleOwn_209 qa_335 (t_ixv c31) (fun s13 ws13 => t_letE hk ws13 (fun hk => ?_))
        refine mj_aload_n dX3_settleOwn_210 1 rfl ?_
        refine t_getR 334 dX3_settleOwn_211 F_X3_26 qr_846_3 ?_
        refine t_getR 336 dX3_settleOwn_214 F_X3_127 qr_334_1 ?_
        refine mj_iload dX3_settleOwn_217 5 rfl ?_
        refine mj_iload dX3_settleOwn_219 0 rfl ?_
        refine t_iastK dX3_settleOwn_221 qa_336 (t_ixv c31) (fun s14 ws14 => t_letE hk ws14 (fun hk => ?_))
        refine mj_iconst (v := 1) dX3_settleOwn_222 (by decide) ?_
        exact t_somK hk (fun hf => t_iret dX3_settleOwn_223 rfl (by decide) ⟨_, rfl, hf⟩ (Nat.le_of_ble_eq_true rfl) (Nat.le_of_ble_eq_true rfl))
      · refine mj_aload_n dX3_settleOwn_189 1 rfl ?_
        refine t_getR 1 dX3_settleOwn_190 F_X3_14 qr_846_0 ?_
        refine t_getR 7 dX3_settleOwn_193 F_X3_135 qr_1_15 ?_
        refine mj_iload_n dX3_settleOwn_196 3 rfl ?_
        refine t_chkK hk (fun c32 hk => ?_)
        refine t_zald dX3_settleOwn_197 qa_7 (t_ixv c32) ?_
        refine t_chkK hk (fun c33 hk => ?_)
        exact t_somK hk (fun hf => t_iret dX3_settleOwn_198 rfl (t_zfit c33) ⟨_, rfl, hf⟩ (Nat.le_of_ble_eq_true rfl) (Nat.le_of_ble_eq_true rfl))
    replace hk := t_neg hk h8
    have h9 : x1.toInt = 14 := by omega
    refine mj_tableIn 139 dX3_settleOwn_1 hh1 hh2 (by rw [h9]; rfl) (by decide) ?_
    refine mj_aload_n dX3_settleOwn_139 0 rfl ?_
    refine t_getR 428 dX3_settleOwn_140 F_X3_30 qr_846_4 ?_
    refine mj_iload_n dX3_settleOwn_143 3 rfl ?_
    refine mj_iload_n dX3_settleOwn_144 2 rfl ?_
    refine t_bndK hk (fun r35 er35 hk => ?_)
    refine t_callViP dX3_settleOwn_145 M_X5_varOf (C_X5_varOf _ _ _ _ er35) ML_X3_132 IM_X5_varOf SE_X5_varOf qc_428 rfl (As := [.int x3, .int x2]) rfl rfl (Nat.le_of_ble_eq_true rfl) (Nat.le_of_ble_eq_true rfl) (Nat.le_of_ble_eq_true rfl) (Nat.le_of_ble_eq_true rfl) ?_
    refine mj_istore (lv2 := [(7, .int r35), (0, .ref 846), (1, .int x1), (2, .int x2), (3, .int x3), (4, .int x4), (5, .int x5)]) dX3_settleOwn_148 (by decide) rfl ?_
    refine mj_aload_n dX3_settleOwn_150 1 rfl ?_
    refine mj_iload dX3_settleOwn_151 5 rfl ?_
    refine mj_bipush (v := 7) dX3_settleOwn_153 (by decide) ?_
    refine mj_iload dX3_settleOwn_155 0 rfl ?_
    refine mj_if_ge 164 dX3_settleOwn_157 (by decide) (fun z => t_posK hk z (fun hk => ?_)) (fun z => t_negK hk z (fun hk => ?_))
    · refine mj_bipush (v := 8) dX3_settleOwn_164 (by decide) ?_
      refine mj_iload dX3_settleOwn_166 0 rfl ?_
      refine mj_iadd dX3_settleOwn_168 ?_
      refine mj_sublv [] [] rfl ?_
      exact B_X3_settleOwn_169 _ _ _ _ _ hk
    · refine mj_iconst (v := (-1)) dX3_settleOwn_160 (by decide) ?_
      refine mj_goto 169 dX3_settleOwn_161 (by decide) ?_
      refine mj_sublv [] [] rfl ?_
      exact B_X3_settleOwn_169 _ _ _ _ _ hk

theorem dX3_settleTempl_0 : decode cX3_settleTempl 0 = .ok (.aload_n 0, 1) := by decide +kernel
theorem dX3_settleTempl_1 : decode cX3_settleTempl 1 = .ok (.iload_n 1, 1) := by decide +kernel
theorem dX3_settleTempl_11 : decode cX3_settleTempl 11 = .ok (.aload_n 0, 1) := by decide +kernel
theorem dX3_settleTempl_12 : decode cX3_settleTempl 12 = .ok (.getfield 14, 3) := by decide +kernel
theorem dX3_settleTempl_15 : decode cX3_settleTempl 15 = .ok (.getfield 135, 3) := by decide +kernel
theorem dX3_settleTempl_18 : decode cX3_settleTempl 18 = .ok (.iload_n 1, 1) := by decide +kernel
theorem dX3_settleTempl_19 : decode cX3_settleTempl 19 = .ok (.baload, 1) := by decide +kernel
theorem dX3_settleTempl_2 : decode cX3_settleTempl 2 = .ok (.iconst 1, 1) := by decide +kernel
theorem dX3_settleTempl_20 : decode cX3_settleTempl 20 = .ok (.ireturn, 1) := by decide +kernel
theorem dX3_settleTempl_21 : decode cX3_settleTempl 21 = .ok (.aload_n 0, 1) := by decide +kernel
theorem dX3_settleTempl_22 : decode cX3_settleTempl 22 = .ok (.getfield 22, 3) := by decide +kernel
theorem dX3_settleTempl_25 : decode cX3_settleTempl 25 = .ok (.getfield 142, 3) := by decide +kernel
theorem dX3_settleTempl_28 : decode cX3_settleTempl 28 = .ok (.iload_n 2, 1) := by decide +kernel
theorem dX3_settleTempl_29 : decode cX3_settleTempl 29 = .ok (.bipush 7, 2) := by decide +kernel
theorem dX3_settleTempl_3 : decode cX3_settleTempl 3 = .ok (.invokevirtual 87, 3) := by decide +kernel
theorem dX3_settleTempl_31 : decode cX3_settleTempl 31 = .ok (.iastore, 1) := by decide +kernel
theorem dX3_settleTempl_32 : decode cX3_settleTempl 32 = .ok (.aload_n 0, 1) := by decide +kernel
theorem dX3_settleTempl_33 : decode cX3_settleTempl 33 = .ok (.getfield 22, 3) := by decide +kernel
theorem dX3_settleTempl_36 : decode cX3_settleTempl 36 = .ok (.getfield 145, 3) := by decide +kernel
theorem dX3_settleTempl_39 : decode cX3_settleTempl 39 = .ok (.iload_n 2, 1) := by decide +kernel
theorem dX3_settleTempl_40 : decode cX3_settleTempl 40 = .ok (.iload_n 3, 1) := by decide +kernel
theorem dX3_settleTempl_41 : decode cX3_settleTempl 41 = .ok (.iastore, 1) := by decide +kernel
theorem dX3_settleTempl_42 : decode cX3_settleTempl 42 = .ok (.iconst 1, 1) := by decide +kernel
theorem dX3_settleTempl_43 : decode cX3_settleTempl 43 = .ok (.ireturn, 1) := by decide +kernel
theorem dX3_settleTempl_6 : decode cX3_settleTempl 6 = .ok (.istore_n 3, 1) := by decide +kernel
theorem dX3_settleTempl_7 : decode cX3_settleTempl 7 = .ok (.iload_n 3, 1) := by decide +kernel
theorem dX3_settleTempl_8 : decode cX3_settleTempl 8 = .ok (.ifCond .ge 13, 3) := by decide +kernel
noncomputable def f_X3_settleTempl (x1 : Int32) (x2 : Int32) (s : t_S) : Option (Int32 × t_S) :=
 (f_X3_toldAs x1 (1 : Int32) s).bind (fun r1 =>
 if (0 : Int32) ≤ r1 then (if t_ix x2 6100 = true then
  t_let (t_setI s 354 (x2.toNatClampNeg) (7 : Int32)) (fun s1 =>
 t_let (t_setI s1 357 (x2.toNatClampNeg) r1) (fun s2 =>
 some ((1 : Int32), s2)))
else none)
 else (if t_ix x1 8000 = true then
  if (s.1 7 (x1.toNatClampNeg)) = 0 ∨ (s.1 7 (x1.toNatClampNeg)) = 1 then
  some ((s.1 7 (x1.toNatClampNeg)), s)
else none
else none))
set_option maxRecDepth 4000 in
set_option maxHeartbeats 1000000 in
theorem C_X3_settleTempl (x1 : Int32) (x2 : Int32) (s : t_S) (r : Int32 × t_S) (hr : f_X3_settleTempl x1 x2 s = some r) : t_C yX3_settleTempl cX3_settleTempl 4 (some .boolean) 1 [.ref 846, .int x1, .int x2] s (fun v s' => v = some (.int r.1) ∧ s' = r.2) := by
  refine t_C.imp (P := fun v s' => ∃ x, v = some (.int x) ∧ (fun q => q = r) ((x, s'))) (t_C.of (by decide +kernel) (Nat.le_of_ble_eq_true rfl) ?_) (fun v s' hp => by obtain ⟨x, rfl, rfl⟩ := hp; exact ⟨rfl, rfl⟩)
  intro D cy ad bs X
  have hk : t_hk (f_X3_settleTempl x1 x2 s) (fun q => q = r) := ⟨r, hr, rfl⟩
  show mj_G D cy ad bs X cX3_settleTempl 4 yX3_settleTempl.cls (some .boolean) yX3_settleTempl.name 1 0 0 1065 (t_P (fun v s' => ∃ x, v = some (.int x) ∧ (fun q => q = r) ((x, s')))) 0 [(0, .ref 846), (1, .int x1), (2, .int x2)] [] (t_m s) 1065 0 0
  refine mj_aload_n dX3_settleTempl_0 0 rfl ?_
  refine mj_iload_n dX3_settleTempl_1 1 rfl ?_
  refine mj_iconst (v := 1) dX3_settleTempl_2 (by decide) ?_
  refine t_bndK hk (fun r1 er1 hk => ?_)
  refine t_callViP dX3_settleTempl_3 M_X3_toldAs (C_X3_toldAs _ _ _ _ er1) ML_X3_87 IM_X3_toldAs SE_X3_toldAs qc_846 rfl (As := [.int x1, .int 1]) rfl rfl (Nat.le_of_ble_eq_true rfl) (Nat.le_of_ble_eq_true rfl) (Nat.le_of_ble_eq_true rfl) (Nat.le_of_ble_eq_true rfl) ?_
  refine mj_istore_n 3 (lv2 := [(3, .int r1), (0, .ref 846), (1, .int x1), (2, .int x2)]) dX3_settleTempl_6 rfl (by decide) rfl ?_
  refine mj_iload_n dX3_settleTempl_7 0 rfl ?_
  refine mj_if_ge 21 dX3_settleTempl_8 (by decide) (fun z => t_posK hk z (fun hk => ?_)) (fun z => t_negK hk z (fun hk => ?_))
  · refine mj_aload_n dX3_settleTempl_21 1 rfl ?_
    refine t_getR 353 dX3_settleTempl_22 F_X3_22 qr_846_2 ?_
    refine t_getR 354 dX3_settleTempl_25 F_X3_142 qr_353_0 ?_
    refine mj_iload_n dX3_settleTempl_28 3 rfl ?_
    refine mj_bipush (v := 7) dX3_settleTempl_29 (by decide) ?_
    refine t_chkK hk (fun c1 hk => ?_)
    refine t_iastK dX3_settleTempl_31 qa_354 (t_ixv c1) (fun s1 ws1 => t_letE hk ws1 (fun hk => ?_))
    refine mj_aload_n dX3_settleTempl_32 1 rfl ?_
    refine t_getR 353 dX3_settleTempl_33 F_X3_22 qr_846_2 ?_
    refine t_getR 357 dX3_settleTempl_36 F_X3_145 qr_353_3 ?_
    refine mj_iload_n dX3_settleTempl_39 3 rfl ?_
    refine mj_iload_n dX3_settleTempl_40 0 rfl ?_
    refine t_iastK dX3_settleTempl_41 qa_357 (t_ixv c1) (fun s2 ws2 => t_letE hk ws2 (fun hk => ?_))
    refine mj_iconst (v := 1) dX3_settleTempl_42 (by decide) ?_
    exact t_somK hk (fun hf => t_iret dX3_settleTempl_43 rfl (by decide) ⟨_, rfl, hf⟩ (Nat.le_of_ble_eq_true rfl) (Nat.le_of_ble_eq_true rfl))
  · refine mj_aload_n dX3_settleTempl_11 1 rfl ?_
    refine t_getR 1 dX3_settleTempl_12 F_X3_14 qr_846_0 ?_
    refine t_getR 7 dX3_settleTempl_15 F_X3_135 qr_1_15 ?_
    refine mj_iload_n dX3_settleTempl_18 2 rfl ?_
    refine t_chkK hk (fun c2 hk => ?_)
    refine t_zald dX3_settleTempl_19 qa_7 (t_ixv c2) ?_
    refine t_chkK hk (fun c3 hk => ?_)
    exact t_somK hk (fun hf => t_iret dX3_settleTempl_20 rfl (t_zfit c3) ⟨_, rfl, hf⟩ (Nat.le_of_ble_eq_true rfl) (Nat.le_of_ble_eq_true rfl))

theorem dX5_hasPort_0 : decode cX5_hasPort 0 = .ok (.iconst 0, 1) := by decide +kernel
theorem dX5_hasPort_1 : decode cX5_hasPort 1 = .ok (.istore_n 2, 1) := by decide +kernel
theorem dX5_hasPort_10 : decode cX5_hasPort 10 = .ok (.aload_n 0, 1) := by decide +kernel
theorem dX5_hasPort_11 : decode cX5_hasPort 11 = .ok (.iload_n 2, 1) := by decide +kernel
theorem dX5_hasPort_12 : decode cX5_hasPort 12 = .ok (.iload_n 1, 1) := by decide +kernel
theorem dX5_hasPort_13 : decode cX5_hasPort 13 = .ok (.invokevirtual 80, 3) := by decide +kernel
theorem dX5_hasPort_16 : decode cX5_hasPort 16 = .ok (.ifCond .lt 5, 3) := by decide +kernel
theorem dX5_hasPort_19 : decode cX5_hasPort 19 = .ok (.iconst 1, 1) := by decide +kernel
theorem dX5_hasPort_2 : decode cX5_hasPort 2 = .ok (.iload_n 2, 1) := by decide +kernel
theorem dX5_hasPort_20 : decode cX5_hasPort 20 = .ok (.ireturn, 1) := by decide +kernel
theorem dX5_hasPort_21 : decode cX5_hasPort 21 = .ok (.iinc 2 1, 3) := by decide +kernel
theorem dX5_hasPort_24 : decode cX5_hasPort 24 = .ok (.goto (-22), 3) := by decide +kernel
theorem dX5_hasPort_27 : decode cX5_hasPort 27 = .ok (.iconst 0, 1) := by decide +kernel
theorem dX5_hasPort_28 : decode cX5_hasPort 28 = .ok (.ireturn, 1) := by decide +kernel
theorem dX5_hasPort_3 : decode cX5_hasPort 3 = .ok (.aload_n 0, 1) := by decide +kernel
theorem dX5_hasPort_4 : decode cX5_hasPort 4 = .ok (.getfield 60, 3) := by decide +kernel
theorem dX5_hasPort_7 : decode cX5_hasPort 7 = .ok (.if_icmp .ge 20, 3) := by decide +kernel
noncomputable def k_X5_hasPort_2 (l1 : Int32) (l2 : Int32) (s : t_S) : Option ((Int32 × Int32) ⊕ (Int32)) :=
 if (s.1 428 0) ≤ l2 then ((some (0 : Int32)).map Sum.inr)
 else ((f_X5_portOf l2 l1 s).bind (fun r1 =>
 if r1 < (0 : Int32) then (some (.inl (l1, (l2 + 1))))
 else ((some (1 : Int32)).map Sum.inr)))
set_option maxRecDepth 4000 in
set_option maxHeartbeats 1000000 in
theorem B_X5_hasPort_2 {D : va_G} {cy : Nat → ClassId} {ad : Nat → Nat} {bs : Nat} {X : State → Heap → Prop} (l1 : Int32) (l2 : Int32) (s : t_S) (Q : (Int32 × Int32) ⊕ (Int32) → Prop) (Hb2 : ∀ (y0 : Int32) (y1 : Int32), Q (.inl (y0, y1)) → mj_G D cy ad bs X cX5_hasPort 3 yX5_hasPort.cls (some .boolean) yX5_hasPort.name 2 0 0 1065 (t_P (fun v s' => s' = s ∧ ∃ x, v = some (.int x) ∧ Q (.inr (x)))) 2 [(0, .ref 428), (1, .int (y0)), (2, .int (y1))] [] (t_m s) 1065 0 0) (hk : t_hk (k_X5_hasPort_2 l1 l2 s) Q) : mj_G D cy ad bs X cX5_hasPort 3 yX5_hasPort.cls (some .boolean) yX5_hasPort.name 2 0 0 1065 (t_P (fun v s' => s' = s ∧ ∃ x, v = some (.int x) ∧ Q (.inr (x)))) 2 [(0, .ref 428), (1, .int l1), (2, .int l2)] [] (t_m s) 1065 0 0 := by
  refine mj_iload_n dX5_hasPort_2 2 rfl ?_
  refine mj_aload_n dX5_hasPort_3 0 rfl ?_
  refine t_getI dX5_hasPort_4 F_X5_60 qf_428_0 ?_
  refine mj_icmp_ge 27 dX5_hasPort_7 (by decide) (fun z => t_posK hk z (fun hk => ?_)) (fun z => t_negK hk z (fun hk => ?_))
  · refine t_mapK hk (fun hk => ?_)
    refine mj_iconst (v := 0) dX5_hasPort_27 (by decide) ?_
    exact t_somK hk (fun hf => t_iret dX5_hasPort_28 rfl (by decide) ⟨rfl, _, rfl, hf⟩ (Nat.le_of_ble_eq_true rfl) (Nat.le_of_ble_eq_true rfl))
  · refine mj_aload_n dX5_hasPort_10 0 rfl ?_
    refine mj_iload_n dX5_hasPort_11 2 rfl ?_
    refine mj_iload_n dX5_hasPort_12 1 rfl ?_
    refine t_bndK hk (fun r1 er1 hk => ?_)
    refine t_callViP dX5_hasPort_13 M_X5_portOf (C_X5_portOf _ _ _ _ er1) ML_X5_80 IM_X5_portOf SE_X5_portOf qc_428 rfl (As := [.int l2, .int l1]) rfl rfl (Nat.le_of_ble_eq_true rfl) (Nat.le_of_ble_eq_true rfl) (Nat.le_of_ble_eq_true rfl) (Nat.le_of_ble_eq_true rfl) ?_
    refine mj_if_lt 21 dX5_hasPort_16 (by decide) (fun z => t_posK hk z (fun hk => ?_)) (fun z => t_negK hk z (fun hk => ?_))
    · refine mj_iinc (k := 2) (v := (l2 + 1)) (lv2 := [(2, .int (l2 + 1)), (0, .ref 428), (1, .int l1)]) dX5_hasPort_21 rfl rfl (by decide) rfl ?_
      refine mj_goto 2 dX5_hasPort_24 (by decide) ?_
      refine mj_sublv [(0, .ref 428), (1, .int l1), (2, .int (l2 + 1))] [1, 2, 0] rfl ?_
      exact t_somK hk (fun hf => Hb2 l1 (l2 + 1) hf)
    · refine t_mapK hk (fun hk => ?_)
      refine mj_iconst (v := 1) dX5_hasPort_19 (by decide) ?_
      exact t_somK hk (fun hf => t_iret dX5_hasPort_20 rfl (by decide) ⟨rfl, _, rfl, hf⟩ (Nat.le_of_ble_eq_true rfl) (Nat.le_of_ble_eq_true rfl))
noncomputable def b_X5_hasPort_2 (s : t_S) (x : Int32 × Int32) : Option ((Int32 × Int32) ⊕ (Int32)) := k_X5_hasPort_2 x.1 x.2 s
set_option maxRecDepth 4000 in
set_option maxHeartbeats 1000000 in
theorem LH_X5_hasPort_2 {D : va_G} {cy : Nat → ClassId} {ad : Nat → Nat} {bs : Nat} {X : State → Heap → Prop} (s : t_S) : ∀ (n : Nat) (y0 : Int32) (y1 : Int32) (Q : Int32 → Prop) (hk : t_hk (t_loop (b_X5_hasPort_2 s) n (y0, y1)) Q), mj_G D cy ad bs X cX5_hasPort 3 yX5_hasPort.cls (some .boolean) yX5_hasPort.name 2 0 0 1065 (t_P (fun v s' => s' = s ∧ ∃ x, v = some (.int x) ∧ Q (x))) 2 [(0, .ref 428), (1, .int (y0)), (2, .int (y1))] [] (t_m s) 1065 0 0 := by
  intro n
  induction n with
  | zero => intro y0 y1 Q hk; obtain ⟨r, hr, _⟩ := hk; cases hr
  | succ n ih =>
    intro y0 y1 Q hk
    exact B_X5_hasPort_2 y0 y1 s (fun y => t_lq (b_X5_hasPort_2 s) n Q y) (fun y0' y1' hy => ih y0' y1' Q hy) (t_lp hk)
noncomputable def f_X5_hasPort (x1 : Int32) (s : t_S) : Option (Int32) :=
 t_loop (b_X5_hasPort_2 s) t_N (x1, 0)
set_option maxRecDepth 4000 in
set_option maxHeartbeats 1000000 in
theorem C_X5_hasPort (x1 : Int32) (s : t_S) (r : Int32) (hr : f_X5_hasPort x1 s = some r) : t_C yX5_hasPort cX5_hasPort 3 (some .boolean) 2 [.ref 428, .int x1] s (fun v s' => v = some (.int r) ∧ s' = s) := by
  refine t_C.imp (P := fun v s' => s' = s ∧ ∃ x, v = some (.int x) ∧ (fun q => q = r) (x)) (t_C.of (by decide +kernel) (Nat.le_of_ble_eq_true rfl) ?_) (fun v s' hp => by obtain ⟨rfl, x, rfl, rfl⟩ := hp; exact ⟨rfl, rfl⟩)
  intro D cy ad bs X
  have hk : t_hk (f_X5_hasPort x1 s) (fun q => q = r) := ⟨r, hr, rfl⟩
  show mj_G D cy ad bs X cX5_hasPort 3 yX5_hasPort.cls (some .boolean) yX5_hasPort.name 2 0 0 1065 (t_P (fun v s' => s' = s ∧ ∃ x, v = some (.int x) ∧ (fun q => q = r) (x))) 0 [(0, .ref 428), (1, .int x1)] [] (t_m s) 1065 0 0
  refine mj_iconst (v := 0) dX5_hasPort_0 (by decide) ?_
  refine mj_istore_n 2 (lv2 := [(2, .int 0), (0, .ref 428), (1, .int x1)]) dX5_hasPort_1 rfl (by decide) rfl ?_
  refine mj_sublv [(0, .ref 428), (1, .int x1), (2, .int 0)] [1, 2, 0] rfl ?_
  exact LH_X5_hasPort_2 _ _ x1 0 _ hk

