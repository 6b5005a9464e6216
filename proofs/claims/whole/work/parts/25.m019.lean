/-! Methods as functions, 19: X1_readNext, X1_read, X8_keep, X12_decode, X12_drop, X1_expect, X1_placeOf, X1_writeInt, X1_writeLength -/
theorem dX1_readNext_0 : decode cX1_readNext 0 = .ok (.aload_n 0, 1) := by decide +kernel
theorem dX1_readNext_1 : decode cX1_readNext 1 = .ok (.getfield 47, 3) := by decide +kernel
theorem dX1_readNext_101 : decode cX1_readNext 101 = .ok (.getfield 149, 3) := by decide +kernel
theorem dX1_readNext_104 : decode cX1_readNext 104 = .ok (.iload_n 2, 1) := by decide +kernel
theorem dX1_readNext_105 : decode cX1_readNext 105 = .ok (.iaload, 1) := by decide +kernel
theorem dX1_readNext_106 : decode cX1_readNext 106 = .ok (.bipush 6, 2) := by decide +kernel
theorem dX1_readNext_108 : decode cX1_readNext 108 = .ok (.if_icmp .ne 19, 3) := by decide +kernel
theorem dX1_readNext_11 : decode cX1_readNext 11 = .ok (.iload_n 1, 1) := by decide +kernel
theorem dX1_readNext_111 : decode cX1_readNext 111 = .ok (.aload_n 0, 1) := by decide +kernel
theorem dX1_readNext_112 : decode cX1_readNext 112 = .ok (.iload_n 2, 1) := by decide +kernel
theorem dX1_readNext_113 : decode cX1_readNext 113 = .ok (.aload_n 0, 1) := by decide +kernel
theorem dX1_readNext_114 : decode cX1_readNext 114 = .ok (.getfield 32, 3) := by decide +kernel
theorem dX1_readNext_117 : decode cX1_readNext 117 = .ok (.iload_n 1, 1) := by decide +kernel
theorem dX1_readNext_118 : decode cX1_readNext 118 = .ok (.iaload, 1) := by decide +kernel
theorem dX1_readNext_119 : decode cX1_readNext 119 = .ok (.iconst 1, 1) := by decide +kernel
theorem dX1_readNext_12 : decode cX1_readNext 12 = .ok (.iaload, 1) := by decide +kernel
theorem dX1_readNext_120 : decode cX1_readNext 120 = .ok (.isub, 1) := by decide +kernel
theorem dX1_readNext_121 : decode cX1_readNext 121 = .ok (.invokevirtual 210, 3) := by decide +kernel
theorem dX1_readNext_124 : decode cX1_readNext 124 = .ok (.goto 4, 3) := by decide +kernel
theorem dX1_readNext_127 : decode cX1_readNext 127 = .ok (.iload_n 2, 1) := by decide +kernel
theorem dX1_readNext_128 : decode cX1_readNext 128 = .ok (.istore_n 3, 1) := by decide +kernel
theorem dX1_readNext_129 : decode cX1_readNext 129 = .ok (.aload_n 0, 1) := by decide +kernel
theorem dX1_readNext_13 : decode cX1_readNext 13 = .ok (.istore_n 2, 1) := by decide +kernel
theorem dX1_readNext_130 : decode cX1_readNext 130 = .ok (.getfield 32, 3) := by decide +kernel
theorem dX1_readNext_133 : decode cX1_readNext 133 = .ok (.iload_n 1, 1) := by decide +kernel
theorem dX1_readNext_134 : decode cX1_readNext 134 = .ok (.aload_n 0, 1) := by decide +kernel
theorem dX1_readNext_135 : decode cX1_readNext 135 = .ok (.getfield 39, 3) := by decide +kernel
theorem dX1_readNext_138 : decode cX1_readNext 138 = .ok (.getfield 149, 3) := by decide +kernel
theorem dX1_readNext_14 : decode cX1_readNext 14 = .ok (.aload_n 0, 1) := by decide +kernel
theorem dX1_readNext_141 : decode cX1_readNext 141 = .ok (.iload_n 2, 1) := by decide +kernel
theorem dX1_readNext_142 : decode cX1_readNext 142 = .ok (.iaload, 1) := by decide +kernel
theorem dX1_readNext_143 : decode cX1_readNext 143 = .ok (.bipush 6, 2) := by decide +kernel
theorem dX1_readNext_145 : decode cX1_readNext 145 = .ok (.if_icmp .ne 7, 3) := by decide +kernel
theorem dX1_readNext_148 : decode cX1_readNext 148 = .ok (.iconst 0, 1) := by decide +kernel
theorem dX1_readNext_149 : decode cX1_readNext 149 = .ok (.goto 11, 3) := by decide +kernel
theorem dX1_readNext_15 : decode cX1_readNext 15 = .ok (.getfield 39, 3) := by decide +kernel
theorem dX1_readNext_152 : decode cX1_readNext 152 = .ok (.aload_n 0, 1) := by decide +kernel
theorem dX1_readNext_153 : decode cX1_readNext 153 = .ok (.getfield 32, 3) := by decide +kernel
theorem dX1_readNext_156 : decode cX1_readNext 156 = .ok (.iload_n 1, 1) := by decide +kernel
theorem dX1_readNext_157 : decode cX1_readNext 157 = .ok (.iaload, 1) := by decide +kernel
theorem dX1_readNext_158 : decode cX1_readNext 158 = .ok (.iconst 1, 1) := by decide +kernel
theorem dX1_readNext_159 : decode cX1_readNext 159 = .ok (.isub, 1) := by decide +kernel
theorem dX1_readNext_160 : decode cX1_readNext 160 = .ok (.iastore, 1) := by decide +kernel
theorem dX1_readNext_161 : decode cX1_readNext 161 = .ok (.aload_n 0, 1) := by decide +kernel
theorem dX1_readNext_162 : decode cX1_readNext 162 = .ok (.aload_n 0, 1) := by decide +kernel
theorem dX1_readNext_163 : decode cX1_readNext 163 = .ok (.getfield 39, 3) := by decide +kernel
theorem dX1_readNext_166 : decode cX1_readNext 166 = .ok (.getfield 181, 3) := by decide +kernel
theorem dX1_readNext_169 : decode cX1_readNext 169 = .ok (.iload_n 3, 1) := by decide +kernel
theorem dX1_readNext_170 : decode cX1_readNext 170 = .ok (.iaload, 1) := by decide +kernel
theorem dX1_readNext_171 : decode cX1_readNext 171 = .ok (.iconst (-1), 1) := by decide +kernel
theorem dX1_readNext_172 : decode cX1_readNext 172 = .ok (.invokevirtual 224, 3) := by decide +kernel
theorem dX1_readNext_175 : decode cX1_readNext 175 = .ok (.return_, 1) := by decide +kernel
theorem dX1_readNext_176 : decode cX1_readNext 176 = .ok (.aload_n 0, 1) := by decide +kernel
theorem dX1_readNext_177 : decode cX1_readNext 177 = .ok (.dup, 1) := by decide +kernel
theorem dX1_readNext_178 : decode cX1_readNext 178 = .ok (.getfield 47, 3) := by decide +kernel
theorem dX1_readNext_18 : decode cX1_readNext 18 = .ok (.getfield 149, 3) := by decide +kernel
theorem dX1_readNext_181 : decode cX1_readNext 181 = .ok (.iconst 1, 1) := by decide +kernel
theorem dX1_readNext_182 : decode cX1_readNext 182 = .ok (.isub, 1) := by decide +kernel
theorem dX1_readNext_183 : decode cX1_readNext 183 = .ok (.putfield 47, 3) := by decide +kernel
theorem dX1_readNext_186 : decode cX1_readNext 186 = .ok (.aload_n 0, 1) := by decide +kernel
theorem dX1_readNext_187 : decode cX1_readNext 187 = .ok (.getfield 25, 3) := by decide +kernel
theorem dX1_readNext_190 : decode cX1_readNext 190 = .ok (.iload_n 1, 1) := by decide +kernel
theorem dX1_readNext_191 : decode cX1_readNext 191 = .ok (.iaload, 1) := by decide +kernel
theorem dX1_readNext_192 : decode cX1_readNext 192 = .ok (.istore_n 3, 1) := by decide +kernel
theorem dX1_readNext_193 : decode cX1_readNext 193 = .ok (.aload_n 0, 1) := by decide +kernel
theorem dX1_readNext_194 : decode cX1_readNext 194 = .ok (.getfield 18, 3) := by decide +kernel
theorem dX1_readNext_197 : decode cX1_readNext 197 = .ok (.iload_n 3, 1) := by decide +kernel
theorem dX1_readNext_198 : decode cX1_readNext 198 = .ok (.dup2, 1) := by decide +kernel
theorem dX1_readNext_199 : decode cX1_readNext 199 = .ok (.laload, 1) := by decide +kernel
theorem dX1_readNext_200 : decode cX1_readNext 200 = .ok (.aload_n 0, 1) := by decide +kernel
theorem dX1_readNext_201 : decode cX1_readNext 201 = .ok (.getfield 212, 3) := by decide +kernel
theorem dX1_readNext_204 : decode cX1_readNext 204 = .ok (.iload_n 3, 1) := by decide +kernel
theorem dX1_readNext_205 : decode cX1_readNext 205 = .ok (.isub, 1) := by decide +kernel
theorem dX1_readNext_206 : decode cX1_readNext 206 = .ok (.i2l, 1) := by decide +kernel
theorem dX1_readNext_207 : decode cX1_readNext 207 = .ok (.iconst 4, 1) := by decide +kernel
theorem dX1_readNext_208 : decode cX1_readNext 208 = .ok (.lshl, 1) := by decide +kernel
theorem dX1_readNext_209 : decode cX1_readNext 209 = .ok (.ladd, 1) := by decide +kernel
theorem dX1_readNext_21 : decode cX1_readNext 21 = .ok (.iload_n 2, 1) := by decide +kernel
theorem dX1_readNext_210 : decode cX1_readNext 210 = .ok (.lastore, 1) := by decide +kernel
theorem dX1_readNext_211 : decode cX1_readNext 211 = .ok (.aload_n 0, 1) := by decide +kernel
theorem dX1_readNext_212 : decode cX1_readNext 212 = .ok (.getfield 39, 3) := by decide +kernel
theorem dX1_readNext_215 : decode cX1_readNext 215 = .ok (.getfield 149, 3) := by decide +kernel
theorem dX1_readNext_218 : decode cX1_readNext 218 = .ok (.iload_n 2, 1) := by decide +kernel
theorem dX1_readNext_219 : decode cX1_readNext 219 = .ok (.iaload, 1) := by decide +kernel
theorem dX1_readNext_22 : decode cX1_readNext 22 = .ok (.iaload, 1) := by decide +kernel
theorem dX1_readNext_220 : decode cX1_readNext 220 = .ok (.iconst 5, 1) := by decide +kernel
theorem dX1_readNext_221 : decode cX1_readNext 221 = .ok (.if_icmp .ne 15, 3) := by decide +kernel
theorem dX1_readNext_224 : decode cX1_readNext 224 = .ok (.aload_n 0, 1) := by decide +kernel
theorem dX1_readNext_225 : decode cX1_readNext 225 = .ok (.getfield 18, 3) := by decide +kernel
theorem dX1_readNext_228 : decode cX1_readNext 228 = .ok (.iload_n 3, 1) := by decide +kernel
theorem dX1_readNext_229 : decode cX1_readNext 229 = .ok (.aload_n 0, 1) := by decide +kernel
theorem dX1_readNext_23 : decode cX1_readNext 23 = .ok (.iconst 5, 1) := by decide +kernel
theorem dX1_readNext_230 : decode cX1_readNext 230 = .ok (.getfield 22, 3) := by decide +kernel
theorem dX1_readNext_233 : decode cX1_readNext 233 = .ok (.invokestatic 235, 3) := by decide +kernel
theorem dX1_readNext_236 : decode cX1_readNext 236 = .ok (.return_, 1) := by decide +kernel
theorem dX1_readNext_24 : decode cX1_readNext 24 = .ok (.if_icmp .ne 64, 3) := by decide +kernel
theorem dX1_readNext_27 : decode cX1_readNext 27 = .ok (.aload_n 0, 1) := by decide +kernel
theorem dX1_readNext_28 : decode cX1_readNext 28 = .ok (.getfield 32, 3) := by decide +kernel
theorem dX1_readNext_31 : decode cX1_readNext 31 = .ok (.iload_n 1, 1) := by decide +kernel
theorem dX1_readNext_32 : decode cX1_readNext 32 = .ok (.iaload, 1) := by decide +kernel
theorem dX1_readNext_33 : decode cX1_readNext 33 = .ok (.istore_n 3, 1) := by decide +kernel
theorem dX1_readNext_34 : decode cX1_readNext 34 = .ok (.iload_n 3, 1) := by decide +kernel
theorem dX1_readNext_35 : decode cX1_readNext 35 = .ok (.ifCond .eq 50, 3) := by decide +kernel
theorem dX1_readNext_38 : decode cX1_readNext 38 = .ok (.aload_n 0, 1) := by decide +kernel
theorem dX1_readNext_39 : decode cX1_readNext 39 = .ok (.iload_n 2, 1) := by decide +kernel
theorem dX1_readNext_4 : decode cX1_readNext 4 = .ok (.iconst 1, 1) := by decide +kernel
theorem dX1_readNext_40 : decode cX1_readNext 40 = .ok (.iload_n 3, 1) := by decide +kernel
theorem dX1_readNext_41 : decode cX1_readNext 41 = .ok (.invokestatic 230, 3) := by decide +kernel
theorem dX1_readNext_44 : decode cX1_readNext 44 = .ok (.invokevirtual 210, 3) := by decide +kernel
theorem dX1_readNext_47 : decode cX1_readNext 47 = .ok (.istore 4, 2) := by decide +kernel
theorem dX1_readNext_49 : decode cX1_readNext 49 = .ok (.aload_n 0, 1) := by decide +kernel
theorem dX1_readNext_5 : decode cX1_readNext 5 = .ok (.isub, 1) := by decide +kernel
theorem dX1_readNext_50 : decode cX1_readNext 50 = .ok (.getfield 32, 3) := by decide +kernel
theorem dX1_readNext_53 : decode cX1_readNext 53 = .ok (.iload_n 1, 1) := by decide +kernel
theorem dX1_readNext_54 : decode cX1_readNext 54 = .ok (.iload_n 3, 1) := by decide +kernel
theorem dX1_readNext_55 : decode cX1_readNext 55 = .ok (.iload_n 3, 1) := by decide +kernel
theorem dX1_readNext_56 : decode cX1_readNext 56 = .ok (.iconst 1, 1) := by decide +kernel
theorem dX1_readNext_57 : decode cX1_readNext 57 = .ok (.isub, 1) := by decide +kernel
theorem dX1_readNext_58 : decode cX1_readNext 58 = .ok (.iand, 1) := by decide +kernel
theorem dX1_readNext_59 : decode cX1_readNext 59 = .ok (.iastore, 1) := by decide +kernel
theorem dX1_readNext_6 : decode cX1_readNext 6 = .ok (.istore_n 1, 1) := by decide +kernel
theorem dX1_readNext_60 : decode cX1_readNext 60 = .ok (.aload_n 0, 1) := by decide +kernel
theorem dX1_readNext_61 : decode cX1_readNext 61 = .ok (.aload_n 0, 1) := by decide +kernel
theorem dX1_readNext_62 : decode cX1_readNext 62 = .ok (.getfield 39, 3) := by decide +kernel
theorem dX1_readNext_65 : decode cX1_readNext 65 = .ok (.getfield 181, 3) := by decide +kernel
theorem dX1_readNext_68 : decode cX1_readNext 68 = .ok (.iload 4, 2) := by decide +kernel
theorem dX1_readNext_7 : decode cX1_readNext 7 = .ok (.aload_n 0, 1) := by decide +kernel
theorem dX1_readNext_70 : decode cX1_readNext 70 = .ok (.iaload, 1) := by decide +kernel
theorem dX1_readNext_71 : decode cX1_readNext 71 = .ok (.aload_n 0, 1) := by decide +kernel
theorem dX1_readNext_72 : decode cX1_readNext 72 = .ok (.getfield 39, 3) := by decide +kernel
theorem dX1_readNext_75 : decode cX1_readNext 75 = .ok (.getfield 204, 3) := by decide +kernel
theorem dX1_readNext_78 : decode cX1_readNext 78 = .ok (.iload 4, 2) := by decide +kernel
theorem dX1_readNext_8 : decode cX1_readNext 8 = .ok (.getfield 29, 3) := by decide +kernel
theorem dX1_readNext_80 : decode cX1_readNext 80 = .ok (.iaload, 1) := by decide +kernel
theorem dX1_readNext_81 : decode cX1_readNext 81 = .ok (.invokevirtual 224, 3) := by decide +kernel
theorem dX1_readNext_84 : decode cX1_readNext 84 = .ok (.return_, 1) := by decide +kernel
theorem dX1_readNext_85 : decode cX1_readNext 85 = .ok (.goto 91, 3) := by decide +kernel
theorem dX1_readNext_88 : decode cX1_readNext 88 = .ok (.aload_n 0, 1) := by decide +kernel
theorem dX1_readNext_89 : decode cX1_readNext 89 = .ok (.getfield 32, 3) := by decide +kernel
theorem dX1_readNext_92 : decode cX1_readNext 92 = .ok (.iload_n 1, 1) := by decide +kernel
theorem dX1_readNext_93 : decode cX1_readNext 93 = .ok (.iaload, 1) := by decide +kernel
theorem dX1_readNext_94 : decode cX1_readNext 94 = .ok (.ifCond .le 82, 3) := by decide +kernel
theorem dX1_readNext_97 : decode cX1_readNext 97 = .ok (.aload_n 0, 1) := by decide +kernel
theorem dX1_readNext_98 : decode cX1_readNext 98 = .ok (.getfield 39, 3) := by decide +kernel
noncomputable def k_X1_readNext_176 (l1 : Int32) (l2 : Int32) (s : t_S) : Option (t_S) :=
 t_let (t_setI s 856 15 ((s.1 856 15) - (1 : Int32))) (fun s1 =>
 if t_ix l1 240 = true then
  if t_ix (s1.1 861 (l1.toNatClampNeg)) 240 = true then
  t_let (t_setJ s1 859 ((s1.1 861 (l1.toNatClampNeg)).toNatClampNeg) ((s1.2.1 859 ((s1.1 861 (l1.toNatClampNeg)).toNatClampNeg)) + ((((s1.1 856 7) - (s1.1 861 (l1.toNatClampNeg))).toInt64) <<< ((4 : Int32).toInt64 &&& 63)))) (fun s2 =>
 if t_ix l2 3001 = true then
  if (s2.1 317 (l2.toNatClampNeg)) = (5 : Int32) then ((f_X8_sortFields 859 (s1.1 861 (l1.toNatClampNeg)) 860 s2).bind (fun r4 =>
 some (r4)))
 else (some (s2))
else none)
else none
else none)
set_option maxRecDepth 4000 in
set_option maxHeartbeats 1000000 in
theorem B_X1_readNext_176 {D : va_G} {cy : Nat → ClassId} {ad : Nat → Nat} {bs : Nat} {X : State → Heap → Prop} (l1 : Int32) (l2 : Int32) (s : t_S) (Q : t_S → Prop) (hk : t_hk (k_X1_readNext_176 l1 l2 s) Q) : mj_G D cy ad bs X cX1_readNext 5 yX1_readNext.cls none yX1_readNext.name 6 0 0 1065 (t_P (fun v s' => v = none ∧ Q (s'))) 176 [(0, .ref 856), (1, .int l1), (2, .int l2)] [] (t_m s) 1065 0 0 := by
  refine mj_aload_n dX1_readNext_176 0 rfl ?_
  refine mj_dup dX1_readNext_177 rfl ?_
  refine t_getI dX1_readNext_178 F_X1_47 qf_856_15 ?_
  refine mj_iconst (v := 1) dX1_readNext_181 (by decide) ?_
  refine mj_isub dX1_readNext_182 ?_
  refine t_putIK dX1_readNext_183 F_X1_47 qf_856_15 rfl (fun s1 ws1 => t_letE hk ws1 (fun hk => ?_))
  refine mj_aload_n dX1_readNext_186 0 rfl ?_
  refine t_getR 861 dX1_readNext_187 F_X1_25 qr_856_12 ?_
  refine mj_iload_n dX1_readNext_190 1 rfl ?_
  refine t_chkK hk (fun c0 hk => ?_)
  refine t_iald dX1_readNext_191 qa_861 (t_ixv c0) ?_
  refine mj_istore_n 3 (lv2 := [(3, .int (s1.1 861 (l1.toNatClampNeg))), (0, .ref 856), (1, .int l1), (2, .int l2)]) dX1_readNext_192 rfl (by decide) rfl ?_
  refine mj_aload_n dX1_readNext_193 1 rfl ?_
  refine t_getR 859 dX1_readNext_194 F_X1_18 qr_856_6 ?_
  refine mj_iload_n dX1_readNext_197 0 rfl ?_
  refine mj_dup2 dX1_readNext_198 rfl rfl ?_
  refine t_chkK hk (fun c1 hk => ?_)
  refine t_lald dX1_readNext_199 qa_859 (t_ixv c1) ?_
  refine mj_aload_n dX1_readNext_200 1 rfl ?_
  refine t_getI dX1_readNext_201 F_X1_212 qf_856_7 ?_
  refine mj_iload_n dX1_readNext_204 0 rfl ?_
  refine mj_isub dX1_readNext_205 ?_
  refine mj_i2l (v := ((s1.1 856 7) - (s1.1 861 (l1.toNatClampNeg))).toInt64) dX1_readNext_206 rfl ?_
  refine mj_iconst (v := 4) dX1_readNext_207 (by decide) ?_
  refine mj_lshl dX1_readNext_208 rfl ?_
  refine mj_ladd dX1_readNext_209 ?_
  refine t_lastK dX1_readNext_210 qa_859 (t_ixv c1) (fun s2 ws2 => t_letE hk ws2 (fun hk => ?_))
  refine mj_aload_n dX1_readNext_211 1 rfl ?_
  refine t_getR 316 dX1_readNext_212 F_X1_39 qr_856_1 ?_
  refine t_getR 317 dX1_readNext_215 F_X1_149 qr_316_0 ?_
  refine mj_iload_n dX1_readNext_218 3 rfl ?_
  refine t_chkK hk (fun c2 hk => ?_)
  refine t_iald dX1_readNext_219 qa_317 (t_ixv c2) ?_
  refine mj_iconst (v := 5) dX1_readNext_220 (by decide) ?_
  refine mj_icmp_ne 236 dX1_readNext_221 (by decide) (fun z => t_negK hk z (fun hk => ?_)) (fun z => t_posK hk z (fun hk => ?_))
  · exact t_somK hk (fun hf => t_vret dX1_readNext_236 rfl ⟨rfl, hf⟩ (Nat.le_of_ble_eq_true rfl) (Nat.le_of_ble_eq_true rfl))
  · refine mj_aload_n dX1_readNext_224 1 rfl ?_
    refine t_getR 859 dX1_readNext_225 F_X1_18 qr_856_6 ?_
    refine mj_iload_n dX1_readNext_228 0 rfl ?_
    refine mj_aload_n dX1_readNext_229 1 rfl ?_
    refine t_getR 860 dX1_readNext_230 F_X1_22 qr_856_11 ?_
    refine t_bndK hk (fun r4 er4 hk => ?_)
    refine t_callSvE dX1_readNext_233 M_X8_sortFields (C_X8_sortFields _ _ _ _ _ er4) ML_X1_235 SM_X8_sortFields (As := [.ref 859, .int (s1.1 861 (l1.toNatClampNeg)), .ref 860]) rfl rfl (Nat.le_of_ble_eq_true rfl) (Nat.le_of_ble_eq_true rfl) (Nat.le_of_ble_eq_true rfl) (Nat.le_of_ble_eq_true rfl) ?_
    exact t_somK hk (fun hf => t_vret dX1_readNext_236 rfl ⟨rfl, hf⟩ (Nat.le_of_ble_eq_true rfl) (Nat.le_of_ble_eq_true rfl))
noncomputable def k_X1_readNext_160 (l3 : Int32) (k0 : Int32) (k1 : Int32) (s : t_S) : Option (t_S) :=
 if t_ix k1 240 = true then
  t_let (t_setI s 863 (k1.toNatClampNeg) k0) (fun s1 =>
 if t_ix l3 3001 = true then
  (f_X1_readPart (s1.1 318 (l3.toNatClampNeg)) (-1 : Int32) s1).bind (fun r3 =>
 some (r3))
else none)
else none
set_option maxRecDepth 4000 in
set_option maxHeartbeats 1000000 in
theorem B_X1_readNext_160 {D : va_G} {cy : Nat → ClassId} {ad : Nat → Nat} {bs : Nat} {X : State → Heap → Prop} (l3 : Int32) (k0 : Int32) (k1 : Int32) (s : t_S) (Q : t_S → Prop) (hk : t_hk (k_X1_readNext_160 l3 k0 k1 s) Q) : mj_G D cy ad bs X cX1_readNext 5 yX1_readNext.cls none yX1_readNext.name 6 0 0 1065 (t_P (fun v s' => v = none ∧ Q (s'))) 160 [(0, .ref 856), (3, .int l3)] [.int k0, .int k1, .ref 863] (t_m s) 1065 0 0 := by
  refine t_chkK hk (fun c0 hk => ?_)
  refine t_iastK dX1_readNext_160 qa_863 (t_ixv c0) (fun s1 ws1 => t_letE hk ws1 (fun hk => ?_))
  refine mj_aload_n dX1_readNext_161 0 rfl ?_
  refine mj_aload_n dX1_readNext_162 0 rfl ?_
  refine t_getR 316 dX1_readNext_163 F_X1_39 qr_856_1 ?_
  refine t_getR 318 dX1_readNext_166 F_X1_181 qr_316_1 ?_
  refine mj_iload_n dX1_readNext_169 1 rfl ?_
  refine t_chkK hk (fun c1 hk => ?_)
  refine t_iald dX1_readNext_170 qa_318 (t_ixv c1) ?_
  refine mj_iconst (v := (-1)) dX1_readNext_171 (by decide) ?_
  refine t_bndK hk (fun r3 er3 hk => ?_)
  refine t_callVvE dX1_readNext_172 M_X1_readPart (C_X1_readPart _ _ _ _ er3) ML_X1_224 IM_X1_readPart SE_X1_readPart qc_856 rfl (As := [.int (s1.1 318 (l3.toNatClampNeg)), .int (-1)]) rfl rfl (Nat.le_of_ble_eq_true rfl) (Nat.le_of_ble_eq_true rfl) (Nat.le_of_ble_eq_true rfl) (Nat.le_of_ble_eq_true rfl) ?_
  exact t_somK hk (fun hf => t_vret dX1_readNext_175 rfl ⟨rfl, hf⟩ (Nat.le_of_ble_eq_true rfl) (Nat.le_of_ble_eq_true rfl))
noncomputable def k_X1_readNext_128 (l1 : Int32) (l2 : Int32) (k0 : Int32) (s : t_S) : Option (t_S) :=
 if t_ix l2 3001 = true then
  if (s.1 317 (l2.toNatClampNeg)) = (6 : Int32) then (k_X1_readNext_160 k0 0 l1 s)
 else (if t_ix l1 240 = true then
  k_X1_readNext_160 k0 ((s.1 863 (l1.toNatClampNeg)) - (1 : Int32)) l1 s
else none)
else none
set_option maxRecDepth 4000 in
set_option maxHeartbeats 1000000 in
theorem B_X1_readNext_128 {D : va_G} {cy : Nat → ClassId} {ad : Nat → Nat} {bs : Nat} {X : State → Heap → Prop} (l1 : Int32) (l2 : Int32) (k0 : Int32) (s : t_S) (Q : t_S → Prop) (hk : t_hk (k_X1_readNext_128 l1 l2 k0 s) Q) : mj_G D cy ad bs X cX1_readNext 5 yX1_readNext.cls none yX1_readNext.name 6 0 0 1065 (t_P (fun v s' => v = none ∧ Q (s'))) 128 [(0, .ref 856), (1, .int l1), (2, .int l2)] [.int k0] (t_m s) 1065 0 0 := by
  refine mj_istore_n 3 (lv2 := [(3, .int k0), (0, .ref 856), (1, .int l1), (2, .int l2)]) dX1_readNext_128 rfl (by decide) rfl ?_
  refine mj_aload_n dX1_readNext_129 1 rfl ?_
  refine t_getR 863 dX1_readNext_130 F_X1_32 qr_856_14 ?_
  refine mj_iload_n dX1_readNext_133 2 rfl ?_
  refine mj_aload_n dX1_readNext_134 1 rfl ?_
  refine t_getR 316 dX1_readNext_135 F_X1_39 qr_856_1 ?_
  refine t_getR 317 dX1_readNext_138 F_X1_149 qr_316_0 ?_
  refine mj_iload_n dX1_readNext_141 3 rfl ?_
  refine t_chkK hk (fun c0 hk => ?_)
  refine t_iald dX1_readNext_142 qa_317 (t_ixv c0) ?_
  refine mj_bipush (v := 6) dX1_readNext_143 (by decide) ?_
  refine mj_icmp_ne 152 dX1_readNext_145 (by decide) (fun z => t_negK hk z (fun hk => ?_)) (fun z => t_posK hk z (fun hk => ?_))
  · refine mj_aload_n dX1_readNext_152 1 rfl ?_
    refine t_getR 863 dX1_readNext_153 F_X1_32 qr_856_14 ?_
    refine mj_iload_n dX1_readNext_156 2 rfl ?_
    refine t_chkK hk (fun c1 hk => ?_)
    refine t_iald dX1_readNext_157 qa_863 (t_ixv c1) ?_
    refine mj_iconst (v := 1) dX1_readNext_158 (by decide) ?_
    refine mj_isub dX1_readNext_159 ?_
    refine mj_sublv [(0, .ref 856), (3, .int k0)] [1, 0] rfl ?_
    exact B_X1_readNext_160 _ _ _ _ _ hk
  · refine mj_iconst (v := 0) dX1_readNext_148 (by decide) ?_
    refine mj_goto 160 dX1_readNext_149 (by decide) ?_
    refine mj_sublv [(0, .ref 856), (3, .int k0)] [1, 0] rfl ?_
    exact B_X1_readNext_160 _ _ _ _ _ hk
noncomputable def f_X1_readNext (s : t_S) : Option (t_S) :=
 if t_ix ((s.1 856 15) - (1 : Int32)) 240 = true then
  if t_ix (s.1 862 (((s.1 856 15) - (1 : Int32)).toNatClampNeg)) 3001 = true then
  if (s.1 317 ((s.1 862 (((s.1 856 15) - (1 : Int32)).toNatClampNeg)).toNatClampNeg)) = (5 : Int32) then (if (s.1 863 (((s.1 856 15) - (1 : Int32)).toNatClampNeg)) = (0 : Int32) then (k_X1_readNext_176 ((s.1 856 15) - (1 : Int32)) (s.1 862 (((s.1 856 15) - (1 : Int32)).toNatClampNeg)) s)
 else ((f_X1_fieldAt (s.1 862 (((s.1 856 15) - (1 : Int32)).toNatClampNeg)) (f_J6_numberOfTrailingZeros_0f7a4 (s.1 863 (((s.1 856 15) - (1 : Int32)).toNatClampNeg)) s) s).bind (fun r5 =>
 t_let (t_setI s 863 (((s.1 856 15) - (1 : Int32)).toNatClampNeg) ((s.1 863 (((s.1 856 15) - (1 : Int32)).toNatClampNeg)) &&& ((s.1 863 (((s.1 856 15) - (1 : Int32)).toNatClampNeg)) - (1 : Int32)))) (fun s1 =>
 if t_ix r5 3001 = true then
  (f_X1_readPart (s1.1 318 (r5.toNatClampNeg)) (s1.1 320 (r5.toNatClampNeg)) s1).bind (fun r7 =>
 some (r7))
else none))))
 else (if (s.1 863 (((s.1 856 15) - (1 : Int32)).toNatClampNeg)) ≤ (0 : Int32) then (k_X1_readNext_176 ((s.1 856 15) - (1 : Int32)) (s.1 862 (((s.1 856 15) - (1 : Int32)).toNatClampNeg)) s)
 else (if (s.1 317 ((s.1 862 (((s.1 856 15) - (1 : Int32)).toNatClampNeg)).toNatClampNeg)) = (6 : Int32) then ((f_X1_fieldAt (s.1 862 (((s.1 856 15) - (1 : Int32)).toNatClampNeg)) ((s.1 863 (((s.1 856 15) - (1 : Int32)).toNatClampNeg)) - (1 : Int32)) s).bind (fun r3 =>
 k_X1_readNext_128 ((s.1 856 15) - (1 : Int32)) (s.1 862 (((s.1 856 15) - (1 : Int32)).toNatClampNeg)) r3 s))
 else (k_X1_readNext_128 ((s.1 856 15) - (1 : Int32)) (s.1 862 (((s.1 856 15) - (1 : Int32)).toNatClampNeg)) (s.1 862 (((s.1 856 15) - (1 : Int32)).toNatClampNeg)) s)))
else none
else none
set_option maxRecDepth 4000 in
set_option maxHeartbeats 1000000 in
theorem C_X1_readNext (s : t_S) (r : t_S) (hr : f_X1_readNext s = some r) : t_C yX1_readNext cX1_readNext 5 none 6 [.ref 856] s (fun v s' => v = none ∧ s' = r) := by
  refine t_C.imp (P := fun v s' => v = none ∧ (fun q => q = r) (s')) (t_C.of (by decide +kernel) (Nat.le_of_ble_eq_true rfl) ?_) (fun v s' hp => hp)
  intro D cy ad bs X
  have hk : t_hk (f_X1_readNext s) (fun q => q = r) := ⟨r, hr, rfl⟩
  show mj_G D cy ad bs X cX1_readNext 5 yX1_readNext.cls none yX1_readNext.name 6 0 0 1065 (t_P (fun v s' => v = none ∧ (fun q => q = r) (s'))) 0 [(0, .ref 856)] [] (t_m s) 1065 0 0
  refine mj_aload_n dX1_readNext_0 0 rfl ?_
  refine t_getI dX1_readNext_1 F_X1_47 qf_856_15 ?_
  refine mj_iconst (v := 1) dX1_readNext_4 (by decide) ?_
  refine mj_isub dX1_readNext_5 ?_
  refine mj_istore_n 1 (lv2 := [(1, .int ((s.1 856 15) - (1 : Int32))), (0, .ref 856)]) dX1_readNext_6 rfl (by decide) rfl ?_
  refine mj_aload_n dX1_readNext_7 1 rfl ?_
  refine t_getR 862 dX1_readNext_8 F_X1_29 qr_856_13 ?_
  refine mj_iload_n dX1_readNext_11 0 rfl ?_
  refine t_chkK hk (fun c0 hk => ?_)
  refine t_iald dX1_readNext_12 qa_862 (t_ixv c0) ?_
  refine mj_istore_n 2 (lv2 := [(2, .int (s.1 862 (((s.1 856 15) - (1 : Int32)).toNatClampNeg))), (1, .int ((s.1 856 15) - (1 : Int32))), (0, .ref 856)]) dX1_readNext_13 rfl (by decide) rfl ?_
  refine mj_aload_n dX1_readNext_14 2 rfl ?_
  refine t_getR 316 dX1_readNext_15 F_X1_39 qr_856_1 ?_
  refine t_getR 317 dX1_readNext_18 F_X1_149 qr_316_0 ?_
  refine mj_iload_n dX1_readNext_21 0 rfl ?_
  refine t_chkK hk (fun c1 hk => ?_)
  refine t_iald dX1_readNext_22 qa_317 (t_ixv c1) ?_
  refine mj_iconst (v := 5) dX1_readNext_23 (by decide) ?_
  refine mj_icmp_ne 88 dX1_readNext_24 (by decide) (fun z => t_negK hk z (fun hk => ?_)) (fun z => t_posK hk z (fun hk => ?_))
  · refine mj_aload_n dX1_readNext_88 2 rfl ?_
    refine t_getR 863 dX1_readNext_89 F_X1_32 qr_856_14 ?_
    refine mj_iload_n dX1_readNext_92 1 rfl ?_
    refine t_iald dX1_readNext_93 qa_863 (t_ixv c0) ?_
    refine mj_if_le 176 dX1_readNext_94 (by decide) (fun z => t_posK hk z (fun hk => ?_)) (fun z => t_negK hk z (fun hk => ?_))
    · refine mj_sublv [(0, .ref 856), (1, .int ((s.1 856 15) - (1 : Int32))), (2, .int (s.1 862 (((s.1 856 15) - (1 : Int32)).toNatClampNeg)))] [2, 1, 0] rfl ?_
      exact B_X1_readNext_176 _ _ _ _ hk
    · refine mj_aload_n dX1_readNext_97 2 rfl ?_
      refine t_getR 316 dX1_readNext_98 F_X1_39 qr_856_1 ?_
      refine t_getR 317 dX1_readNext_101 F_X1_149 qr_316_0 ?_
      refine mj_iload_n dX1_readNext_104 0 rfl ?_
      refine t_iald dX1_readNext_105 qa_317 (t_ixv c1) ?_
      refine mj_bipush (v := 6) dX1_readNext_106 (by decide) ?_
      refine mj_icmp_ne 127 dX1_readNext_108 (by decide) (fun z => t_negK hk z (fun hk => ?_)) (fun z => t_posK hk z (fun hk => ?_))
      · refine mj_iload_n dX1_readNext_127 0 rfl ?_
        refine mj_sublv [(0, .ref 856), (1, .int ((s.1 856 15) - (1 : Int32))), (2, .int (s.1 862 (((s.1 856 15) - (1 : Int32)).toNatClampNeg)))] [2, 1, 0] rfl ?_
        exact B_X1_readNext_128 _ _ _ _ _ hk
      · refine mj_aload_n dX1_readNext_111 2 rfl ?_
        refine mj_iload_n dX1_readNext_112 0 rfl ?_
        refine mj_aload_n dX1_readNext_113 2 rfl ?_
        refine t_getR 863 dX1_readNext_114 F_X1_32 qr_856_14 ?_
        refine mj_iload_n dX1_readNext_117 1 rfl ?_
        refine t_iald dX1_readNext_118 qa_863 (t_ixv c0) ?_
        refine mj_iconst (v := 1) dX1_readNext_119 (by decide) ?_
        refine mj_isub dX1_readNext_120 ?_
        refine t_bndK hk (fun r3 er3 hk => ?_)
        refine t_callViP dX1_readNext_121 M_X1_fieldAt (C_X1_fieldAt _ _ _ _ er3) ML_X1_210 IM_X1_fieldAt SE_X1_fieldAt qc_856 rfl (As := [.int (s.1 862 (((s.1 856 15) - (1 : Int32)).toNatClampNeg)), .int ((s.1 863 (((s.1 856 15) - (1 : Int32)).toNatClampNeg)) - (1 : Int32))]) rfl rfl (Nat.le_of_ble_eq_true rfl) (Nat.le_of_ble_eq_true rfl) (Nat.le_of_ble_eq_true rfl) (Nat.le_of_ble_eq_true rfl) ?_
        refine mj_goto 128 dX1_readNext_124 (by decide) ?_
        refine mj_sublv [(0, .ref 856), (1, .int ((s.1 856 15) - (1 : Int32))), (2, .int (s.1 862 (((s.1 856 15) - (1 : Int32)).toNatClampNeg)))] [2, 1, 0] rfl ?_
        exact B_X1_readNext_128 _ _ _ _ _ hk
  · refine mj_aload_n dX1_readNext_27 2 rfl ?_
    refine t_getR 863 dX1_readNext_28 F_X1_32 qr_856_14 ?_
    refine mj_iload_n dX1_readNext_31 1 rfl ?_
    refine t_iald dX1_readNext_32 qa_863 (t_ixv c0) ?_
    refine mj_istore_n 3 (lv2 := [(3, .int (s.1 863 (((s.1 856 15) - (1 : Int32)).toNatClampNeg))), (2, .int (s.1 862 (((s.1 856 15) - (1 : Int32)).toNatClampNeg))), (1, .int ((s.1 856 15) - (1 : Int32))), (0, .ref 856)]) dX1_readNext_33 rfl (by decide) rfl ?_
    refine mj_iload_n dX1_readNext_34 0 rfl ?_
    refine mj_if_eq 85 dX1_readNext_35 (by decide) (fun z => t_posK hk z (fun hk => ?_)) (fun z => t_negK hk z (fun hk => ?_))
    · refine mj_goto 176 dX1_readNext_85 (by decide) ?_
      refine mj_sublv [(0, .ref 856), (1, .int ((s.1 856 15) - (1 : Int32))), (2, .int (s.1 862 (((s.1 856 15) - (1 : Int32)).toNatClampNeg)))] [3, 2, 1] rfl ?_
      exact B_X1_readNext_176 _ _ _ _ hk
    · refine mj_aload_n dX1_readNext_38 3 rfl ?_
      refine mj_iload_n dX1_readNext_39 1 rfl ?_
      refine mj_iload_n dX1_readNext_40 0 rfl ?_
      refine t_callSiP dX1_readNext_41 M_J6_numberOfTrailingZeros_0f7a4 (C_J6_numberOfTrailingZeros_0f7a4 _ _) ML_X1_230 SM_J6_numberOfTrailingZeros_0f7a4 (As := [.int (s.1 863 (((s.1 856 15) - (1 : Int32)).toNatClampNeg))]) rfl rfl (Nat.le_of_ble_eq_true rfl) (Nat.le_of_ble_eq_true rfl) (Nat.le_of_ble_eq_true rfl) (Nat.le_of_ble_eq_true rfl) ?_
      refine t_bndK hk (fun r5 er5 hk => ?_)
      refine t_callViP dX1_readNext_44 M_X1_fieldAt (C_X1_fieldAt _ _ _ _ er5) ML_X1_210 IM_X1_fieldAt SE_X1_fieldAt qc_856 rfl (As := [.int (s.1 862 (((s.1 856 15) - (1 : Int32)).toNatClampNeg)), .int (f_J6_numberOfTrailingZeros_0f7a4 (s.1 863 (((s.1 856 15) - (1 : Int32)).toNatClampNeg)) s)]) rfl rfl (Nat.le_of_ble_eq_true rfl) (Nat.le_of_ble_eq_true rfl) (Nat.le_of_ble_eq_true rfl) (Nat.le_of_ble_eq_true rfl) ?_
      refine mj_istore (lv2 := [(4, .int r5), (3, .int (s.1 863 (((s.1 856 15) - (1 : Int32)).toNatClampNeg))), (2, .int (s.1 862 (((s.1 856 15) - (1 : Int32)).toNatClampNeg))), (1, .int ((s.1 856 15) - (1 : Int32))), (0, .ref 856)]) dX1_readNext_47 (by decide) rfl ?_
      refine mj_aload_n dX1_readNext_49 4 rfl ?_
      refine t_getR 863 dX1_readNext_50 F_X1_32 qr_856_14 ?_
      refine mj_iload_n dX1_readNext_53 3 rfl ?_
      refine mj_iload_n dX1_readNext_54 1 rfl ?_
      refine mj_iload_n dX1_readNext_55 1 rfl ?_
      refine mj_iconst (v := 1) dX1_readNext_56 (by decide) ?_
      refine mj_isub dX1_readNext_57 ?_
      refine mj_iand dX1_readNext_58 ?_
      refine t_iastK dX1_readNext_59 qa_863 (t_ixv c0) (fun s1 ws1 => t_letE hk ws1 (fun hk => ?_))
      refine mj_aload_n dX1_readNext_60 4 rfl ?_
      refine mj_aload_n dX1_readNext_61 4 rfl ?_
      refine t_getR 316 dX1_readNext_62 F_X1_39 qr_856_1 ?_
      refine t_getR 318 dX1_readNext_65 F_X1_181 qr_316_1 ?_
      refine mj_iload dX1_readNext_68 0 rfl ?_
      refine t_chkK hk (fun c5 hk => ?_)
      refine t_iald dX1_readNext_70 qa_318 (t_ixv c5) ?_
      refine mj_aload_n dX1_readNext_71 4 rfl ?_
      refine t_getR 316 dX1_readNext_72 F_X1_39 qr_856_1 ?_
      refine t_getR 320 dX1_readNext_75 F_X1_204 qr_316_3 ?_
      refine mj_iload dX1_readNext_78 0 rfl ?_
      refine t_iald dX1_readNext_80 qa_320 (t_ixv c5) ?_
      refine t_bndK hk (fun r7 er7 hk => ?_)
      refine t_callVvE dX1_readNext_81 M_X1_readPart (C_X1_readPart _ _ _ _ er7) ML_X1_224 IM_X1_readPart SE_X1_readPart qc_856 rfl (As := [.int (s1.1 318 (r5.toNatClampNeg)), .int (s1.1 320 (r5.toNatClampNeg))]) rfl rfl (Nat.le_of_ble_eq_true rfl) (Nat.le_of_ble_eq_true rfl) (Nat.le_of_ble_eq_true rfl) (Nat.le_of_ble_eq_true rfl) ?_
      exact t_somK hk (fun hf => t_vret dX1_readNext_84 rfl ⟨rfl, hf⟩ (Nat.le_of_ble_eq_true rfl) (Nat.le_of_ble_eq_true rfl))

theorem dX1_read_0 : decode cX1_read 0 = .ok (.aload_n 0, 1) := by decide +kernel
theorem dX1_read_1 : decode cX1_read 1 = .ok (.iconst 0, 1) := by decide +kernel
theorem dX1_read_10 : decode cX1_read 10 = .ok (.aload_n 0, 1) := by decide +kernel
theorem dX1_read_11 : decode cX1_read 11 = .ok (.iconst 0, 1) := by decide +kernel
theorem dX1_read_12 : decode cX1_read 12 = .ok (.putfield 215, 3) := by decide +kernel
theorem dX1_read_15 : decode cX1_read 15 = .ok (.aload_n 0, 1) := by decide +kernel
theorem dX1_read_16 : decode cX1_read 16 = .ok (.iconst 0, 1) := by decide +kernel
theorem dX1_read_17 : decode cX1_read 17 = .ok (.putfield 218, 3) := by decide +kernel
theorem dX1_read_2 : decode cX1_read 2 = .ok (.putfield 47, 3) := by decide +kernel
theorem dX1_read_20 : decode cX1_read 20 = .ok (.aload_n 0, 1) := by decide +kernel
theorem dX1_read_21 : decode cX1_read 21 = .ok (.iconst (-1), 1) := by decide +kernel
theorem dX1_read_22 : decode cX1_read 22 = .ok (.putfield 221, 3) := by decide +kernel
theorem dX1_read_25 : decode cX1_read 25 = .ok (.aload_n 0, 1) := by decide +kernel
theorem dX1_read_26 : decode cX1_read 26 = .ok (.iload_n 1, 1) := by decide +kernel
theorem dX1_read_27 : decode cX1_read 27 = .ok (.iconst (-1), 1) := by decide +kernel
theorem dX1_read_28 : decode cX1_read 28 = .ok (.invokevirtual 224, 3) := by decide +kernel
theorem dX1_read_31 : decode cX1_read 31 = .ok (.iconst 0, 1) := by decide +kernel
theorem dX1_read_32 : decode cX1_read 32 = .ok (.istore_n 2, 1) := by decide +kernel
theorem dX1_read_33 : decode cX1_read 33 = .ok (.iload_n 2, 1) := by decide +kernel
theorem dX1_read_34 : decode cX1_read 34 = .ok (.sipush 480, 3) := by decide +kernel
theorem dX1_read_37 : decode cX1_read 37 = .ok (.if_icmp .ge 27, 3) := by decide +kernel
theorem dX1_read_40 : decode cX1_read 40 = .ok (.aload_n 0, 1) := by decide +kernel
theorem dX1_read_41 : decode cX1_read 41 = .ok (.getfield 221, 3) := by decide +kernel
theorem dX1_read_44 : decode cX1_read 44 = .ok (.ifCond .ge 20, 3) := by decide +kernel
theorem dX1_read_47 : decode cX1_read 47 = .ok (.aload_n 0, 1) := by decide +kernel
theorem dX1_read_48 : decode cX1_read 48 = .ok (.getfield 47, 3) := by decide +kernel
theorem dX1_read_5 : decode cX1_read 5 = .ok (.aload_n 0, 1) := by decide +kernel
theorem dX1_read_51 : decode cX1_read 51 = .ok (.ifCond .le 13, 3) := by decide +kernel
theorem dX1_read_54 : decode cX1_read 54 = .ok (.aload_n 0, 1) := by decide +kernel
theorem dX1_read_55 : decode cX1_read 55 = .ok (.invokevirtual 227, 3) := by decide +kernel
theorem dX1_read_58 : decode cX1_read 58 = .ok (.iinc 2 1, 3) := by decide +kernel
theorem dX1_read_6 : decode cX1_read 6 = .ok (.iconst 0, 1) := by decide +kernel
theorem dX1_read_61 : decode cX1_read 61 = .ok (.goto (-28), 3) := by decide +kernel
theorem dX1_read_64 : decode cX1_read 64 = .ok (.aload_n 0, 1) := by decide +kernel
theorem dX1_read_65 : decode cX1_read 65 = .ok (.getfield 221, 3) := by decide +kernel
theorem dX1_read_68 : decode cX1_read 68 = .ok (.ifCond .ge 22, 3) := by decide +kernel
theorem dX1_read_7 : decode cX1_read 7 = .ok (.putfield 212, 3) := by decide +kernel
theorem dX1_read_71 : decode cX1_read 71 = .ok (.aload_n 0, 1) := by decide +kernel
theorem dX1_read_72 : decode cX1_read 72 = .ok (.getfield 218, 3) := by decide +kernel
theorem dX1_read_75 : decode cX1_read 75 = .ok (.aload_n 0, 1) := by decide +kernel
theorem dX1_read_76 : decode cX1_read 76 = .ok (.getfield 132, 3) := by decide +kernel
theorem dX1_read_79 : decode cX1_read 79 = .ok (.if_icmp .ge 11, 3) := by decide +kernel
theorem dX1_read_82 : decode cX1_read 82 = .ok (.aload_n 0, 1) := by decide +kernel
theorem dX1_read_83 : decode cX1_read 83 = .ok (.aload_n 0, 1) := by decide +kernel
theorem dX1_read_84 : decode cX1_read 84 = .ok (.getfield 218, 3) := by decide +kernel
theorem dX1_read_87 : decode cX1_read 87 = .ok (.putfield 221, 3) := by decide +kernel
theorem dX1_read_90 : decode cX1_read 90 = .ok (.aload_n 0, 1) := by decide +kernel
theorem dX1_read_91 : decode cX1_read 91 = .ok (.getfield 221, 3) := by decide +kernel
theorem dX1_read_94 : decode cX1_read 94 = .ok (.ireturn, 1) := by decide +kernel
noncomputable def k_X1_read_64 (s : t_S) : Option (Int32 × t_S) :=
 if (0 : Int32) ≤ (s.1 856 10) then (some ((s.1 856 10), s))
 else (if (s.1 856 5) ≤ (s.1 856 9) then (some ((s.1 856 10), s))
 else (t_let (t_setI s 856 10 (s.1 856 9)) (fun s1 =>
 some ((s1.1 856 10), s1))))
set_option maxRecDepth 4000 in
set_option maxHeartbeats 1000000 in
theorem B_X1_read_64 {D : va_G} {cy : Nat → ClassId} {ad : Nat → Nat} {bs : Nat} {X : State → Heap → Prop} (s : t_S) (Q : Int32 × t_S → Prop) (hk : t_hk (k_X1_read_64 s) Q) : mj_G D cy ad bs X cX1_read 3 yX1_read.cls (some .int) yX1_read.name 7 0 0 1065 (t_P (fun v s' => ∃ x, v = some (.int x) ∧ Q ((x, s')))) 64 [(0, .ref 856)] [] (t_m s) 1065 0 0 := by
  refine mj_aload_n dX1_read_64 0 rfl ?_
  refine t_getI dX1_read_65 F_X1_221 qf_856_10 ?_
  refine mj_if_ge 90 dX1_read_68 (by decide) (fun z => t_posK hk z (fun hk => ?_)) (fun z => t_negK hk z (fun hk => ?_))
  · refine mj_aload_n dX1_read_90 0 rfl ?_
    refine t_getI dX1_read_91 F_X1_221 qf_856_10 ?_
    exact t_somK hk (fun hf => t_iret dX1_read_94 rfl rfl ⟨_, rfl, hf⟩ (Nat.le_of_ble_eq_true rfl) (Nat.le_of_ble_eq_true rfl))
  · refine mj_aload_n dX1_read_71 0 rfl ?_
    refine t_getI dX1_read_72 F_X1_218 qf_856_9 ?_
    refine mj_aload_n dX1_read_75 0 rfl ?_
    refine t_getI dX1_read_76 F_X1_132 qf_856_5 ?_
    refine mj_icmp_ge 90 dX1_read_79 (by decide) (fun z => t_posK hk z (fun hk => ?_)) (fun z => t_negK hk z (fun hk => ?_))
    · refine mj_aload_n dX1_read_90 0 rfl ?_
      refine t_getI dX1_read_91 F_X1_221 qf_856_10 ?_
      exact t_somK hk (fun hf => t_iret dX1_read_94 rfl rfl ⟨_, rfl, hf⟩ (Nat.le_of_ble_eq_true rfl) (Nat.le_of_ble_eq_true rfl))
    · refine mj_aload_n dX1_read_82 0 rfl ?_
      refine mj_aload_n dX1_read_83 0 rfl ?_
      refine t_getI dX1_read_84 F_X1_218 qf_856_9 ?_
      refine t_putIK dX1_read_87 F_X1_221 qf_856_10 rfl (fun s1 ws1 => t_letE hk ws1 (fun hk => ?_))
      refine mj_aload_n dX1_read_90 0 rfl ?_
      refine t_getI dX1_read_91 F_X1_221 qf_856_10 ?_
      exact t_somK hk (fun hf => t_iret dX1_read_94 rfl rfl ⟨_, rfl, hf⟩ (Nat.le_of_ble_eq_true rfl) (Nat.le_of_ble_eq_true rfl))
noncomputable def k_X1_read_33 (l2 : Int32) (s : t_S) : Option ((Int32 × t_S) ⊕ (Int32 × t_S)) :=
 if (480 : Int32) ≤ l2 then ((k_X1_read_64 s).map Sum.inr)
 else (if (0 : Int32) ≤ (s.1 856 10) then ((k_X1_read_64 s).map Sum.inr)
 else (if (s.1 856 15) ≤ (0 : Int32) then ((k_X1_read_64 s).map Sum.inr)
 else ((f_X1_readNext s).bind (fun r1 =>
 some (.inl ((l2 + 1), r1))))))
set_option maxRecDepth 4000 in
set_option maxHeartbeats 1000000 in
theorem B_X1_read_33 {D : va_G} {cy : Nat → ClassId} {ad : Nat → Nat} {bs : Nat} {X : State → Heap → Prop} (l2 : Int32) (s : t_S) (Q : (Int32 × t_S) ⊕ (Int32 × t_S) → Prop) (Hb33 : ∀ (y0 : Int32) (y1 : t_S), Q (.inl (y0, y1)) → mj_G D cy ad bs X cX1_read 3 yX1_read.cls (some .int) yX1_read.name 7 0 0 1065 (t_P (fun v s' => ∃ x, v = some (.int x) ∧ Q (.inr ((x, s'))))) 33 [(0, .ref 856), (2, .int (y0))] [] (t_m y1) 1065 0 0) (hk : t_hk (k_X1_read_33 l2 s) Q) : mj_G D cy ad bs X cX1_read 3 yX1_read.cls (some .int) yX1_read.name 7 0 0 1065 (t_P (fun v s' => ∃ x, v = some (.int x) ∧ Q (.inr ((x, s'))))) 33 [(0, .ref 856), (2, .int l2)] [] (t_m s) 1065 0 0 := by
  refine mj_iload_n dX1_read_33 1 rfl ?_
  refine mj_sipush (v := 480) dX1_read_34 (by decide) ?_
  refine mj_icmp_ge 64 dX1_read_37 (by decide) (fun z => t_posK hk z (fun hk => ?_)) (fun z => t_negK hk z (fun hk => ?_))
  · refine mj_sublv [(0, .ref 856)] [0] rfl ?_
    refine t_mapK hk (fun hk => ?_)
    exact B_X1_read_64 _ _ hk
  · refine mj_aload_n dX1_read_40 0 rfl ?_
    refine t_getI dX1_read_41 F_X1_221 qf_856_10 ?_
    refine mj_if_ge 64 dX1_read_44 (by decide) (fun z => t_posK hk z (fun hk => ?_)) (fun z => t_negK hk z (fun hk => ?_))
    · refine mj_sublv [(0, .ref 856)] [0] rfl ?_
      refine t_mapK hk (fun hk => ?_)
      exact B_X1_read_64 _ _ hk
    · refine mj_aload_n dX1_read_47 0 rfl ?_
      refine t_getI dX1_read_48 F_X1_47 qf_856_15 ?_
      refine mj_if_le 64 dX1_read_51 (by decide) (fun z => t_posK hk z (fun hk => ?_)) (fun z => t_negK hk z (fun hk => ?_))
      · refine mj_sublv [(0, .ref 856)] [0] rfl ?_
        refine t_mapK hk (fun hk => ?_)
        exact B_X1_read_64 _ _ hk
      · refine mj_aload_n dX1_read_54 0 rfl ?_
        refine t_bndK hk (fun r1 er1 hk => ?_)
        refine t_callVvE dX1_read_55 M_X1_readNext (C_X1_readNext _ _ er1) ML_X1_227 IM_X1_readNext SE_X1_readNext qc_856 rfl (As := []) rfl rfl (Nat.le_of_ble_eq_true rfl) (Nat.le_of_ble_eq_true rfl) (Nat.le_of_ble_eq_true rfl) (Nat.le_of_ble_eq_true rfl) ?_
        refine mj_iinc (k := 1) (v := (l2 + 1)) (lv2 := [(2, .int (l2 + 1)), (0, .ref 856)]) dX1_read_58 rfl rfl (by decide) rfl ?_
        refine mj_goto 33 dX1_read_61 (by decide) ?_
        refine mj_sublv [(0, .ref 856), (2, .int (l2 + 1))] [1, 0] rfl ?_
        exact t_somK hk (fun hf => Hb33 (l2 + 1) r1 hf)
noncomputable def b_X1_read_33 (x : Int32 × t_S) : Option ((Int32 × t_S) ⊕ (Int32 × t_S)) := k_X1_read_33 x.1 x.2
set_option maxRecDepth 4000 in
set_option maxHeartbeats 1000000 in
theorem LH_X1_read_33 {D : va_G} {cy : Nat → ClassId} {ad : Nat → Nat} {bs : Nat} {X : State → Heap → Prop} : ∀ (n : Nat) (y0 : Int32) (y1 : t_S) (Q : Int32 × t_S → Prop) (hk : t_hk (t_loop (b_X1_read_33) n (y0, y1)) Q), mj_G D cy ad bs X cX1_read 3 yX1_read.cls (some .int) yX1_read.name 7 0 0 1065 (t_P (fun v s' => ∃ x, v = some (.int x) ∧ Q ((x, s')))) 33 [(0, .ref 856), (2, .int (y0))] [] (t_m y1) 1065 0 0 := by
  intro n
  induction n with
  | zero => intro y0 y1 Q hk; obtain ⟨r, hr, _⟩ := hk; cases hr
  | succ n ih =>
    intro y0 y1 Q hk
    exact B_X1_read_33 y0 y1 (fun y => t_lq (b_X1_read_33) n Q y) (fun y0' y1' hy => ih y0' y1' Q hy) (t_lp hk)
noncomputable def f_X1_read (x1 : Int32) (s : t_S) : Option (Int32 × t_S) :=
 t_let (t_setI s 856 15 (0 : Int32)) (fun s1 =>
 t_let (t_setI s1 856 7 (0 : Int32)) (fun s2 =>
 t_let (t_setI s2 856 8 (0 : Int32)) (fun s3 =>
 t_let (t_setI s3 856 9 (0 : Int32)) (fun s4 =>
 t_let (t_setI s4 856 10 (-1 : Int32)) (fun s5 =>
 (f_X1_readPart x1 (-1 : Int32) s5).bind (fun r1 =>
 t_loop (b_X1_read_33) t_N (0, r1)))))))
set_option maxRecDepth 4000 in
set_option maxHeartbeats 1000000 in
theorem C_X1_read (x1 : Int32) (s : t_S) (r : Int32 × t_S) (hr : f_X1_read x1 s = some r) : t_C yX1_read cX1_read 3 (some .int) 7 [.ref 856, .int x1] s (fun v s' => v = some (.int r.1) ∧ s' = r.2) := by
  refine t_C.imp (P := fun v s' => ∃ x, v = some (.int x) ∧ (fun q => q = r) ((x, s'))) (t_C.of (by decide +kernel) (Nat.le_of_ble_eq_true rfl) ?_) (fun v s' hp => by obtain ⟨x, rfl, rfl⟩ := hp; exact ⟨rfl, rfl⟩)
  intro D cy ad bs X
  have hk : t_hk (f_X1_read x1 s) (fun q => q = r) := ⟨r, hr, rfl⟩
  show mj_G D cy ad bs X cX1_read 3 yX1_read.cls (some .int) yX1_read.name 7 0 0 1065 (t_P (fun v s' => ∃ x, v = some (.int x) ∧ (fun q => q = r) ((x, s')))) 0 [(0, .ref 856), (1, .int x1)] [] (t_m s) 1065 0 0
  refine mj_aload_n dX1_read_0 0 rfl ?_
  refine mj_iconst (v := 0) dX1_read_1 (by decide) ?_
  refine t_putIK dX1_read_2 F_X1_47 qf_856_15 rfl (fun s1 ws1 => t_letE hk ws1 (fun hk => ?_))
  refine mj_aload_n dX1_read_5 0 rfl ?_
  refine mj_iconst (v := 0) dX1_read_6 (by decide) ?_
  refine t_putIK dX1_read_7 F_X1_212 qf_856_7 rfl (fun s2 ws2 => t_letE hk ws2 (fun hk => ?_))
  refine mj_aload_n dX1_read_10 0 rfl ?_
  refine mj_iconst (v := 0) dX1_read_11 (by decide) ?_
  refine t_putIK dX1_read_12 F_X1_215 qf_856_8 rfl (fun s3 ws3 => t_letE hk ws3 (fun hk => ?_))
  refine mj_aload_n dX1_read_15 0 rfl ?_
  refine mj_iconst (v := 0) dX1_read_16 (by decide) ?_
  refine t_putIK dX1_read_17 F_X1_218 qf_856_9 rfl (fun s4 ws4 => t_letE hk ws4 (fun hk => ?_))
  refine mj_aload_n dX1_read_20 0 rfl ?_
  refine mj_iconst (v := (-1)) dX1_read_21 (by decide) ?_
  refine t_putIK dX1_read_22 F_X1_221 qf_856_10 rfl (fun s5 ws5 => t_letE hk ws5 (fun hk => ?_))
  refine mj_aload_n dX1_read_25 0 rfl ?_
  refine mj_iload_n dX1_read_26 1 rfl ?_
  refine mj_iconst (v := (-1)) dX1_read_27 (by decide) ?_
  refine t_bndK hk (fun r1 er1 hk => ?_)
  refine t_callVvE dX1_read_28 M_X1_readPart (C_X1_readPart _ _ _ _ er1) ML_X1_224 IM_X1_readPart SE_X1_readPart qc_856 rfl (As := [.int x1, .int (-1)]) rfl rfl (Nat.le_of_ble_eq_true rfl) (Nat.le_of_ble_eq_true rfl) (Nat.le_of_ble_eq_true rfl) (Nat.le_of_ble_eq_true rfl) ?_
  refine mj_iconst (v := 0) dX1_read_31 (by decide) ?_
  refine mj_istore_n 2 (lv2 := [(2, .int 0), (0, .ref 856), (1, .int x1)]) dX1_read_32 rfl (by decide) rfl ?_
  refine mj_sublv [(0, .ref 856), (2, .int 0)] [1, 0] rfl ?_
  exact LH_X1_read_33 _ 0 r1 _ hk

theorem dX8_keep_0 : decode cX8_keep 0 = .ok (.aload_n 0, 1) := by decide +kernel
theorem dX8_keep_1 : decode cX8_keep 1 = .ok (.getfield 66, 3) := by decide +kernel
theorem dX8_keep_11 : decode cX8_keep 11 = .ok (.ireturn, 1) := by decide +kernel
theorem dX8_keep_12 : decode cX8_keep 12 = .ok (.aload_n 0, 1) := by decide +kernel
theorem dX8_keep_13 : decode cX8_keep 13 = .ok (.sipush 1548, 3) := by decide +kernel
theorem dX8_keep_16 : decode cX8_keep 16 = .ok (.aload_n 0, 1) := by decide +kernel
theorem dX8_keep_17 : decode cX8_keep 17 = .ok (.getfield 66, 3) := by decide +kernel
theorem dX8_keep_20 : decode cX8_keep 20 = .ok (.iadd, 1) := by decide +kernel
theorem dX8_keep_21 : decode cX8_keep 21 = .ok (.aload_n 1, 1) := by decide +kernel
theorem dX8_keep_22 : decode cX8_keep 22 = .ok (.iload_n 2, 1) := by decide +kernel
theorem dX8_keep_23 : decode cX8_keep 23 = .ok (.invokevirtual 70, 3) := by decide +kernel
theorem dX8_keep_26 : decode cX8_keep 26 = .ok (.aload_n 0, 1) := by decide +kernel
theorem dX8_keep_27 : decode cX8_keep 27 = .ok (.dup, 1) := by decide +kernel
theorem dX8_keep_28 : decode cX8_keep 28 = .ok (.getfield 66, 3) := by decide +kernel
theorem dX8_keep_31 : decode cX8_keep 31 = .ok (.iconst 1, 1) := by decide +kernel
theorem dX8_keep_32 : decode cX8_keep 32 = .ok (.iadd, 1) := by decide +kernel
theorem dX8_keep_33 : decode cX8_keep 33 = .ok (.putfield 66, 3) := by decide +kernel
theorem dX8_keep_36 : decode cX8_keep 36 = .ok (.aload_n 0, 1) := by decide +kernel
theorem dX8_keep_37 : decode cX8_keep 37 = .ok (.getfield 66, 3) := by decide +kernel
theorem dX8_keep_4 : decode cX8_keep 4 = .ok (.bipush 40, 2) := by decide +kernel
theorem dX8_keep_40 : decode cX8_keep 40 = .ok (.iconst 1, 1) := by decide +kernel
theorem dX8_keep_41 : decode cX8_keep 41 = .ok (.isub, 1) := by decide +kernel
theorem dX8_keep_42 : decode cX8_keep 42 = .ok (.ireturn, 1) := by decide +kernel
theorem dX8_keep_6 : decode cX8_keep 6 = .ok (.if_icmp .lt 6, 3) := by decide +kernel
theorem dX8_keep_9 : decode cX8_keep 9 = .ok (.bipush (-3), 2) := by decide +kernel
noncomputable def f_X8_keep (x1 : Nat) (x2 : Int32) (s : t_S) : Option (Int32 × t_S) :=
 if (s.1 12 2) < (40 : Int32) then ((f_X8_put ((1548 : Int32) + (s.1 12 2)) x1 x2 s).bind (fun r1 =>
 t_let (t_setI r1 12 2 ((r1.1 12 2) + (1 : Int32))) (fun s1 =>
 some (((s1.1 12 2) - (1 : Int32)), s1))))
 else (some ((-3 : Int32), s))
set_option maxRecDepth 4000 in
set_option maxHeartbeats 1000000 in
theorem C_X8_keep (x1 : Nat) (x2 : Int32) (s : t_S) (r : Int32 × t_S) (hr : f_X8_keep x1 x2 s = some r) : t_C yX8_keep cX8_keep 3 (some .int) 2 [.ref 12, .ref x1, .int x2] s (fun v s' => v = some (.int r.1) ∧ s' = r.2) := by
  refine t_C.imp (P := fun v s' => ∃ x, v = some (.int x) ∧ (fun q => q = r) ((x, s'))) (t_C.of (by decide +kernel) (Nat.le_of_ble_eq_true rfl) ?_) (fun v s' hp => by obtain ⟨x, rfl, rfl⟩ := hp; exact ⟨rfl, rfl⟩)
  intro D cy ad bs X
  have hk : t_hk (f_X8_keep x1 x2 s) (fun q => q = r) := ⟨r, hr, rfl⟩
  show mj_G D cy ad bs X cX8_keep 3 yX8_keep.cls (some .int) yX8_keep.name 2 0 0 1065 (t_P (fun v s' => ∃ x, v = some (.int x) ∧ (fun q => q = r) ((x, s')))) 0 [(0, .ref 12), (1, .ref x1), (2, .int x2)] [] (t_m s) 1065 0 0
  refine mj_aload_n dX8_keep_0 0 rfl ?_
  refine t_getI dX8_keep_1 F_X8_66 qf_12_2 ?_
  refine mj_bipush (v := 40) dX8_keep_4 (by decide) ?_
  refine mj_icmp_lt 12 dX8_keep_6 (by decide) (fun z => t_posK hk z (fun hk => ?_)) (fun z => t_negK hk z (fun hk => ?_))
  · refine mj_aload_n dX8_keep_12 0 rfl ?_
    refine mj_sipush (v := 1548) dX8_keep_13 (by decide) ?_
    refine mj_aload_n dX8_keep_16 0 rfl ?_
    refine t_getI dX8_keep_17 F_X8_66 qf_12_2 ?_
    refine mj_iadd dX8_keep_20 ?_
    refine mj_aload_n dX8_keep_21 1 rfl ?_
    refine mj_iload_n dX8_keep_22 2 rfl ?_
    refine t_bndK hk (fun r1 er1 hk => ?_)
    refine t_callVvE dX8_keep_23 M_X8_put (C_X8_put _ _ _ _ _ er1) ML_X8_70 IM_X8_put SE_X8_put qc_12 rfl (As := [.int ((1548 : Int32) + (s.1 12 2)), .ref x1, .int x2]) rfl rfl (Nat.le_of_ble_eq_true rfl) (Nat.le_of_ble_eq_true rfl) (Nat.le_of_ble_eq_true rfl) (Nat.le_of_ble_eq_true rfl) ?_
    refine mj_aload_n dX8_keep_26 0 rfl ?_
    refine mj_dup dX8_keep_27 rfl ?_
    refine t_getI dX8_keep_28 F_X8_66 qf_12_2 ?_
    refine mj_iconst (v := 1) dX8_keep_31 (by decide) ?_
    refine mj_iadd dX8_keep_32 ?_
    refine t_putIK dX8_keep_33 F_X8_66 qf_12_2 rfl (fun s1 ws1 => t_letE hk ws1 (fun hk => ?_))
    refine mj_aload_n dX8_keep_36 0 rfl ?_
    refine t_getI dX8_keep_37 F_X8_66 qf_12_2 ?_
    refine mj_iconst (v := 1) dX8_keep_40 (by decide) ?_
    refine mj_isub dX8_keep_41 ?_
    exact t_somK hk (fun hf => t_iret dX8_keep_42 rfl rfl ⟨_, rfl, hf⟩ (Nat.le_of_ble_eq_true rfl) (Nat.le_of_ble_eq_true rfl))
  · refine mj_bipush (v := (-3)) dX8_keep_9 (by decide) ?_
    exact t_somK hk (fun hf => t_iret dX8_keep_11 rfl rfl ⟨_, rfl, hf⟩ (Nat.le_of_ble_eq_true rfl) (Nat.le_of_ble_eq_true rfl))

theorem dX12_decode_0 : decode cX12_decode 0 = .ok (.aload_n 0, 1) := by decide +kernel
theorem dX12_decode_1 : decode cX12_decode 1 = .ok (.iload_n 1, 1) := by decide +kernel
theorem dX12_decode_10 : decode cX12_decode 10 = .ok (.aload_n 0, 1) := by decide +kernel
theorem dX12_decode_11 : decode cX12_decode 11 = .ok (.getfield 19, 3) := by decide +kernel
theorem dX12_decode_14 : decode cX12_decode 14 = .ok (.getfield 107, 3) := by decide +kernel
theorem dX12_decode_17 : decode cX12_decode 17 = .ok (.bipush 40, 2) := by decide +kernel
theorem dX12_decode_19 : decode cX12_decode 19 = .ok (.if_icmp .lt 6, 3) := by decide +kernel
theorem dX12_decode_2 : decode cX12_decode 2 = .ok (.invokevirtual 196, 3) := by decide +kernel
theorem dX12_decode_22 : decode cX12_decode 22 = .ok (.bipush (-3), 2) := by decide +kernel
theorem dX12_decode_24 : decode cX12_decode 24 = .ok (.ireturn, 1) := by decide +kernel
theorem dX12_decode_25 : decode cX12_decode 25 = .ok (.aload_n 0, 1) := by decide +kernel
theorem dX12_decode_26 : decode cX12_decode 26 = .ok (.getfield 75, 3) := by decide +kernel
theorem dX12_decode_29 : decode cX12_decode 29 = .ok (.aload_n 0, 1) := by decide +kernel
theorem dX12_decode_30 : decode cX12_decode 30 = .ok (.getfield 26, 3) := by decide +kernel
theorem dX12_decode_33 : decode cX12_decode 33 = .ok (.getfield 199, 3) := by decide +kernel
theorem dX12_decode_36 : decode cX12_decode 36 = .ok (.iload_n 1, 1) := by decide +kernel
theorem dX12_decode_37 : decode cX12_decode 37 = .ok (.iaload, 1) := by decide +kernel
theorem dX12_decode_38 : decode cX12_decode 38 = .ok (.invokevirtual 259, 3) := by decide +kernel
theorem dX12_decode_41 : decode cX12_decode 41 = .ok (.istore_n 2, 1) := by decide +kernel
theorem dX12_decode_42 : decode cX12_decode 42 = .ok (.iload_n 2, 1) := by decide +kernel
theorem dX12_decode_43 : decode cX12_decode 43 = .ok (.ifCond .lt 10, 3) := by decide +kernel
theorem dX12_decode_46 : decode cX12_decode 46 = .ok (.bipush (-10), 2) := by decide +kernel
theorem dX12_decode_48 : decode cX12_decode 48 = .ok (.iload_n 2, 1) := by decide +kernel
theorem dX12_decode_49 : decode cX12_decode 49 = .ok (.isub, 1) := by decide +kernel
theorem dX12_decode_5 : decode cX12_decode 5 = .ok (.ifCond .ne 5, 3) := by decide +kernel
theorem dX12_decode_50 : decode cX12_decode 50 = .ok (.goto 18, 3) := by decide +kernel
theorem dX12_decode_53 : decode cX12_decode 53 = .ok (.aload_n 0, 1) := by decide +kernel
theorem dX12_decode_54 : decode cX12_decode 54 = .ok (.getfield 19, 3) := by decide +kernel
theorem dX12_decode_57 : decode cX12_decode 57 = .ok (.aload_n 0, 1) := by decide +kernel
theorem dX12_decode_58 : decode cX12_decode 58 = .ok (.getfield 75, 3) := by decide +kernel
theorem dX12_decode_61 : decode cX12_decode 61 = .ok (.getfield 262, 3) := by decide +kernel
theorem dX12_decode_64 : decode cX12_decode 64 = .ok (.iconst 0, 1) := by decide +kernel
theorem dX12_decode_65 : decode cX12_decode 65 = .ok (.invokevirtual 162, 3) := by decide +kernel
theorem dX12_decode_68 : decode cX12_decode 68 = .ok (.ireturn, 1) := by decide +kernel
theorem dX12_decode_8 : decode cX12_decode 8 = .ok (.iconst (-1), 1) := by decide +kernel
theorem dX12_decode_9 : decode cX12_decode 9 = .ok (.ireturn, 1) := by decide +kernel
noncomputable def f_X12_decode (x1 : Int32) (s : t_S) : Option (Int32 × t_S) :=
 if (f_X12_isType x1 s) = (0 : Int32) then (some ((-1 : Int32), s))
 else (if (s.1 12 2) < (40 : Int32) then (if t_ix x1 60 = true then
  (f_X1_read (s.1 326 (x1.toNatClampNeg)) s).bind (fun r3 =>
 if r3.1 < (0 : Int32) then ((f_X8_keep 859 (0 : Int32) r3.2).bind (fun r4 =>
 some (r4.1, r4.2)))
 else (some (((-10 : Int32) - r3.1), r3.2)))
else none)
 else (some ((-3 : Int32), s)))
set_option maxRecDepth 4000 in
set_option maxHeartbeats 1000000 in
theorem C_X12_decode (x1 : Int32) (s : t_S) (r : Int32 × t_S) (hr : f_X12_decode x1 s = some r) : t_C yX12_decode cX12_decode 3 (some .int) 8 [.ref 0, .int x1] s (fun v s' => v = some (.int r.1) ∧ s' = r.2) := by
  refine t_C.imp (P := fun v s' => ∃ x, v = some (.int x) ∧ (fun q => q = r) ((x, s'))) (t_C.of (by decide +kernel) (Nat.le_of_ble_eq_true rfl) ?_) (fun v s' hp => by obtain ⟨x, rfl, rfl⟩ := hp; exact ⟨rfl, rfl⟩)
  intro D cy ad bs X
  have hk : t_hk (f_X12_decode x1 s) (fun q => q = r) := ⟨r, hr, rfl⟩
  show mj_G D cy ad bs X cX12_decode 3 yX12_decode.cls (some .int) yX12_decode.name 8 0 0 1065 (t_P (fun v s' => ∃ x, v = some (.int x) ∧ (fun q => q = r) ((x, s')))) 0 [(0, .ref 0), (1, .int x1)] [] (t_m s) 1065 0 0
  refine mj_aload_n dX12_decode_0 0 rfl ?_
  refine mj_iload_n dX12_decode_1 1 rfl ?_
  refine t_callViP dX12_decode_2 M_X12_isType (C_X12_isType _ _) ML_X12_196 IM_X12_isType SE_X12_isType qc_0 rfl (As := [.int x1]) rfl rfl (Nat.le_of_ble_eq_true rfl) (Nat.le_of_ble_eq_true rfl) (Nat.le_of_ble_eq_true rfl) (Nat.le_of_ble_eq_true rfl) ?_
  refine mj_if_ne 10 dX12_decode_5 (by decide) (fun z => t_negK hk z (fun hk => ?_)) (fun z => t_posK hk z (fun hk => ?_))
  · refine mj_aload_n dX12_decode_10 0 rfl ?_
    refine t_getR 12 dX12_decode_11 F_X12_19 qr_0_1 ?_
    refine t_getI dX12_decode_14 F_X12_107 qf_12_2 ?_
    refine mj_bipush (v := 40) dX12_decode_17 (by decide) ?_
    refine mj_icmp_lt 25 dX12_decode_19 (by decide) (fun z => t_posK hk z (fun hk => ?_)) (fun z => t_negK hk z (fun hk => ?_))
    · refine mj_aload_n dX12_decode_25 0 rfl ?_
      refine t_getR 856 dX12_decode_26 F_X12_75 qr_0_7 ?_
      refine mj_aload_n dX12_decode_29 0 rfl ?_
      refine t_getR 316 dX12_decode_30 F_X12_26 qr_0_2 ?_
      refine t_getR 326 dX12_decode_33 F_X12_199 qr_316_11 ?_
      refine mj_iload_n dX12_decode_36 1 rfl ?_
      refine t_chkK hk (fun c1 hk => ?_)
      refine t_iald dX12_decode_37 qa_326 (t_ixv c1) ?_
      refine t_bndK hk (fun r3 er3 hk => ?_)
      refine t_callViE dX12_decode_38 M_X1_read (C_X1_read _ _ _ er3) ML_X12_259 IM_X1_read SE_X1_read qc_856 rfl (As := [.int (s.1 326 (x1.toNatClampNeg))]) rfl rfl (Nat.le_of_ble_eq_true rfl) (Nat.le_of_ble_eq_true rfl) (Nat.le_of_ble_eq_true rfl) (Nat.le_of_ble_eq_true rfl) ?_
      refine mj_istore_n 2 (lv2 := [(2, .int r3.1), (0, .ref 0), (1, .int x1)]) dX12_decode_41 rfl (by decide) rfl ?_
      refine mj_iload_n dX12_decode_42 0 rfl ?_
      refine mj_if_lt 53 dX12_decode_43 (by decide) (fun z => t_posK hk z (fun hk => ?_)) (fun z => t_negK hk z (fun hk => ?_))
      · refine mj_aload_n dX12_decode_53 1 rfl ?_
        refine t_getR 12 dX12_decode_54 F_X12_19 qr_0_1 ?_
        refine mj_aload_n dX12_decode_57 1 rfl ?_
        refine t_getR 856 dX12_decode_58 F_X12_75 qr_0_7 ?_
        refine t_getR 859 dX12_decode_61 F_X12_262 qr_856_6 ?_
        refine mj_iconst (v := 0) dX12_decode_64 (by decide) ?_
        refine t_bndK hk (fun r4 er4 hk => ?_)
        refine t_callViE dX12_decode_65 M_X8_keep (C_X8_keep _ _ _ _ er4) ML_X12_162 IM_X8_keep SE_X8_keep qc_12 rfl (As := [.ref 859, .int 0]) rfl rfl (Nat.le_of_ble_eq_true rfl) (Nat.le_of_ble_eq_true rfl) (Nat.le_of_ble_eq_true rfl) (Nat.le_of_ble_eq_true rfl) ?_
        exact t_somK hk (fun hf => t_iret dX12_decode_68 rfl rfl ⟨_, rfl, hf⟩ (Nat.le_of_ble_eq_true rfl) (Nat.le_of_ble_eq_true rfl))
      · refine mj_bipush (v := (-10)) dX12_decode_46 (by decide) ?_
        refine mj_iload_n dX12_decode_48 0 rfl ?_
        refine mj_isub dX12_decode_49 ?_
        refine mj_goto 68 dX12_decode_50 (by decide) ?_
        exact t_somK hk (fun hf => t_iret dX12_decode_68 rfl rfl ⟨_, rfl, hf⟩ (Nat.le_of_ble_eq_true rfl) (Nat.le_of_ble_eq_true rfl))
    · refine mj_bipush (v := (-3)) dX12_decode_22 (by decide) ?_
      exact t_somK hk (fun hf => t_iret dX12_decode_24 rfl rfl ⟨_, rfl, hf⟩ (Nat.le_of_ble_eq_true rfl) (Nat.le_of_ble_eq_true rfl))
  · refine mj_iconst (v := (-1)) dX12_decode_8 (by decide) ?_
    exact t_somK hk (fun hf => t_iret dX12_decode_9 rfl rfl ⟨_, rfl, hf⟩ (Nat.le_of_ble_eq_true rfl) (Nat.le_of_ble_eq_true rfl))

theorem dX12_drop_0 : decode cX12_drop 0 = .ok (.aload_n 0, 1) := by decide +kernel
theorem dX12_drop_1 : decode cX12_drop 1 = .ok (.getfield 19, 3) := by decide +kernel
theorem dX12_drop_10 : decode cX12_drop 10 = .ok (.iconst (-1), 1) := by decide +kernel
theorem dX12_drop_11 : decode cX12_drop 11 = .ok (.ireturn, 1) := by decide +kernel
theorem dX12_drop_12 : decode cX12_drop 12 = .ok (.aload_n 0, 1) := by decide +kernel
theorem dX12_drop_13 : decode cX12_drop 13 = .ok (.getfield 19, 3) := by decide +kernel
theorem dX12_drop_16 : decode cX12_drop 16 = .ok (.dup, 1) := by decide +kernel
theorem dX12_drop_17 : decode cX12_drop 17 = .ok (.getfield 107, 3) := by decide +kernel
theorem dX12_drop_20 : decode cX12_drop 20 = .ok (.iconst 1, 1) := by decide +kernel
theorem dX12_drop_21 : decode cX12_drop 21 = .ok (.isub, 1) := by decide +kernel
theorem dX12_drop_22 : decode cX12_drop 22 = .ok (.putfield 107, 3) := by decide +kernel
theorem dX12_drop_25 : decode cX12_drop 25 = .ok (.aload_n 0, 1) := by decide +kernel
theorem dX12_drop_26 : decode cX12_drop 26 = .ok (.getfield 19, 3) := by decide +kernel
theorem dX12_drop_29 : decode cX12_drop 29 = .ok (.getfield 107, 3) := by decide +kernel
theorem dX12_drop_32 : decode cX12_drop 32 = .ok (.ireturn, 1) := by decide +kernel
theorem dX12_drop_4 : decode cX12_drop 4 = .ok (.getfield 107, 3) := by decide +kernel
theorem dX12_drop_7 : decode cX12_drop 7 = .ok (.ifCond .gt 5, 3) := by decide +kernel
noncomputable def f_X12_drop (s : t_S) : Option (Int32 × t_S) :=
 if (0 : Int32) < (s.1 12 2) then (t_let (t_setI s 12 2 ((s.1 12 2) - (1 : Int32))) (fun s1 =>
 some ((s1.1 12 2), s1)))
 else (some ((-1 : Int32), s))
set_option maxRecDepth 4000 in
set_option maxHeartbeats 1000000 in
theorem C_X12_drop (s : t_S) (r : Int32 × t_S) (hr : f_X12_drop s = some r) : t_C yX12_drop cX12_drop 1 (some .int) 0 [.ref 0] s (fun v s' => v = some (.int r.1) ∧ s' = r.2) := by
  refine t_C.imp (P := fun v s' => ∃ x, v = some (.int x) ∧ (fun q => q = r) ((x, s'))) (t_C.of (by decide +kernel) (Nat.le_of_ble_eq_true rfl) ?_) (fun v s' hp => by obtain ⟨x, rfl, rfl⟩ := hp; exact ⟨rfl, rfl⟩)
  intro D cy ad bs X
  have hk : t_hk (f_X12_drop s) (fun q => q = r) := ⟨r, hr, rfl⟩
  show mj_G D cy ad bs X cX12_drop 1 yX12_drop.cls (some .int) yX12_drop.name 0 0 0 1065 (t_P (fun v s' => ∃ x, v = some (.int x) ∧ (fun q => q = r) ((x, s')))) 0 [(0, .ref 0)] [] (t_m s) 1065 0 0
  refine mj_aload_n dX12_drop_0 0 rfl ?_
  refine t_getR 12 dX12_drop_1 F_X12_19 qr_0_1 ?_
  refine t_getI dX12_drop_4 F_X12_107 qf_12_2 ?_
  refine mj_if_gt 12 dX12_drop_7 (by decide) (fun z => t_posK hk z (fun hk => ?_)) (fun z => t_negK hk z (fun hk => ?_))
  · refine mj_aload_n dX12_drop_12 0 rfl ?_
    refine t_getR 12 dX12_drop_13 F_X12_19 qr_0_1 ?_
    refine mj_dup dX12_drop_16 rfl ?_
    refine t_getI dX12_drop_17 F_X12_107 qf_12_2 ?_
    refine mj_iconst (v := 1) dX12_drop_20 (by decide) ?_
    refine mj_isub dX12_drop_21 ?_
    refine t_putIK dX12_drop_22 F_X12_107 qf_12_2 rfl (fun s1 ws1 => t_letE hk ws1 (fun hk => ?_))
    refine mj_aload_n dX12_drop_25 0 rfl ?_
    refine t_getR 12 dX12_drop_26 F_X12_19 qr_0_1 ?_
    refine t_getI dX12_drop_29 F_X12_107 qf_12_2 ?_
    exact t_somK hk (fun hf => t_iret dX12_drop_32 rfl rfl ⟨_, rfl, hf⟩ (Nat.le_of_ble_eq_true rfl) (Nat.le_of_ble_eq_true rfl))
  · refine mj_iconst (v := (-1)) dX12_drop_10 (by decide) ?_
    exact t_somK hk (fun hf => t_iret dX12_drop_11 rfl rfl ⟨_, rfl, hf⟩ (Nat.le_of_ble_eq_true rfl) (Nat.le_of_ble_eq_true rfl))

theorem dX1_expect_0 : decode cX1_expect 0 = .ok (.aload_n 0, 1) := by decide +kernel
theorem dX1_expect_1 : decode cX1_expect 1 = .ok (.getfield 47, 3) := by decide +kernel
theorem dX1_expect_12 : decode cX1_expect 12 = .ok (.return_, 1) := by decide +kernel
theorem dX1_expect_13 : decode cX1_expect 13 = .ok (.aload_n 0, 1) := by decide +kernel
theorem dX1_expect_14 : decode cX1_expect 14 = .ok (.getfield 25, 3) := by decide +kernel
theorem dX1_expect_17 : decode cX1_expect 17 = .ok (.aload_n 0, 1) := by decide +kernel
theorem dX1_expect_18 : decode cX1_expect 18 = .ok (.getfield 47, 3) := by decide +kernel
theorem dX1_expect_21 : decode cX1_expect 21 = .ok (.iload_n 1, 1) := by decide +kernel
theorem dX1_expect_22 : decode cX1_expect 22 = .ok (.iastore, 1) := by decide +kernel
theorem dX1_expect_23 : decode cX1_expect 23 = .ok (.aload_n 0, 1) := by decide +kernel
theorem dX1_expect_24 : decode cX1_expect 24 = .ok (.getfield 29, 3) := by decide +kernel
theorem dX1_expect_27 : decode cX1_expect 27 = .ok (.aload_n 0, 1) := by decide +kernel
theorem dX1_expect_28 : decode cX1_expect 28 = .ok (.getfield 47, 3) := by decide +kernel
theorem dX1_expect_31 : decode cX1_expect 31 = .ok (.iload_n 2, 1) := by decide +kernel
theorem dX1_expect_32 : decode cX1_expect 32 = .ok (.iastore, 1) := by decide +kernel
theorem dX1_expect_33 : decode cX1_expect 33 = .ok (.aload_n 0, 1) := by decide +kernel
theorem dX1_expect_34 : decode cX1_expect 34 = .ok (.dup, 1) := by decide +kernel
theorem dX1_expect_35 : decode cX1_expect 35 = .ok (.getfield 47, 3) := by decide +kernel
theorem dX1_expect_38 : decode cX1_expect 38 = .ok (.iconst 1, 1) := by decide +kernel
theorem dX1_expect_39 : decode cX1_expect 39 = .ok (.iadd, 1) := by decide +kernel
theorem dX1_expect_4 : decode cX1_expect 4 = .ok (.aload_n 0, 1) := by decide +kernel
theorem dX1_expect_40 : decode cX1_expect 40 = .ok (.putfield 47, 3) := by decide +kernel
theorem dX1_expect_43 : decode cX1_expect 43 = .ok (.return_, 1) := by decide +kernel
theorem dX1_expect_5 : decode cX1_expect 5 = .ok (.getfield 25, 3) := by decide +kernel
theorem dX1_expect_8 : decode cX1_expect 8 = .ok (.arraylength, 1) := by decide +kernel
theorem dX1_expect_9 : decode cX1_expect 9 = .ok (.if_icmp .lt 4, 3) := by decide +kernel
noncomputable def f_X1_expect (x1 : Int32) (x2 : Int32) (s : t_S) : Option (t_S) :=
 if (s.1 856 15) < (240 : Int32) then (if t_ix (s.1 856 15) 240 = true then
  t_let (t_setI s 861 ((s.1 856 15).toNatClampNeg) x1) (fun s1 =>
 if t_ix (s1.1 856 15) 240 = true then
  t_let (t_setI s1 862 ((s1.1 856 15).toNatClampNeg) x2) (fun s2 =>
 t_let (t_setI s2 856 15 ((s2.1 856 15) + (1 : Int32))) (fun s3 =>
 some (s3)))
else none)
else none)
 else (some (s))
set_option maxRecDepth 4000 in
set_option maxHeartbeats 1000000 in
theorem C_X1_expect (x1 : Int32) (x2 : Int32) (s : t_S) (r : t_S) (hr : f_X1_expect x1 x2 s = some r) : t_C yX1_expect cX1_expect 3 none 0 [.ref 856, .int x1, .int x2] s (fun v s' => v = none ∧ s' = r) := by
  refine t_C.imp (P := fun v s' => v = none ∧ (fun q => q = r) (s')) (t_C.of (by decide +kernel) (Nat.le_of_ble_eq_true rfl) ?_) (fun v s' hp => hp)
  intro D cy ad bs X
  have hk : t_hk (f_X1_expect x1 x2 s) (fun q => q = r) := ⟨r, hr, rfl⟩
  show mj_G D cy ad bs X cX1_expect 3 yX1_expect.cls none yX1_expect.name 0 0 0 1065 (t_P (fun v s' => v = none ∧ (fun q => q = r) (s'))) 0 [(0, .ref 856), (1, .int x1), (2, .int x2)] [] (t_m s) 1065 0 0
  refine mj_aload_n dX1_expect_0 0 rfl ?_
  refine t_getI dX1_expect_1 F_X1_47 qf_856_15 ?_
  refine mj_aload_n dX1_expect_4 0 rfl ?_
  refine t_getR 861 dX1_expect_5 F_X1_25 qr_856_12 ?_
  refine t_alen1 (v := 240) dX1_expect_8 qa_861 (by decide) ?_
  refine mj_icmp_lt 13 dX1_expect_9 (by decide) (fun z => t_posK hk z (fun hk => ?_)) (fun z => t_negK hk z (fun hk => ?_))
  · refine mj_aload_n dX1_expect_13 0 rfl ?_
    refine t_getR 861 dX1_expect_14 F_X1_25 qr_856_12 ?_
    refine mj_aload_n dX1_expect_17 0 rfl ?_
    refine t_getI dX1_expect_18 F_X1_47 qf_856_15 ?_
    refine mj_iload_n dX1_expect_21 1 rfl ?_
    refine t_chkK hk (fun c0 hk => ?_)
    refine t_iastK dX1_expect_22 qa_861 (t_ixv c0) (fun s1 ws1 => t_letE hk ws1 (fun hk => ?_))
    refine mj_aload_n dX1_expect_23 0 rfl ?_
    refine t_getR 862 dX1_expect_24 F_X1_29 qr_856_13 ?_
    refine mj_aload_n dX1_expect_27 0 rfl ?_
    refine t_getI dX1_expect_28 F_X1_47 qf_856_15 ?_
    refine mj_iload_n dX1_expect_31 2 rfl ?_
    refine t_chkK hk (fun c1 hk => ?_)
    refine t_iastK dX1_expect_32 qa_862 (t_ixv c1) (fun s2 ws2 => t_letE hk ws2 (fun hk => ?_))
    refine mj_aload_n dX1_expect_33 0 rfl ?_
    refine mj_dup dX1_expect_34 rfl ?_
    refine t_getI dX1_expect_35 F_X1_47 qf_856_15 ?_
    refine mj_iconst (v := 1) dX1_expect_38 (by decide) ?_
    refine mj_iadd dX1_expect_39 ?_
    refine t_putIK dX1_expect_40 F_X1_47 qf_856_15 rfl (fun s3 ws3 => t_letE hk ws3 (fun hk => ?_))
    exact t_somK hk (fun hf => t_vret dX1_expect_43 rfl ⟨rfl, hf⟩ (Nat.le_of_ble_eq_true rfl) (Nat.le_of_ble_eq_true rfl))
  · exact t_somK hk (fun hf => t_vret dX1_expect_12 rfl ⟨rfl, hf⟩ (Nat.le_of_ble_eq_true rfl) (Nat.le_of_ble_eq_true rfl))

theorem dX1_placeOf_0 : decode cX1_placeOf 0 = .ok (.aload_n 0, 1) := by decide +kernel
theorem dX1_placeOf_1 : decode cX1_placeOf 1 = .ok (.getfield 39, 3) := by decide +kernel
theorem dX1_placeOf_10 : decode cX1_placeOf 10 = .ok (.iconst 0, 1) := by decide +kernel
theorem dX1_placeOf_11 : decode cX1_placeOf 11 = .ok (.istore 4, 2) := by decide +kernel
theorem dX1_placeOf_13 : decode cX1_placeOf 13 = .ok (.iload 4, 2) := by decide +kernel
theorem dX1_placeOf_15 : decode cX1_placeOf 15 = .ok (.aload_n 0, 1) := by decide +kernel
theorem dX1_placeOf_16 : decode cX1_placeOf 16 = .ok (.getfield 39, 3) := by decide +kernel
theorem dX1_placeOf_19 : decode cX1_placeOf 19 = .ok (.getfield 163, 3) := by decide +kernel
theorem dX1_placeOf_22 : decode cX1_placeOf 22 = .ok (.iload_n 1, 1) := by decide +kernel
theorem dX1_placeOf_23 : decode cX1_placeOf 23 = .ok (.iaload, 1) := by decide +kernel
theorem dX1_placeOf_24 : decode cX1_placeOf 24 = .ok (.if_icmp .ge 31, 3) := by decide +kernel
theorem dX1_placeOf_27 : decode cX1_placeOf 27 = .ok (.iload_n 3, 1) := by decide +kernel
theorem dX1_placeOf_28 : decode cX1_placeOf 28 = .ok (.ifCond .lt 27, 3) := by decide +kernel
theorem dX1_placeOf_31 : decode cX1_placeOf 31 = .ok (.iload_n 3, 1) := by decide +kernel
theorem dX1_placeOf_32 : decode cX1_placeOf 32 = .ok (.iload_n 2, 1) := by decide +kernel
theorem dX1_placeOf_33 : decode cX1_placeOf 33 = .ok (.if_icmp .ne 6, 3) := by decide +kernel
theorem dX1_placeOf_36 : decode cX1_placeOf 36 = .ok (.iload 4, 2) := by decide +kernel
theorem dX1_placeOf_38 : decode cX1_placeOf 38 = .ok (.ireturn, 1) := by decide +kernel
theorem dX1_placeOf_39 : decode cX1_placeOf 39 = .ok (.aload_n 0, 1) := by decide +kernel
theorem dX1_placeOf_4 : decode cX1_placeOf 4 = .ok (.getfield 181, 3) := by decide +kernel
theorem dX1_placeOf_40 : decode cX1_placeOf 40 = .ok (.getfield 39, 3) := by decide +kernel
theorem dX1_placeOf_43 : decode cX1_placeOf 43 = .ok (.getfield 198, 3) := by decide +kernel
theorem dX1_placeOf_46 : decode cX1_placeOf 46 = .ok (.iload_n 3, 1) := by decide +kernel
theorem dX1_placeOf_47 : decode cX1_placeOf 47 = .ok (.iaload, 1) := by decide +kernel
theorem dX1_placeOf_48 : decode cX1_placeOf 48 = .ok (.istore_n 3, 1) := by decide +kernel
theorem dX1_placeOf_49 : decode cX1_placeOf 49 = .ok (.iinc 4 1, 3) := by decide +kernel
theorem dX1_placeOf_52 : decode cX1_placeOf 52 = .ok (.goto (-39), 3) := by decide +kernel
theorem dX1_placeOf_55 : decode cX1_placeOf 55 = .ok (.iconst (-1), 1) := by decide +kernel
theorem dX1_placeOf_56 : decode cX1_placeOf 56 = .ok (.ireturn, 1) := by decide +kernel
theorem dX1_placeOf_7 : decode cX1_placeOf 7 = .ok (.iload_n 1, 1) := by decide +kernel
theorem dX1_placeOf_8 : decode cX1_placeOf 8 = .ok (.iaload, 1) := by decide +kernel
theorem dX1_placeOf_9 : decode cX1_placeOf 9 = .ok (.istore_n 3, 1) := by decide +kernel
noncomputable def k_X1_placeOf_13 (l1 : Int32) (l2 : Int32) (l3 : Int32) (l4 : Int32) (s : t_S) : Option ((Int32 × Int32 × Int32 × Int32) ⊕ (Int32)) :=
 if t_ix l1 3001 = true then
  if (s.1 321 (l1.toNatClampNeg)) ≤ l4 then ((some (-1 : Int32)).map Sum.inr)
 else (if l3 < (0 : Int32) then ((some (-1 : Int32)).map Sum.inr)
 else (if l3 = l2 then ((some (l4)).map Sum.inr)
 else (if t_ix l3 3001 = true then
  some (.inl (l1, l2, (s.1 319 (l3.toNatClampNeg)), (l4 + 1)))
else none)))
else none
set_option maxRecDepth 4000 in
set_option maxHeartbeats 1000000 in
theorem B_X1_placeOf_13 {D : va_G} {cy : Nat → ClassId} {ad : Nat → Nat} {bs : Nat} {X : State → Heap → Prop} (l1 : Int32) (l2 : Int32) (l3 : Int32) (l4 : Int32) (s : t_S) (Q : (Int32 × Int32 × Int32 × Int32) ⊕ (Int32) → Prop) (Hb13 : ∀ (y0 : Int32) (y1 : Int32) (y2 : Int32) (y3 : Int32), Q (.inl (y0, y1, y2, y3)) → mj_G D cy ad bs X cX1_placeOf 5 yX1_placeOf.cls (some .int) yX1_placeOf.name 0 0 0 1065 (t_P (fun v s' => s' = s ∧ ∃ x, v = some (.int x) ∧ Q (.inr (x)))) 13 [(0, .ref 856), (1, .int (y0)), (2, .int (y1)), (3, .int (y2)), (4, .int (y3))] [] (t_m s) 1065 0 0) (hk : t_hk (k_X1_placeOf_13 l1 l2 l3 l4 s) Q) : mj_G D cy ad bs X cX1_placeOf 5 yX1_placeOf.cls (some .int) yX1_placeOf.name 0 0 0 1065 (t_P (fun v s' => s' = s ∧ ∃ x, v = some (.int x) ∧ Q (.inr (x)))) 13 [(0, .ref 856), (1, .int l1), (2, .int l2), (3, .int l3), (4, .int l4)] [] (t_m s) 1065 0 0 := by
  refine mj_iload dX1_placeOf_13 4 rfl ?_
  refine mj_aload_n dX1_placeOf_15 0 rfl ?_
  refine t_getR 316 dX1_placeOf_16 F_X1_39 qr_856_1 ?_
  refine t_getR 321 dX1_placeOf_19 F_X1_163 qr_316_4 ?_
  refine mj_iload_n dX1_placeOf_22 1 rfl ?_
  refine t_chkK hk (fun c0 hk => ?_)
  refine t_iald dX1_placeOf_23 qa_321 (t_ixv c0) ?_
  refine mj_icmp_ge 55 dX1_placeOf_24 (by decide) (fun z => t_posK hk z (fun hk => ?_)) (fun z => t_negK hk z (fun hk => ?_))
  · refine t_mapK hk (fun hk => ?_)
    refine mj_iconst (v := (-1)) dX1_placeOf_55 (by decide) ?_
    exact t_somK hk (fun hf => t_iret dX1_placeOf_56 rfl rfl ⟨rfl, _, rfl, hf⟩ (Nat.le_of_ble_eq_true rfl) (Nat.le_of_ble_eq_true rfl))
  · refine mj_iload_n dX1_placeOf_27 3 rfl ?_
    refine mj_if_lt 55 dX1_placeOf_28 (by decide) (fun z => t_posK hk z (fun hk => ?_)) (fun z => t_negK hk z (fun hk => ?_))
    · refine t_mapK hk (fun hk => ?_)
      refine mj_iconst (v := (-1)) dX1_placeOf_55 (by decide) ?_
      exact t_somK hk (fun hf => t_iret dX1_placeOf_56 rfl rfl ⟨rfl, _, rfl, hf⟩ (Nat.le_of_ble_eq_true rfl) (Nat.le_of_ble_eq_true rfl))
    · refine mj_iload_n dX1_placeOf_31 3 rfl ?_
      refine mj_iload_n dX1_placeOf_32 2 rfl ?_
      refine mj_icmp_ne 39 dX1_placeOf_33 (by decide) (fun z => t_negK hk z (fun hk => ?_)) (fun z => t_posK hk z (fun hk => ?_))
      · refine mj_aload_n dX1_placeOf_39 0 rfl ?_
        refine t_getR 316 dX1_placeOf_40 F_X1_39 qr_856_1 ?_
        refine t_getR 319 dX1_placeOf_43 F_X1_198 qr_316_2 ?_
        refine mj_iload_n dX1_placeOf_46 3 rfl ?_
        refine t_chkK hk (fun c1 hk => ?_)
        refine t_iald dX1_placeOf_47 qa_319 (t_ixv c1) ?_
        refine mj_istore_n 3 (lv2 := [(3, .int (s.1 319 (l3.toNatClampNeg))), (0, .ref 856), (1, .int l1), (2, .int l2), (4, .int l4)]) dX1_placeOf_48 rfl (by decide) rfl ?_
        refine mj_iinc (k := 4) (v := (l4 + 1)) (lv2 := [(4, .int (l4 + 1)), (3, .int (s.1 319 (l3.toNatClampNeg))), (0, .ref 856), (1, .int l1), (2, .int l2)]) dX1_placeOf_49 rfl rfl (by decide) rfl ?_
        refine mj_goto 13 dX1_placeOf_52 (by decide) ?_
        refine mj_sublv [(0, .ref 856), (1, .int l1), (2, .int l2), (3, .int (s.1 319 (l3.toNatClampNeg))), (4, .int (l4 + 1))] [2, 3, 4, 1, 0] rfl ?_
        exact t_somK hk (fun hf => Hb13 l1 l2 (s.1 319 (l3.toNatClampNeg)) (l4 + 1) hf)
      · refine t_mapK hk (fun hk => ?_)
        refine mj_iload dX1_placeOf_36 4 rfl ?_
        exact t_somK hk (fun hf => t_iret dX1_placeOf_38 rfl rfl ⟨rfl, _, rfl, hf⟩ (Nat.le_of_ble_eq_true rfl) (Nat.le_of_ble_eq_true rfl))
noncomputable def b_X1_placeOf_13 (s : t_S) (x : Int32 × Int32 × Int32 × Int32) : Option ((Int32 × Int32 × Int32 × Int32) ⊕ (Int32)) := k_X1_placeOf_13 x.1 x.2.1 x.2.2.1 x.2.2.2 s
set_option maxRecDepth 4000 in
set_option maxHeartbeats 1000000 in
theorem LH_X1_placeOf_13 {D : va_G} {cy : Nat → ClassId} {ad : Nat → Nat} {bs : Nat} {X : State → Heap → Prop} (s : t_S) : ∀ (n : Nat) (y0 : Int32) (y1 : Int32) (y2 : Int32) (y3 : Int32) (Q : Int32 → Prop) (hk : t_hk (t_loop (b_X1_placeOf_13 s) n (y0, y1, y2, y3)) Q), mj_G D cy ad bs X cX1_placeOf 5 yX1_placeOf.cls (some .int) yX1_placeOf.name 0 0 0 1065 (t_P (fun v s' => s' = s ∧ ∃ x, v = some (.int x) ∧ Q (x))) 13 [(0, .ref 856), (1, .int (y0)), (2, .int (y1)), (3, .int (y2)), (4, .int (y3))] [] (t_m s) 1065 0 0 := by
  intro n
  induction n with
  | zero => intro y0 y1 y2 y3 Q hk; obtain ⟨r, hr, _⟩ := hk; cases hr
  | succ n ih =>
    intro y0 y1 y2 y3 Q hk
    exact B_X1_placeOf_13 y0 y1 y2 y3 s (fun y => t_lq (b_X1_placeOf_13 s) n Q y) (fun y0' y1' y2' y3' hy => ih y0' y1' y2' y3' Q hy) (t_lp hk)
noncomputable def f_X1_placeOf (x1 : Int32) (x2 : Int32) (s : t_S) : Option (Int32) :=
 if t_ix x1 3001 = true then
  t_loop (b_X1_placeOf_13 s) t_N (x1, x2, (s.1 318 (x1.toNatClampNeg)), 0)
else none
set_option maxRecDepth 4000 in
set_option maxHeartbeats 1000000 in
theorem C_X1_placeOf (x1 : Int32) (x2 : Int32) (s : t_S) (r : Int32) (hr : f_X1_placeOf x1 x2 s = some r) : t_C yX1_placeOf cX1_placeOf 5 (some .int) 0 [.ref 856, .int x1, .int x2] s (fun v s' => v = some (.int r) ∧ s' = s) := by
  refine t_C.imp (P := fun v s' => s' = s ∧ ∃ x, v = some (.int x) ∧ (fun q => q = r) (x)) (t_C.of (by decide +kernel) (Nat.le_of_ble_eq_true rfl) ?_) (fun v s' hp => by obtain ⟨rfl, x, rfl, rfl⟩ := hp; exact ⟨rfl, rfl⟩)
  intro D cy ad bs X
  have hk : t_hk (f_X1_placeOf x1 x2 s) (fun q => q = r) := ⟨r, hr, rfl⟩
  show mj_G D cy ad bs X cX1_placeOf 5 yX1_placeOf.cls (some .int) yX1_placeOf.name 0 0 0 1065 (t_P (fun v s' => s' = s ∧ ∃ x, v = some (.int x) ∧ (fun q => q = r) (x))) 0 [(0, .ref 856), (1, .int x1), (2, .int x2)] [] (t_m s) 1065 0 0
  refine mj_aload_n dX1_placeOf_0 0 rfl ?_
  refine t_getR 316 dX1_placeOf_1 F_X1_39 qr_856_1 ?_
  refine t_getR 318 dX1_placeOf_4 F_X1_181 qr_316_1 ?_
  refine mj_iload_n dX1_placeOf_7 1 rfl ?_
  refine t_chkK hk (fun c0 hk => ?_)
  refine t_iald dX1_placeOf_8 qa_318 (t_ixv c0) ?_
  refine mj_istore_n 3 (lv2 := [(3, .int (s.1 318 (x1.toNatClampNeg))), (0, .ref 856), (1, .int x1), (2, .int x2)]) dX1_placeOf_9 rfl (by decide) rfl ?_
  refine mj_iconst (v := 0) dX1_placeOf_10 (by decide) ?_
  refine mj_istore (lv2 := [(4, .int 0), (3, .int (s.1 318 (x1.toNatClampNeg))), (0, .ref 856), (1, .int x1), (2, .int x2)]) dX1_placeOf_11 (by decide) rfl ?_
  refine mj_sublv [(0, .ref 856), (1, .int x1), (2, .int x2), (3, .int (s.1 318 (x1.toNatClampNeg))), (4, .int 0)] [2, 3, 4, 1, 0] rfl ?_
  exact LH_X1_placeOf_13 _ _ x1 x2 (s.1 318 (x1.toNatClampNeg)) 0 _ hk

theorem dX1_writeInt_0 : decode cX1_writeInt 0 = .ok (.aload_n 0, 1) := by decide +kernel
theorem dX1_writeInt_1 : decode cX1_writeInt 1 = .ok (.getfield 39, 3) := by decide +kernel
theorem dX1_writeInt_12 : decode cX1_writeInt 12 = .ok (.aload_n 0, 1) := by decide +kernel
theorem dX1_writeInt_13 : decode cX1_writeInt 13 = .ok (.lload_n 2, 1) := by decide +kernel
theorem dX1_writeInt_14 : decode cX1_writeInt 14 = .ok (.aload_n 0, 1) := by decide +kernel
theorem dX1_writeInt_15 : decode cX1_writeInt 15 = .ok (.getfield 39, 3) := by decide +kernel
theorem dX1_writeInt_18 : decode cX1_writeInt 18 = .ok (.getfield 187, 3) := by decide +kernel
theorem dX1_writeInt_21 : decode cX1_writeInt 21 = .ok (.iload_n 1, 1) := by decide +kernel
theorem dX1_writeInt_22 : decode cX1_writeInt 22 = .ok (.laload, 1) := by decide +kernel
theorem dX1_writeInt_23 : decode cX1_writeInt 23 = .ok (.lsub, 1) := by decide +kernel
theorem dX1_writeInt_24 : decode cX1_writeInt 24 = .ok (.aload_n 0, 1) := by decide +kernel
theorem dX1_writeInt_25 : decode cX1_writeInt 25 = .ok (.getfield 39, 3) := by decide +kernel
theorem dX1_writeInt_28 : decode cX1_writeInt 28 = .ok (.getfield 190, 3) := by decide +kernel
theorem dX1_writeInt_31 : decode cX1_writeInt 31 = .ok (.iload_n 1, 1) := by decide +kernel
theorem dX1_writeInt_32 : decode cX1_writeInt 32 = .ok (.laload, 1) := by decide +kernel
theorem dX1_writeInt_33 : decode cX1_writeInt 33 = .ok (.aload_n 0, 1) := by decide +kernel
theorem dX1_writeInt_34 : decode cX1_writeInt 34 = .ok (.getfield 39, 3) := by decide +kernel
theorem dX1_writeInt_37 : decode cX1_writeInt 37 = .ok (.getfield 187, 3) := by decide +kernel
theorem dX1_writeInt_4 : decode cX1_writeInt 4 = .ok (.getfield 163, 3) := by decide +kernel
theorem dX1_writeInt_40 : decode cX1_writeInt 40 = .ok (.iload_n 1, 1) := by decide +kernel
theorem dX1_writeInt_41 : decode cX1_writeInt 41 = .ok (.laload, 1) := by decide +kernel
theorem dX1_writeInt_42 : decode cX1_writeInt 42 = .ok (.lsub, 1) := by decide +kernel
theorem dX1_writeInt_43 : decode cX1_writeInt 43 = .ok (.invokestatic 166, 3) := by decide +kernel
theorem dX1_writeInt_46 : decode cX1_writeInt 46 = .ok (.invokevirtual 155, 3) := by decide +kernel
theorem dX1_writeInt_49 : decode cX1_writeInt 49 = .ok (.return_, 1) := by decide +kernel
theorem dX1_writeInt_50 : decode cX1_writeInt 50 = .ok (.lload_n 2, 1) := by decide +kernel
theorem dX1_writeInt_51 : decode cX1_writeInt 51 = .ok (.invokestatic 193, 3) := by decide +kernel
theorem dX1_writeInt_54 : decode cX1_writeInt 54 = .ok (.istore 4, 2) := by decide +kernel
theorem dX1_writeInt_56 : decode cX1_writeInt 56 = .ok (.aload_n 0, 1) := by decide +kernel
theorem dX1_writeInt_57 : decode cX1_writeInt 57 = .ok (.iload 4, 2) := by decide +kernel
theorem dX1_writeInt_59 : decode cX1_writeInt 59 = .ok (.i2l, 1) := by decide +kernel
theorem dX1_writeInt_60 : decode cX1_writeInt 60 = .ok (.bipush 8, 2) := by decide +kernel
theorem dX1_writeInt_62 : decode cX1_writeInt 62 = .ok (.invokevirtual 155, 3) := by decide +kernel
theorem dX1_writeInt_65 : decode cX1_writeInt 65 = .ok (.aload_n 0, 1) := by decide +kernel
theorem dX1_writeInt_66 : decode cX1_writeInt 66 = .ok (.lload_n 2, 1) := by decide +kernel
theorem dX1_writeInt_67 : decode cX1_writeInt 67 = .ok (.bipush 8, 2) := by decide +kernel
theorem dX1_writeInt_69 : decode cX1_writeInt 69 = .ok (.iload 4, 2) := by decide +kernel
theorem dX1_writeInt_7 : decode cX1_writeInt 7 = .ok (.iload_n 1, 1) := by decide +kernel
theorem dX1_writeInt_71 : decode cX1_writeInt 71 = .ok (.imul, 1) := by decide +kernel
theorem dX1_writeInt_72 : decode cX1_writeInt 72 = .ok (.invokevirtual 155, 3) := by decide +kernel
theorem dX1_writeInt_75 : decode cX1_writeInt 75 = .ok (.return_, 1) := by decide +kernel
theorem dX1_writeInt_8 : decode cX1_writeInt 8 = .ok (.iaload, 1) := by decide +kernel
theorem dX1_writeInt_9 : decode cX1_writeInt 9 = .ok (.ifCond .eq 41, 3) := by decide +kernel
noncomputable def f_X1_writeInt (x1 : Int32) (x2 : Int64) (s : t_S) : Option (t_S) :=
 if t_ix x1 3001 = true then
  if (s.1 321 (x1.toNatClampNeg)) = (0 : Int32) then ((f_X1_bytesFor x2 s).bind (fun r2 =>
 (f_X1_put r2.toInt64 (8 : Int32) s).bind (fun r3 =>
 (f_X1_put x2 ((8 : Int32) * r2) r3).bind (fun r4 =>
 some (r4)))))
 else ((f_X1_put (x2 - (s.2.1 322 (x1.toNatClampNeg))) (f_X1_bitsFor ((s.2.1 323 (x1.toNatClampNeg)) - (s.2.1 322 (x1.toNatClampNeg))) s) s).bind (fun r6 =>
 some (r6)))
else none
set_option maxRecDepth 4000 in
set_option maxHeartbeats 1000000 in
theorem C_X1_writeInt (x1 : Int32) (x2 : Int64) (s : t_S) (r : t_S) (hr : f_X1_writeInt x1 x2 s = some r) : t_C yX1_writeInt cX1_writeInt 5 none 3 [.ref 856, .int x1, .long x2] s (fun v s' => v = none ∧ s' = r) := by
  refine t_C.imp (P := fun v s' => v = none ∧ (fun q => q = r) (s')) (t_C.of (by decide +kernel) (Nat.le_of_ble_eq_true rfl) ?_) (fun v s' hp => hp)
  intro D cy ad bs X
  have hk : t_hk (f_X1_writeInt x1 x2 s) (fun q => q = r) := ⟨r, hr, rfl⟩
  show mj_G D cy ad bs X cX1_writeInt 5 yX1_writeInt.cls none yX1_writeInt.name 3 0 0 1065 (t_P (fun v s' => v = none ∧ (fun q => q = r) (s'))) 0 [(0, .ref 856), (1, .int x1), (2, .long x2)] [] (t_m s) 1065 0 0
  refine mj_aload_n dX1_writeInt_0 0 rfl ?_
  refine t_getR 316 dX1_writeInt_1 F_X1_39 qr_856_1 ?_
  refine t_getR 321 dX1_writeInt_4 F_X1_163 qr_316_4 ?_
  refine mj_iload_n dX1_writeInt_7 1 rfl ?_
  refine t_chkK hk (fun c0 hk => ?_)
  refine t_iald dX1_writeInt_8 qa_321 (t_ixv c0) ?_
  refine mj_if_eq 50 dX1_writeInt_9 (by decide) (fun z => t_posK hk z (fun hk => ?_)) (fun z => t_negK hk z (fun hk => ?_))
  · refine mj_lload_n dX1_writeInt_50 2 rfl ?_
    refine t_bndK hk (fun r2 er2 hk => ?_)
    refine t_callSiP dX1_writeInt_51 M_X1_bytesFor (C_X1_bytesFor _ _ _ er2) ML_X1_193 SM_X1_bytesFor (As := [.long x2]) rfl rfl (Nat.le_of_ble_eq_true rfl) (Nat.le_of_ble_eq_true rfl) (Nat.le_of_ble_eq_true rfl) (Nat.le_of_ble_eq_true rfl) ?_
    refine mj_istore (lv2 := [(4, .int r2), (0, .ref 856), (1, .int x1), (2, .long x2)]) dX1_writeInt_54 (by decide) rfl ?_
    refine mj_aload_n dX1_writeInt_56 1 rfl ?_
    refine mj_iload dX1_writeInt_57 0 rfl ?_
    refine mj_i2l (v := r2.toInt64) dX1_writeInt_59 rfl ?_
    refine mj_bipush (v := 8) dX1_writeInt_60 (by decide) ?_
    refine t_bndK hk (fun r3 er3 hk => ?_)
    refine t_callVvE dX1_writeInt_62 M_X1_put (C_X1_put _ _ _ _ er3) ML_X1_155 IM_X1_put SE_X1_put qc_856 rfl (As := [.long r2.toInt64, .int 8]) rfl rfl (Nat.le_of_ble_eq_true rfl) (Nat.le_of_ble_eq_true rfl) (Nat.le_of_ble_eq_true rfl) (Nat.le_of_ble_eq_true rfl) ?_
    refine mj_aload_n dX1_writeInt_65 1 rfl ?_
    refine mj_lload_n dX1_writeInt_66 3 rfl ?_
    refine mj_bipush (v := 8) dX1_writeInt_67 (by decide) ?_
    refine mj_iload dX1_writeInt_69 0 rfl ?_
    refine mj_imul dX1_writeInt_71 ?_
    refine t_bndK hk (fun r4 er4 hk => ?_)
    refine t_callVvE dX1_writeInt_72 M_X1_put (C_X1_put _ _ _ _ er4) ML_X1_155 IM_X1_put SE_X1_put qc_856 rfl (As := [.long x2, .int ((8 : Int32) * r2)]) rfl rfl (Nat.le_of_ble_eq_true rfl) (Nat.le_of_ble_eq_true rfl) (Nat.le_of_ble_eq_true rfl) (Nat.le_of_ble_eq_true rfl) ?_
    exact t_somK hk (fun hf => t_vret dX1_writeInt_75 rfl ⟨rfl, hf⟩ (Nat.le_of_ble_eq_true rfl) (Nat.le_of_ble_eq_true rfl))
  · refine mj_aload_n dX1_writeInt_12 0 rfl ?_
    refine mj_lload_n dX1_writeInt_13 2 rfl ?_
    refine mj_aload_n dX1_writeInt_14 0 rfl ?_
    refine t_getR 316 dX1_writeInt_15 F_X1_39 qr_856_1 ?_
    refine t_getR 322 dX1_writeInt_18 F_X1_187 qr_316_5 ?_
    refine mj_iload_n dX1_writeInt_21 1 rfl ?_
    refine t_lald dX1_writeInt_22 qa_322 (t_ixv c0) ?_
    refine mj_lsub dX1_writeInt_23 ?_
    refine mj_aload_n dX1_writeInt_24 0 rfl ?_
    refine t_getR 316 dX1_writeInt_25 F_X1_39 qr_856_1 ?_
    refine t_getR 323 dX1_writeInt_28 F_X1_190 qr_316_6 ?_
    refine mj_iload_n dX1_writeInt_31 1 rfl ?_
    refine t_lald dX1_writeInt_32 qa_323 (t_ixv c0) ?_
    refine mj_aload_n dX1_writeInt_33 0 rfl ?_
    refine t_getR 316 dX1_writeInt_34 F_X1_39 qr_856_1 ?_
    refine t_getR 322 dX1_writeInt_37 F_X1_187 qr_316_5 ?_
    refine mj_iload_n dX1_writeInt_40 1 rfl ?_
    refine t_lald dX1_writeInt_41 qa_322 (t_ixv c0) ?_
    refine mj_lsub dX1_writeInt_42 ?_
    refine t_callSiP dX1_writeInt_43 M_X1_bitsFor (C_X1_bitsFor _ _) ML_X1_166 SM_X1_bitsFor (As := [.long ((s.2.1 323 (x1.toNatClampNeg)) - (s.2.1 322 (x1.toNatClampNeg)))]) rfl rfl (Nat.le_of_ble_eq_true rfl) (Nat.le_of_ble_eq_true rfl) (Nat.le_of_ble_eq_true rfl) (Nat.le_of_ble_eq_true rfl) ?_
    refine t_bndK hk (fun r6 er6 hk => ?_)
    refine t_callVvE dX1_writeInt_46 M_X1_put (C_X1_put _ _ _ _ er6) ML_X1_155 IM_X1_put SE_X1_put qc_856 rfl (As := [.long (x2 - (s.2.1 322 (x1.toNatClampNeg))), .int (f_X1_bitsFor ((s.2.1 323 (x1.toNatClampNeg)) - (s.2.1 322 (x1.toNatClampNeg))) s)]) rfl rfl (Nat.le_of_ble_eq_true rfl) (Nat.le_of_ble_eq_true rfl) (Nat.le_of_ble_eq_true rfl) (Nat.le_of_ble_eq_true rfl) ?_
    exact t_somK hk (fun hf => t_vret dX1_writeInt_49 rfl ⟨rfl, hf⟩ (Nat.le_of_ble_eq_true rfl) (Nat.le_of_ble_eq_true rfl))

theorem dX1_writeLength_0 : decode cX1_writeLength 0 = .ok (.aload_n 0, 1) := by decide +kernel
theorem dX1_writeLength_1 : decode cX1_writeLength 1 = .ok (.iload_n 2, 1) := by decide +kernel
theorem dX1_writeLength_10 : decode cX1_writeLength 10 = .ok (.iload_n 1, 1) := by decide +kernel
theorem dX1_writeLength_11 : decode cX1_writeLength 11 = .ok (.laload, 1) := by decide +kernel
theorem dX1_writeLength_12 : decode cX1_writeLength 12 = .ok (.lsub, 1) := by decide +kernel
theorem dX1_writeLength_13 : decode cX1_writeLength 13 = .ok (.aload_n 0, 1) := by decide +kernel
theorem dX1_writeLength_14 : decode cX1_writeLength 14 = .ok (.getfield 39, 3) := by decide +kernel
theorem dX1_writeLength_17 : decode cX1_writeLength 17 = .ok (.getfield 190, 3) := by decide +kernel
theorem dX1_writeLength_2 : decode cX1_writeLength 2 = .ok (.i2l, 1) := by decide +kernel
theorem dX1_writeLength_20 : decode cX1_writeLength 20 = .ok (.iload_n 1, 1) := by decide +kernel
theorem dX1_writeLength_21 : decode cX1_writeLength 21 = .ok (.laload, 1) := by decide +kernel
theorem dX1_writeLength_22 : decode cX1_writeLength 22 = .ok (.aload_n 0, 1) := by decide +kernel
theorem dX1_writeLength_23 : decode cX1_writeLength 23 = .ok (.getfield 39, 3) := by decide +kernel
theorem dX1_writeLength_26 : decode cX1_writeLength 26 = .ok (.getfield 187, 3) := by decide +kernel
theorem dX1_writeLength_29 : decode cX1_writeLength 29 = .ok (.iload_n 1, 1) := by decide +kernel
theorem dX1_writeLength_3 : decode cX1_writeLength 3 = .ok (.aload_n 0, 1) := by decide +kernel
theorem dX1_writeLength_30 : decode cX1_writeLength 30 = .ok (.laload, 1) := by decide +kernel
theorem dX1_writeLength_31 : decode cX1_writeLength 31 = .ok (.lsub, 1) := by decide +kernel
theorem dX1_writeLength_32 : decode cX1_writeLength 32 = .ok (.invokestatic 166, 3) := by decide +kernel
theorem dX1_writeLength_35 : decode cX1_writeLength 35 = .ok (.invokevirtual 155, 3) := by decide +kernel
theorem dX1_writeLength_38 : decode cX1_writeLength 38 = .ok (.return_, 1) := by decide +kernel
theorem dX1_writeLength_4 : decode cX1_writeLength 4 = .ok (.getfield 39, 3) := by decide +kernel
theorem dX1_writeLength_7 : decode cX1_writeLength 7 = .ok (.getfield 187, 3) := by decide +kernel
noncomputable def f_X1_writeLength (x1 : Int32) (x2 : Int32) (s : t_S) : Option (t_S) :=
 if t_ix x1 3001 = true then
  (f_X1_put (x2.toInt64 - (s.2.1 322 (x1.toNatClampNeg))) (f_X1_bitsFor ((s.2.1 323 (x1.toNatClampNeg)) - (s.2.1 322 (x1.toNatClampNeg))) s) s).bind (fun r3 =>
 some (r3))
else none
set_option maxRecDepth 4000 in
set_option maxHeartbeats 1000000 in
theorem C_X1_writeLength (x1 : Int32) (x2 : Int32) (s : t_S) (r : t_S) (hr : f_X1_writeLength x1 x2 s = some r) : t_C yX1_writeLength cX1_writeLength 3 none 3 [.ref 856, .int x1, .int x2] s (fun v s' => v = none ∧ s' = r) := by
  refine t_C.imp (P := fun v s' => v = none ∧ (fun q => q = r) (s')) (t_C.of (by decide +kernel) (Nat.le_of_ble_eq_true rfl) ?_) (fun v s' hp => hp)
  intro D cy ad bs X
  have hk : t_hk (f_X1_writeLength x1 x2 s) (fun q => q = r) := ⟨r, hr, rfl⟩
  show mj_G D cy ad bs X cX1_writeLength 3 yX1_writeLength.cls none yX1_writeLength.name 3 0 0 1065 (t_P (fun v s' => v = none ∧ (fun q => q = r) (s'))) 0 [(0, .ref 856), (1, .int x1), (2, .int x2)] [] (t_m s) 1065 0 0
  refine mj_aload_n dX1_writeLength_0 0 rfl ?_
  refine mj_iload_n dX1_writeLength_1 2 rfl ?_
  refine mj_i2l (v := x2.toInt64) dX1_writeLength_2 rfl ?_
  refine mj_aload_n dX1_writeLength_3 0 rfl ?_
  refine t_getR 316 dX1_writeLength_4 F_X1_39 qr_856_1 ?_
  refine t_getR 322 dX1_writeLength_7 F_X1_187 qr_316_5 ?_
  refine mj_iload_n dX1_writeLength_10 1 rfl ?_
  refine t_chkK hk (fun c0 hk => ?_)
  refine t_lald dX1_writeLength_11 qa_322 (t_ixv c0) ?_
  refine mj_lsub dX1_writeLength_12 ?_
  refine mj_aload_n dX1_writeLength_13 0 rfl ?_
  refine t_getR 316 dX1_writeLength_14 F_X1_39 qr_856_1 ?_
  refine t_getR 323 dX1_writeLength_17 F_X1_190 qr_316_6 ?_
  refine mj_iload_n dX1_writeLength_20 1 rfl ?_
  refine t_lald dX1_writeLength_21 qa_323 (t_ixv c0) ?_
  refine mj_aload_n dX1_writeLength_22 0 rfl ?_
  refine t_getR 316 dX1_writeLength_23 F_X1_39 qr_856_1 ?_
  refine t_getR 322 dX1_writeLength_26 F_X1_187 qr_316_5 ?_
  refine mj_iload_n dX1_writeLength_29 1 rfl ?_
  refine t_lald dX1_writeLength_30 qa_322 (t_ixv c0) ?_
  refine mj_lsub dX1_writeLength_31 ?_
  refine t_callSiP dX1_writeLength_32 M_X1_bitsFor (C_X1_bitsFor _ _) ML_X1_166 SM_X1_bitsFor (As := [.long ((s.2.1 323 (x1.toNatClampNeg)) - (s.2.1 322 (x1.toNatClampNeg)))]) rfl rfl (Nat.le_of_ble_eq_true rfl) (Nat.le_of_ble_eq_true rfl) (Nat.le_of_ble_eq_true rfl) (Nat.le_of_ble_eq_true rfl) ?_
  refine t_bndK hk (fun r3 er3 hk => ?_)
  refine t_callVvE dX1_writeLength_35 M_X1_put (C_X1_put _ _ _ _ er3) ML_X1_155 IM_X1_put SE_X1_put qc_856 rfl (As := [.long (x2.toInt64 - (s.2.1 322 (x1.toNatClampNeg))), .int (f_X1_bitsFor ((s.2.1 323 (x1.toNatClampNeg)) - (s.2.1 322 (x1.toNatClampNeg))) s)]) rfl rfl (Nat.le_of_ble_eq_true rfl) (Nat.le_of_ble_eq_true rfl) (Nat.le_of_ble_eq_true rfl) (Nat.le_of_ble_eq_true rfl) ?_
  exact t_somK hk (fun hf => t_vret dX1_writeLength_38 rfl ⟨rfl, hf⟩ (Nat.le_of_ble_eq_true rfl) (Nat.le_of_ble_eq_true rfl))

