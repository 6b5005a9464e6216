/-! Methods as functions, 83: X13_connect, X13_count, X13_create -/
theorem qf_950_30 : t_okf 950 13 30 0 = true := by decide +kernel
theorem dX13_connect_0 : decode cX13_connect 0 = .ok (.aload_n 0, 1) := by decide +kernel
theorem dX13_connect_1 : decode cX13_connect 1 = .ok (.aload_n 0, 1) := by decide +kernel
theorem dX13_connect_10 : decode cX13_connect 10 = .ok (.aload_n 0, 1) := by decide +kernel
theorem dX13_connect_100 : decode cX13_connect 100 = .ok (.iload 4, 2) := by decide +kernel
theorem dX13_connect_102 : decode cX13_connect 102 = .ok (.aload_n 0, 1) := by decide +kernel
theorem dX13_connect_103 : decode cX13_connect 103 = .ok (.getfield 135, 3) := by decide +kernel
theorem dX13_connect_106 : decode cX13_connect 106 = .ok (.iload_n 1, 1) := by decide +kernel
theorem dX13_connect_107 : decode cX13_connect 107 = .ok (.iaload, 1) := by decide +kernel
theorem dX13_connect_108 : decode cX13_connect 108 = .ok (.invokevirtual 1448, 3) := by decide +kernel
theorem dX13_connect_11 : decode cX13_connect 11 = .ok (.getfield 842, 3) := by decide +kernel
theorem dX13_connect_111 : decode cX13_connect 111 = .ok (.istore 6, 2) := by decide +kernel
theorem dX13_connect_113 : decode cX13_connect 113 = .ok (.aload_n 0, 1) := by decide +kernel
theorem dX13_connect_114 : decode cX13_connect 114 = .ok (.iload 5, 2) := by decide +kernel
theorem dX13_connect_116 : decode cX13_connect 116 = .ok (.aload_n 0, 1) := by decide +kernel
theorem dX13_connect_117 : decode cX13_connect 117 = .ok (.getfield 141, 3) := by decide +kernel
theorem dX13_connect_120 : decode cX13_connect 120 = .ok (.iload_n 1, 1) := by decide +kernel
theorem dX13_connect_121 : decode cX13_connect 121 = .ok (.iaload, 1) := by decide +kernel
theorem dX13_connect_122 : decode cX13_connect 122 = .ok (.invokevirtual 1448, 3) := by decide +kernel
theorem dX13_connect_125 : decode cX13_connect 125 = .ok (.istore 7, 2) := by decide +kernel
theorem dX13_connect_127 : decode cX13_connect 127 = .ok (.iload 6, 2) := by decide +kernel
theorem dX13_connect_129 : decode cX13_connect 129 = .ok (.ifCond .lt 42, 3) := by decide +kernel
theorem dX13_connect_132 : decode cX13_connect 132 = .ok (.iload 7, 2) := by decide +kernel
theorem dX13_connect_134 : decode cX13_connect 134 = .ok (.ifCond .lt 37, 3) := by decide +kernel
theorem dX13_connect_137 : decode cX13_connect 137 = .ok (.aload_n 0, 1) := by decide +kernel
theorem dX13_connect_138 : decode cX13_connect 138 = .ok (.getfield 315, 3) := by decide +kernel
theorem dX13_connect_14 : decode cX13_connect 14 = .ok (.ifCond .ne 13, 3) := by decide +kernel
theorem dX13_connect_141 : decode cX13_connect 141 = .ok (.bipush 6, 2) := by decide +kernel
theorem dX13_connect_143 : decode cX13_connect 143 = .ok (.iload 4, 2) := by decide +kernel
theorem dX13_connect_145 : decode cX13_connect 145 = .ok (.imul, 1) := by decide +kernel
theorem dX13_connect_146 : decode cX13_connect 146 = .ok (.iload 6, 2) := by decide +kernel
theorem dX13_connect_148 : decode cX13_connect 148 = .ok (.iadd, 1) := by decide +kernel
theorem dX13_connect_149 : decode cX13_connect 149 = .ok (.iaload, 1) := by decide +kernel
theorem dX13_connect_150 : decode cX13_connect 150 = .ok (.iconst (-1), 1) := by decide +kernel
theorem dX13_connect_151 : decode cX13_connect 151 = .ok (.if_icmp .ne 20, 3) := by decide +kernel
theorem dX13_connect_154 : decode cX13_connect 154 = .ok (.aload_n 0, 1) := by decide +kernel
theorem dX13_connect_155 : decode cX13_connect 155 = .ok (.getfield 315, 3) := by decide +kernel
theorem dX13_connect_158 : decode cX13_connect 158 = .ok (.bipush 6, 2) := by decide +kernel
theorem dX13_connect_160 : decode cX13_connect 160 = .ok (.iload 5, 2) := by decide +kernel
theorem dX13_connect_162 : decode cX13_connect 162 = .ok (.imul, 1) := by decide +kernel
theorem dX13_connect_163 : decode cX13_connect 163 = .ok (.iload 7, 2) := by decide +kernel
theorem dX13_connect_165 : decode cX13_connect 165 = .ok (.iadd, 1) := by decide +kernel
theorem dX13_connect_166 : decode cX13_connect 166 = .ok (.iaload, 1) := by decide +kernel
theorem dX13_connect_167 : decode cX13_connect 167 = .ok (.iconst (-1), 1) := by decide +kernel
theorem dX13_connect_168 : decode cX13_connect 168 = .ok (.if_icmp .eq 9, 3) := by decide +kernel
theorem dX13_connect_17 : decode cX13_connect 17 = .ok (.aload_n 0, 1) := by decide +kernel
theorem dX13_connect_171 : decode cX13_connect 171 = .ok (.aload_n 0, 1) := by decide +kernel
theorem dX13_connect_172 : decode cX13_connect 172 = .ok (.iconst 5, 1) := by decide +kernel
theorem dX13_connect_173 : decode cX13_connect 173 = .ok (.invokevirtual 866, 3) := by decide +kernel
theorem dX13_connect_176 : decode cX13_connect 176 = .ok (.return_, 1) := by decide +kernel
theorem dX13_connect_177 : decode cX13_connect 177 = .ok (.aload_n 0, 1) := by decide +kernel
theorem dX13_connect_178 : decode cX13_connect 178 = .ok (.getfield 315, 3) := by decide +kernel
theorem dX13_connect_18 : decode cX13_connect 18 = .ok (.aload_n 0, 1) := by decide +kernel
theorem dX13_connect_181 : decode cX13_connect 181 = .ok (.bipush 6, 2) := by decide +kernel
theorem dX13_connect_183 : decode cX13_connect 183 = .ok (.iload 4, 2) := by decide +kernel
theorem dX13_connect_185 : decode cX13_connect 185 = .ok (.imul, 1) := by decide +kernel
theorem dX13_connect_186 : decode cX13_connect 186 = .ok (.iload 6, 2) := by decide +kernel
theorem dX13_connect_188 : decode cX13_connect 188 = .ok (.iadd, 1) := by decide +kernel
theorem dX13_connect_189 : decode cX13_connect 189 = .ok (.iload 5, 2) := by decide +kernel
theorem dX13_connect_19 : decode cX13_connect 19 = .ok (.getfield 150, 3) := by decide +kernel
theorem dX13_connect_191 : decode cX13_connect 191 = .ok (.iastore, 1) := by decide +kernel
theorem dX13_connect_192 : decode cX13_connect 192 = .ok (.aload_n 0, 1) := by decide +kernel
theorem dX13_connect_193 : decode cX13_connect 193 = .ok (.getfield 318, 3) := by decide +kernel
theorem dX13_connect_196 : decode cX13_connect 196 = .ok (.bipush 6, 2) := by decide +kernel
theorem dX13_connect_198 : decode cX13_connect 198 = .ok (.iload 4, 2) := by decide +kernel
theorem dX13_connect_2 : decode cX13_connect 2 = .ok (.getfield 147, 3) := by decide +kernel
theorem dX13_connect_200 : decode cX13_connect 200 = .ok (.imul, 1) := by decide +kernel
theorem dX13_connect_201 : decode cX13_connect 201 = .ok (.iload 6, 2) := by decide +kernel
theorem dX13_connect_203 : decode cX13_connect 203 = .ok (.iadd, 1) := by decide +kernel
theorem dX13_connect_204 : decode cX13_connect 204 = .ok (.iload 7, 2) := by decide +kernel
theorem dX13_connect_206 : decode cX13_connect 206 = .ok (.iastore, 1) := by decide +kernel
theorem dX13_connect_207 : decode cX13_connect 207 = .ok (.aload_n 0, 1) := by decide +kernel
theorem dX13_connect_208 : decode cX13_connect 208 = .ok (.getfield 315, 3) := by decide +kernel
theorem dX13_connect_211 : decode cX13_connect 211 = .ok (.bipush 6, 2) := by decide +kernel
theorem dX13_connect_213 : decode cX13_connect 213 = .ok (.iload 5, 2) := by decide +kernel
theorem dX13_connect_215 : decode cX13_connect 215 = .ok (.imul, 1) := by decide +kernel
theorem dX13_connect_216 : decode cX13_connect 216 = .ok (.iload 7, 2) := by decide +kernel
theorem dX13_connect_218 : decode cX13_connect 218 = .ok (.iadd, 1) := by decide +kernel
theorem dX13_connect_219 : decode cX13_connect 219 = .ok (.iload 4, 2) := by decide +kernel
theorem dX13_connect_22 : decode cX13_connect 22 = .ok (.iload_n 1, 1) := by decide +kernel
theorem dX13_connect_221 : decode cX13_connect 221 = .ok (.iastore, 1) := by decide +kernel
theorem dX13_connect_222 : decode cX13_connect 222 = .ok (.aload_n 0, 1) := by decide +kernel
theorem dX13_connect_223 : decode cX13_connect 223 = .ok (.getfield 318, 3) := by decide +kernel
theorem dX13_connect_226 : decode cX13_connect 226 = .ok (.bipush 6, 2) := by decide +kernel
theorem dX13_connect_228 : decode cX13_connect 228 = .ok (.iload 5, 2) := by decide +kernel
theorem dX13_connect_23 : decode cX13_connect 23 = .ok (.iaload, 1) := by decide +kernel
theorem dX13_connect_230 : decode cX13_connect 230 = .ok (.imul, 1) := by decide +kernel
theorem dX13_connect_231 : decode cX13_connect 231 = .ok (.iload 7, 2) := by decide +kernel
theorem dX13_connect_233 : decode cX13_connect 233 = .ok (.iadd, 1) := by decide +kernel
theorem dX13_connect_234 : decode cX13_connect 234 = .ok (.iload 6, 2) := by decide +kernel
theorem dX13_connect_236 : decode cX13_connect 236 = .ok (.iastore, 1) := by decide +kernel
theorem dX13_connect_237 : decode cX13_connect 237 = .ok (.return_, 1) := by decide +kernel
theorem dX13_connect_24 : decode cX13_connect 24 = .ok (.invokestatic 897, 3) := by decide +kernel
theorem dX13_connect_27 : decode cX13_connect 27 = .ok (.aload_n 0, 1) := by decide +kernel
theorem dX13_connect_28 : decode cX13_connect 28 = .ok (.getfield 842, 3) := by decide +kernel
theorem dX13_connect_31 : decode cX13_connect 31 = .ok (.ifCond .eq 4, 3) := by decide +kernel
theorem dX13_connect_34 : decode cX13_connect 34 = .ok (.return_, 1) := by decide +kernel
theorem dX13_connect_35 : decode cX13_connect 35 = .ok (.aload_n 0, 1) := by decide +kernel
theorem dX13_connect_36 : decode cX13_connect 36 = .ok (.invokevirtual 948, 3) := by decide +kernel
theorem dX13_connect_39 : decode cX13_connect 39 = .ok (.istore_n 2, 1) := by decide +kernel
theorem dX13_connect_40 : decode cX13_connect 40 = .ok (.aload_n 0, 1) := by decide +kernel
theorem dX13_connect_41 : decode cX13_connect 41 = .ok (.invokevirtual 941, 3) := by decide +kernel
theorem dX13_connect_44 : decode cX13_connect 44 = .ok (.istore_n 3, 1) := by decide +kernel
theorem dX13_connect_45 : decode cX13_connect 45 = .ok (.aload_n 0, 1) := by decide +kernel
theorem dX13_connect_46 : decode cX13_connect 46 = .ok (.getfield 182, 3) := by decide +kernel
theorem dX13_connect_49 : decode cX13_connect 49 = .ok (.iload_n 2, 1) := by decide +kernel
theorem dX13_connect_5 : decode cX13_connect 5 = .ok (.iload_n 1, 1) := by decide +kernel
theorem dX13_connect_50 : decode cX13_connect 50 = .ok (.laload, 1) := by decide +kernel
theorem dX13_connect_51 : decode cX13_connect 51 = .ok (.ldc2_w 682, 3) := by decide +kernel
theorem dX13_connect_54 : decode cX13_connect 54 = .ok (.lcmp, 1) := by decide +kernel
theorem dX13_connect_55 : decode cX13_connect 55 = .ok (.ifCond .ne 16, 3) := by decide +kernel
theorem dX13_connect_58 : decode cX13_connect 58 = .ok (.aload_n 0, 1) := by decide +kernel
theorem dX13_connect_59 : decode cX13_connect 59 = .ok (.getfield 182, 3) := by decide +kernel
theorem dX13_connect_6 : decode cX13_connect 6 = .ok (.iaload, 1) := by decide +kernel
theorem dX13_connect_62 : decode cX13_connect 62 = .ok (.iload_n 3, 1) := by decide +kernel
theorem dX13_connect_63 : decode cX13_connect 63 = .ok (.laload, 1) := by decide +kernel
theorem dX13_connect_64 : decode cX13_connect 64 = .ok (.ldc2_w 682, 3) := by decide +kernel
theorem dX13_connect_67 : decode cX13_connect 67 = .ok (.lcmp, 1) := by decide +kernel
theorem dX13_connect_68 : decode cX13_connect 68 = .ok (.ifCond .eq 9, 3) := by decide +kernel
theorem dX13_connect_7 : decode cX13_connect 7 = .ok (.invokestatic 897, 3) := by decide +kernel
theorem dX13_connect_71 : decode cX13_connect 71 = .ok (.aload_n 0, 1) := by decide +kernel
theorem dX13_connect_72 : decode cX13_connect 72 = .ok (.iconst 1, 1) := by decide +kernel
theorem dX13_connect_73 : decode cX13_connect 73 = .ok (.invokevirtual 866, 3) := by decide +kernel
theorem dX13_connect_76 : decode cX13_connect 76 = .ok (.return_, 1) := by decide +kernel
theorem dX13_connect_77 : decode cX13_connect 77 = .ok (.aload_n 0, 1) := by decide +kernel
theorem dX13_connect_78 : decode cX13_connect 78 = .ok (.getfield 182, 3) := by decide +kernel
theorem dX13_connect_81 : decode cX13_connect 81 = .ok (.iload_n 2, 1) := by decide +kernel
theorem dX13_connect_82 : decode cX13_connect 82 = .ok (.iconst 1, 1) := by decide +kernel
theorem dX13_connect_83 : decode cX13_connect 83 = .ok (.iadd, 1) := by decide +kernel
theorem dX13_connect_84 : decode cX13_connect 84 = .ok (.laload, 1) := by decide +kernel
theorem dX13_connect_85 : decode cX13_connect 85 = .ok (.l2i, 1) := by decide +kernel
theorem dX13_connect_86 : decode cX13_connect 86 = .ok (.istore 4, 2) := by decide +kernel
theorem dX13_connect_88 : decode cX13_connect 88 = .ok (.aload_n 0, 1) := by decide +kernel
theorem dX13_connect_89 : decode cX13_connect 89 = .ok (.getfield 182, 3) := by decide +kernel
theorem dX13_connect_92 : decode cX13_connect 92 = .ok (.iload_n 3, 1) := by decide +kernel
theorem dX13_connect_93 : decode cX13_connect 93 = .ok (.iconst 1, 1) := by decide +kernel
theorem dX13_connect_94 : decode cX13_connect 94 = .ok (.iadd, 1) := by decide +kernel
theorem dX13_connect_95 : decode cX13_connect 95 = .ok (.laload, 1) := by decide +kernel
theorem dX13_connect_96 : decode cX13_connect 96 = .ok (.l2i, 1) := by decide +kernel
theorem dX13_connect_97 : decode cX13_connect 97 = .ok (.istore 5, 2) := by decide +kernel
theorem dX13_connect_99 : decode cX13_connect 99 = .ok (.aload_n 0, 1) := by decide +kernel
noncomputable def k_X13_connect_171 (s : t_S) : Option (t_S) :=
 (f_X13_error (5 : Int32) s).bind (fun r1 =>
 some (r1))
set_option maxRecDepth 4000 in
set_option maxHeartbeats 1000000 in
theorem B_X13_connect_171 {D : va_G} {cy : Nat → ClassId} {ad : Nat → Nat} {bs : Nat} {X : State → Heap → Prop} (s : t_S) (Q : t_S → Prop) (hk : t_hk (k_X13_connect_171 s) Q) : mj_G D cy ad bs X cX13_connect 8 yX13_connect.cls none yX13_connect.name 1784 0 0 1065 (t_P (fun v s' => v = none ∧ Q (s'))) 171 [(0, .ref 950)] [] (t_m s) 1065 0 0 := by
  refine mj_aload_n dX13_connect_171 0 rfl ?_
  refine mj_iconst (v := 5) dX13_connect_172 (by decide) ?_
  refine t_bndK hk (fun r1 er1 hk => ?_)
  refine t_callVvE dX13_connect_173 M_X13_error (C_X13_error _ _ _ er1) ML_X13_866 IM_X13_error SE_X13_error qc_950 rfl (As := [.int 5]) rfl rfl (Nat.le_of_ble_eq_true rfl) (Nat.le_of_ble_eq_true rfl) (Nat.le_of_ble_eq_true rfl) (Nat.le_of_ble_eq_true rfl) ?_
  exact t_somK hk (fun hf => t_vret dX13_connect_176 rfl ⟨rfl, hf⟩ (Nat.le_of_ble_eq_true rfl) (Nat.le_of_ble_eq_true rfl))
noncomputable def k_X13_connect_71 (s : t_S) : Option (t_S) :=
 (f_X13_error (1 : Int32) s).bind (fun r1 =>
 some (r1))
set_option maxRecDepth 4000 in
set_option maxHeartbeats 1000000 in
theorem B_X13_connect_71 {D : va_G} {cy : Nat → ClassId} {ad : Nat → Nat} {bs : Nat} {X : State → Heap → Prop} (s : t_S) (Q : t_S → Prop) (hk : t_hk (k_X13_connect_71 s) Q) : mj_G D cy ad bs X cX13_connect 8 yX13_connect.cls none yX13_connect.name 1784 0 0 1065 (t_P (fun v s' => v = none ∧ Q (s'))) 71 [(0, .ref 950)] [] (t_m s) 1065 0 0 := by
  refine mj_aload_n dX13_connect_71 0 rfl ?_
  refine mj_iconst (v := 1) dX13_connect_72 (by decide) ?_
  refine t_bndK hk (fun r1 er1 hk => ?_)
  refine t_callVvE dX13_connect_73 M_X13_error (C_X13_error _ _ _ er1) ML_X13_866 IM_X13_error SE_X13_error qc_950 rfl (As := [.int 1]) rfl rfl (Nat.le_of_ble_eq_true rfl) (Nat.le_of_ble_eq_true rfl) (Nat.le_of_ble_eq_true rfl) (Nat.le_of_ble_eq_true rfl) ?_
  exact t_somK hk (fun hf => t_vret dX13_connect_76 rfl ⟨rfl, hf⟩ (Nat.le_of_ble_eq_true rfl) (Nat.le_of_ble_eq_true rfl))
noncomputable def k_X13_connect_27 (l1 : Int32) (s : t_S) : Option (t_S) :=
 if (s.1 950 97) = (0 : Int32) then (if t_ix (f_X13_under s) 626600 = true then
  if (lg_cmp (s.2.1 1006 ((f_X13_under s).toNatClampNeg)) (5 : Int64)) = (0 : Int32) then (if t_ix (f_X13_top s) 626600 = true then
  if (lg_cmp (s.2.1 1006 ((f_X13_top s).toNatClampNeg)) (5 : Int64)) = (0 : Int32) then (if t_ix ((f_X13_under s) + (1 : Int32)) 626600 = true then
  if t_ix ((f_X13_top s) + (1 : Int32)) 626600 = true then
  if t_ix l1 401 = true then
  (f_X13_portAt ((s.2.1 1006 (((f_X13_under s) + (1 : Int32)).toNatClampNeg)).toInt32) (s.1 991 (l1.toNatClampNeg)) s).bind (fun r8 =>
 (f_X13_portAt ((s.2.1 1006 (((f_X13_top s) + (1 : Int32)).toNatClampNeg)).toInt32) (s.1 993 (l1.toNatClampNeg)) s).bind (fun r9 =>
 if r8 < (0 : Int32) then (k_X13_connect_171 s)
 else (if r9 < (0 : Int32) then (k_X13_connect_171 s)
 else (if t_ix (((6 : Int32) * ((s.2.1 1006 (((f_X13_under s) + (1 : Int32)).toNatClampNeg)).toInt32)) + r8) 48 = true then
  if (s.1 1049 ((((6 : Int32) * ((s.2.1 1006 (((f_X13_under s) + (1 : Int32)).toNatClampNeg)).toInt32)) + r8).toNatClampNeg)) = (-1 : Int32) then (if t_ix (((6 : Int32) * ((s.2.1 1006 (((f_X13_top s) + (1 : Int32)).toNatClampNeg)).toInt32)) + r9) 48 = true then
  if (s.1 1049 ((((6 : Int32) * ((s.2.1 1006 (((f_X13_top s) + (1 : Int32)).toNatClampNeg)).toInt32)) + r9).toNatClampNeg)) = (-1 : Int32) then (t_let (t_setI s 1049 ((((6 : Int32) * ((s.2.1 1006 (((f_X13_under s) + (1 : Int32)).toNatClampNeg)).toInt32)) + r8).toNatClampNeg) ((s.2.1 1006 (((f_X13_top s) + (1 : Int32)).toNatClampNeg)).toInt32)) (fun s1 =>
 t_let (t_setI s1 1050 ((((6 : Int32) * ((s.2.1 1006 (((f_X13_under s) + (1 : Int32)).toNatClampNeg)).toInt32)) + r8).toNatClampNeg) r9) (fun s2 =>
 t_let (t_setI s2 1049 ((((6 : Int32) * ((s.2.1 1006 (((f_X13_top s) + (1 : Int32)).toNatClampNeg)).toInt32)) + r9).toNatClampNeg) ((s.2.1 1006 (((f_X13_under s) + (1 : Int32)).toNatClampNeg)).toInt32)) (fun s3 =>
 t_let (t_setI s3 1050 ((((6 : Int32) * ((s.2.1 1006 (((f_X13_top s) + (1 : Int32)).toNatClampNeg)).toInt32)) + r9).toNatClampNeg) r8) (fun s4 =>
 some (s4))))))
 else (k_X13_connect_171 s)
else none)
 else (k_X13_connect_171 s)
else none))))
else none
else none
else none)
 else (k_X13_connect_71 s)
else none)
 else (k_X13_connect_71 s)
else none)
 else (some (s))
set_option maxRecDepth 4000 in
set_option maxHeartbeats 1000000 in
theorem B_X13_connect_27 {D : va_G} {cy : Nat → ClassId} {ad : Nat → Nat} {bs : Nat} {X : State → Heap → Prop} (l1 : Int32) (s : t_S) (Q : t_S → Prop) (hk : t_hk (k_X13_connect_27 l1 s) Q) : mj_G D cy ad bs X cX13_connect 8 yX13_connect.cls none yX13_connect.name 1784 0 0 1065 (t_P (fun v s' => v = none ∧ Q (s'))) 27 [(0, .ref 950), (1, .int l1)] [] (t_m s) 1065 0 0 := by
  refine mj_aload_n dX13_connect_27 0 rfl ?_
  refine t_getI dX13_connect_28 F_X13_842 qf_950_97 ?_
  refine mj_if_eq 35 dX13_connect_31 (by decide) (fun z => t_posK hk z (fun hk => ?_)) (fun z => t_negK hk z (fun hk => ?_))
  · refine mj_aload_n dX13_connect_35 0 rfl ?_
    refine t_callViP dX13_connect_36 M_X13_under (C_X13_under _) ML_X13_948 IM_X13_under SE_X13_under qc_950 rfl (As := []) rfl rfl (Nat.le_of_ble_eq_true rfl) (Nat.le_of_ble_eq_true rfl) (Nat.le_of_ble_eq_true rfl) (Nat.le_of_ble_eq_true rfl) ?_
    refine mj_istore_n 2 (lv2 := [(2, .int (f_X13_under s)), (0, .ref 950), (1, .int l1)]) dX13_connect_39 rfl (by decide) rfl ?_
    refine mj_aload_n dX13_connect_40 1 rfl ?_
    refine t_callViP dX13_connect_41 M_X13_top (C_X13_top _) ML_X13_941 IM_X13_top SE_X13_top qc_950 rfl (As := []) rfl rfl (Nat.le_of_ble_eq_true rfl) (Nat.le_of_ble_eq_true rfl) (Nat.le_of_ble_eq_true rfl) (Nat.le_of_ble_eq_true rfl) ?_
    refine mj_istore_n 3 (lv2 := [(3, .int (f_X13_top s)), (2, .int (f_X13_under s)), (0, .ref 950), (1, .int l1)]) dX13_connect_44 rfl (by decide) rfl ?_
    refine mj_aload_n dX13_connect_45 2 rfl ?_
    refine t_getR 1006 dX13_connect_46 F_X13_182 qr_950_95 ?_
    refine mj_iload_n dX13_connect_49 1 rfl ?_
    refine t_chkK hk (fun c2 hk => ?_)
    refine t_lald dX13_connect_50 qa_1006 (t_ixv c2) ?_
    refine mj_ldc2 dX13_connect_51 K_X13_682 ?_
    refine mj_lcmp dX13_connect_54 ?_
    refine mj_if_ne 71 dX13_connect_55 (by decide) (fun z => t_negK hk z (fun hk => ?_)) (fun z => t_posK hk z (fun hk => ?_))
    · refine mj_sublv [(0, .ref 950)] [2] rfl ?_
      exact B_X13_connect_71 _ _ hk
    · refine mj_aload_n dX13_connect_58 2 rfl ?_
      refine t_getR 1006 dX13_connect_59 F_X13_182 qr_950_95 ?_
      refine mj_iload_n dX13_connect_62 0 rfl ?_
      refine t_chkK hk (fun c3 hk => ?_)
      refine t_lald dX13_connect_63 qa_1006 (t_ixv c3) ?_
      refine mj_ldc2 dX13_connect_64 K_X13_682 ?_
      refine mj_lcmp dX13_connect_67 ?_
      refine mj_if_eq 77 dX13_connect_68 (by decide) (fun z => t_posK hk z (fun hk => ?_)) (fun z => t_negK hk z (fun hk => ?_))
      · refine mj_aload_n dX13_connect_77 2 rfl ?_
        refine t_getR 1006 dX13_connect_78 F_X13_182 qr_950_95 ?_
        refine mj_iload_n dX13_connect_81 1 rfl ?_
        refine mj_iconst (v := 1) dX13_connect_82 (by decide) ?_
        refine mj_iadd dX13_connect_83 ?_
        refine t_chkK hk (fun c4 hk => ?_)
        refine t_lald dX13_connect_84 qa_1006 (t_ixv c4) ?_
        refine mj_l2i (v := (s.2.1 1006 (((f_X13_under s) + (1 : Int32)).toNatClampNeg)).toInt32) dX13_connect_85 rfl ?_
        refine mj_istore (lv2 := [(4, .int ((s.2.1 1006 (((f_X13_under s) + (1 : Int32)).toNatClampNeg)).toInt32)), (3, .int (f_X13_top s)), (2, .int (f_X13_under s)), (0, .ref 950), (1, .int l1)]) dX13_connect_86 (by decide) rfl ?_
        refine mj_aload_n dX13_connect_88 3 rfl ?_
        refine t_getR 1006 dX13_connect_89 F_X13_182 qr_950_95 ?_
        refine mj_iload_n dX13_connect_92 1 rfl ?_
        refine mj_iconst (v := 1) dX13_connect_93 (by decide) ?_
        refine mj_iadd dX13_connect_94 ?_
        refine t_chkK hk (fun c5 hk => ?_)
        refine t_lald dX13_connect_95 qa_1006 (t_ixv c5) ?_
        refine mj_l2i (v := (s.2.1 1006 (((f_X13_top s) + (1 : Int32)).toNatClampNeg)).toInt32) dX13_connect_96 rfl ?_
        refine mj_istore (lv2 := [(5, .int ((s.2.1 1006 (((f_X13_top s) + (1 : Int32)).toNatClampNeg)).toInt32)), (4, .int ((s.2.1 1006 (((f_X13_under s) + (1 : Int32)).toNatClampNeg)).toInt32)), (3, .int (f_X13_top s)), (2, .int (f_X13_under s)), (0, .ref 950), (1, .int l1)]) dX13_connect_97 (by decide) rfl ?_
        refine mj_aload_n dX13_connect_99 4 rfl ?_
        refine mj_iload dX13_connect_100 1 rfl ?_
        refine mj_aload_n dX13_connect_102 4 rfl ?_
        refine t_getR 991 dX13_connect_103 F_X13_135 qr_950_69 ?_
        refine mj_iload_n dX13_connect_106 5 rfl ?_
        refine t_chkK hk (fun c6 hk => ?_)
        refine t_iald dX13_connect_107 qa_991 (t_ixv c6) ?_
        refine t_bndK hk (fun r8 er8 hk => ?_)
        refine t_callViP dX13_connect_108 M_X13_portAt (C_X13_portAt _ _ _ _ er8) ML_X13_1448 IM_X13_portAt SE_X13_portAt qc_950 rfl (As := [.int ((s.2.1 1006 (((f_X13_under s) + (1 : Int32)).toNatClampNeg)).toInt32), .int (s.1 991 (l1.toNatClampNeg))]) rfl rfl (Nat.le_of_ble_eq_true rfl) (Nat.le_of_ble_eq_true rfl) (Nat.le_of_ble_eq_true rfl) (Nat.le_of_ble_eq_true rfl) ?_
        refine mj_istore (lv2 := [(6, .int r8), (5, .int ((s.2.1 1006 (((f_X13_top s) + (1 : Int32)).toNatClampNeg)).toInt32)), (4, .int ((s.2.1 1006 (((f_X13_under s) + (1 : Int32)).toNatClampNeg)).toInt32)), (3, .int (f_X13_top s)), (2, .int (f_X13_under s)), (0, .ref 950), (1, .int l1)]) dX13_connect_111 (by decide) rfl ?_
        refine mj_aload_n dX13_connect_113 5 rfl ?_
        refine mj_iload dX13_connect_114 1 rfl ?_
        refine mj_aload_n dX13_connect_116 5 rfl ?_
        refine t_getR 993 dX13_connect_117 F_X13_141 qr_950_71 ?_
        refine mj_iload_n dX13_connect_120 6 rfl ?_
        refine t_iald dX13_connect_121 qa_993 (t_ixv c6) ?_
        refine t_bndK hk (fun r9 er9 hk => ?_)
        refine t_callViP dX13_connect_122 M_X13_portAt (C_X13_portAt _ _ _ _ er9) ML_X13_1448 IM_X13_portAt SE_X13_portAt qc_950 rfl (As := [.int ((s.2.1 1006 (((f_X13_top s) + (1 : Int32)).toNatClampNeg)).toInt32), .int (s.1 993 (l1.toNatClampNeg))]) rfl rfl (Nat.le_of_ble_eq_true rfl) (Nat.le_of_ble_eq_true rfl) (Nat.le_of_ble_eq_true rfl) (Nat.le_of_ble_eq_true rfl) ?_
        refine mj_istore (lv2 := [(7, .int r9), (6, .int r8), (5, .int ((s.2.1 1006 (((f_X13_top s) + (1 : Int32)).toNatClampNeg)).toInt32)), (4, .int ((s.2.1 1006 (((f_X13_under s) + (1 : Int32)).toNatClampNeg)).toInt32)), (3, .int (f_X13_top s)), (2, .int (f_X13_under s)), (0, .ref 950), (1, .int l1)]) dX13_connect_125 (by decide) rfl ?_
        refine mj_iload dX13_connect_127 1 rfl ?_
        refine mj_if_lt 171 dX13_connect_129 (by decide) (fun z => t_posK hk z (fun hk => ?_)) (fun z => t_negK hk z (fun hk => ?_))
        · refine mj_sublv [(0, .ref 950)] [6] rfl ?_
          exact B_X13_connect_171 _ _ hk
        · refine mj_iload dX13_connect_132 0 rfl ?_
          refine mj_if_lt 171 dX13_connect_134 (by decide) (fun z => t_posK hk z (fun hk => ?_)) (fun z => t_negK hk z (fun hk => ?_))
          · refine mj_sublv [(0, .ref 950)] [6] rfl ?_
            exact B_X13_connect_171 _ _ hk
          · refine mj_aload_n dX13_connect_137 6 rfl ?_
            refine t_getR 1049 dX13_connect_138 F_X13_315 qr_950_164 ?_
            refine mj_bipush (v := 6) dX13_connect_141 (by decide) ?_
            refine mj_iload dX13_connect_143 3 rfl ?_
            refine mj_imul dX13_connect_145 ?_
            refine mj_iload dX13_connect_146 1 rfl ?_
            refine mj_iadd dX13_connect_148 ?_
            refine t_chkK hk (fun c9 hk => ?_)
            refine t_iald dX13_connect_149 qa_1049 (t_ixv c9) ?_
            refine mj_iconst (v := (-1)) dX13_connect_150 (by decide) ?_
            refine mj_icmp_ne 171 dX13_connect_151 (by decide) (fun z => t_negK hk z (fun hk => ?_)) (fun z => t_posK hk z (fun hk => ?_))
            · refine mj_sublv [(0, .ref 950)] [6] rfl ?_
              exact B_X13_connect_171 _ _ hk
            · refine mj_aload_n dX13_connect_154 6 rfl ?_
              refine t_getR 1049 dX13_connect_155 F_X13_315 qr_950_164 ?_
              refine mj_bipush (v := 6) dX13_connect_158 (by decide) ?_
              refine mj_iload dX13_connect_160 2 rfl ?_
              refine mj_imul dX13_connect_162 ?_
              refine mj_iload dX13_connect_163 0 rfl ?_
              refine mj_iadd dX13_connect_165 ?_
              refine t_chkK hk (fun c10 hk => ?_)
              refine t_iald dX13_connect_166 qa_1049 (t_ixv c10) ?_
              refine mj_iconst (v := (-1)) dX13_connect_167 (by decide) ?_
              refine mj_icmp_eq 177 dX13_connect_168 (by decide) (fun z => t_posK hk z (fun hk => ?_)) (fun z => t_negK hk z (fun hk => ?_))
              · refine mj_aload_n dX13_connect_177 6 rfl ?_
                refine t_getR 1049 dX13_connect_178 F_X13_315 qr_950_164 ?_
                refine mj_bipush (v := 6) dX13_connect_181 (by decide) ?_
                refine mj_iload dX13_connect_183 3 rfl ?_
                refine mj_imul dX13_connect_185 ?_
                refine mj_iload dX13_connect_186 1 rfl ?_
                refine mj_iadd dX13_connect_188 ?_
                refine mj_iload dX13_connect_189 2 rfl ?_
                refine t_iastK dX13_connect_191 qa_1049 (t_ixv c9) (fun s1 ws1 => t_letE hk ws1 (fun hk => ?_))
                refine mj_aload_n dX13_connect_192 6 rfl ?_
                refine t_getR 1050 dX13_connect_193 F_X13_318 qr_950_165 ?_
                refine mj_bipush (v := 6) dX13_connect_196 (by decide) ?_
                refine mj_iload dX13_connect_198 3 rfl ?_
                refine mj_imul dX13_connect_200 ?_
                refine mj_iload dX13_connect_201 1 rfl ?_
                refine mj_iadd dX13_connect_203 ?_
                refine mj_iload dX13_connect_204 0 rfl ?_
                refine t_iastK dX13_connect_206 qa_1050 (t_ixv c9) (fun s2 ws2 => t_letE hk ws2 (fun hk => ?_))
                refine mj_aload_n dX13_connect_207 6 rfl ?_
                refine t_getR 1049 dX13_connect_208 F_X13_315 qr_950_164 ?_
                refine mj_bipush (v := 6) dX13_connect_211 (by decide) ?_
                refine mj_iload dX13_connect_213 2 rfl ?_
                refine mj_imul dX13_connect_215 ?_
                refine mj_iload dX13_connect_216 0 rfl ?_
                refine mj_iadd dX13_connect_218 ?_
                refine mj_iload dX13_connect_219 3 rfl ?_
                refine t_iastK dX13_connect_221 qa_1049 (t_ixv c10) (fun s3 ws3 => t_letE hk ws3 (fun hk => ?_))
                refine mj_aload_n dX13_connect_222 6 rfl ?_
                refine t_getR 1050 dX13_connect_223 F_X13_318 qr_950_165 ?_
                refine mj_bipush (v := 6) dX13_connect_226 (by decide) ?_
                refine mj_iload dX13_connect_228 2 rfl ?_
                refine mj_imul dX13_connect_230 ?_
                refine mj_iload dX13_connect_231 0 rfl ?_
                refine mj_iadd dX13_connect_233 ?_
                refine mj_iload dX13_connect_234 1 rfl ?_
                refine t_iastK dX13_connect_236 qa_1050 (t_ixv c10) (fun s4 ws4 => t_letE hk ws4 (fun hk => ?_))
                exact t_somK hk (fun hf => t_vret dX13_connect_237 rfl ⟨rfl, hf⟩ (Nat.le_of_ble_eq_true rfl) (Nat.le_of_ble_eq_true rfl))
              · refine mj_sublv [(0, .ref 950)] [6] rfl ?_
                exact B_X13_connect_171 _ _ hk
      · refine mj_sublv [(0, .ref 950)] [2] rfl ?_
        exact B_X13_connect_71 _ _ hk
  · exact t_somK hk (fun hf => t_vret dX13_connect_34 rfl ⟨rfl, hf⟩ (Nat.le_of_ble_eq_true rfl) (Nat.le_of_ble_eq_true rfl))
noncomputable def f_X13_connect (x1 : Int32) (s : t_S) : Option (t_S) :=
 if t_ix x1 401 = true then
  (f_X13_work (s.1 995 (x1.toNatClampNeg)) s).bind (fun r2 =>
 if (r2.1 950 97) = (0 : Int32) then ((f_X13_work (r2.1 996 (x1.toNatClampNeg)) r2).bind (fun r3 =>
 k_X13_connect_27 x1 r3))
 else (k_X13_connect_27 x1 r2))
else none
set_option maxRecDepth 4000 in
set_option maxHeartbeats 1000000 in
theorem C_X13_connect (x1 : Int32) (s : t_S) (r : t_S) (hr : f_X13_connect x1 s = some r) : t_C yX13_connect cX13_connect 8 none 1784 [.ref 950, .int x1] s (fun v s' => v = none ∧ s' = r) := by
  refine t_C.imp (P := fun v s' => v = none ∧ (fun q => q = r) (s')) (t_C.of (by decide +kernel) (Nat.le_of_ble_eq_true rfl) ?_) (fun v s' hp => hp)
  intro D cy ad bs X
  have hk : t_hk (f_X13_connect x1 s) (fun q => q = r) := ⟨r, hr, rfl⟩
  show mj_G D cy ad bs X cX13_connect 8 yX13_connect.cls none yX13_connect.name 1784 0 0 1065 (t_P (fun v s' => v = none ∧ (fun q => q = r) (s'))) 0 [(0, .ref 950), (1, .int x1)] [] (t_m s) 1065 0 0
  refine mj_aload_n dX13_connect_0 0 rfl ?_
  refine mj_aload_n dX13_connect_1 0 rfl ?_
  refine t_getR 995 dX13_connect_2 F_X13_147 qr_950_73 ?_
  refine mj_iload_n dX13_connect_5 1 rfl ?_
  refine t_chkK hk (fun c0 hk => ?_)
  refine t_iald dX13_connect_6 qa_995 (t_ixv c0) ?_
  refine t_bndK hk (fun r2 er2 hk => ?_)
  refine t_callSvE dX13_connect_7 M_X13_work (C_X13_work _ _ _ er2) ML_X13_897 SM_X13_work (As := [.ref 950, .int (s.1 995 (x1.toNatClampNeg))]) rfl rfl (Nat.le_of_ble_eq_true rfl) (Nat.le_of_ble_eq_true rfl) (Nat.le_of_ble_eq_true rfl) (Nat.le_of_ble_eq_true rfl) ?_
  refine mj_aload_n dX13_connect_10 0 rfl ?_
  refine t_getI dX13_connect_11 F_X13_842 qf_950_97 ?_
  refine mj_if_ne 27 dX13_connect_14 (by decide) (fun z => t_negK hk z (fun hk => ?_)) (fun z => t_posK hk z (fun hk => ?_))
  · exact B_X13_connect_27 _ _ _ hk
  · refine mj_aload_n dX13_connect_17 0 rfl ?_
    refine mj_aload_n dX13_connect_18 0 rfl ?_
    refine t_getR 996 dX13_connect_19 F_X13_150 qr_950_74 ?_
    refine mj_iload_n dX13_connect_22 1 rfl ?_
    refine t_iald dX13_connect_23 qa_996 (t_ixv c0) ?_
    refine t_bndK hk (fun r3 er3 hk => ?_)
    refine t_callSvE dX13_connect_24 M_X13_work (C_X13_work _ _ _ er3) ML_X13_897 SM_X13_work (As := [.ref 950, .int (r2.1 996 (x1.toNatClampNeg))]) rfl rfl (Nat.le_of_ble_eq_true rfl) (Nat.le_of_ble_eq_true rfl) (Nat.le_of_ble_eq_true rfl) (Nat.le_of_ble_eq_true rfl) ?_
    exact B_X13_connect_27 _ _ _ hk

theorem dX13_count_0 : decode cX13_count 0 = .ok (.iload_n 1, 1) := by decide +kernel
theorem dX13_count_1 : decode cX13_count 1 = .ok (.tableswitch 191 0 10 #[59, 64, 80, 85, 101, 117, 133, 149, 165, 181, 186], 59) := by decide +kernel
theorem dX13_count_100 : decode cX13_count 100 = .ok (.iconst 0, 1) := by decide +kernel
theorem dX13_count_101 : decode cX13_count 101 = .ok (.ireturn, 1) := by decide +kernel
theorem dX13_count_102 : decode cX13_count 102 = .ok (.aload_n 0, 1) := by decide +kernel
theorem dX13_count_103 : decode cX13_count 103 = .ok (.getfield 642, 3) := by decide +kernel
theorem dX13_count_106 : decode cX13_count 106 = .ok (.ifCond .eq 10, 3) := by decide +kernel
theorem dX13_count_109 : decode cX13_count 109 = .ok (.aload_n 0, 1) := by decide +kernel
theorem dX13_count_110 : decode cX13_count 110 = .ok (.getfield 627, 3) := by decide +kernel
theorem dX13_count_113 : decode cX13_count 113 = .ok (.goto 4, 3) := by decide +kernel
theorem dX13_count_116 : decode cX13_count 116 = .ok (.iconst 0, 1) := by decide +kernel
theorem dX13_count_117 : decode cX13_count 117 = .ok (.ireturn, 1) := by decide +kernel
theorem dX13_count_118 : decode cX13_count 118 = .ok (.aload_n 0, 1) := by decide +kernel
theorem dX13_count_119 : decode cX13_count 119 = .ok (.getfield 642, 3) := by decide +kernel
theorem dX13_count_122 : decode cX13_count 122 = .ok (.ifCond .eq 10, 3) := by decide +kernel
theorem dX13_count_125 : decode cX13_count 125 = .ok (.aload_n 0, 1) := by decide +kernel
theorem dX13_count_126 : decode cX13_count 126 = .ok (.getfield 630, 3) := by decide +kernel
theorem dX13_count_129 : decode cX13_count 129 = .ok (.goto 4, 3) := by decide +kernel
theorem dX13_count_132 : decode cX13_count 132 = .ok (.iconst 0, 1) := by decide +kernel
theorem dX13_count_133 : decode cX13_count 133 = .ok (.ireturn, 1) := by decide +kernel
theorem dX13_count_134 : decode cX13_count 134 = .ok (.aload_n 0, 1) := by decide +kernel
theorem dX13_count_135 : decode cX13_count 135 = .ok (.getfield 642, 3) := by decide +kernel
theorem dX13_count_138 : decode cX13_count 138 = .ok (.ifCond .eq 10, 3) := by decide +kernel
theorem dX13_count_141 : decode cX13_count 141 = .ok (.aload_n 0, 1) := by decide +kernel
theorem dX13_count_142 : decode cX13_count 142 = .ok (.getfield 633, 3) := by decide +kernel
theorem dX13_count_145 : decode cX13_count 145 = .ok (.goto 4, 3) := by decide +kernel
theorem dX13_count_148 : decode cX13_count 148 = .ok (.iconst 0, 1) := by decide +kernel
theorem dX13_count_149 : decode cX13_count 149 = .ok (.ireturn, 1) := by decide +kernel
theorem dX13_count_150 : decode cX13_count 150 = .ok (.aload_n 0, 1) := by decide +kernel
theorem dX13_count_151 : decode cX13_count 151 = .ok (.getfield 642, 3) := by decide +kernel
theorem dX13_count_154 : decode cX13_count 154 = .ok (.ifCond .eq 10, 3) := by decide +kernel
theorem dX13_count_157 : decode cX13_count 157 = .ok (.aload_n 0, 1) := by decide +kernel
theorem dX13_count_158 : decode cX13_count 158 = .ok (.getfield 639, 3) := by decide +kernel
theorem dX13_count_161 : decode cX13_count 161 = .ok (.goto 4, 3) := by decide +kernel
theorem dX13_count_164 : decode cX13_count 164 = .ok (.iconst 0, 1) := by decide +kernel
theorem dX13_count_165 : decode cX13_count 165 = .ok (.ireturn, 1) := by decide +kernel
theorem dX13_count_166 : decode cX13_count 166 = .ok (.aload_n 0, 1) := by decide +kernel
theorem dX13_count_167 : decode cX13_count 167 = .ok (.getfield 642, 3) := by decide +kernel
theorem dX13_count_170 : decode cX13_count 170 = .ok (.ifCond .eq 10, 3) := by decide +kernel
theorem dX13_count_173 : decode cX13_count 173 = .ok (.aload_n 0, 1) := by decide +kernel
theorem dX13_count_174 : decode cX13_count 174 = .ok (.getfield 670, 3) := by decide +kernel
theorem dX13_count_177 : decode cX13_count 177 = .ok (.goto 4, 3) := by decide +kernel
theorem dX13_count_180 : decode cX13_count 180 = .ok (.iconst 0, 1) := by decide +kernel
theorem dX13_count_181 : decode cX13_count 181 = .ok (.ireturn, 1) := by decide +kernel
theorem dX13_count_182 : decode cX13_count 182 = .ok (.aload_n 0, 1) := by decide +kernel
theorem dX13_count_183 : decode cX13_count 183 = .ok (.getfield 654, 3) := by decide +kernel
theorem dX13_count_186 : decode cX13_count 186 = .ok (.ireturn, 1) := by decide +kernel
theorem dX13_count_187 : decode cX13_count 187 = .ok (.aload_n 0, 1) := by decide +kernel
theorem dX13_count_188 : decode cX13_count 188 = .ok (.getfield 833, 3) := by decide +kernel
theorem dX13_count_191 : decode cX13_count 191 = .ok (.ireturn, 1) := by decide +kernel
theorem dX13_count_192 : decode cX13_count 192 = .ok (.iconst (-1), 1) := by decide +kernel
theorem dX13_count_193 : decode cX13_count 193 = .ok (.ireturn, 1) := by decide +kernel
theorem dX13_count_60 : decode cX13_count 60 = .ok (.aload_n 0, 1) := by decide +kernel
theorem dX13_count_61 : decode cX13_count 61 = .ok (.getfield 375, 3) := by decide +kernel
theorem dX13_count_64 : decode cX13_count 64 = .ok (.ireturn, 1) := by decide +kernel
theorem dX13_count_65 : decode cX13_count 65 = .ok (.aload_n 0, 1) := by decide +kernel
theorem dX13_count_66 : decode cX13_count 66 = .ok (.getfield 375, 3) := by decide +kernel
theorem dX13_count_69 : decode cX13_count 69 = .ok (.ifCond .ne 7, 3) := by decide +kernel
theorem dX13_count_72 : decode cX13_count 72 = .ok (.iconst (-1), 1) := by decide +kernel
theorem dX13_count_73 : decode cX13_count 73 = .ok (.goto 7, 3) := by decide +kernel
theorem dX13_count_76 : decode cX13_count 76 = .ok (.aload_n 0, 1) := by decide +kernel
theorem dX13_count_77 : decode cX13_count 77 = .ok (.getfield 13, 3) := by decide +kernel
theorem dX13_count_80 : decode cX13_count 80 = .ok (.ireturn, 1) := by decide +kernel
theorem dX13_count_81 : decode cX13_count 81 = .ok (.aload_n 0, 1) := by decide +kernel
theorem dX13_count_82 : decode cX13_count 82 = .ok (.getfield 366, 3) := by decide +kernel
theorem dX13_count_85 : decode cX13_count 85 = .ok (.ireturn, 1) := by decide +kernel
theorem dX13_count_86 : decode cX13_count 86 = .ok (.aload_n 0, 1) := by decide +kernel
theorem dX13_count_87 : decode cX13_count 87 = .ok (.getfield 642, 3) := by decide +kernel
theorem dX13_count_90 : decode cX13_count 90 = .ok (.ifCond .eq 10, 3) := by decide +kernel
theorem dX13_count_93 : decode cX13_count 93 = .ok (.aload_n 0, 1) := by decide +kernel
theorem dX13_count_94 : decode cX13_count 94 = .ok (.getfield 624, 3) := by decide +kernel
theorem dX13_count_97 : decode cX13_count 97 = .ok (.goto 4, 3) := by decide +kernel
noncomputable def f_X13_count (x1 : Int32) (s : t_S) : Int32 :=
 if x1.toInt < 0 ∨ 10 < x1.toInt then ((-1 : Int32))
 else if x1.toInt = 0 then ((s.1 950 2))
 else if x1.toInt = 1 then (if (s.1 950 2) = (0 : Int32) then ((-1 : Int32))
 else ((s.1 950 3)))
 else if x1.toInt = 2 then ((s.1 950 1))
 else if x1.toInt = 3 then (if (s.1 950 65) = (0 : Int32) then ((0 : Int32))
 else ((s.1 950 40)))
 else if x1.toInt = 4 then (if (s.1 950 65) = (0 : Int32) then ((0 : Int32))
 else ((s.1 950 44)))
 else if x1.toInt = 5 then (if (s.1 950 65) = (0 : Int32) then ((0 : Int32))
 else ((s.1 950 55)))
 else if x1.toInt = 6 then (if (s.1 950 65) = (0 : Int32) then ((0 : Int32))
 else ((s.1 950 64)))
 else if x1.toInt = 7 then (if (s.1 950 65) = (0 : Int32) then ((0 : Int32))
 else ((s.1 950 81)))
 else if x1.toInt = 8 then (if (s.1 950 65) = (0 : Int32) then ((0 : Int32))
 else ((s.1 950 30)))
 else if x1.toInt = 9 then ((s.1 950 96))
 else ((s.1 950 121))
set_option maxRecDepth 4000 in
set_option maxHeartbeats 1000000 in
theorem C_X13_count (x1 : Int32) (s : t_S) : t_C yX13_count cX13_count 2 (some .int) 0 [.ref 950, .int x1] s (fun v s' => v = some (.int (f_X13_count x1 s)) ∧ s' = s) := by
  refine t_C.imp (P := fun v s' => s' = s ∧ ∃ x, v = some (.int x) ∧ (fun r => r = f_X13_count x1 s) (x)) (t_C.of (by decide +kernel) (Nat.le_of_ble_eq_true rfl) ?_) (fun v s' hp => by obtain ⟨rfl, x, rfl, rfl⟩ := hp; exact ⟨rfl, rfl⟩)
  intro D cy ad bs X
  have hk : t_ht (f_X13_count x1 s) (fun r => r = f_X13_count x1 s) := rfl
  show mj_G D cy ad bs X cX13_count 2 yX13_count.cls (some .int) yX13_count.name 0 0 0 1065 (t_P (fun v s' => s' = s ∧ ∃ x, v = some (.int x) ∧ (fun r => r = f_X13_count x1 s) (x))) 0 [(0, .ref 950), (1, .int x1)] [] (t_m s) 1065 0 0
  refine mj_iload_n dX13_count_0 1 rfl ?_
  by_cases hout : x1.toInt < 0 ∨ 10 < x1.toInt
  · replace hk := t_posT hk hout
    refine mj_tableOut 192 dX13_count_1 hout (by decide) ?_
    refine mj_iconst (v := (-1)) dX13_count_192 (by decide) ?_
    exact t_iret dX13_count_193 rfl rfl ⟨rfl, _, rfl, hk⟩ (Nat.le_of_ble_eq_true rfl) (Nat.le_of_ble_eq_true rfl)
  · replace hk := t_negT hk hout
    have hh1 : ¬ x1.toInt < 0 := fun z => hout (Or.inl z)
    have hh2 : ¬ (10 : Int) < x1.toInt := fun z => hout (Or.inr z)
    by_cases h0 : x1.toInt = 0
    · replace hk := t_posT hk h0
      refine mj_tableIn 60 dX13_count_1 hh1 hh2 (by rw [h0]; rfl) (by decide) ?_
      refine mj_aload_n dX13_count_60 0 rfl ?_
      refine t_getI dX13_count_61 F_X13_375 qf_950_2 ?_
      exact t_iret dX13_count_64 rfl rfl ⟨rfl, _, rfl, hk⟩ (Nat.le_of_ble_eq_true rfl) (Nat.le_of_ble_eq_true rfl)
    replace hk := t_negT hk h0
    by_cases h1 : x1.toInt = 1
    · replace hk := t_posT hk h1
      refine mj_tableIn 65 dX13_count_1 hh1 hh2 (by rw [h1]; rfl) (by decide) ?_
      refine mj_aload_n dX13_count_65 0 rfl ?_
      refine t_getI dX13_count_66 F_X13_375 qf_950_2 ?_
      refine mj_if_ne 76 dX13_count_69 (by decide) (fun z => t_negTK hk z (fun hk => ?_)) (fun z => t_posTK hk z (fun hk => ?_))
      · refine mj_aload_n dX13_count_76 0 rfl ?_
        refine t_getI dX13_count_77 F_X13_13 qf_950_3 ?_
        exact t_iret dX13_count_80 rfl rfl ⟨rfl, _, rfl, hk⟩ (Nat.le_of_ble_eq_true rfl) (Nat.le_of_ble_eq_true rfl)
      · refine mj_iconst (v := (-1)) dX13_count_72 (by decide) ?_
        refine mj_goto 80 dX13_count_73 (by decide) ?_
        exact t_iret dX13_count_80 rfl rfl ⟨rfl, _, rfl, hk⟩ (Nat.le_of_ble_eq_true rfl) (Nat.le_of_ble_eq_true rfl)
    replace hk := t_negT hk h1
    by_cases h2 : x1.toInt = 2
    · replace hk := t_posT hk h2
      refine mj_tableIn 81 dX13_count_1 hh1 hh2 (by rw [h2]; rfl) (by decide) ?_
      refine mj_aload_n dX13_count_81 0 rfl ?_
      refine t_getI dX13_count_82 F_X13_366 qf_950_1 ?_
      exact t_iret dX13_count_85 rfl rfl ⟨rfl, _, rfl, hk⟩ (Nat.le_of_ble_eq_true rfl) (Nat.le_of_ble_eq_true rfl)
    replace hk := t_negT hk h2
    by_cases h3 : x1.toInt = 3
    · replace hk := t_posT hk h3
      refine mj_tableIn 86 dX13_count_1 hh1 hh2 (by rw [h3]; rfl) (by decide) ?_
      refine mj_aload_n dX13_count_86 0 rfl ?_
      refine t_getI dX13_count_87 F_X13_642 qf_950_65 ?_
      refine mj_if_eq 100 dX13_count_90 (by decide) (fun z => t_posTK hk z (fun hk => ?_)) (fun z => t_negTK hk z (fun hk => ?_))
      · refine mj_iconst (v := 0) dX13_count_100 (by decide) ?_
        exact t_iret dX13_count_101 rfl rfl ⟨rfl, _, rfl, hk⟩ (Nat.le_of_ble_eq_true rfl) (Nat.le_of_ble_eq_true rfl)
      · refine mj_aload_n dX13_count_93 0 rfl ?_
        refine t_getI dX13_count_94 F_X13_624 qf_950_40 ?_
        refine mj_goto 101 dX13_count_97 (by decide) ?_
        exact t_iret dX13_count_101 rfl rfl ⟨rfl, _, rfl, hk⟩ (Nat.le_of_ble_eq_true rfl) (Nat.le_of_ble_eq_true rfl)
    replace hk := t_negT hk h3
    by_cases h4 : x1.toInt = 4
    · replace hk := t_posT hk h4
      refine mj_tableIn 102 dX13_count_1 hh1 hh2 (by rw [h4]; rfl) (by decide) ?_
      refine mj_aload_n dX13_count_102 0 rfl ?_
      refine t_getI dX13_count_103 F_X13_642 qf_950_65 ?_
      refine mj_if_eq 116 dX13_count_106 (by decide) (fun z => t_posTK hk z (fun hk => ?_)) (fun z => t_negTK hk z (fun hk => ?_))
      · refine mj_iconst (v := 0) dX13_count_116 (by decide) ?_
        exact t_iret dX13_count_117 rfl rfl ⟨rfl, _, rfl, hk⟩ (Nat.le_of_ble_eq_true rfl) (Nat.le_of_ble_eq_true rfl)
      · refine mj_aload_n dX13_count_109 0 rfl ?_
        refine t_getI dX13_count_110 F_X13_627 qf_950_44 ?_
        refine mj_goto 117 dX13_count_113 (by decide) ?_
        exact t_iret dX13_count_117 rfl rfl ⟨rfl, _, rfl, hk⟩ (Nat.le_of_ble_eq_true rfl) (Nat.le_of_ble_eq_true rfl)
    replace hk := t_negT hk h4
    by_cases h5 : x1.toInt = 5
    · replace hk := t_posT hk h5
      refine mj_tableIn 118 dX13_count_1 hh1 hh2 (by rw [h5]; rfl) (by decide) ?_
      refine mj_aload_n dX13_count_118 0 rfl ?_
      refine t_getI dX13_count_119 F_X13_642 qf_950_65 ?_
      refine mj_if_eq 132 dX13_count_122 (by decide) (fun z => t_posTK hk z (fun hk => ?_)) (fun z => t_negTK hk z (fun hk => ?_))
      · refine mj_iconst (v := 0) dX13_count_132 (by decide) ?_
        exact t_iret dX13_count_133 rfl rfl ⟨rfl, _, rfl, hk⟩ (Nat.le_of_ble_eq_true rfl) (Nat.le_of_ble_eq_true rfl)
      · refine mj_aload_n dX13_count_125 0 rfl ?_
        refine t_getI dX13_count_126 F_X13_630 qf_950_55 ?_
        refine mj_goto 133 dX13_count_129 (by decide) ?_
        exact t_iret dX13_count_133 rfl rfl ⟨rfl, _, rfl, hk⟩ (Nat.le_of_ble_eq_true rfl) (Nat.le_of_ble_eq_true rfl)
    replace hk := t_negT hk h5
    by_cases h6 : x1.toInt = 6
    · replace hk := t_posT hk h6
      refine mj_tableIn 134 dX13_count_1 hh1 hh2 (by rw [h6]; rfl) (by decide) ?_
      refine mj_aload_n dX13_count_134 0 rfl ?_
      refine t_getI dX13_count_135 F_X13_642 qf_950_65 ?_
      refine mj_if_eq 148 dX13_count_138 (by decide) (fun z => t_posTK hk z (fun hk => ?_)) (fun z => t_negTK hk z (fun hk => ?_))
      · refine mj_iconst (v := 0) dX13_count_148 (by decide) ?_
        exact t_iret dX13_count_149 rfl rfl ⟨rfl, _, rfl, hk⟩ (Nat.le_of_ble_eq_true rfl) (Nat.le_of_ble_eq_true rfl)
      · refine mj_aload_n dX13_count_141 0 rfl ?_
        refine t_getI dX13_count_142 F_X13_633 qf_950_64 ?_
        refine mj_goto 149 dX13_count_145 (by decide) ?_
        exact t_iret dX13_count_149 rfl rfl ⟨rfl, _, rfl, hk⟩ (Nat.le_of_ble_eq_true rfl) (Nat.le_of_ble_eq_true rfl)
    replace hk := t_negT hk h6
    by_cases h7 : x1.toInt = 7
    · replace hk := t_posT hk h7
      refine mj_tableIn 150 dX13_count_1 hh1 hh2 (by rw [h7]; rfl) (by decide) ?_
      refine mj_aload_n dX13_count_150 0 rfl ?_
      refine t_getI dX13_count_151 F_X13_642 qf_950_65 ?_
      refine mj_if_eq 164 dX13_count_154 (by decide) (fun z => t_posTK hk z (fun hk => ?_)) (fun z => t_negTK hk z (fun hk => ?_))
      · refine mj_iconst (v := 0) dX13_count_164 (by decide) ?_
        exact t_iret dX13_count_165 rfl rfl ⟨rfl, _, rfl, hk⟩ (Nat.le_of_ble_eq_true rfl) (Nat.le_of_ble_eq_true rfl)
      · refine mj_aload_n dX13_count_157 0 rfl ?_
        refine t_getI dX13_count_158 F_X13_639 qf_950_81 ?_
        refine mj_goto 165 dX13_count_161 (by decide) ?_
        exact t_iret dX13_count_165 rfl rfl ⟨rfl, _, rfl, hk⟩ (Nat.le_of_ble_eq_true rfl) (Nat.le_of_ble_eq_true rfl)
    replace hk := t_negT hk h7
    by_cases h8 : x1.toInt = 8
    · replace hk := t_posT hk h8
      refine mj_tableIn 166 dX13_count_1 hh1 hh2 (by rw [h8]; rfl) (by decide) ?_
      refine mj_aload_n dX13_count_166 0 rfl ?_
      refine t_getI dX13_count_167 F_X13_642 qf_950_65 ?_
      refine mj_if_eq 180 dX13_count_170 (by decide) (fun z => t_posTK hk z (fun hk => ?_)) (fun z => t_negTK hk z (fun hk => ?_))
      · refine mj_iconst (v := 0) dX13_count_180 (by decide) ?_
        exact t_iret dX13_count_181 rfl rfl ⟨rfl, _, rfl, hk⟩ (Nat.le_of_ble_eq_true rfl) (Nat.le_of_ble_eq_true rfl)
      · refine mj_aload_n dX13_count_173 0 rfl ?_
        refine t_getI dX13_count_174 F_X13_670 qf_950_30 ?_
        refine mj_goto 181 dX13_count_177 (by decide) ?_
        exact t_iret dX13_count_181 rfl rfl ⟨rfl, _, rfl, hk⟩ (Nat.le_of_ble_eq_true rfl) (Nat.le_of_ble_eq_true rfl)
    replace hk := t_negT hk h8
    by_cases h9 : x1.toInt = 9
    · replace hk := t_posT hk h9
      refine mj_tableIn 182 dX13_count_1 hh1 hh2 (by rw [h9]; rfl) (by decide) ?_
      refine mj_aload_n dX13_count_182 0 rfl ?_
      refine t_getI dX13_count_183 F_X13_654 qf_950_96 ?_
      exact t_iret dX13_count_186 rfl rfl ⟨rfl, _, rfl, hk⟩ (Nat.le_of_ble_eq_true rfl) (Nat.le_of_ble_eq_true rfl)
    replace hk := t_negT hk h9
    have h10 : x1.toInt = 10 := by omega
    refine mj_tableIn 187 dX13_count_1 hh1 hh2 (by rw [h10]; rfl) (by decide) ?_
    refine mj_aload_n dX13_count_187 0 rfl ?_
    refine t_getI dX13_count_188 F_X13_833 qf_950_121 ?_
    exact t_iret dX13_count_191 rfl rfl ⟨rfl, _, rfl, hk⟩ (Nat.le_of_ble_eq_true rfl) (Nat.le_of_ble_eq_true rfl)

theorem dX13_create_0 : decode cX13_create 0 = .ok (.aload_n 0, 1) := by decide +kernel
theorem dX13_create_1 : decode cX13_create 1 = .ok (.getfield 1315, 3) := by decide +kernel
theorem dX13_create_10 : decode cX13_create 10 = .ok (.bipush 7, 2) := by decide +kernel
theorem dX13_create_100 : decode cX13_create 100 = .ok (.iload 4, 2) := by decide +kernel
theorem dX13_create_102 : decode cX13_create 102 = .ok (.invokevirtual 1343, 3) := by decide +kernel
theorem dX13_create_105 : decode cX13_create 105 = .ok (.iload 5, 2) := by decide +kernel
theorem dX13_create_107 : decode cX13_create 107 = .ok (.invokevirtual 1321, 3) := by decide +kernel
theorem dX13_create_110 : decode cX13_create 110 = .ok (.aload_n 0, 1) := by decide +kernel
theorem dX13_create_111 : decode cX13_create 111 = .ok (.getfield 842, 3) := by decide +kernel
theorem dX13_create_114 : decode cX13_create 114 = .ok (.ifCond .eq 14, 3) := by decide +kernel
theorem dX13_create_117 : decode cX13_create 117 = .ok (.aload_n 0, 1) := by decide +kernel
theorem dX13_create_118 : decode cX13_create 118 = .ok (.dup, 1) := by decide +kernel
theorem dX13_create_119 : decode cX13_create 119 = .ok (.getfield 1315, 3) := by decide +kernel
theorem dX13_create_12 : decode cX13_create 12 = .ok (.invokevirtual 866, 3) := by decide +kernel
theorem dX13_create_122 : decode cX13_create 122 = .ok (.iconst 1, 1) := by decide +kernel
theorem dX13_create_123 : decode cX13_create 123 = .ok (.isub, 1) := by decide +kernel
theorem dX13_create_124 : decode cX13_create 124 = .ok (.putfield 1315, 3) := by decide +kernel
theorem dX13_create_127 : decode cX13_create 127 = .ok (.return_, 1) := by decide +kernel
theorem dX13_create_128 : decode cX13_create 128 = .ok (.aload_n 0, 1) := by decide +kernel
theorem dX13_create_129 : decode cX13_create 129 = .ok (.bipush 8, 2) := by decide +kernel
theorem dX13_create_131 : decode cX13_create 131 = .ok (.iload_n 3, 1) := by decide +kernel
theorem dX13_create_132 : decode cX13_create 132 = .ok (.aload_n 0, 1) := by decide +kernel
theorem dX13_create_133 : decode cX13_create 133 = .ok (.getfield 273, 3) := by decide +kernel
theorem dX13_create_136 : decode cX13_create 136 = .ok (.iload_n 3, 1) := by decide +kernel
theorem dX13_create_137 : decode cX13_create 137 = .ok (.iaload, 1) := by decide +kernel
theorem dX13_create_138 : decode cX13_create 138 = .ok (.iconst (-1), 1) := by decide +kernel
theorem dX13_create_139 : decode cX13_create 139 = .ok (.invokevirtual 1305, 3) := by decide +kernel
theorem dX13_create_142 : decode cX13_create 142 = .ok (.aload_n 0, 1) := by decide +kernel
theorem dX13_create_143 : decode cX13_create 143 = .ok (.iload_n 1, 1) := by decide +kernel
theorem dX13_create_144 : decode cX13_create 144 = .ok (.iload 4, 2) := by decide +kernel
theorem dX13_create_146 : decode cX13_create 146 = .ok (.invokevirtual 1346, 3) := by decide +kernel
theorem dX13_create_149 : decode cX13_create 149 = .ok (.aload_n 0, 1) := by decide +kernel
theorem dX13_create_15 : decode cX13_create 15 = .ok (.return_, 1) := by decide +kernel
theorem dX13_create_150 : decode cX13_create 150 = .ok (.iload 5, 2) := by decide +kernel
theorem dX13_create_152 : decode cX13_create 152 = .ok (.aload_n 0, 1) := by decide +kernel
theorem dX13_create_153 : decode cX13_create 153 = .ok (.iload_n 1, 1) := by decide +kernel
theorem dX13_create_154 : decode cX13_create 154 = .ok (.iload 4, 2) := by decide +kernel
theorem dX13_create_156 : decode cX13_create 156 = .ok (.invokevirtual 1349, 3) := by decide +kernel
theorem dX13_create_159 : decode cX13_create 159 = .ok (.invokevirtual 861, 3) := by decide +kernel
theorem dX13_create_16 : decode cX13_create 16 = .ok (.aload_n 0, 1) := by decide +kernel
theorem dX13_create_162 : decode cX13_create 162 = .ok (.return_, 1) := by decide +kernel
theorem dX13_create_17 : decode cX13_create 17 = .ok (.aload_n 0, 1) := by decide +kernel
theorem dX13_create_18 : decode cX13_create 18 = .ok (.aload_n 0, 1) := by decide +kernel
theorem dX13_create_19 : decode cX13_create 19 = .ok (.getfield 72, 3) := by decide +kernel
theorem dX13_create_22 : decode cX13_create 22 = .ok (.iconst 0, 1) := by decide +kernel
theorem dX13_create_23 : decode cX13_create 23 = .ok (.aload_n 0, 1) := by decide +kernel
theorem dX13_create_24 : decode cX13_create 24 = .ok (.getfield 630, 3) := by decide +kernel
theorem dX13_create_27 : decode cX13_create 27 = .ok (.aload_n 0, 1) := by decide +kernel
theorem dX13_create_28 : decode cX13_create 28 = .ok (.getfield 135, 3) := by decide +kernel
theorem dX13_create_31 : decode cX13_create 31 = .ok (.iload_n 2, 1) := by decide +kernel
theorem dX13_create_32 : decode cX13_create 32 = .ok (.iaload, 1) := by decide +kernel
theorem dX13_create_33 : decode cX13_create 33 = .ok (.invokevirtual 788, 3) := by decide +kernel
theorem dX13_create_36 : decode cX13_create 36 = .ok (.invokevirtual 1327, 3) := by decide +kernel
theorem dX13_create_39 : decode cX13_create 39 = .ok (.istore_n 3, 1) := by decide +kernel
theorem dX13_create_4 : decode cX13_create 4 = .ok (.bipush 8, 2) := by decide +kernel
theorem dX13_create_40 : decode cX13_create 40 = .ok (.aload_n 0, 1) := by decide +kernel
theorem dX13_create_41 : decode cX13_create 41 = .ok (.getfield 842, 3) := by decide +kernel
theorem dX13_create_44 : decode cX13_create 44 = .ok (.ifCond .eq 14, 3) := by decide +kernel
theorem dX13_create_47 : decode cX13_create 47 = .ok (.aload_n 0, 1) := by decide +kernel
theorem dX13_create_48 : decode cX13_create 48 = .ok (.dup, 1) := by decide +kernel
theorem dX13_create_49 : decode cX13_create 49 = .ok (.getfield 1315, 3) := by decide +kernel
theorem dX13_create_52 : decode cX13_create 52 = .ok (.iconst 1, 1) := by decide +kernel
theorem dX13_create_53 : decode cX13_create 53 = .ok (.isub, 1) := by decide +kernel
theorem dX13_create_54 : decode cX13_create 54 = .ok (.putfield 1315, 3) := by decide +kernel
theorem dX13_create_57 : decode cX13_create 57 = .ok (.return_, 1) := by decide +kernel
theorem dX13_create_58 : decode cX13_create 58 = .ok (.aload_n 0, 1) := by decide +kernel
theorem dX13_create_59 : decode cX13_create 59 = .ok (.aload_n 0, 1) := by decide +kernel
theorem dX13_create_6 : decode cX13_create 6 = .ok (.if_icmp .ne 10, 3) := by decide +kernel
theorem dX13_create_60 : decode cX13_create 60 = .ok (.getfield 141, 3) := by decide +kernel
theorem dX13_create_63 : decode cX13_create 63 = .ok (.iload_n 2, 1) := by decide +kernel
theorem dX13_create_64 : decode cX13_create 64 = .ok (.iaload, 1) := by decide +kernel
theorem dX13_create_65 : decode cX13_create 65 = .ok (.aload_n 0, 1) := by decide +kernel
theorem dX13_create_66 : decode cX13_create 66 = .ok (.getfield 165, 3) := by decide +kernel
theorem dX13_create_69 : decode cX13_create 69 = .ok (.iload_n 2, 1) := by decide +kernel
theorem dX13_create_70 : decode cX13_create 70 = .ok (.iaload, 1) := by decide +kernel
theorem dX13_create_71 : decode cX13_create 71 = .ok (.aload_n 0, 1) := by decide +kernel
theorem dX13_create_72 : decode cX13_create 72 = .ok (.getfield 168, 3) := by decide +kernel
theorem dX13_create_75 : decode cX13_create 75 = .ok (.iload_n 2, 1) := by decide +kernel
theorem dX13_create_76 : decode cX13_create 76 = .ok (.iaload, 1) := by decide +kernel
theorem dX13_create_77 : decode cX13_create 77 = .ok (.invokevirtual 1445, 3) := by decide +kernel
theorem dX13_create_80 : decode cX13_create 80 = .ok (.istore 4, 2) := by decide +kernel
theorem dX13_create_82 : decode cX13_create 82 = .ok (.aload_n 0, 1) := by decide +kernel
theorem dX13_create_83 : decode cX13_create 83 = .ok (.iconst 5, 1) := by decide +kernel
theorem dX13_create_84 : decode cX13_create 84 = .ok (.iload_n 3, 1) := by decide +kernel
theorem dX13_create_85 : decode cX13_create 85 = .ok (.i2l, 1) := by decide +kernel
theorem dX13_create_86 : decode cX13_create 86 = .ok (.invokevirtual 869, 3) := by decide +kernel
theorem dX13_create_89 : decode cX13_create 89 = .ok (.istore 5, 2) := by decide +kernel
theorem dX13_create_9 : decode cX13_create 9 = .ok (.aload_n 0, 1) := by decide +kernel
theorem dX13_create_91 : decode cX13_create 91 = .ok (.aload_n 0, 1) := by decide +kernel
theorem dX13_create_92 : decode cX13_create 92 = .ok (.aload_n 0, 1) := by decide +kernel
theorem dX13_create_93 : decode cX13_create 93 = .ok (.iload_n 1, 1) := by decide +kernel
theorem dX13_create_94 : decode cX13_create 94 = .ok (.aload_n 0, 1) := by decide +kernel
theorem dX13_create_95 : decode cX13_create 95 = .ok (.getfield 165, 3) := by decide +kernel
theorem dX13_create_98 : decode cX13_create 98 = .ok (.iload_n 2, 1) := by decide +kernel
theorem dX13_create_99 : decode cX13_create 99 = .ok (.iaload, 1) := by decide +kernel
noncomputable def f_X13_create (x1 : Int32) (x2 : Int32) (s : t_S) : Option (t_S) :=
 if (s.1 950 149) = (8 : Int32) then ((f_X13_error (7 : Int32) s).bind (fun r13 =>
 some (r13)))
 else (if t_ix x2 401 = true then
  (f_X13_find 970 (0 : Int32) (s.1 950 55) (s.1 991 (x2.toNatClampNeg)) s).bind (fun r2 =>
 (f_X13_makeComponent r2 s).bind (fun r3 =>
 if (r3.2.1 950 97) = (0 : Int32) then ((f_X13_varPlace (r3.2.1 993 (x2.toNatClampNeg)) (r3.2.1 1001 (x2.toNatClampNeg)) (r3.2.1 1002 (x2.toNatClampNeg)) r3.2).bind (fun r4 =>
 (f_X13_push (5 : Int32) r3.1.toInt64 r3.2).bind (fun r5 =>
 (f_X13_typeAt x1 (r5.2.1 1001 (x2.toNatClampNeg)) r4 r5.2).bind (fun r6 =>
 (f_X13_checkType r6 r5.1 r5.2).bind (fun r7 =>
 if (r7.1 950 97) = (0 : Int32) then (if t_ix r3.1 8 = true then
  (f_X13_note (8 : Int32) r3.1 (r7.1 1035 (r3.1.toNatClampNeg)) (-1 : Int32) r7).bind (fun r9 =>
 (f_X13_tellVar x1 r4 r9).bind (fun r10 =>
 (f_X13_placeSlot x1 r4 r10).bind (fun r11 =>
 (f_X13_copy r5.1 r11 r10).bind (fun r12 =>
 some (r12)))))
else none)
 else (t_let (t_setI r7 950 149 ((r7.1 950 149) - (1 : Int32))) (fun s1 =>
 some (s1))))))))
 else (t_let (t_setI r3.2 950 149 ((r3.2.1 950 149) - (1 : Int32))) (fun s2 =>
 some (s2)))))
else none)
set_option maxRecDepth 4000 in
set_option maxHeartbeats 1000000 in
theorem C_X13_create (x1 : Int32) (x2 : Int32) (s : t_S) (r : t_S) (hr : f_X13_create x1 x2 s = some r) : t_C yX13_create cX13_create 6 none 1785 [.ref 950, .int x1, .int x2] s (fun v s' => v = none ∧ s' = r) := by
  refine t_C.imp (P := fun v s' => v = none ∧ (fun q => q = r) (s')) (t_C.of (by decide +kernel) (Nat.le_of_ble_eq_true rfl) ?_) (fun v s' hp => hp)
  intro D cy ad bs X
  have hk : t_hk (f_X13_create x1 x2 s) (fun q => q = r) := ⟨r, hr, rfl⟩
  show mj_G D cy ad bs X cX13_create 6 yX13_create.cls none yX13_create.name 1785 0 0 1065 (t_P (fun v s' => v = none ∧ (fun q => q = r) (s'))) 0 [(0, .ref 950), (1, .int x1), (2, .int x2)] [] (t_m s) 1065 0 0
  refine mj_aload_n dX13_create_0 0 rfl ?_
  refine t_getI dX13_create_1 F_X13_1315 qf_950_149 ?_
  refine mj_bipush (v := 8) dX13_create_4 (by decide) ?_
  refine mj_icmp_ne 16 dX13_create_6 (by decide) (fun z => t_negK hk z (fun hk => ?_)) (fun z => t_posK hk z (fun hk => ?_))
  · refine mj_aload_n dX13_create_16 0 rfl ?_
    refine mj_aload_n dX13_create_17 0 rfl ?_
    refine mj_aload_n dX13_create_18 0 rfl ?_
    refine t_getR 970 dX13_create_19 F_X13_72 qr_950_45 ?_
    refine mj_iconst (v := 0) dX13_create_22 (by decide) ?_
    refine mj_aload_n dX13_create_23 0 rfl ?_
    refine t_getI dX13_create_24 F_X13_630 qf_950_55 ?_
    refine mj_aload_n dX13_create_27 0 rfl ?_
    refine t_getR 991 dX13_create_28 F_X13_135 qr_950_69 ?_
    refine mj_iload_n dX13_create_31 2 rfl ?_
    refine t_chkK hk (fun c0 hk => ?_)
    refine t_iald dX13_create_32 qa_991 (t_ixv c0) ?_
    refine t_bndK hk (fun r2 er2 hk => ?_)
    refine t_callViP dX13_create_33 M_X13_find (C_X13_find _ _ _ _ _ _ er2) ML_X13_788 IM_X13_find SE_X13_find qc_950 rfl (As := [.ref 970, .int 0, .int (s.1 950 55), .int (s.1 991 (x2.toNatClampNeg))]) rfl rfl (Nat.le_of_ble_eq_true rfl) (Nat.le_of_ble_eq_true rfl) (Nat.le_of_ble_eq_true rfl) (Nat.le_of_ble_eq_true rfl) ?_
    refine t_bndK hk (fun r3 er3 hk => ?_)
    refine t_callViE dX13_create_36 M_X13_makeComponent (C_X13_makeComponent _ _ _ er3) ML_X13_1327 IM_X13_makeComponent SE_X13_makeComponent qc_950 rfl (As := [.int r2]) rfl rfl (Nat.le_of_ble_eq_true rfl) (Nat.le_of_ble_eq_true rfl) (Nat.le_of_ble_eq_true rfl) (Nat.le_of_ble_eq_true rfl) ?_
    refine mj_istore_n 3 (lv2 := [(3, .int r3.1), (0, .ref 950), (1, .int x1), (2, .int x2)]) dX13_create_39 rfl (by decide) rfl ?_
    refine mj_aload_n dX13_create_40 1 rfl ?_
    refine t_getI dX13_create_41 F_X13_842 qf_950_97 ?_
    refine mj_if_eq 58 dX13_create_44 (by decide) (fun z => t_posK hk z (fun hk => ?_)) (fun z => t_negK hk z (fun hk => ?_))
    · refine mj_aload_n dX13_create_58 1 rfl ?_
      refine mj_aload_n dX13_create_59 1 rfl ?_
      refine t_getR 993 dX13_create_60 F_X13_141 qr_950_71 ?_
      refine mj_iload_n dX13_create_63 3 rfl ?_
      refine t_iald dX13_create_64 qa_993 (t_ixv c0) ?_
      refine mj_aload_n dX13_create_65 1 rfl ?_
      refine t_getR 1001 dX13_create_66 F_X13_165 qr_950_79 ?_
      refine mj_iload_n dX13_create_69 3 rfl ?_
      refine t_iald dX13_create_70 qa_1001 (t_ixv c0) ?_
      refine mj_aload_n dX13_create_71 1 rfl ?_
      refine t_getR 1002 dX13_create_72 F_X13_168 qr_950_80 ?_
      refine mj_iload_n dX13_create_75 3 rfl ?_
      refine t_iald dX13_create_76 qa_1002 (t_ixv c0) ?_
      refine t_bndK hk (fun r4 er4 hk => ?_)
      refine t_callViP dX13_create_77 M_X13_varPlace (C_X13_varPlace _ _ _ _ _ er4) ML_X13_1445 IM_X13_varPlace SE_X13_varPlace qc_950 rfl (As := [.int (r3.2.1 993 (x2.toNatClampNeg)), .int (r3.2.1 1001 (x2.toNatClampNeg)), .int (r3.2.1 1002 (x2.toNatClampNeg))]) rfl rfl (Nat.le_of_ble_eq_true rfl) (Nat.le_of_ble_eq_true rfl) (Nat.le_of_ble_eq_true rfl) (Nat.le_of_ble_eq_true rfl) ?_
      refine mj_istore (lv2 := [(4, .int r4), (3, .int r3.1), (0, .ref 950), (1, .int x1), (2, .int x2)]) dX13_create_80 (by decide) rfl ?_
      refine mj_aload_n dX13_create_82 2 rfl ?_
      refine mj_iconst (v := 5) dX13_create_83 (by decide) ?_
      refine mj_iload_n dX13_create_84 1 rfl ?_
      refine mj_i2l (v := r3.1.toInt64) dX13_create_85 rfl ?_
      refine t_bndK hk (fun r5 er5 hk => ?_)
      refine t_callViE dX13_create_86 M_X13_push (C_X13_push _ _ _ _ er5) ML_X13_869 IM_X13_push SE_X13_push qc_950 rfl (As := [.int 5, .long r3.1.toInt64]) rfl rfl (Nat.le_of_ble_eq_true rfl) (Nat.le_of_ble_eq_true rfl) (Nat.le_of_ble_eq_true rfl) (Nat.le_of_ble_eq_true rfl) ?_
      refine mj_istore (lv2 := [(5, .int r5.1), (4, .int r4), (3, .int r3.1), (0, .ref 950), (1, .int x1), (2, .int x2)]) dX13_create_89 (by decide) rfl ?_
      refine mj_aload_n dX13_create_91 3 rfl ?_
      refine mj_aload_n dX13_create_92 3 rfl ?_
      refine mj_iload_n dX13_create_93 4 rfl ?_
      refine mj_aload_n dX13_create_94 3 rfl ?_
      refine t_getR 1001 dX13_create_95 F_X13_165 qr_950_79 ?_
      refine mj_iload_n dX13_create_98 5 rfl ?_
      refine t_iald dX13_create_99 qa_1001 (t_ixv c0) ?_
      refine mj_iload dX13_create_100 1 rfl ?_
      refine t_bndK hk (fun r6 er6 hk => ?_)
      refine t_callViP dX13_create_102 M_X13_typeAt (C_X13_typeAt _ _ _ _ _ er6) ML_X13_1343 IM_X13_typeAt SE_X13_typeAt qc_950 rfl (As := [.int x1, .int (r5.2.1 1001 (x2.toNatClampNeg)), .int r4]) rfl rfl (Nat.le_of_ble_eq_true rfl) (Nat.le_of_ble_eq_true rfl) (Nat.le_of_ble_eq_true rfl) (Nat.le_of_ble_eq_true rfl) ?_
      refine mj_iload dX13_create_105 0 rfl ?_
      refine t_bndK hk (fun r7 er7 hk => ?_)
      refine t_callVvE dX13_create_107 M_X13_checkType (C_X13_checkType _ _ _ _ er7) ML_X13_1321 IM_X13_checkType SE_X13_checkType qc_950 rfl (As := [.int r6, .int r5.1]) rfl rfl (Nat.le_of_ble_eq_true rfl) (Nat.le_of_ble_eq_true rfl) (Nat.le_of_ble_eq_true rfl) (Nat.le_of_ble_eq_true rfl) ?_
      refine mj_aload_n dX13_create_110 3 rfl ?_
      refine t_getI dX13_create_111 F_X13_842 qf_950_97 ?_
      refine mj_if_eq 128 dX13_create_114 (by decide) (fun z => t_posK hk z (fun hk => ?_)) (fun z => t_negK hk z (fun hk => ?_))
      · refine mj_aload_n dX13_create_128 3 rfl ?_
        refine mj_bipush (v := 8) dX13_create_129 (by decide) ?_
        refine mj_iload_n dX13_create_131 2 rfl ?_
        refine mj_aload_n dX13_create_132 3 rfl ?_
        refine t_getR 1035 dX13_create_133 F_X13_273 qr_950_150 ?_
        refine mj_iload_n dX13_create_136 2 rfl ?_
        refine t_chkK hk (fun c7 hk => ?_)
        refine t_iald dX13_create_137 qa_1035 (t_ixv c7) ?_
        refine mj_iconst (v := (-1)) dX13_create_138 (by decide) ?_
        refine t_bndK hk (fun r9 er9 hk => ?_)
        refine t_callVvE dX13_create_139 M_X13_note (C_X13_note _ _ _ _ _ _ er9) ML_X13_1305 IM_X13_note SE_X13_note qc_950 rfl (As := [.int 8, .int r3.1, .int (r7.1 1035 (r3.1.toNatClampNeg)), .int (-1)]) rfl rfl (Nat.le_of_ble_eq_true rfl) (Nat.le_of_ble_eq_true rfl) (Nat.le_of_ble_eq_true rfl) (Nat.le_of_ble_eq_true rfl) ?_
        refine mj_aload_n dX13_create_142 3 rfl ?_
        refine mj_iload_n dX13_create_143 4 rfl ?_
        refine mj_iload dX13_create_144 1 rfl ?_
        refine t_bndK hk (fun r10 er10 hk => ?_)
        refine t_callVvE dX13_create_146 M_X13_tellVar (C_X13_tellVar _ _ _ _ er10) ML_X13_1346 IM_X13_tellVar SE_X13_tellVar qc_950 rfl (As := [.int x1, .int r4]) rfl rfl (Nat.le_of_ble_eq_true rfl) (Nat.le_of_ble_eq_true rfl) (Nat.le_of_ble_eq_true rfl) (Nat.le_of_ble_eq_true rfl) ?_
        refine mj_aload_n dX13_create_149 3 rfl ?_
        refine mj_iload dX13_create_150 0 rfl ?_
        refine mj_aload_n dX13_create_152 3 rfl ?_
        refine mj_iload_n dX13_create_153 4 rfl ?_
        refine mj_iload dX13_create_154 1 rfl ?_
        refine t_bndK hk (fun r11 er11 hk => ?_)
        refine t_callViP dX13_create_156 M_X13_placeSlot (C_X13_placeSlot _ _ _ _ er11) ML_X13_1349 IM_X13_placeSlot SE_X13_placeSlot qc_950 rfl (As := [.int x1, .int r4]) rfl rfl (Nat.le_of_ble_eq_true rfl) (Nat.le_of_ble_eq_true rfl) (Nat.le_of_ble_eq_true rfl) (Nat.le_of_ble_eq_true rfl) ?_
        refine t_bndK hk (fun r12 er12 hk => ?_)
        refine t_callVvE dX13_create_159 M_X13_copy (C_X13_copy _ _ _ _ er12) ML_X13_861 IM_X13_copy SE_X13_copy qc_950 rfl (As := [.int r5.1, .int r11]) rfl rfl (Nat.le_of_ble_eq_true rfl) (Nat.le_of_ble_eq_true rfl) (Nat.le_of_ble_eq_true rfl) (Nat.le_of_ble_eq_true rfl) ?_
        exact t_somK hk (fun hf => t_vret dX13_create_162 rfl ⟨rfl, hf⟩ (Nat.le_of_ble_eq_true rfl) (Nat.le_of_ble_eq_true rfl))
      · refine mj_aload_n dX13_create_117 3 rfl ?_
        refine mj_dup dX13_create_118 rfl ?_
        refine t_getI dX13_create_119 F_X13_1315 qf_950_149 ?_
        refine mj_iconst (v := 1) dX13_create_122 (by decide) ?_
        refine mj_isub dX13_create_123 ?_
        refine t_putIK dX13_create_124 F_X13_1315 qf_950_149 rfl (fun s1 ws1 => t_letE hk ws1 (fun hk => ?_))
        exact t_somK hk (fun hf => t_vret dX13_create_127 rfl ⟨rfl, hf⟩ (Nat.le_of_ble_eq_true rfl) (Nat.le_of_ble_eq_true rfl))
    · refine mj_aload_n dX13_create_47 1 rfl ?_
      refine mj_dup dX13_create_48 rfl ?_
      refine t_getI dX13_create_49 F_X13_1315 qf_950_149 ?_
      refine mj_iconst (v := 1) dX13_create_52 (by decide) ?_
      refine mj_isub dX13_create_53 ?_
      refine t_putIK dX13_create_54 F_X13_1315 qf_950_149 rfl (fun s2 ws2 => t_letE hk ws2 (fun hk => ?_))
      exact t_somK hk (fun hf => t_vret dX13_create_57 rfl ⟨rfl, hf⟩ (Nat.le_of_ble_eq_true rfl) (Nat.le_of_ble_eq_true rfl))
  · refine mj_aload_n dX13_create_9 0 rfl ?_
    refine mj_bipush (v := 7) dX13_create_10 (by decide) ?_
    refine t_bndK hk (fun r13 er13 hk => ?_)
    refine t_callVvE dX13_create_12 M_X13_error (C_X13_error _ _ _ er13) ML_X13_866 IM_X13_error SE_X13_error qc_950 rfl (As := [.int 7]) rfl rfl (Nat.le_of_ble_eq_true rfl) (Nat.le_of_ble_eq_true rfl) (Nat.le_of_ble_eq_true rfl) (Nat.le_of_ble_eq_true rfl) ?_
    exact t_somK hk (fun hf => t_vret dX13_create_15 rfl ⟨rfl, hf⟩ (Nat.le_of_ble_eq_true rfl) (Nat.le_of_ble_eq_true rfl))

