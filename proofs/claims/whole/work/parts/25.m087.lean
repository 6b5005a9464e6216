/-! Methods as functions, 87: X13_readText, X13_readValue -/
theorem qa_1024 : t_oka 1024 2 8600 = true := by decide +kernel
theorem qa_1025 : t_oka 1025 1 20 = true := by decide +kernel
theorem qr_950_130 : t_okr 950 13 130 1024 = true := by decide +kernel
theorem qr_950_131 : t_okr 950 13 131 1025 = true := by decide +kernel
theorem dX13_readText_0 : decode cX13_readText 0 = .ok (.aload_n 0, 1) := by decide +kernel
theorem dX13_readText_1 : decode cX13_readText 1 = .ok (.getfield 32, 3) := by decide +kernel
theorem dX13_readText_101 : decode cX13_readText 101 = .ok (.iload 6, 2) := by decide +kernel
theorem dX13_readText_103 : decode cX13_readText 103 = .ok (.lload_n 3, 1) := by decide +kernel
theorem dX13_readText_104 : decode cX13_readText 104 = .ok (.invokestatic 845, 3) := by decide +kernel
theorem dX13_readText_107 : decode cX13_readText 107 = .ok (.if_icmp .ge 14, 3) := by decide +kernel
theorem dX13_readText_11 : decode cX13_readText 11 = .ok (.iload_n 1, 1) := by decide +kernel
theorem dX13_readText_110 : decode cX13_readText 110 = .ok (.aload_n 0, 1) := by decide +kernel
theorem dX13_readText_111 : decode cX13_readText 111 = .ok (.lconst 0, 1) := by decide +kernel
theorem dX13_readText_112 : decode cX13_readText 112 = .ok (.invokevirtual 1192, 3) := by decide +kernel
theorem dX13_readText_115 : decode cX13_readText 115 = .ok (.iinc 6 1, 3) := by decide +kernel
theorem dX13_readText_118 : decode cX13_readText 118 = .ok (.goto (-17), 3) := by decide +kernel
theorem dX13_readText_12 : decode cX13_readText 12 = .ok (.laload, 1) := by decide +kernel
theorem dX13_readText_121 : decode cX13_readText 121 = .ok (.iconst 0, 1) := by decide +kernel
theorem dX13_readText_122 : decode cX13_readText 122 = .ok (.istore 6, 2) := by decide +kernel
theorem dX13_readText_124 : decode cX13_readText 124 = .ok (.iload 6, 2) := by decide +kernel
theorem dX13_readText_126 : decode cX13_readText 126 = .ok (.lload_n 3, 1) := by decide +kernel
theorem dX13_readText_127 : decode cX13_readText 127 = .ok (.l2i, 1) := by decide +kernel
theorem dX13_readText_128 : decode cX13_readText 128 = .ok (.if_icmp .ge 93, 3) := by decide +kernel
theorem dX13_readText_13 : decode cX13_readText 13 = .ok (.aload_n 0, 1) := by decide +kernel
theorem dX13_readText_131 : decode cX13_readText 131 = .ok (.aload_n 0, 1) := by decide +kernel
theorem dX13_readText_132 : decode cX13_readText 132 = .ok (.getfield 1155, 3) := by decide +kernel
theorem dX13_readText_135 : decode cX13_readText 135 = .ok (.iconst (-1), 1) := by decide +kernel
theorem dX13_readText_136 : decode cX13_readText 136 = .ok (.if_icmp .ne 85, 3) := by decide +kernel
theorem dX13_readText_139 : decode cX13_readText 139 = .ok (.aload_n 0, 1) := by decide +kernel
theorem dX13_readText_14 : decode cX13_readText 14 = .ok (.getfield 32, 3) := by decide +kernel
theorem dX13_readText_140 : decode cX13_readText 140 = .ok (.getfield 1158, 3) := by decide +kernel
theorem dX13_readText_143 : decode cX13_readText 143 = .ok (.istore 7, 2) := by decide +kernel
theorem dX13_readText_145 : decode cX13_readText 145 = .ok (.bipush 32, 2) := by decide +kernel
theorem dX13_readText_147 : decode cX13_readText 147 = .ok (.aload_n 0, 1) := by decide +kernel
theorem dX13_readText_148 : decode cX13_readText 148 = .ok (.bipush 7, 2) := by decide +kernel
theorem dX13_readText_150 : decode cX13_readText 150 = .ok (.invokevirtual 1195, 3) := by decide +kernel
theorem dX13_readText_153 : decode cX13_readText 153 = .ok (.l2i, 1) := by decide +kernel
theorem dX13_readText_154 : decode cX13_readText 154 = .ok (.iadd, 1) := by decide +kernel
theorem dX13_readText_155 : decode cX13_readText 155 = .ok (.istore 8, 2) := by decide +kernel
theorem dX13_readText_157 : decode cX13_readText 157 = .ok (.aload_n 0, 1) := by decide +kernel
theorem dX13_readText_158 : decode cX13_readText 158 = .ok (.getfield 1155, 3) := by decide +kernel
theorem dX13_readText_161 : decode cX13_readText 161 = .ok (.iconst (-1), 1) := by decide +kernel
theorem dX13_readText_162 : decode cX13_readText 162 = .ok (.if_icmp .ne 23, 3) := by decide +kernel
theorem dX13_readText_165 : decode cX13_readText 165 = .ok (.iload 8, 2) := by decide +kernel
theorem dX13_readText_167 : decode cX13_readText 167 = .ok (.bipush 126, 2) := by decide +kernel
theorem dX13_readText_169 : decode cX13_readText 169 = .ok (.if_icmp .gt 10, 3) := by decide +kernel
theorem dX13_readText_17 : decode cX13_readText 17 = .ok (.iload_n 1, 1) := by decide +kernel
theorem dX13_readText_172 : decode cX13_readText 172 = .ok (.iload 8, 2) := by decide +kernel
theorem dX13_readText_174 : decode cX13_readText 174 = .ok (.bipush 34, 2) := by decide +kernel
theorem dX13_readText_176 : decode cX13_readText 176 = .ok (.if_icmp .ne 9, 3) := by decide +kernel
theorem dX13_readText_179 : decode cX13_readText 179 = .ok (.aload_n 0, 1) := by decide +kernel
theorem dX13_readText_18 : decode cX13_readText 18 = .ok (.laload, 1) := by decide +kernel
theorem dX13_readText_180 : decode cX13_readText 180 = .ok (.iload 7, 2) := by decide +kernel
theorem dX13_readText_182 : decode cX13_readText 182 = .ok (.invokevirtual 1161, 3) := by decide +kernel
theorem dX13_readText_185 : decode cX13_readText 185 = .ok (.aload_n 0, 1) := by decide +kernel
theorem dX13_readText_186 : decode cX13_readText 186 = .ok (.getfield 185, 3) := by decide +kernel
theorem dX13_readText_189 : decode cX13_readText 189 = .ok (.iload 5, 2) := by decide +kernel
theorem dX13_readText_19 : decode cX13_readText 19 = .ok (.lsub, 1) := by decide +kernel
theorem dX13_readText_191 : decode cX13_readText 191 = .ok (.iconst 2, 1) := by decide +kernel
theorem dX13_readText_192 : decode cX13_readText 192 = .ok (.iadd, 1) := by decide +kernel
theorem dX13_readText_193 : decode cX13_readText 193 = .ok (.iload 6, 2) := by decide +kernel
theorem dX13_readText_195 : decode cX13_readText 195 = .ok (.bipush 8, 2) := by decide +kernel
theorem dX13_readText_197 : decode cX13_readText 197 = .ok (.idiv, 1) := by decide +kernel
theorem dX13_readText_198 : decode cX13_readText 198 = .ok (.iadd, 1) := by decide +kernel
theorem dX13_readText_199 : decode cX13_readText 199 = .ok (.dup2, 1) := by decide +kernel
theorem dX13_readText_20 : decode cX13_readText 20 = .ok (.invokestatic 1135, 3) := by decide +kernel
theorem dX13_readText_200 : decode cX13_readText 200 = .ok (.laload, 1) := by decide +kernel
theorem dX13_readText_201 : decode cX13_readText 201 = .ok (.iload 8, 2) := by decide +kernel
theorem dX13_readText_203 : decode cX13_readText 203 = .ok (.i2l, 1) := by decide +kernel
theorem dX13_readText_204 : decode cX13_readText 204 = .ok (.bipush 8, 2) := by decide +kernel
theorem dX13_readText_206 : decode cX13_readText 206 = .ok (.iload 6, 2) := by decide +kernel
theorem dX13_readText_208 : decode cX13_readText 208 = .ok (.bipush 8, 2) := by decide +kernel
theorem dX13_readText_210 : decode cX13_readText 210 = .ok (.irem, 1) := by decide +kernel
theorem dX13_readText_211 : decode cX13_readText 211 = .ok (.imul, 1) := by decide +kernel
theorem dX13_readText_212 : decode cX13_readText 212 = .ok (.lshl, 1) := by decide +kernel
theorem dX13_readText_213 : decode cX13_readText 213 = .ok (.lor, 1) := by decide +kernel
theorem dX13_readText_214 : decode cX13_readText 214 = .ok (.lastore, 1) := by decide +kernel
theorem dX13_readText_215 : decode cX13_readText 215 = .ok (.iinc 6 1, 3) := by decide +kernel
theorem dX13_readText_218 : decode cX13_readText 218 = .ok (.goto (-94), 3) := by decide +kernel
theorem dX13_readText_221 : decode cX13_readText 221 = .ok (.return_, 1) := by decide +kernel
theorem dX13_readText_23 : decode cX13_readText 23 = .ok (.invokevirtual 1195, 3) := by decide +kernel
theorem dX13_readText_26 : decode cX13_readText 26 = .ok (.ladd, 1) := by decide +kernel
theorem dX13_readText_27 : decode cX13_readText 27 = .ok (.lstore_n 3, 1) := by decide +kernel
theorem dX13_readText_28 : decode cX13_readText 28 = .ok (.aload_n 0, 1) := by decide +kernel
theorem dX13_readText_29 : decode cX13_readText 29 = .ok (.getfield 1155, 3) := by decide +kernel
theorem dX13_readText_32 : decode cX13_readText 32 = .ok (.iconst (-1), 1) := by decide +kernel
theorem dX13_readText_33 : decode cX13_readText 33 = .ok (.if_icmp .ne 19, 3) := by decide +kernel
theorem dX13_readText_36 : decode cX13_readText 36 = .ok (.lload_n 3, 1) := by decide +kernel
theorem dX13_readText_37 : decode cX13_readText 37 = .ok (.aload_n 0, 1) := by decide +kernel
theorem dX13_readText_38 : decode cX13_readText 38 = .ok (.getfield 36, 3) := by decide +kernel
theorem dX13_readText_4 : decode cX13_readText 4 = .ok (.iload_n 1, 1) := by decide +kernel
theorem dX13_readText_41 : decode cX13_readText 41 = .ok (.iload_n 1, 1) := by decide +kernel
theorem dX13_readText_42 : decode cX13_readText 42 = .ok (.laload, 1) := by decide +kernel
theorem dX13_readText_43 : decode cX13_readText 43 = .ok (.lcmp, 1) := by decide +kernel
theorem dX13_readText_44 : decode cX13_readText 44 = .ok (.ifCond .le 8, 3) := by decide +kernel
theorem dX13_readText_47 : decode cX13_readText 47 = .ok (.aload_n 0, 1) := by decide +kernel
theorem dX13_readText_48 : decode cX13_readText 48 = .ok (.iload_n 2, 1) := by decide +kernel
theorem dX13_readText_49 : decode cX13_readText 49 = .ok (.invokevirtual 1161, 3) := by decide +kernel
theorem dX13_readText_5 : decode cX13_readText 5 = .ok (.laload, 1) := by decide +kernel
theorem dX13_readText_52 : decode cX13_readText 52 = .ok (.aload_n 0, 1) := by decide +kernel
theorem dX13_readText_53 : decode cX13_readText 53 = .ok (.getfield 1155, 3) := by decide +kernel
theorem dX13_readText_56 : decode cX13_readText 56 = .ok (.iconst (-1), 1) := by decide +kernel
theorem dX13_readText_57 : decode cX13_readText 57 = .ok (.if_icmp .eq 4, 3) := by decide +kernel
theorem dX13_readText_6 : decode cX13_readText 6 = .ok (.aload_n 0, 1) := by decide +kernel
theorem dX13_readText_60 : decode cX13_readText 60 = .ok (.return_, 1) := by decide +kernel
theorem dX13_readText_61 : decode cX13_readText 61 = .ok (.aload_n 0, 1) := by decide +kernel
theorem dX13_readText_62 : decode cX13_readText 62 = .ok (.lload_n 3, 1) := by decide +kernel
theorem dX13_readText_63 : decode cX13_readText 63 = .ok (.invokestatic 845, 3) := by decide +kernel
theorem dX13_readText_66 : decode cX13_readText 66 = .ok (.i2l, 1) := by decide +kernel
theorem dX13_readText_67 : decode cX13_readText 67 = .ok (.iload_n 2, 1) := by decide +kernel
theorem dX13_readText_68 : decode cX13_readText 68 = .ok (.invokevirtual 1186, 3) := by decide +kernel
theorem dX13_readText_7 : decode cX13_readText 7 = .ok (.aload_n 0, 1) := by decide +kernel
theorem dX13_readText_71 : decode cX13_readText 71 = .ok (.aload_n 0, 1) := by decide +kernel
theorem dX13_readText_72 : decode cX13_readText 72 = .ok (.getfield 1155, 3) := by decide +kernel
theorem dX13_readText_75 : decode cX13_readText 75 = .ok (.iconst (-1), 1) := by decide +kernel
theorem dX13_readText_76 : decode cX13_readText 76 = .ok (.if_icmp .eq 4, 3) := by decide +kernel
theorem dX13_readText_79 : decode cX13_readText 79 = .ok (.return_, 1) := by decide +kernel
theorem dX13_readText_8 : decode cX13_readText 8 = .ok (.getfield 36, 3) := by decide +kernel
theorem dX13_readText_80 : decode cX13_readText 80 = .ok (.aload_n 0, 1) := by decide +kernel
theorem dX13_readText_81 : decode cX13_readText 81 = .ok (.getfield 1152, 3) := by decide +kernel
theorem dX13_readText_84 : decode cX13_readText 84 = .ok (.istore 5, 2) := by decide +kernel
theorem dX13_readText_86 : decode cX13_readText 86 = .ok (.aload_n 0, 1) := by decide +kernel
theorem dX13_readText_87 : decode cX13_readText 87 = .ok (.ldc2_w 994, 3) := by decide +kernel
theorem dX13_readText_90 : decode cX13_readText 90 = .ok (.invokevirtual 1192, 3) := by decide +kernel
theorem dX13_readText_93 : decode cX13_readText 93 = .ok (.aload_n 0, 1) := by decide +kernel
theorem dX13_readText_94 : decode cX13_readText 94 = .ok (.lload_n 3, 1) := by decide +kernel
theorem dX13_readText_95 : decode cX13_readText 95 = .ok (.invokevirtual 1192, 3) := by decide +kernel
theorem dX13_readText_98 : decode cX13_readText 98 = .ok (.iconst 0, 1) := by decide +kernel
theorem dX13_readText_99 : decode cX13_readText 99 = .ok (.istore 6, 2) := by decide +kernel
noncomputable def k_X13_readText_185 (l3 : Int64) (l5 : Int32) (l6 : Int32) (l8 : Int32) (s : t_S) : Option ((Int64 × Int32 × Int32 × t_S) ⊕ (t_S)) :=
 if t_ix ((l5 + (2 : Int32)) + (l6 / (8 : Int32))) 8600 = true then
  t_let (t_setJ s 1007 (((l5 + (2 : Int32)) + (l6 / (8 : Int32))).toNatClampNeg) ((s.2.1 1007 (((l5 + (2 : Int32)) + (l6 / (8 : Int32))).toNatClampNeg)) ||| (l8.toInt64 <<< (((8 : Int32) * (l6 - l6 / (8 : Int32) * (8 : Int32))).toInt64 &&& 63)))) (fun s1 =>
 some (.inl (l3, l5, (l6 + 1), s1)))
else none
set_option maxRecDepth 4000 in
set_option maxHeartbeats 1000000 in
theorem B_X13_readText_185 {D : va_G} {cy : Nat → ClassId} {ad : Nat → Nat} {bs : Nat} {X : State → Heap → Prop} (l3 : Int64) (l5 : Int32) (l6 : Int32) (l8 : Int32) (s : t_S) (Q : (Int64 × Int32 × Int32 × t_S) ⊕ (t_S) → Prop) (Hb124 : ∀ (y0 : Int64) (y1 : Int32) (y2 : Int32) (y3 : t_S), Q (.inl (y0, y1, y2, y3)) → mj_G D cy ad bs X cX13_readText 9 yX13_readText.cls none yX13_readText.name 2 0 0 1065 (t_P (fun v s' => v = none ∧ Q (.inr (s')))) 124 [(0, .ref 950), (3, .long (y0)), (5, .int (y1)), (6, .int (y2))] [] (t_m y3) 1065 0 0) (hk : t_hk (k_X13_readText_185 l3 l5 l6 l8 s) Q) : mj_G D cy ad bs X cX13_readText 9 yX13_readText.cls none yX13_readText.name 2 0 0 1065 (t_P (fun v s' => v = none ∧ Q (.inr (s')))) 185 [(0, .ref 950), (3, .long l3), (5, .int l5), (6, .int l6), (8, .int l8)] [] (t_m s) 1065 0 0 := by
  refine mj_aload_n dX13_readText_185 0 rfl ?_
  refine t_getR 1007 dX13_readText_186 F_X13_185 qr_950_99 ?_
  refine mj_iload dX13_readText_189 2 rfl ?_
  refine mj_iconst (v := 2) dX13_readText_191 (by decide) ?_
  refine mj_iadd dX13_readText_192 ?_
  refine mj_iload dX13_readText_193 3 rfl ?_
  refine mj_bipush (v := 8) dX13_readText_195 (by decide) ?_
  refine mj_idiv dX13_readText_197 (by decide) ?_
  refine mj_iadd dX13_readText_198 ?_
  refine mj_dup2 dX13_readText_199 rfl rfl ?_
  refine t_chkK hk (fun c0 hk => ?_)
  refine t_lald dX13_readText_200 qa_1007 (t_ixv c0) ?_
  refine mj_iload dX13_readText_201 4 rfl ?_
  refine mj_i2l (v := l8.toInt64) dX13_readText_203 rfl ?_
  refine mj_bipush (v := 8) dX13_readText_204 (by decide) ?_
  refine mj_iload dX13_readText_206 3 rfl ?_
  refine mj_bipush (v := 8) dX13_readText_208 (by decide) ?_
  refine mj_irem dX13_readText_210 (by decide) ?_
  refine mj_imul dX13_readText_211 ?_
  refine mj_lshl dX13_readText_212 rfl ?_
  refine mj_lor dX13_readText_213 ?_
  refine t_lastK dX13_readText_214 qa_1007 (t_ixv c0) (fun s1 ws1 => t_letE hk ws1 (fun hk => ?_))
  refine mj_iinc (k := 3) (v := (l6 + 1)) (lv2 := [(6, .int (l6 + 1)), (0, .ref 950), (3, .long l3), (5, .int l5), (8, .int l8)]) dX13_readText_215 rfl rfl (by decide) rfl ?_
  refine mj_goto 124 dX13_readText_218 (by decide) ?_
  refine mj_sublv [(0, .ref 950), (3, .long l3), (5, .int l5), (6, .int (l6 + 1))] [1, 2, 3, 0] rfl ?_
  exact t_somK hk (fun hf => Hb124 l3 l5 (l6 + 1) s1 hf)
noncomputable def k_X13_readText_179 (l3 : Int64) (l5 : Int32) (l6 : Int32) (l7 : Int32) (l8 : Int32) (s : t_S) : Option ((Int64 × Int32 × Int32 × t_S) ⊕ (t_S)) :=
 (f_X13_wrongBit l7 s).bind (fun r1 =>
 k_X13_readText_185 l3 l5 l6 l8 r1)
set_option maxRecDepth 4000 in
set_option maxHeartbeats 1000000 in
theorem B_X13_readText_179 {D : va_G} {cy : Nat → ClassId} {ad : Nat → Nat} {bs : Nat} {X : State → Heap → Prop} (l3 : Int64) (l5 : Int32) (l6 : Int32) (l7 : Int32) (l8 : Int32) (s : t_S) (Q : (Int64 × Int32 × Int32 × t_S) ⊕ (t_S) → Prop) (Hb124 : ∀ (y0 : Int64) (y1 : Int32) (y2 : Int32) (y3 : t_S), Q (.inl (y0, y1, y2, y3)) → mj_G D cy ad bs X cX13_readText 9 yX13_readText.cls none yX13_readText.name 2 0 0 1065 (t_P (fun v s' => v = none ∧ Q (.inr (s')))) 124 [(0, .ref 950), (3, .long (y0)), (5, .int (y1)), (6, .int (y2))] [] (t_m y3) 1065 0 0) (hk : t_hk (k_X13_readText_179 l3 l5 l6 l7 l8 s) Q) : mj_G D cy ad bs X cX13_readText 9 yX13_readText.cls none yX13_readText.name 2 0 0 1065 (t_P (fun v s' => v = none ∧ Q (.inr (s')))) 179 [(0, .ref 950), (3, .long l3), (5, .int l5), (6, .int l6), (7, .int l7), (8, .int l8)] [] (t_m s) 1065 0 0 := by
  refine mj_aload_n dX13_readText_179 0 rfl ?_
  refine mj_iload dX13_readText_180 4 rfl ?_
  refine t_bndK hk (fun r1 er1 hk => ?_)
  refine t_callVvE dX13_readText_182 M_X13_wrongBit (C_X13_wrongBit _ _ _ er1) ML_X13_1161 IM_X13_wrongBit SE_X13_wrongBit qc_950 rfl (As := [.int l7]) rfl rfl (Nat.le_of_ble_eq_true rfl) (Nat.le_of_ble_eq_true rfl) (Nat.le_of_ble_eq_true rfl) (Nat.le_of_ble_eq_true rfl) ?_
  refine mj_sublv [(0, .ref 950), (3, .long l3), (5, .int l5), (6, .int l6), (8, .int l8)] [0, 1, 2, 3, 5] rfl ?_
  exact B_X13_readText_185 _ _ _ _ _ _ (fun y0 y1 y2 y3 hx => Hb124 y0 y1 y2 y3 hx) hk
noncomputable def k_X13_readText_124 (l3 : Int64) (l5 : Int32) (l6 : Int32) (s : t_S) : Option ((Int64 × Int32 × Int32 × t_S) ⊕ (t_S)) :=
 if l3.toInt32 ≤ l6 then ((some (s)).map Sum.inr)
 else (if (s.1 950 127) = (-1 : Int32) then ((f_X13_take (7 : Int32) s).bind (fun r1 =>
 if (r1.2.1 950 127) = (-1 : Int32) then (if (126 : Int32) < ((32 : Int32) + r1.1.toInt32) then (k_X13_readText_179 l3 l5 l6 (s.1 950 126) ((32 : Int32) + r1.1.toInt32) r1.2)
 else (if ((32 : Int32) + r1.1.toInt32) = (34 : Int32) then (k_X13_readText_179 l3 l5 l6 (s.1 950 126) ((32 : Int32) + r1.1.toInt32) r1.2)
 else (k_X13_readText_185 l3 l5 l6 ((32 : Int32) + r1.1.toInt32) r1.2)))
 else (k_X13_readText_185 l3 l5 l6 ((32 : Int32) + r1.1.toInt32) r1.2)))
 else ((some (s)).map Sum.inr))
set_option maxRecDepth 4000 in
set_option maxHeartbeats 1000000 in
theorem B_X13_readText_124 {D : va_G} {cy : Nat → ClassId} {ad : Nat → Nat} {bs : Nat} {X : State → Heap → Prop} (l3 : Int64) (l5 : Int32) (l6 : Int32) (s : t_S) (Q : (Int64 × Int32 × Int32 × t_S) ⊕ (t_S) → Prop) (Hb124 : ∀ (y0 : Int64) (y1 : Int32) (y2 : Int32) (y3 : t_S), Q (.inl (y0, y1, y2, y3)) → mj_G D cy ad bs X cX13_readText 9 yX13_readText.cls none yX13_readText.name 2 0 0 1065 (t_P (fun v s' => v = none ∧ Q (.inr (s')))) 124 [(0, .ref 950), (3, .long (y0)), (5, .int (y1)), (6, .int (y2))] [] (t_m y3) 1065 0 0) (hk : t_hk (k_X13_readText_124 l3 l5 l6 s) Q) : mj_G D cy ad bs X cX13_readText 9 yX13_readText.cls none yX13_readText.name 2 0 0 1065 (t_P (fun v s' => v = none ∧ Q (.inr (s')))) 124 [(0, .ref 950), (3, .long l3), (5, .int l5), (6, .int l6)] [] (t_m s) 1065 0 0 := by
  refine mj_iload dX13_readText_124 3 rfl ?_
  refine mj_lload_n dX13_readText_126 1 rfl ?_
  refine mj_l2i (v := l3.toInt32) dX13_readText_127 rfl ?_
  refine mj_icmp_ge 221 dX13_readText_128 (by decide) (fun z => t_posK hk z (fun hk => ?_)) (fun z => t_negK hk z (fun hk => ?_))
  · refine t_mapK hk (fun hk => ?_)
    exact t_somK hk (fun hf => t_vret dX13_readText_221 rfl ⟨rfl, hf⟩ (Nat.le_of_ble_eq_true rfl) (Nat.le_of_ble_eq_true rfl))
  · refine mj_aload_n dX13_readText_131 0 rfl ?_
    refine t_getI dX13_readText_132 F_X13_1155 qf_950_127 ?_
    refine mj_iconst (v := (-1)) dX13_readText_135 (by decide) ?_
    refine mj_icmp_ne 221 dX13_readText_136 (by decide) (fun z => t_negK hk z (fun hk => ?_)) (fun z => t_posK hk z (fun hk => ?_))
    · refine t_mapK hk (fun hk => ?_)
      exact t_somK hk (fun hf => t_vret dX13_readText_221 rfl ⟨rfl, hf⟩ (Nat.le_of_ble_eq_true rfl) (Nat.le_of_ble_eq_true rfl))
    · refine mj_aload_n dX13_readText_139 0 rfl ?_
      refine t_getI dX13_readText_140 F_X13_1158 qf_950_126 ?_
      refine mj_istore (lv2 := [(7, .int (s.1 950 126)), (0, .ref 950), (3, .long l3), (5, .int l5), (6, .int l6)]) dX13_readText_143 (by decide) rfl ?_
      refine mj_bipush (v := 32) dX13_readText_145 (by decide) ?_
      refine mj_aload_n dX13_readText_147 1 rfl ?_
      refine mj_bipush (v := 7) dX13_readText_148 (by decide) ?_
      refine t_bndK hk (fun r1 er1 hk => ?_)
      refine t_callVlE dX13_readText_150 M_X13_take (C_X13_take _ _ _ er1) ML_X13_1195 IM_X13_take SE_X13_take qc_950 rfl (As := [.int 7]) rfl rfl (Nat.le_of_ble_eq_true rfl) (Nat.le_of_ble_eq_true rfl) (Nat.le_of_ble_eq_true rfl) (Nat.le_of_ble_eq_true rfl) ?_
      refine mj_l2i (v := r1.1.toInt32) dX13_readText_153 rfl ?_
      refine mj_iadd dX13_readText_154 ?_
      refine mj_istore (lv2 := [(8, .int ((32 : Int32) + r1.1.toInt32)), (7, .int (s.1 950 126)), (0, .ref 950), (3, .long l3), (5, .int l5), (6, .int l6)]) dX13_readText_155 (by decide) rfl ?_
      refine mj_aload_n dX13_readText_157 2 rfl ?_
      refine t_getI dX13_readText_158 F_X13_1155 qf_950_127 ?_
      refine mj_iconst (v := (-1)) dX13_readText_161 (by decide) ?_
      refine mj_icmp_ne 185 dX13_readText_162 (by decide) (fun z => t_negK hk z (fun hk => ?_)) (fun z => t_posK hk z (fun hk => ?_))
      · refine mj_sublv [(0, .ref 950), (3, .long l3), (5, .int l5), (6, .int l6), (8, .int ((32 : Int32) + r1.1.toInt32))] [2, 3, 4, 5, 0] rfl ?_
        exact B_X13_readText_185 _ _ _ _ _ _ (fun y0 y1 y2 y3 hx => Hb124 y0 y1 y2 y3 hx) hk
      · refine mj_iload dX13_readText_165 0 rfl ?_
        refine mj_bipush (v := 126) dX13_readText_167 (by decide) ?_
        refine mj_icmp_gt 179 dX13_readText_169 (by decide) (fun z => t_posK hk z (fun hk => ?_)) (fun z => t_negK hk z (fun hk => ?_))
        · refine mj_sublv [(0, .ref 950), (3, .long l3), (5, .int l5), (6, .int l6), (7, .int (s.1 950 126)), (8, .int ((32 : Int32) + r1.1.toInt32))] [2, 3, 4, 5, 1, 0] rfl ?_
          exact B_X13_readText_179 _ _ _ _ _ _ _ (fun y0 y1 y2 y3 hx => Hb124 y0 y1 y2 y3 hx) hk
        · refine mj_iload dX13_readText_172 0 rfl ?_
          refine mj_bipush (v := 34) dX13_readText_174 (by decide) ?_
          refine mj_icmp_ne 185 dX13_readText_176 (by decide) (fun z => t_negK hk z (fun hk => ?_)) (fun z => t_posK hk z (fun hk => ?_))
          · refine mj_sublv [(0, .ref 950), (3, .long l3), (5, .int l5), (6, .int l6), (8, .int ((32 : Int32) + r1.1.toInt32))] [2, 3, 4, 5, 0] rfl ?_
            exact B_X13_readText_185 _ _ _ _ _ _ (fun y0 y1 y2 y3 hx => Hb124 y0 y1 y2 y3 hx) hk
          · refine mj_sublv [(0, .ref 950), (3, .long l3), (5, .int l5), (6, .int l6), (7, .int (s.1 950 126)), (8, .int ((32 : Int32) + r1.1.toInt32))] [2, 3, 4, 5, 1, 0] rfl ?_
            exact B_X13_readText_179 _ _ _ _ _ _ _ (fun y0 y1 y2 y3 hx => Hb124 y0 y1 y2 y3 hx) hk
noncomputable def b_X13_readText_124 (x : Int64 × Int32 × Int32 × t_S) : Option ((Int64 × Int32 × Int32 × t_S) ⊕ (t_S)) := k_X13_readText_124 x.1 x.2.1 x.2.2.1 x.2.2.2
set_option maxRecDepth 4000 in
set_option maxHeartbeats 1000000 in
theorem LH_X13_readText_124 {D : va_G} {cy : Nat → ClassId} {ad : Nat → Nat} {bs : Nat} {X : State → Heap → Prop} : ∀ (n : Nat) (y0 : Int64) (y1 : Int32) (y2 : Int32) (y3 : t_S) (Q : t_S → Prop) (hk : t_hk (t_loop (b_X13_readText_124) n (y0, y1, y2, y3)) Q), mj_G D cy ad bs X cX13_readText 9 yX13_readText.cls none yX13_readText.name 2 0 0 1065 (t_P (fun v s' => v = none ∧ Q (s'))) 124 [(0, .ref 950), (3, .long (y0)), (5, .int (y1)), (6, .int (y2))] [] (t_m y3) 1065 0 0 := by
  intro n
  induction n with
  | zero => intro y0 y1 y2 y3 Q hk; obtain ⟨r, hr, _⟩ := hk; cases hr
  | succ n ih =>
    intro y0 y1 y2 y3 Q hk
    exact B_X13_readText_124 y0 y1 y2 y3 (fun y => t_lq (b_X13_readText_124) n Q y) (fun y0' y1' y2' y3' hy => ih y0' y1' y2' y3' Q hy) (t_lp (b := b_X13_readText_124) (n := n) (x := (y0, y1, y2, y3)) hk)
noncomputable def k_X13_readText_101 (l3 : Int64) (l5 : Int32) (l6 : Int32) (s : t_S) : Option ((Int64 × Int32 × Int32 × t_S) ⊕ (t_S)) :=
 (f_X13_packs l3 s).bind (fun r1 =>
 if r1 ≤ l6 then ((t_loop (b_X13_readText_124) t_N (l3, l5, 0, s)).map Sum.inr)
 else ((f_X13_put (0 : Int64) s).bind (fun r2 =>
 some (.inl (l3, l5, (l6 + 1), r2)))))
set_option maxRecDepth 4000 in
set_option maxHeartbeats 1000000 in
theorem B_X13_readText_101 {D : va_G} {cy : Nat → ClassId} {ad : Nat → Nat} {bs : Nat} {X : State → Heap → Prop} (l3 : Int64) (l5 : Int32) (l6 : Int32) (s : t_S) (Q : (Int64 × Int32 × Int32 × t_S) ⊕ (t_S) → Prop) (Hb101 : ∀ (y0 : Int64) (y1 : Int32) (y2 : Int32) (y3 : t_S), Q (.inl (y0, y1, y2, y3)) → mj_G D cy ad bs X cX13_readText 9 yX13_readText.cls none yX13_readText.name 2 0 0 1065 (t_P (fun v s' => v = none ∧ Q (.inr (s')))) 101 [(0, .ref 950), (3, .long (y0)), (5, .int (y1)), (6, .int (y2))] [] (t_m y3) 1065 0 0) (hk : t_hk (k_X13_readText_101 l3 l5 l6 s) Q) : mj_G D cy ad bs X cX13_readText 9 yX13_readText.cls none yX13_readText.name 2 0 0 1065 (t_P (fun v s' => v = none ∧ Q (.inr (s')))) 101 [(0, .ref 950), (3, .long l3), (5, .int l5), (6, .int l6)] [] (t_m s) 1065 0 0 := by
  refine mj_iload dX13_readText_101 3 rfl ?_
  refine mj_lload_n dX13_readText_103 1 rfl ?_
  refine t_bndK hk (fun r1 er1 hk => ?_)
  refine t_callSiP dX13_readText_104 M_X13_packs (C_X13_packs _ _ _ er1) ML_X13_845 SM_X13_packs (As := [.long l3]) rfl rfl (Nat.le_of_ble_eq_true rfl) (Nat.le_of_ble_eq_true rfl) (Nat.le_of_ble_eq_true rfl) (Nat.le_of_ble_eq_true rfl) ?_
  refine mj_icmp_ge 121 dX13_readText_107 (by decide) (fun z => t_posK hk z (fun hk => ?_)) (fun z => t_negK hk z (fun hk => ?_))
  · refine t_mapK hk (fun hk => ?_)
    refine mj_iconst (v := 0) dX13_readText_121 (by decide) ?_
    refine mj_istore (lv2 := [(6, .int 0), (0, .ref 950), (3, .long l3), (5, .int l5)]) dX13_readText_122 (by decide) rfl ?_
    refine mj_sublv [(0, .ref 950), (3, .long l3), (5, .int l5), (6, .int 0)] [1, 2, 3, 0] rfl ?_
    exact LH_X13_readText_124 _ l3 l5 0 s _ hk
  · refine mj_aload_n dX13_readText_110 0 rfl ?_
    refine mj_lconst (v := 0) dX13_readText_111 (by decide) ?_
    refine t_bndK hk (fun r2 er2 hk => ?_)
    refine t_callVvE dX13_readText_112 M_X13_put (C_X13_put _ _ _ er2) ML_X13_1192 IM_X13_put SE_X13_put qc_950 rfl (As := [.long 0]) rfl rfl (Nat.le_of_ble_eq_true rfl) (Nat.le_of_ble_eq_true rfl) (Nat.le_of_ble_eq_true rfl) (Nat.le_of_ble_eq_true rfl) ?_
    refine mj_iinc (k := 3) (v := (l6 + 1)) (lv2 := [(6, .int (l6 + 1)), (0, .ref 950), (3, .long l3), (5, .int l5)]) dX13_readText_115 rfl rfl (by decide) rfl ?_
    refine mj_goto 101 dX13_readText_118 (by decide) ?_
    refine mj_sublv [(0, .ref 950), (3, .long l3), (5, .int l5), (6, .int (l6 + 1))] [1, 2, 3, 0] rfl ?_
    exact t_somK hk (fun hf => Hb101 l3 l5 (l6 + 1) r2 hf)
noncomputable def b_X13_readText_101 (x : Int64 × Int32 × Int32 × t_S) : Option ((Int64 × Int32 × Int32 × t_S) ⊕ (t_S)) := k_X13_readText_101 x.1 x.2.1 x.2.2.1 x.2.2.2
set_option maxRecDepth 4000 in
set_option maxHeartbeats 1000000 in
theorem LH_X13_readText_101 {D : va_G} {cy : Nat → ClassId} {ad : Nat → Nat} {bs : Nat} {X : State → Heap → Prop} : ∀ (n : Nat) (y0 : Int64) (y1 : Int32) (y2 : Int32) (y3 : t_S) (Q : t_S → Prop) (hk : t_hk (t_loop (b_X13_readText_101) n (y0, y1, y2, y3)) Q), mj_G D cy ad bs X cX13_readText 9 yX13_readText.cls none yX13_readText.name 2 0 0 1065 (t_P (fun v s' => v = none ∧ Q (s'))) 101 [(0, .ref 950), (3, .long (y0)), (5, .int (y1)), (6, .int (y2))] [] (t_m y3) 1065 0 0 := by
  intro n
  induction n with
  | zero => intro y0 y1 y2 y3 Q hk; obtain ⟨r, hr, _⟩ := hk; cases hr
  | succ n ih =>
    intro y0 y1 y2 y3 Q hk
    exact B_X13_readText_101 y0 y1 y2 y3 (fun y => t_lq (b_X13_readText_101) n Q y) (fun y0' y1' y2' y3' hy => ih y0' y1' y2' y3' Q hy) (t_lp (b := b_X13_readText_101) (n := n) (x := (y0, y1, y2, y3)) hk)
noncomputable def k_X13_readText_52 (l2 : Int32) (l3 : Int64) (s : t_S) : Option (t_S) :=
 if (s.1 950 127) = (-1 : Int32) then ((f_X13_packs l3 s).bind (fun r1 =>
 (f_X13_weigh r1.toInt64 l2 s).bind (fun r2 =>
 if (r2.1 950 127) = (-1 : Int32) then ((f_X13_put (2 : Int64) r2).bind (fun r3 =>
 (f_X13_put l3 r3).bind (fun r4 =>
 t_loop (b_X13_readText_101) t_N (l3, (r2.1 950 129), 0, r4))))
 else (some (r2)))))
 else (some (s))
set_option maxRecDepth 4000 in
set_option maxHeartbeats 1000000 in
theorem B_X13_readText_52 {D : va_G} {cy : Nat → ClassId} {ad : Nat → Nat} {bs : Nat} {X : State → Heap → Prop} (l2 : Int32) (l3 : Int64) (s : t_S) (Q : t_S → Prop) (hk : t_hk (k_X13_readText_52 l2 l3 s) Q) : mj_G D cy ad bs X cX13_readText 9 yX13_readText.cls none yX13_readText.name 2 0 0 1065 (t_P (fun v s' => v = none ∧ Q (s'))) 52 [(0, .ref 950), (2, .int l2), (3, .long l3)] [] (t_m s) 1065 0 0 := by
  refine mj_aload_n dX13_readText_52 0 rfl ?_
  refine t_getI dX13_readText_53 F_X13_1155 qf_950_127 ?_
  refine mj_iconst (v := (-1)) dX13_readText_56 (by decide) ?_
  refine mj_icmp_eq 61 dX13_readText_57 (by decide) (fun z => t_posK hk z (fun hk => ?_)) (fun z => t_negK hk z (fun hk => ?_))
  · refine mj_aload_n dX13_readText_61 0 rfl ?_
    refine mj_lload_n dX13_readText_62 2 rfl ?_
    refine t_bndK hk (fun r1 er1 hk => ?_)
    refine t_callSiP dX13_readText_63 M_X13_packs (C_X13_packs _ _ _ er1) ML_X13_845 SM_X13_packs (As := [.long l3]) rfl rfl (Nat.le_of_ble_eq_true rfl) (Nat.le_of_ble_eq_true rfl) (Nat.le_of_ble_eq_true rfl) (Nat.le_of_ble_eq_true rfl) ?_
    refine mj_i2l (v := r1.toInt64) dX13_readText_66 rfl ?_
    refine mj_iload_n dX13_readText_67 1 rfl ?_
    refine t_bndK hk (fun r2 er2 hk => ?_)
    refine t_callVvE dX13_readText_68 M_X13_weigh (C_X13_weigh _ _ _ _ er2) ML_X13_1186 IM_X13_weigh SE_X13_weigh qc_950 rfl (As := [.long r1.toInt64, .int l2]) rfl rfl (Nat.le_of_ble_eq_true rfl) (Nat.le_of_ble_eq_true rfl) (Nat.le_of_ble_eq_true rfl) (Nat.le_of_ble_eq_true rfl) ?_
    refine mj_aload_n dX13_readText_71 0 rfl ?_
    refine t_getI dX13_readText_72 F_X13_1155 qf_950_127 ?_
    refine mj_iconst (v := (-1)) dX13_readText_75 (by decide) ?_
    refine mj_icmp_eq 80 dX13_readText_76 (by decide) (fun z => t_posK hk z (fun hk => ?_)) (fun z => t_negK hk z (fun hk => ?_))
    · refine mj_aload_n dX13_readText_80 0 rfl ?_
      refine t_getI dX13_readText_81 F_X13_1152 qf_950_129 ?_
      refine mj_istore (lv2 := [(5, .int (r2.1 950 129)), (0, .ref 950), (2, .int l2), (3, .long l3)]) dX13_readText_84 (by decide) rfl ?_
      refine mj_aload_n dX13_readText_86 1 rfl ?_
      refine mj_ldc2 dX13_readText_87 K_X13_994 ?_
      refine t_bndK hk (fun r3 er3 hk => ?_)
      refine t_callVvE dX13_readText_90 M_X13_put (C_X13_put _ _ _ er3) ML_X13_1192 IM_X13_put SE_X13_put qc_950 rfl (As := [.long 2]) rfl rfl (Nat.le_of_ble_eq_true rfl) (Nat.le_of_ble_eq_true rfl) (Nat.le_of_ble_eq_true rfl) (Nat.le_of_ble_eq_true rfl) ?_
      refine mj_aload_n dX13_readText_93 1 rfl ?_
      refine mj_lload_n dX13_readText_94 3 rfl ?_
      refine t_bndK hk (fun r4 er4 hk => ?_)
      refine t_callVvE dX13_readText_95 M_X13_put (C_X13_put _ _ _ er4) ML_X13_1192 IM_X13_put SE_X13_put qc_950 rfl (As := [.long l3]) rfl rfl (Nat.le_of_ble_eq_true rfl) (Nat.le_of_ble_eq_true rfl) (Nat.le_of_ble_eq_true rfl) (Nat.le_of_ble_eq_true rfl) ?_
      refine mj_iconst (v := 0) dX13_readText_98 (by decide) ?_
      refine mj_istore (lv2 := [(6, .int 0), (5, .int (r2.1 950 129)), (0, .ref 950), (2, .int l2), (3, .long l3)]) dX13_readText_99 (by decide) rfl ?_
      refine mj_sublv [(0, .ref 950), (3, .long l3), (5, .int (r2.1 950 129)), (6, .int 0)] [2, 4, 1, 0] rfl ?_
      exact LH_X13_readText_101 _ l3 (r2.1 950 129) 0 r4 _ hk
    · exact t_somK hk (fun hf => t_vret dX13_readText_79 rfl ⟨rfl, hf⟩ (Nat.le_of_ble_eq_true rfl) (Nat.le_of_ble_eq_true rfl))
  · exact t_somK hk (fun hf => t_vret dX13_readText_60 rfl ⟨rfl, hf⟩ (Nat.le_of_ble_eq_true rfl) (Nat.le_of_ble_eq_true rfl))
noncomputable def f_X13_readText (x1 : Int32) (x2 : Int32) (s : t_S) : Option (t_S) :=
 if t_ix x1 13000 = true then
  (f_X13_bitsFor ((s.2.1 958 (x1.toNatClampNeg)) - (s.2.1 957 (x1.toNatClampNeg))) s).bind (fun r2 =>
 (f_X13_take r2 s).bind (fun r3 =>
 if (r3.2.1 950 127) = (-1 : Int32) then (if (lg_cmp ((s.2.1 957 (x1.toNatClampNeg)) + r3.1) (r3.2.2.1 958 (x1.toNatClampNeg))) ≤ (0 : Int32) then (k_X13_readText_52 x2 ((s.2.1 957 (x1.toNatClampNeg)) + r3.1) r3.2)
 else ((f_X13_wrongBit x2 r3.2).bind (fun r4 =>
 k_X13_readText_52 x2 ((s.2.1 957 (x1.toNatClampNeg)) + r3.1) r4)))
 else (k_X13_readText_52 x2 ((s.2.1 957 (x1.toNatClampNeg)) + r3.1) r3.2)))
else none
set_option maxRecDepth 4000 in
set_option maxHeartbeats 1000000 in
theorem C_X13_readText (x1 : Int32) (x2 : Int32) (s : t_S) (r : t_S) (hr : f_X13_readText x1 x2 s = some r) : t_C yX13_readText cX13_readText 9 none 2 [.ref 950, .int x1, .int x2] s (fun v s' => v = none ∧ s' = r) := by
  refine t_C.imp (P := fun v s' => v = none ∧ (fun q => q = r) (s')) (t_C.of (by decide +kernel) (Nat.le_of_ble_eq_true rfl) ?_) (fun v s' hp => hp)
  intro D cy ad bs X
  have hk : t_hk (f_X13_readText x1 x2 s) (fun q => q = r) := ⟨r, hr, rfl⟩
  show mj_G D cy ad bs X cX13_readText 9 yX13_readText.cls none yX13_readText.name 2 0 0 1065 (t_P (fun v s' => v = none ∧ (fun q => q = r) (s'))) 0 [(0, .ref 950), (1, .int x1), (2, .int x2)] [] (t_m s) 1065 0 0
  refine mj_aload_n dX13_readText_0 0 rfl ?_
  refine t_getR 957 dX13_readText_1 F_X13_32 qr_950_19 ?_
  refine mj_iload_n dX13_readText_4 1 rfl ?_
  refine t_chkK hk (fun c0 hk => ?_)
  refine t_lald dX13_readText_5 qa_957 (t_ixv c0) ?_
  refine mj_aload_n dX13_readText_6 0 rfl ?_
  refine mj_aload_n dX13_readText_7 0 rfl ?_
  refine t_getR 958 dX13_readText_8 F_X13_36 qr_950_20 ?_
  refine mj_iload_n dX13_readText_11 1 rfl ?_
  refine t_lald dX13_readText_12 qa_958 (t_ixv c0) ?_
  refine mj_aload_n dX13_readText_13 0 rfl ?_
  refine t_getR 957 dX13_readText_14 F_X13_32 qr_950_19 ?_
  refine mj_iload_n dX13_readText_17 1 rfl ?_
  refine t_lald dX13_readText_18 qa_957 (t_ixv c0) ?_
  refine mj_lsub dX13_readText_19 ?_
  refine t_bndK hk (fun r2 er2 hk => ?_)
  refine t_callSiP dX13_readText_20 M_X13_bitsFor (C_X13_bitsFor _ _ _ er2) ML_X13_1135 SM_X13_bitsFor (As := [.long ((s.2.1 958 (x1.toNatClampNeg)) - (s.2.1 957 (x1.toNatClampNeg)))]) rfl rfl (Nat.le_of_ble_eq_true rfl) (Nat.le_of_ble_eq_true rfl) (Nat.le_of_ble_eq_true rfl) (Nat.le_of_ble_eq_true rfl) ?_
  refine t_bndK hk (fun r3 er3 hk => ?_)
  refine t_callVlE dX13_readText_23 M_X13_take (C_X13_take _ _ _ er3) ML_X13_1195 IM_X13_take SE_X13_take qc_950 rfl (As := [.int r2]) rfl rfl (Nat.le_of_ble_eq_true rfl) (Nat.le_of_ble_eq_true rfl) (Nat.le_of_ble_eq_true rfl) (Nat.le_of_ble_eq_true rfl) ?_
  refine mj_ladd dX13_readText_26 ?_
  refine mj_lstore_n 3 (lv2 := [(3, .long ((s.2.1 957 (x1.toNatClampNeg)) + r3.1)), (0, .ref 950), (1, .int x1), (2, .int x2)]) dX13_readText_27 rfl (by decide) rfl ?_
  refine mj_aload_n dX13_readText_28 1 rfl ?_
  refine t_getI dX13_readText_29 F_X13_1155 qf_950_127 ?_
  refine mj_iconst (v := (-1)) dX13_readText_32 (by decide) ?_
  refine mj_icmp_ne 52 dX13_readText_33 (by decide) (fun z => t_negK hk z (fun hk => ?_)) (fun z => t_posK hk z (fun hk => ?_))
  · refine mj_sublv [(0, .ref 950), (2, .int x2), (3, .long ((s.2.1 957 (x1.toNatClampNeg)) + r3.1))] [1, 3, 0] rfl ?_
    exact B_X13_readText_52 _ _ _ _ hk
  · refine mj_lload_n dX13_readText_36 0 rfl ?_
    refine mj_aload_n dX13_readText_37 1 rfl ?_
    refine t_getR 958 dX13_readText_38 F_X13_36 qr_950_20 ?_
    refine mj_iload_n dX13_readText_41 2 rfl ?_
    refine t_lald dX13_readText_42 qa_958 (t_ixv c0) ?_
    refine mj_lcmp dX13_readText_43 ?_
    refine mj_if_le 52 dX13_readText_44 (by decide) (fun z => t_posK hk z (fun hk => ?_)) (fun z => t_negK hk z (fun hk => ?_))
    · refine mj_sublv [(0, .ref 950), (2, .int x2), (3, .long ((s.2.1 957 (x1.toNatClampNeg)) + r3.1))] [1, 3, 0] rfl ?_
      exact B_X13_readText_52 _ _ _ _ hk
    · refine mj_aload_n dX13_readText_47 1 rfl ?_
      refine mj_iload_n dX13_readText_48 3 rfl ?_
      refine t_bndK hk (fun r4 er4 hk => ?_)
      refine t_callVvE dX13_readText_49 M_X13_wrongBit (C_X13_wrongBit _ _ _ er4) ML_X13_1161 IM_X13_wrongBit SE_X13_wrongBit qc_950 rfl (As := [.int x2]) rfl rfl (Nat.le_of_ble_eq_true rfl) (Nat.le_of_ble_eq_true rfl) (Nat.le_of_ble_eq_true rfl) (Nat.le_of_ble_eq_true rfl) ?_
      refine mj_sublv [(0, .ref 950), (2, .int x2), (3, .long ((s.2.1 957 (x1.toNatClampNeg)) + r3.1))] [1, 3, 0] rfl ?_
      exact B_X13_readText_52 _ _ _ _ hk

theorem dX13_readValue_0 : decode cX13_readValue 0 = .ok (.aload_n 0, 1) := by decide +kernel
theorem dX13_readValue_1 : decode cX13_readValue 1 = .ok (.getfield 1158, 3) := by decide +kernel
theorem dX13_readValue_10 : decode cX13_readValue 10 = .ok (.iload_n 1, 1) := by decide +kernel
theorem dX13_readValue_101 : decode cX13_readValue 101 = .ok (.aload_n 0, 1) := by decide +kernel
theorem dX13_readValue_102 : decode cX13_readValue 102 = .ok (.aload_n 0, 1) := by decide +kernel
theorem dX13_readValue_103 : decode cX13_readValue 103 = .ok (.iconst 1, 1) := by decide +kernel
theorem dX13_readValue_104 : decode cX13_readValue 104 = .ok (.invokevirtual 1195, 3) := by decide +kernel
theorem dX13_readValue_107 : decode cX13_readValue 107 = .ok (.invokevirtual 1192, 3) := by decide +kernel
theorem dX13_readValue_11 : decode cX13_readValue 11 = .ok (.baload, 1) := by decide +kernel
theorem dX13_readValue_110 : decode cX13_readValue 110 = .ok (.return_, 1) := by decide +kernel
theorem dX13_readValue_111 : decode cX13_readValue 111 = .ok (.aload_n 0, 1) := by decide +kernel
theorem dX13_readValue_112 : decode cX13_readValue 112 = .ok (.aload_n 0, 1) := by decide +kernel
theorem dX13_readValue_113 : decode cX13_readValue 113 = .ok (.iload_n 1, 1) := by decide +kernel
theorem dX13_readValue_114 : decode cX13_readValue 114 = .ok (.invokevirtual 830, 3) := by decide +kernel
theorem dX13_readValue_117 : decode cX13_readValue 117 = .ok (.iconst 1, 1) := by decide +kernel
theorem dX13_readValue_118 : decode cX13_readValue 118 = .ok (.isub, 1) := by decide +kernel
theorem dX13_readValue_119 : decode cX13_readValue 119 = .ok (.i2l, 1) := by decide +kernel
theorem dX13_readValue_12 : decode cX13_readValue 12 = .ok (.ifCond .ne 9, 3) := by decide +kernel
theorem dX13_readValue_120 : decode cX13_readValue 120 = .ok (.invokestatic 1135, 3) := by decide +kernel
theorem dX13_readValue_123 : decode cX13_readValue 123 = .ok (.invokevirtual 1195, 3) := by decide +kernel
theorem dX13_readValue_126 : decode cX13_readValue 126 = .ok (.lstore 5, 2) := by decide +kernel
theorem dX13_readValue_128 : decode cX13_readValue 128 = .ok (.aload_n 0, 1) := by decide +kernel
theorem dX13_readValue_129 : decode cX13_readValue 129 = .ok (.getfield 1155, 3) := by decide +kernel
theorem dX13_readValue_132 : decode cX13_readValue 132 = .ok (.iconst (-1), 1) := by decide +kernel
theorem dX13_readValue_133 : decode cX13_readValue 133 = .ok (.if_icmp .ne 21, 3) := by decide +kernel
theorem dX13_readValue_136 : decode cX13_readValue 136 = .ok (.lload 5, 2) := by decide +kernel
theorem dX13_readValue_138 : decode cX13_readValue 138 = .ok (.aload_n 0, 1) := by decide +kernel
theorem dX13_readValue_139 : decode cX13_readValue 139 = .ok (.iload_n 1, 1) := by decide +kernel
theorem dX13_readValue_140 : decode cX13_readValue 140 = .ok (.invokevirtual 830, 3) := by decide +kernel
theorem dX13_readValue_143 : decode cX13_readValue 143 = .ok (.i2l, 1) := by decide +kernel
theorem dX13_readValue_144 : decode cX13_readValue 144 = .ok (.lcmp, 1) := by decide +kernel
theorem dX13_readValue_145 : decode cX13_readValue 145 = .ok (.ifCond .lt 9, 3) := by decide +kernel
theorem dX13_readValue_148 : decode cX13_readValue 148 = .ok (.aload_n 0, 1) := by decide +kernel
theorem dX13_readValue_149 : decode cX13_readValue 149 = .ok (.iload 4, 2) := by decide +kernel
theorem dX13_readValue_15 : decode cX13_readValue 15 = .ok (.aload_n 0, 1) := by decide +kernel
theorem dX13_readValue_151 : decode cX13_readValue 151 = .ok (.invokevirtual 1161, 3) := by decide +kernel
theorem dX13_readValue_154 : decode cX13_readValue 154 = .ok (.aload_n 0, 1) := by decide +kernel
theorem dX13_readValue_155 : decode cX13_readValue 155 = .ok (.getfield 1155, 3) := by decide +kernel
theorem dX13_readValue_158 : decode cX13_readValue 158 = .ok (.iconst (-1), 1) := by decide +kernel
theorem dX13_readValue_159 : decode cX13_readValue 159 = .ok (.if_icmp .ne 70, 3) := by decide +kernel
theorem dX13_readValue_16 : decode cX13_readValue 16 = .ok (.iload 4, 2) := by decide +kernel
theorem dX13_readValue_162 : decode cX13_readValue 162 = .ok (.aload_n 0, 1) := by decide +kernel
theorem dX13_readValue_163 : decode cX13_readValue 163 = .ok (.iload_n 1, 1) := by decide +kernel
theorem dX13_readValue_164 : decode cX13_readValue 164 = .ok (.lload 5, 2) := by decide +kernel
theorem dX13_readValue_166 : decode cX13_readValue 166 = .ok (.l2i, 1) := by decide +kernel
theorem dX13_readValue_167 : decode cX13_readValue 167 = .ok (.invokevirtual 974, 3) := by decide +kernel
theorem dX13_readValue_170 : decode cX13_readValue 170 = .ok (.istore 7, 2) := by decide +kernel
theorem dX13_readValue_172 : decode cX13_readValue 172 = .ok (.aload_n 0, 1) := by decide +kernel
theorem dX13_readValue_173 : decode cX13_readValue 173 = .ok (.aload_n 0, 1) := by decide +kernel
theorem dX13_readValue_174 : decode cX13_readValue 174 = .ok (.getfield 26, 3) := by decide +kernel
theorem dX13_readValue_177 : decode cX13_readValue 177 = .ok (.iload_n 1, 1) := by decide +kernel
theorem dX13_readValue_178 : decode cX13_readValue 178 = .ok (.iaload, 1) := by decide +kernel
theorem dX13_readValue_179 : decode cX13_readValue 179 = .ok (.iconst 4, 1) := by decide +kernel
theorem dX13_readValue_18 : decode cX13_readValue 18 = .ok (.invokevirtual 1161, 3) := by decide +kernel
theorem dX13_readValue_180 : decode cX13_readValue 180 = .ok (.if_icmp .ne 9, 3) := by decide +kernel
theorem dX13_readValue_183 : decode cX13_readValue 183 = .ok (.ldc2_w 1198, 3) := by decide +kernel
theorem dX13_readValue_186 : decode cX13_readValue 186 = .ok (.goto 6, 3) := by decide +kernel
theorem dX13_readValue_189 : decode cX13_readValue 189 = .ok (.ldc2_w 697, 3) := by decide +kernel
theorem dX13_readValue_192 : decode cX13_readValue 192 = .ok (.invokevirtual 1192, 3) := by decide +kernel
theorem dX13_readValue_195 : decode cX13_readValue 195 = .ok (.aload_n 0, 1) := by decide +kernel
theorem dX13_readValue_196 : decode cX13_readValue 196 = .ok (.aload_n 0, 1) := by decide +kernel
theorem dX13_readValue_197 : decode cX13_readValue 197 = .ok (.getfield 32, 3) := by decide +kernel
theorem dX13_readValue_200 : decode cX13_readValue 200 = .ok (.iload 7, 2) := by decide +kernel
theorem dX13_readValue_202 : decode cX13_readValue 202 = .ok (.laload, 1) := by decide +kernel
theorem dX13_readValue_203 : decode cX13_readValue 203 = .ok (.invokevirtual 1192, 3) := by decide +kernel
theorem dX13_readValue_206 : decode cX13_readValue 206 = .ok (.aload_n 0, 1) := by decide +kernel
theorem dX13_readValue_207 : decode cX13_readValue 207 = .ok (.getfield 26, 3) := by decide +kernel
theorem dX13_readValue_21 : decode cX13_readValue 21 = .ok (.aload_n 0, 1) := by decide +kernel
theorem dX13_readValue_210 : decode cX13_readValue 210 = .ok (.iload_n 1, 1) := by decide +kernel
theorem dX13_readValue_211 : decode cX13_readValue 211 = .ok (.iaload, 1) := by decide +kernel
theorem dX13_readValue_212 : decode cX13_readValue 212 = .ok (.bipush 6, 2) := by decide +kernel
theorem dX13_readValue_214 : decode cX13_readValue 214 = .ok (.if_icmp .ne 15, 3) := by decide +kernel
theorem dX13_readValue_217 : decode cX13_readValue 217 = .ok (.aload_n 0, 1) := by decide +kernel
theorem dX13_readValue_218 : decode cX13_readValue 218 = .ok (.iconst 0, 1) := by decide +kernel
theorem dX13_readValue_219 : decode cX13_readValue 219 = .ok (.aload_n 0, 1) := by decide +kernel
theorem dX13_readValue_22 : decode cX13_readValue 22 = .ok (.lconst 1, 1) := by decide +kernel
theorem dX13_readValue_220 : decode cX13_readValue 220 = .ok (.getfield 39, 3) := by decide +kernel
theorem dX13_readValue_223 : decode cX13_readValue 223 = .ok (.iload 7, 2) := by decide +kernel
theorem dX13_readValue_225 : decode cX13_readValue 225 = .ok (.iaload, 1) := by decide +kernel
theorem dX13_readValue_226 : decode cX13_readValue 226 = .ok (.invokevirtual 1170, 3) := by decide +kernel
theorem dX13_readValue_229 : decode cX13_readValue 229 = .ok (.return_, 1) := by decide +kernel
theorem dX13_readValue_23 : decode cX13_readValue 23 = .ok (.lload_n 2, 1) := by decide +kernel
theorem dX13_readValue_230 : decode cX13_readValue 230 = .ok (.aload_n 0, 1) := by decide +kernel
theorem dX13_readValue_231 : decode cX13_readValue 231 = .ok (.iload_n 1, 1) := by decide +kernel
theorem dX13_readValue_232 : decode cX13_readValue 232 = .ok (.iload 4, 2) := by decide +kernel
theorem dX13_readValue_234 : decode cX13_readValue 234 = .ok (.invokevirtual 1200, 3) := by decide +kernel
theorem dX13_readValue_237 : decode cX13_readValue 237 = .ok (.return_, 1) := by decide +kernel
theorem dX13_readValue_238 : decode cX13_readValue 238 = .ok (.aload_n 0, 1) := by decide +kernel
theorem dX13_readValue_239 : decode cX13_readValue 239 = .ok (.iload_n 1, 1) := by decide +kernel
theorem dX13_readValue_24 : decode cX13_readValue 24 = .ok (.ladd, 1) := by decide +kernel
theorem dX13_readValue_240 : decode cX13_readValue 240 = .ok (.iload 4, 2) := by decide +kernel
theorem dX13_readValue_242 : decode cX13_readValue 242 = .ok (.invokevirtual 1203, 3) := by decide +kernel
theorem dX13_readValue_245 : decode cX13_readValue 245 = .ok (.return_, 1) := by decide +kernel
theorem dX13_readValue_246 : decode cX13_readValue 246 = .ok (.aload_n 0, 1) := by decide +kernel
theorem dX13_readValue_247 : decode cX13_readValue 247 = .ok (.iload_n 1, 1) := by decide +kernel
theorem dX13_readValue_248 : decode cX13_readValue 248 = .ok (.invokevirtual 1206, 3) := by decide +kernel
theorem dX13_readValue_25 : decode cX13_readValue 25 = .ok (.iload 4, 2) := by decide +kernel
theorem dX13_readValue_251 : decode cX13_readValue 251 = .ok (.return_, 1) := by decide +kernel
theorem dX13_readValue_27 : decode cX13_readValue 27 = .ok (.invokevirtual 1186, 3) := by decide +kernel
theorem dX13_readValue_30 : decode cX13_readValue 30 = .ok (.aload_n 0, 1) := by decide +kernel
theorem dX13_readValue_31 : decode cX13_readValue 31 = .ok (.getfield 1155, 3) := by decide +kernel
theorem dX13_readValue_34 : decode cX13_readValue 34 = .ok (.iconst (-1), 1) := by decide +kernel
theorem dX13_readValue_35 : decode cX13_readValue 35 = .ok (.if_icmp .eq 4, 3) := by decide +kernel
theorem dX13_readValue_38 : decode cX13_readValue 38 = .ok (.return_, 1) := by decide +kernel
theorem dX13_readValue_39 : decode cX13_readValue 39 = .ok (.aload_n 0, 1) := by decide +kernel
theorem dX13_readValue_4 : decode cX13_readValue 4 = .ok (.istore 4, 2) := by decide +kernel
theorem dX13_readValue_40 : decode cX13_readValue 40 = .ok (.getfield 26, 3) := by decide +kernel
theorem dX13_readValue_43 : decode cX13_readValue 43 = .ok (.iload_n 1, 1) := by decide +kernel
theorem dX13_readValue_44 : decode cX13_readValue 44 = .ok (.iaload, 1) := by decide +kernel
theorem dX13_readValue_45 : decode cX13_readValue 45 = .ok (.tableswitch 201 1 7 #[43, 51, 185, 66, 201, 66, 193], 43) := by decide +kernel
theorem dX13_readValue_6 : decode cX13_readValue 6 = .ok (.aload_n 0, 1) := by decide +kernel
theorem dX13_readValue_7 : decode cX13_readValue 7 = .ok (.getfield 200, 3) := by decide +kernel
theorem dX13_readValue_88 : decode cX13_readValue 88 = .ok (.aload_n 0, 1) := by decide +kernel
theorem dX13_readValue_89 : decode cX13_readValue 89 = .ok (.iload_n 1, 1) := by decide +kernel
theorem dX13_readValue_90 : decode cX13_readValue 90 = .ok (.iload 4, 2) := by decide +kernel
theorem dX13_readValue_92 : decode cX13_readValue 92 = .ok (.invokevirtual 1189, 3) := by decide +kernel
theorem dX13_readValue_95 : decode cX13_readValue 95 = .ok (.return_, 1) := by decide +kernel
theorem dX13_readValue_96 : decode cX13_readValue 96 = .ok (.aload_n 0, 1) := by decide +kernel
theorem dX13_readValue_97 : decode cX13_readValue 97 = .ok (.lconst 1, 1) := by decide +kernel
theorem dX13_readValue_98 : decode cX13_readValue 98 = .ok (.invokevirtual 1192, 3) := by decide +kernel
noncomputable def k_X13_readValue_192 (l1 : Int32) (l7 : Int32) (k0 : Int64) (s : t_S) : Option (t_S) :=
 (f_X13_put k0 s).bind (fun r1 =>
 if t_ix l7 13000 = true then
  (f_X13_put (r1.2.1 957 (l7.toNatClampNeg)) r1).bind (fun r3 =>
 if t_ix l1 13000 = true then
  if (r3.1 955 (l1.toNatClampNeg)) = (6 : Int32) then ((f_X13_openOne (0 : Int32) (r3.1 959 (l7.toNatClampNeg)) r3).bind (fun r5 =>
 some (r5)))
 else (some (r3))
else none)
else none)
set_option maxRecDepth 4000 in
set_option maxHeartbeats 1000000 in
theorem B_X13_readValue_192 {D : va_G} {cy : Nat → ClassId} {ad : Nat → Nat} {bs : Nat} {X : State → Heap → Prop} (l1 : Int32) (l7 : Int32) (k0 : Int64) (s : t_S) (Q : t_S → Prop) (hk : t_hk (k_X13_readValue_192 l1 l7 k0 s) Q) : mj_G D cy ad bs X cX13_readValue 8 yX13_readValue.cls none yX13_readValue.name 3 0 0 1065 (t_P (fun v s' => v = none ∧ Q (s'))) 192 [(0, .ref 950), (1, .int l1), (7, .int l7)] [.long k0, .ref 950] (t_m s) 1065 0 0 := by
  refine t_bndK hk (fun r1 er1 hk => ?_)
  refine t_callVvE dX13_readValue_192 M_X13_put (C_X13_put _ _ _ er1) ML_X13_1192 IM_X13_put SE_X13_put qc_950 rfl (As := [.long k0]) rfl rfl (Nat.le_of_ble_eq_true rfl) (Nat.le_of_ble_eq_true rfl) (Nat.le_of_ble_eq_true rfl) (Nat.le_of_ble_eq_true rfl) ?_
  refine mj_aload_n dX13_readValue_195 0 rfl ?_
  refine mj_aload_n dX13_readValue_196 0 rfl ?_
  refine t_getR 957 dX13_readValue_197 F_X13_32 qr_950_19 ?_
  refine mj_iload dX13_readValue_200 2 rfl ?_
  refine t_chkK hk (fun c1 hk => ?_)
  refine t_lald dX13_readValue_202 qa_957 (t_ixv c1) ?_
  refine t_bndK hk (fun r3 er3 hk => ?_)
  refine t_callVvE dX13_readValue_203 M_X13_put (C_X13_put _ _ _ er3) ML_X13_1192 IM_X13_put SE_X13_put qc_950 rfl (As := [.long (r1.2.1 957 (l7.toNatClampNeg))]) rfl rfl (Nat.le_of_ble_eq_true rfl) (Nat.le_of_ble_eq_true rfl) (Nat.le_of_ble_eq_true rfl) (Nat.le_of_ble_eq_true rfl) ?_
  refine mj_aload_n dX13_readValue_206 0 rfl ?_
  refine t_getR 955 dX13_readValue_207 F_X13_26 qr_950_17 ?_
  refine mj_iload_n dX13_readValue_210 1 rfl ?_
  refine t_chkK hk (fun c3 hk => ?_)
  refine t_iald dX13_readValue_211 qa_955 (t_ixv c3) ?_
  refine mj_bipush (v := 6) dX13_readValue_212 (by decide) ?_
  refine mj_icmp_ne 229 dX13_readValue_214 (by decide) (fun z => t_negK hk z (fun hk => ?_)) (fun z => t_posK hk z (fun hk => ?_))
  · exact t_somK hk (fun hf => t_vret dX13_readValue_229 rfl ⟨rfl, hf⟩ (Nat.le_of_ble_eq_true rfl) (Nat.le_of_ble_eq_true rfl))
  · refine mj_aload_n dX13_readValue_217 0 rfl ?_
    refine mj_iconst (v := 0) dX13_readValue_218 (by decide) ?_
    refine mj_aload_n dX13_readValue_219 0 rfl ?_
    refine t_getR 959 dX13_readValue_220 F_X13_39 qr_950_21 ?_
    refine mj_iload dX13_readValue_223 2 rfl ?_
    refine t_iald dX13_readValue_225 qa_959 (t_ixv c1) ?_
    refine t_bndK hk (fun r5 er5 hk => ?_)
    refine t_callVvE dX13_readValue_226 M_X13_openOne (C_X13_openOne _ _ _ _ er5) ML_X13_1170 IM_X13_openOne SE_X13_openOne qc_950 rfl (As := [.int 0, .int (r3.1 959 (l7.toNatClampNeg))]) rfl rfl (Nat.le_of_ble_eq_true rfl) (Nat.le_of_ble_eq_true rfl) (Nat.le_of_ble_eq_true rfl) (Nat.le_of_ble_eq_true rfl) ?_
    exact t_somK hk (fun hf => t_vret dX13_readValue_229 rfl ⟨rfl, hf⟩ (Nat.le_of_ble_eq_true rfl) (Nat.le_of_ble_eq_true rfl))
noncomputable def k_X13_readValue_154 (l1 : Int32) (l5 : Int64) (s : t_S) : Option (t_S) :=
 if (s.1 950 127) = (-1 : Int32) then ((f_X13_part l1 l5.toInt32 s).bind (fun r1 =>
 if t_ix l1 13000 = true then
  if (s.1 955 (l1.toNatClampNeg)) = (4 : Int32) then (k_X13_readValue_192 l1 r1 3 s)
 else (k_X13_readValue_192 l1 r1 7 s)
else none))
 else (some (s))
set_option maxRecDepth 4000 in
set_option maxHeartbeats 1000000 in
theorem B_X13_readValue_154 {D : va_G} {cy : Nat → ClassId} {ad : Nat → Nat} {bs : Nat} {X : State → Heap → Prop} (l1 : Int32) (l5 : Int64) (s : t_S) (Q : t_S → Prop) (hk : t_hk (k_X13_readValue_154 l1 l5 s) Q) : mj_G D cy ad bs X cX13_readValue 8 yX13_readValue.cls none yX13_readValue.name 3 0 0 1065 (t_P (fun v s' => v = none ∧ Q (s'))) 154 [(0, .ref 950), (1, .int l1), (5, .long l5)] [] (t_m s) 1065 0 0 := by
  refine mj_aload_n dX13_readValue_154 0 rfl ?_
  refine t_getI dX13_readValue_155 F_X13_1155 qf_950_127 ?_
  refine mj_iconst (v := (-1)) dX13_readValue_158 (by decide) ?_
  refine mj_icmp_ne 229 dX13_readValue_159 (by decide) (fun z => t_negK hk z (fun hk => ?_)) (fun z => t_posK hk z (fun hk => ?_))
  · exact t_somK hk (fun hf => t_vret dX13_readValue_229 rfl ⟨rfl, hf⟩ (Nat.le_of_ble_eq_true rfl) (Nat.le_of_ble_eq_true rfl))
  · refine mj_aload_n dX13_readValue_162 0 rfl ?_
    refine mj_iload_n dX13_readValue_163 1 rfl ?_
    refine mj_lload dX13_readValue_164 2 rfl ?_
    refine mj_l2i (v := l5.toInt32) dX13_readValue_166 rfl ?_
    refine t_bndK hk (fun r1 er1 hk => ?_)
    refine t_callViP dX13_readValue_167 M_X13_part (C_X13_part _ _ _ _ er1) ML_X13_974 IM_X13_part SE_X13_part qc_950 rfl (As := [.int l1, .int l5.toInt32]) rfl rfl (Nat.le_of_ble_eq_true rfl) (Nat.le_of_ble_eq_true rfl) (Nat.le_of_ble_eq_true rfl) (Nat.le_of_ble_eq_true rfl) ?_
    refine mj_istore (lv2 := [(7, .int r1), (0, .ref 950), (1, .int l1), (5, .long l5)]) dX13_readValue_170 (by decide) rfl ?_
    refine mj_aload_n dX13_readValue_172 1 rfl ?_
    refine mj_aload_n dX13_readValue_173 1 rfl ?_
    refine t_getR 955 dX13_readValue_174 F_X13_26 qr_950_17 ?_
    refine mj_iload_n dX13_readValue_177 2 rfl ?_
    refine t_chkK hk (fun c1 hk => ?_)
    refine t_iald dX13_readValue_178 qa_955 (t_ixv c1) ?_
    refine mj_iconst (v := 4) dX13_readValue_179 (by decide) ?_
    refine mj_icmp_ne 189 dX13_readValue_180 (by decide) (fun z => t_negK hk z (fun hk => ?_)) (fun z => t_posK hk z (fun hk => ?_))
    · refine mj_ldc2 dX13_readValue_189 K_X13_697 ?_
      refine mj_sublv [(0, .ref 950), (1, .int l1), (7, .int r1)] [1, 2, 0] rfl ?_
      exact B_X13_readValue_192 _ _ _ _ _ hk
    · refine mj_ldc2 dX13_readValue_183 K_X13_1198 ?_
      refine mj_goto 192 dX13_readValue_186 (by decide) ?_
      refine mj_sublv [(0, .ref 950), (1, .int l1), (7, .int r1)] [1, 2, 0] rfl ?_
      exact B_X13_readValue_192 _ _ _ _ _ hk
noncomputable def k_X13_readValue_21 (l1 : Int32) (l2 : Int64) (l4 : Int32) (s : t_S) : Option (t_S) :=
 (f_X13_weigh ((1 : Int64) + l2) l4 s).bind (fun r1 =>
 if (r1.1 950 127) = (-1 : Int32) then (if t_ix l1 13000 = true then
  if (r1.1 955 (l1.toNatClampNeg)).toInt < 1 ∨ 7 < (r1.1 955 (l1.toNatClampNeg)).toInt then ((f_X13_readRecord l1 r1).bind (fun r3 =>
 some (r3)))
 else if (r1.1 955 (l1.toNatClampNeg)).toInt = 1 then ((f_X13_readInt l1 l4 r1).bind (fun r4 =>
 some (r4)))
 else if (r1.1 955 (l1.toNatClampNeg)).toInt = 2 then ((f_X13_put (1 : Int64) r1).bind (fun r5 =>
 (f_X13_take (1 : Int32) r5).bind (fun r6 =>
 (f_X13_put r6.1 r6.2).bind (fun r7 =>
 some (r7)))))
 else if (r1.1 955 (l1.toNatClampNeg)).toInt = 3 then ((f_X13_readText l1 l4 r1).bind (fun r8 =>
 some (r8)))
 else if (r1.1 955 (l1.toNatClampNeg)).toInt = 4 then ((f_X13_partCount l1 r1).bind (fun r9 =>
 (f_X13_bitsFor ((r9 - (1 : Int32)).toInt64) r1).bind (fun r10 =>
 (f_X13_take r10 r1).bind (fun r11 =>
 if (r11.2.1 950 127) = (-1 : Int32) then ((f_X13_partCount l1 r11.2).bind (fun r12 =>
 if (lg_cmp r11.1 r12.toInt64) < (0 : Int32) then (k_X13_readValue_154 l1 r11.1 r11.2)
 else ((f_X13_wrongBit l4 r11.2).bind (fun r13 =>
 k_X13_readValue_154 l1 r11.1 r13))))
 else (k_X13_readValue_154 l1 r11.1 r11.2)))))
 else if (r1.1 955 (l1.toNatClampNeg)).toInt = 5 then ((f_X13_readRecord l1 r1).bind (fun r14 =>
 some (r14)))
 else if (r1.1 955 (l1.toNatClampNeg)).toInt = 6 then ((f_X13_partCount l1 r1).bind (fun r15 =>
 (f_X13_bitsFor ((r15 - (1 : Int32)).toInt64) r1).bind (fun r16 =>
 (f_X13_take r16 r1).bind (fun r17 =>
 if (r17.2.1 950 127) = (-1 : Int32) then ((f_X13_partCount l1 r17.2).bind (fun r18 =>
 if (lg_cmp r17.1 r18.toInt64) < (0 : Int32) then (k_X13_readValue_154 l1 r17.1 r17.2)
 else ((f_X13_wrongBit l4 r17.2).bind (fun r19 =>
 k_X13_readValue_154 l1 r17.1 r19))))
 else (k_X13_readValue_154 l1 r17.1 r17.2)))))
 else ((f_X13_readList l1 l4 r1).bind (fun r20 =>
 some (r20)))
else none)
 else (some (r1)))
set_option maxRecDepth 4000 in
set_option maxHeartbeats 1000000 in
theorem B_X13_readValue_21 {D : va_G} {cy : Nat → ClassId} {ad : Nat → Nat} {bs : Nat} {X : State → Heap → Prop} (l1 : Int32) (l2 : Int64) (l4 : Int32) (s : t_S) (Q : t_S → Prop) (hk : t_hk (k_X13_readValue_21 l1 l2 l4 s) Q) : mj_G D cy ad bs X cX13_readValue 8 yX13_readValue.cls none yX13_readValue.name 3 0 0 1065 (t_P (fun v s' => v = none ∧ Q (s'))) 21 [(0, .ref 950), (1, .int l1), (2, .long l2), (4, .int l4)] [] (t_m s) 1065 0 0 := by
  refine mj_aload_n dX13_readValue_21 0 rfl ?_
  refine mj_lconst (v := 1) dX13_readValue_22 (by decide) ?_
  refine mj_lload_n dX13_readValue_23 2 rfl ?_
  refine mj_ladd dX13_readValue_24 ?_
  refine mj_iload dX13_readValue_25 3 rfl ?_
  refine t_bndK hk (fun r1 er1 hk => ?_)
  refine t_callVvE dX13_readValue_27 M_X13_weigh (C_X13_weigh _ _ _ _ er1) ML_X13_1186 IM_X13_weigh SE_X13_weigh qc_950 rfl (As := [.long ((1 : Int64) + l2), .int l4]) rfl rfl (Nat.le_of_ble_eq_true rfl) (Nat.le_of_ble_eq_true rfl) (Nat.le_of_ble_eq_true rfl) (Nat.le_of_ble_eq_true rfl) ?_
  refine mj_aload_n dX13_readValue_30 0 rfl ?_
  refine t_getI dX13_readValue_31 F_X13_1155 qf_950_127 ?_
  refine mj_iconst (v := (-1)) dX13_readValue_34 (by decide) ?_
  refine mj_icmp_eq 39 dX13_readValue_35 (by decide) (fun z => t_posK hk z (fun hk => ?_)) (fun z => t_negK hk z (fun hk => ?_))
  · refine mj_aload_n dX13_readValue_39 0 rfl ?_
    refine t_getR 955 dX13_readValue_40 F_X13_26 qr_950_17 ?_
    refine mj_iload_n dX13_readValue_43 1 rfl ?_
    refine t_chkK hk (fun c1 hk => ?_)
    refine t_iald dX13_readValue_44 qa_955 (t_ixv c1) ?_
    by_cases hout : (r1.1 955 (l1.toNatClampNeg)).toInt < 1 ∨ 7 < (r1.1 955 (l1.toNatClampNeg)).toInt
    · replace hk := t_pos hk hout
      refine mj_tableOut 246 dX13_readValue_45 hout (by decide) ?_
      refine mj_aload_n dX13_readValue_246 0 rfl ?_
      refine mj_iload_n dX13_readValue_247 1 rfl ?_
      refine t_bndK hk (fun r3 er3 hk => ?_)
      refine t_callVvE dX13_readValue_248 M_X13_readRecord (C_X13_readRecord _ _ _ er3) ML_X13_1206 IM_X13_readRecord SE_X13_readRecord qc_950 rfl (As := [.int l1]) rfl rfl (Nat.le_of_ble_eq_true rfl) (Nat.le_of_ble_eq_true rfl) (Nat.le_of_ble_eq_true rfl) (Nat.le_of_ble_eq_true rfl) ?_
      exact t_somK hk (fun hf => t_vret dX13_readValue_251 rfl ⟨rfl, hf⟩ (Nat.le_of_ble_eq_true rfl) (Nat.le_of_ble_eq_true rfl))
    · replace hk := t_neg hk hout
      have hh1 : ¬ (r1.1 955 (l1.toNatClampNeg)).toInt < 1 := fun z => hout (Or.inl z)
      have hh2 : ¬ (7 : Int) < (r1.1 955 (l1.toNatClampNeg)).toInt := fun z => hout (Or.inr z)
      by_cases h0 : (r1.1 955 (l1.toNatClampNeg)).toInt = 1
      · replace hk := t_pos hk h0
        refine mj_tableIn 88 dX13_readValue_45 hh1 hh2 (by rw [h0]; rfl) (by decide) ?_
        refine mj_aload_n dX13_readValue_88 0 rfl ?_
        refine mj_iload_n dX13_readValue_89 1 rfl ?_
        refine mj_iload dX13_readValue_90 3 rfl ?_
        refine t_bndK hk (fun r4 er4 hk => ?_)
        refine t_callVvE dX13_readValue_92 M_X13_readInt (C_X13_readInt _ _ _ _ er4) ML_X13_1189 IM_X13_readInt SE_X13_readInt qc_950 rfl (As := [.int l1, .int l4]) rfl rfl (Nat.le_of_ble_eq_true rfl) (Nat.le_of_ble_eq_true rfl) (Nat.le_of_ble_eq_true rfl) (Nat.le_of_ble_eq_true rfl) ?_
        exact t_somK hk (fun hf => t_vret dX13_readValue_95 rfl ⟨rfl, hf⟩ (Nat.le_of_ble_eq_true rfl) (Nat.le_of_ble_eq_true rfl))
      replace hk := t_neg hk h0
      by_cases h1 : (r1.1 955 (l1.toNatClampNeg)).toInt = 2
      · replace hk := t_pos hk h1
        refine mj_tableIn 96 dX13_readValue_45 hh1 hh2 (by rw [h1]; rfl) (by decide) ?_
        refine mj_aload_n dX13_readValue_96 0 rfl ?_
        refine mj_lconst (v := 1) dX13_readValue_97 (by decide) ?_
        refine t_bndK hk (fun r5 er5 hk => ?_)
        refine t_callVvE dX13_readValue_98 M_X13_put (C_X13_put _ _ _ er5) ML_X13_1192 IM_X13_put SE_X13_put qc_950 rfl (As := [.long 1]) rfl rfl (Nat.le_of_ble_eq_true rfl) (Nat.le_of_ble_eq_true rfl) (Nat.le_of_ble_eq_true rfl) (Nat.le_of_ble_eq_true rfl) ?_
        refine mj_aload_n dX13_readValue_101 0 rfl ?_
        refine mj_aload_n dX13_readValue_102 0 rfl ?_
        refine mj_iconst (v := 1) dX13_readValue_103 (by decide) ?_
        refine t_bndK hk (fun r6 er6 hk => ?_)
        refine t_callVlE dX13_readValue_104 M_X13_take (C_X13_take _ _ _ er6) ML_X13_1195 IM_X13_take SE_X13_take qc_950 rfl (As := [.int 1]) rfl rfl (Nat.le_of_ble_eq_true rfl) (Nat.le_of_ble_eq_true rfl) (Nat.le_of_ble_eq_true rfl) (Nat.le_of_ble_eq_true rfl) ?_
        refine t_bndK hk (fun r7 er7 hk => ?_)
        refine t_callVvE dX13_readValue_107 M_X13_put (C_X13_put _ _ _ er7) ML_X13_1192 IM_X13_put SE_X13_put qc_950 rfl (As := [.long r6.1]) rfl rfl (Nat.le_of_ble_eq_true rfl) (Nat.le_of_ble_eq_true rfl) (Nat.le_of_ble_eq_true rfl) (Nat.le_of_ble_eq_true rfl) ?_
        exact t_somK hk (fun hf => t_vret dX13_readValue_110 rfl ⟨rfl, hf⟩ (Nat.le_of_ble_eq_true rfl) (Nat.le_of_ble_eq_true rfl))
      replace hk := t_neg hk h1
      by_cases h2 : (r1.1 955 (l1.toNatClampNeg)).toInt = 3
      · replace hk := t_pos hk h2
        refine mj_tableIn 230 dX13_readValue_45 hh1 hh2 (by rw [h2]; rfl) (by decide) ?_
        refine mj_aload_n dX13_readValue_230 0 rfl ?_
        refine mj_iload_n dX13_readValue_231 1 rfl ?_
        refine mj_iload dX13_readValue_232 3 rfl ?_
        refine t_bndK hk (fun r8 er8 hk => ?_)
        refine t_callVvE dX13_readValue_234 M_X13_readText (C_X13_readText _ _ _ _ er8) ML_X13_1200 IM_X13_readText SE_X13_readText qc_950 rfl (As := [.int l1, .int l4]) rfl rfl (Nat.le_of_ble_eq_true rfl) (Nat.le_of_ble_eq_true rfl) (Nat.le_of_ble_eq_true rfl) (Nat.le_of_ble_eq_true rfl) ?_
        exact t_somK hk (fun hf => t_vret dX13_readValue_237 rfl ⟨rfl, hf⟩ (Nat.le_of_ble_eq_true rfl) (Nat.le_of_ble_eq_true rfl))
      replace hk := t_neg hk h2
      by_cases h3 : (r1.1 955 (l1.toNatClampNeg)).toInt = 4
      · replace hk := t_pos hk h3
        refine mj_tableIn 111 dX13_readValue_45 hh1 hh2 (by rw [h3]; rfl) (by decide) ?_
        refine mj_aload_n dX13_readValue_111 0 rfl ?_
        refine mj_aload_n dX13_readValue_112 0 rfl ?_
        refine mj_iload_n dX13_readValue_113 1 rfl ?_
        refine t_bndK hk (fun r9 er9 hk => ?_)
        refine t_callViP dX13_readValue_114 M_X13_partCount (C_X13_partCount _ _ _ er9) ML_X13_830 IM_X13_partCount SE_X13_partCount qc_950 rfl (As := [.int l1]) rfl rfl (Nat.le_of_ble_eq_true rfl) (Nat.le_of_ble_eq_true rfl) (Nat.le_of_ble_eq_true rfl) (Nat.le_of_ble_eq_true rfl) ?_
        refine mj_iconst (v := 1) dX13_readValue_117 (by decide) ?_
        refine mj_isub dX13_readValue_118 ?_
        refine mj_i2l (v := (r9 - (1 : Int32)).toInt64) dX13_readValue_119 rfl ?_
        refine t_bndK hk (fun r10 er10 hk => ?_)
        refine t_callSiP dX13_readValue_120 M_X13_bitsFor (C_X13_bitsFor _ _ _ er10) ML_X13_1135 SM_X13_bitsFor (As := [.long ((r9 - (1 : Int32)).toInt64)]) rfl rfl (Nat.le_of_ble_eq_true rfl) (Nat.le_of_ble_eq_true rfl) (Nat.le_of_ble_eq_true rfl) (Nat.le_of_ble_eq_true rfl) ?_
        refine t_bndK hk (fun r11 er11 hk => ?_)
        refine t_callVlE dX13_readValue_123 M_X13_take (C_X13_take _ _ _ er11) ML_X13_1195 IM_X13_take SE_X13_take qc_950 rfl (As := [.int r10]) rfl rfl (Nat.le_of_ble_eq_true rfl) (Nat.le_of_ble_eq_true rfl) (Nat.le_of_ble_eq_true rfl) (Nat.le_of_ble_eq_true rfl) ?_
        refine mj_lstore (lv2 := [(5, .long r11.1), (0, .ref 950), (1, .int l1), (2, .long l2), (4, .int l4)]) dX13_readValue_126 (by decide) rfl ?_
        refine mj_aload_n dX13_readValue_128 1 rfl ?_
        refine t_getI dX13_readValue_129 F_X13_1155 qf_950_127 ?_
        refine mj_iconst (v := (-1)) dX13_readValue_132 (by decide) ?_
        refine mj_icmp_ne 154 dX13_readValue_133 (by decide) (fun z => t_negK hk z (fun hk => ?_)) (fun z => t_posK hk z (fun hk => ?_))
        · refine mj_sublv [(0, .ref 950), (1, .int l1), (5, .long r11.1)] [1, 2, 0] rfl ?_
          exact B_X13_readValue_154 _ _ _ _ hk
        · refine mj_lload dX13_readValue_136 0 rfl ?_
          refine mj_aload_n dX13_readValue_138 1 rfl ?_
          refine mj_iload_n dX13_readValue_139 2 rfl ?_
          refine t_bndK hk (fun r12 er12 hk => ?_)
          refine t_callViP dX13_readValue_140 M_X13_partCount (C_X13_partCount _ _ _ er12) ML_X13_830 IM_X13_partCount SE_X13_partCount qc_950 rfl (As := [.int l1]) rfl rfl (Nat.le_of_ble_eq_true rfl) (Nat.le_of_ble_eq_true rfl) (Nat.le_of_ble_eq_true rfl) (Nat.le_of_ble_eq_true rfl) ?_
          refine mj_i2l (v := r12.toInt64) dX13_readValue_143 rfl ?_
          refine mj_lcmp dX13_readValue_144 ?_
          refine mj_if_lt 154 dX13_readValue_145 (by decide) (fun z => t_posK hk z (fun hk => ?_)) (fun z => t_negK hk z (fun hk => ?_))
          · refine mj_sublv [(0, .ref 950), (1, .int l1), (5, .long r11.1)] [1, 2, 0] rfl ?_
            exact B_X13_readValue_154 _ _ _ _ hk
          · refine mj_aload_n dX13_readValue_148 1 rfl ?_
            refine mj_iload dX13_readValue_149 4 rfl ?_
            refine t_bndK hk (fun r13 er13 hk => ?_)
            refine t_callVvE dX13_readValue_151 M_X13_wrongBit (C_X13_wrongBit _ _ _ er13) ML_X13_1161 IM_X13_wrongBit SE_X13_wrongBit qc_950 rfl (As := [.int l4]) rfl rfl (Nat.le_of_ble_eq_true rfl) (Nat.le_of_ble_eq_true rfl) (Nat.le_of_ble_eq_true rfl) (Nat.le_of_ble_eq_true rfl) ?_
            refine mj_sublv [(0, .ref 950), (1, .int l1), (5, .long r11.1)] [1, 2, 0] rfl ?_
            exact B_X13_readValue_154 _ _ _ _ hk
      replace hk := t_neg hk h3
      by_cases h4 : (r1.1 955 (l1.toNatClampNeg)).toInt = 5
      · replace hk := t_pos hk h4
        refine mj_tableIn 246 dX13_readValue_45 hh1 hh2 (by rw [h4]; rfl) (by decide) ?_
        refine mj_aload_n dX13_readValue_246 0 rfl ?_
        refine mj_iload_n dX13_readValue_247 1 rfl ?_
        refine t_bndK hk (fun r14 er14 hk => ?_)
        refine t_callVvE dX13_readValue_248 M_X13_readRecord (C_X13_readRecord _ _ _ er14) ML_X13_1206 IM_X13_readRecord SE_X13_readRecord qc_950 rfl (As := [.int l1]) rfl rfl (Nat.le_of_ble_eq_true rfl) (Nat.le_of_ble_eq_true rfl) (Nat.le_of_ble_eq_true rfl) (Nat.le_of_ble_eq_true rfl) ?_
        exact t_somK hk (fun hf => t_vret dX13_readValue_251 rfl ⟨rfl, hf⟩ (Nat.le_of_ble_eq_true rfl) (Nat.le_of_ble_eq_true rfl))
      replace hk := t_neg hk h4
      by_cases h5 : (r1.1 955 (l1.toNatClampNeg)).toInt = 6
      · replace hk := t_pos hk h5
        refine mj_tableIn 111 dX13_readValue_45 hh1 hh2 (by rw [h5]; rfl) (by decide) ?_
        refine mj_aload_n dX13_readValue_111 0 rfl ?_
        refine mj_aload_n dX13_readValue_112 0 rfl ?_
        refine mj_iload_n dX13_readValue_113 1 rfl ?_
        refine t_bndK hk (fun r15 er15 hk => ?_)
        refine t_callViP dX13_readValue_114 M_X13_partCount (C_X13_partCount _ _ _ er15) ML_X13_830 IM_X13_partCount SE_X13_partCount qc_950 rfl (As := [.int l1]) rfl rfl (Nat.le_of_ble_eq_true rfl) (Nat.le_of_ble_eq_true rfl) (Nat.le_of_ble_eq_true rfl) (Nat.le_of_ble_eq_true rfl) ?_
        refine mj_iconst (v := 1) dX13_readValue_117 (by decide) ?_
        refine mj_isub dX13_readValue_118 ?_
        refine mj_i2l (v := (r15 - (1 : Int32)).toInt64) dX13_readValue_119 rfl ?_
        refine t_bndK hk (fun r16 er16 hk => ?_)
        refine t_callSiP dX13_readValue_120 M_X13_bitsFor (C_X13_bitsFor _ _ _ er16) ML_X13_1135 SM_X13_bitsFor (As := [.long ((r15 - (1 : Int32)).toInt64)]) rfl rfl (Nat.le_of_ble_eq_true rfl) (Nat.le_of_ble_eq_true rfl) (Nat.le_of_ble_eq_true rfl) (Nat.le_of_ble_eq_true rfl) ?_
        refine t_bndK hk (fun r17 er17 hk => ?_)
        refine t_callVlE dX13_readValue_123 M_X13_take (C_X13_take _ _ _ er17) ML_X13_1195 IM_X13_take SE_X13_take qc_950 rfl (As := [.int r16]) rfl rfl (Nat.le_of_ble_eq_true rfl) (Nat.le_of_ble_eq_true rfl) (Nat.le_of_ble_eq_true rfl) (Nat.le_of_ble_eq_true rfl) ?_
        refine mj_lstore (lv2 := [(5, .long r17.1), (0, .ref 950), (1, .int l1), (2, .long l2), (4, .int l4)]) dX13_readValue_126 (by decide) rfl ?_
        refine mj_aload_n dX13_readValue_128 1 rfl ?_
        refine t_getI dX13_readValue_129 F_X13_1155 qf_950_127 ?_
        refine mj_iconst (v := (-1)) dX13_readValue_132 (by decide) ?_
        refine mj_icmp_ne 154 dX13_readValue_133 (by decide) (fun z => t_negK hk z (fun hk => ?_)) (fun z => t_posK hk z (fun hk => ?_))
        · refine mj_sublv [(0, .ref 950), (1, .int l1), (5, .long r17.1)] [1, 2, 0] rfl ?_
          exact B_X13_readValue_154 _ _ _ _ hk
        · refine mj_lload dX13_readValue_136 0 rfl ?_
          refine mj_aload_n dX13_readValue_138 1 rfl ?_
          refine mj_iload_n dX13_readValue_139 2 rfl ?_
          refine t_bndK hk (fun r18 er18 hk => ?_)
          refine t_callViP dX13_readValue_140 M_X13_partCount (C_X13_partCount _ _ _ er18) ML_X13_830 IM_X13_partCount SE_X13_partCount qc_950 rfl (As := [.int l1]) rfl rfl (Nat.le_of_ble_eq_true rfl) (Nat.le_of_ble_eq_true rfl) (Nat.le_of_ble_eq_true rfl) (Nat.le_of_ble_eq_true rfl) ?_
          refine mj_i2l (v := r18.toInt64) dX13_readValue_143 rfl ?_
          refine mj_lcmp dX13_readValue_144 ?_
          refine mj_if_lt 154 dX13_readValue_145 (by decide) (fun z => t_posK hk z (fun hk => ?_)) (fun z => t_negK hk z (fun hk => ?_))
          · refine mj_sublv [(0, .ref 950), (1, .int l1), (5, .long r17.1)] [1, 2, 0] rfl ?_
            exact B_X13_readValue_154 _ _ _ _ hk
          · refine mj_aload_n dX13_readValue_148 1 rfl ?_
            refine mj_iload dX13_readValue_149 4 rfl ?_
            refine t_bndK hk (fun r19 er19 hk => ?_)
            refine t_callVvE dX13_readValue_151 M_X13_wrongBit (C_X13_wrongBit _ _ _ er19) ML_X13_1161 IM_X13_wrongBit SE_X13_wrongBit qc_950 rfl (As := [.int l4]) rfl rfl (Nat.le_of_ble_eq_true rfl) (Nat.le_of_ble_eq_true rfl) (Nat.le_of_ble_eq_true rfl) (Nat.le_of_ble_eq_true rfl) ?_
            refine mj_sublv [(0, .ref 950), (1, .int l1), (5, .long r17.1)] [1, 2, 0] rfl ?_
            exact B_X13_readValue_154 _ _ _ _ hk
      replace hk := t_neg hk h5
      have h6 : (r1.1 955 (l1.toNatClampNeg)).toInt = 7 := by omega
      refine mj_tableIn 238 dX13_readValue_45 hh1 hh2 (by rw [h6]; rfl) (by decide) ?_
      refine mj_aload_n dX13_readValue_238 0 rfl ?_
      refine mj_iload_n dX13_readValue_239 1 rfl ?_
      refine mj_iload dX13_readValue_240 3 rfl ?_
      refine t_bndK hk (fun r20 er20 hk => ?_)
      refine t_callVvE dX13_readValue_242 M_X13_readList (C_X13_readList _ _ _ _ er20) ML_X13_1203 IM_X13_readList SE_X13_readList qc_950 rfl (As := [.int l1, .int l4]) rfl rfl (Nat.le_of_ble_eq_true rfl) (Nat.le_of_ble_eq_true rfl) (Nat.le_of_ble_eq_true rfl) (Nat.le_of_ble_eq_true rfl) ?_
      exact t_somK hk (fun hf => t_vret dX13_readValue_245 rfl ⟨rfl, hf⟩ (Nat.le_of_ble_eq_true rfl) (Nat.le_of_ble_eq_true rfl))
  · exact t_somK hk (fun hf => t_vret dX13_readValue_38 rfl ⟨rfl, hf⟩ (Nat.le_of_ble_eq_true rfl) (Nat.le_of_ble_eq_true rfl))
noncomputable def f_X13_readValue (x1 : Int32) (x2 : Int64) (s : t_S) : Option (t_S) :=
 if t_ix x1 13000 = true then
  if (s.1 1012 (x1.toNatClampNeg)) = (0 : Int32) then ((f_X13_wrongBit (s.1 950 126) s).bind (fun r2 =>
 k_X13_readValue_21 x1 x2 (s.1 950 126) r2))
 else (k_X13_readValue_21 x1 x2 (s.1 950 126) s)
else none
set_option maxRecDepth 4000 in
set_option maxHeartbeats 1000000 in
theorem C_X13_readValue (x1 : Int32) (x2 : Int64) (s : t_S) (r : t_S) (hr : f_X13_readValue x1 x2 s = some r) : t_C yX13_readValue cX13_readValue 8 none 3 [.ref 950, .int x1, .long x2] s (fun v s' => v = none ∧ s' = r) := by
  refine t_C.imp (P := fun v s' => v = none ∧ (fun q => q = r) (s')) (t_C.of (by decide +kernel) (Nat.le_of_ble_eq_true rfl) ?_) (fun v s' hp => hp)
  intro D cy ad bs X
  have hk : t_hk (f_X13_readValue x1 x2 s) (fun q => q = r) := ⟨r, hr, rfl⟩
  show mj_G D cy ad bs X cX13_readValue 8 yX13_readValue.cls none yX13_readValue.name 3 0 0 1065 (t_P (fun v s' => v = none ∧ (fun q => q = r) (s'))) 0 [(0, .ref 950), (1, .int x1), (2, .long x2)] [] (t_m s) 1065 0 0
  refine mj_aload_n dX13_readValue_0 0 rfl ?_
  refine t_getI dX13_readValue_1 F_X13_1158 qf_950_126 ?_
  refine mj_istore (lv2 := [(4, .int (s.1 950 126)), (0, .ref 950), (1, .int x1), (2, .long x2)]) dX13_readValue_4 (by decide) rfl ?_
  refine mj_aload_n dX13_readValue_6 1 rfl ?_
  refine t_getR 1012 dX13_readValue_7 F_X13_200 qr_950_109 ?_
  refine mj_iload_n dX13_readValue_10 2 rfl ?_
  refine t_chkK hk (fun c0 hk => ?_)
  refine t_zald dX13_readValue_11 qa_1012 (t_ixv c0) ?_
  refine mj_if_ne 21 dX13_readValue_12 (by decide) (fun z => t_negK hk z (fun hk => ?_)) (fun z => t_posK hk z (fun hk => ?_))
  · refine mj_sublv [(0, .ref 950), (1, .int x1), (2, .long x2), (4, .int (s.1 950 126))] [1, 2, 3, 0] rfl ?_
    exact B_X13_readValue_21 _ _ _ _ _ hk
  · refine mj_aload_n dX13_readValue_15 1 rfl ?_
    refine mj_iload dX13_readValue_16 0 rfl ?_
    refine t_bndK hk (fun r2 er2 hk => ?_)
    refine t_callVvE dX13_readValue_18 M_X13_wrongBit (C_X13_wrongBit _ _ _ er2) ML_X13_1161 IM_X13_wrongBit SE_X13_wrongBit qc_950 rfl (As := [.int (s.1 950 126)]) rfl rfl (Nat.le_of_ble_eq_true rfl) (Nat.le_of_ble_eq_true rfl) (Nat.le_of_ble_eq_true rfl) (Nat.le_of_ble_eq_true rfl) ?_
    refine mj_sublv [(0, .ref 950), (1, .int x1), (2, .long x2), (4, .int (s.1 950 126))] [1, 2, 3, 0] rfl ?_
    exact B_X13_readValue_21 _ _ _ _ _ hk

