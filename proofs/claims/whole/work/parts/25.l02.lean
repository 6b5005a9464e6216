/-! Methods as functions, 2: X13_conforms, X13_move, X13_row -/
theorem dX13_conforms_0 : decode cX13_conforms 0 = .ok (.iload_n 1, 1) := by decide +kernel
theorem dX13_conforms_1 : decode cX13_conforms 1 = .ok (.i2l, 1) := by decide +kernel
theorem dX13_conforms_102 : decode cX13_conforms 102 = .ok (.idiv, 1) := by decide +kernel
theorem dX13_conforms_103 : decode cX13_conforms 103 = .ok (.istore 5, 2) := by decide +kernel
theorem dX13_conforms_105 : decode cX13_conforms 105 = .ok (.aload_n 0, 1) := by decide +kernel
theorem dX13_conforms_106 : decode cX13_conforms 106 = .ok (.getfield 359, 3) := by decide +kernel
theorem dX13_conforms_109 : decode cX13_conforms 109 = .ok (.iload 4, 2) := by decide +kernel
theorem dX13_conforms_111 : decode cX13_conforms 111 = .ok (.iaload, 1) := by decide +kernel
theorem dX13_conforms_112 : decode cX13_conforms 112 = .ok (.sipush 256, 3) := by decide +kernel
theorem dX13_conforms_115 : decode cX13_conforms 115 = .ok (.irem, 1) := by decide +kernel
theorem dX13_conforms_116 : decode cX13_conforms 116 = .ok (.istore 6, 2) := by decide +kernel
theorem dX13_conforms_118 : decode cX13_conforms 118 = .ok (.iconst 0, 1) := by decide +kernel
theorem dX13_conforms_119 : decode cX13_conforms 119 = .ok (.istore 7, 2) := by decide +kernel
theorem dX13_conforms_12 : decode cX13_conforms 12 = .ok (.iload_n 2, 1) := by decide +kernel
theorem dX13_conforms_121 : decode cX13_conforms 121 = .ok (.iload 7, 2) := by decide +kernel
theorem dX13_conforms_123 : decode cX13_conforms 123 = .ok (.bipush 9, 2) := by decide +kernel
theorem dX13_conforms_125 : decode cX13_conforms 125 = .ok (.if_icmp .ge 118, 3) := by decide +kernel
theorem dX13_conforms_128 : decode cX13_conforms 128 = .ok (.aload_n 0, 1) := by decide +kernel
theorem dX13_conforms_129 : decode cX13_conforms 129 = .ok (.iload_n 1, 1) := by decide +kernel
theorem dX13_conforms_13 : decode cX13_conforms 13 = .ok (.i2l, 1) := by decide +kernel
theorem dX13_conforms_130 : decode cX13_conforms 130 = .ok (.iload 5, 2) := by decide +kernel
theorem dX13_conforms_132 : decode cX13_conforms 132 = .ok (.iload 7, 2) := by decide +kernel
theorem dX13_conforms_134 : decode cX13_conforms 134 = .ok (.invokevirtual 1505, 3) := by decide +kernel
theorem dX13_conforms_137 : decode cX13_conforms 137 = .ok (.istore 8, 2) := by decide +kernel
theorem dX13_conforms_139 : decode cX13_conforms 139 = .ok (.aload_n 0, 1) := by decide +kernel
theorem dX13_conforms_14 : decode cX13_conforms 14 = .ok (.lconst 0, 1) := by decide +kernel
theorem dX13_conforms_140 : decode cX13_conforms 140 = .ok (.iload_n 2, 1) := by decide +kernel
theorem dX13_conforms_141 : decode cX13_conforms 141 = .ok (.iload 6, 2) := by decide +kernel
theorem dX13_conforms_143 : decode cX13_conforms 143 = .ok (.iload 7, 2) := by decide +kernel
theorem dX13_conforms_145 : decode cX13_conforms 145 = .ok (.invokevirtual 1505, 3) := by decide +kernel
theorem dX13_conforms_148 : decode cX13_conforms 148 = .ok (.istore 9, 2) := by decide +kernel
theorem dX13_conforms_15 : decode cX13_conforms 15 = .ok (.ldc2_w 1198, 3) := by decide +kernel
theorem dX13_conforms_150 : decode cX13_conforms 150 = .ok (.iload 7, 2) := by decide +kernel
theorem dX13_conforms_152 : decode cX13_conforms 152 = .ok (.iconst 4, 1) := by decide +kernel
theorem dX13_conforms_153 : decode cX13_conforms 153 = .ok (.if_icmp .lt 23, 3) := by decide +kernel
theorem dX13_conforms_156 : decode cX13_conforms 156 = .ok (.iload 8, 2) := by decide +kernel
theorem dX13_conforms_158 : decode cX13_conforms 158 = .ok (.ifCond .eq 18, 3) := by decide +kernel
theorem dX13_conforms_161 : decode cX13_conforms 161 = .ok (.iload 9, 2) := by decide +kernel
theorem dX13_conforms_163 : decode cX13_conforms 163 = .ok (.ifCond .ne 13, 3) := by decide +kernel
theorem dX13_conforms_166 : decode cX13_conforms 166 = .ok (.aload_n 0, 1) := by decide +kernel
theorem dX13_conforms_167 : decode cX13_conforms 167 = .ok (.iload 4, 2) := by decide +kernel
theorem dX13_conforms_169 : decode cX13_conforms 169 = .ok (.iload 7, 2) := by decide +kernel
theorem dX13_conforms_171 : decode cX13_conforms 171 = .ok (.invokevirtual 1508, 3) := by decide +kernel
theorem dX13_conforms_174 : decode cX13_conforms 174 = .ok (.iconst 0, 1) := by decide +kernel
theorem dX13_conforms_175 : decode cX13_conforms 175 = .ok (.ireturn, 1) := by decide +kernel
theorem dX13_conforms_176 : decode cX13_conforms 176 = .ok (.sipush 256, 3) := by decide +kernel
theorem dX13_conforms_179 : decode cX13_conforms 179 = .ok (.iload 8, 2) := by decide +kernel
theorem dX13_conforms_18 : decode cX13_conforms 18 = .ok (.invokestatic 371, 3) := by decide +kernel
theorem dX13_conforms_181 : decode cX13_conforms 181 = .ok (.imul, 1) := by decide +kernel
theorem dX13_conforms_182 : decode cX13_conforms 182 = .ok (.iload 9, 2) := by decide +kernel
theorem dX13_conforms_184 : decode cX13_conforms 184 = .ok (.iadd, 1) := by decide +kernel
theorem dX13_conforms_185 : decode cX13_conforms 185 = .ok (.istore 10, 2) := by decide +kernel
theorem dX13_conforms_187 : decode cX13_conforms 187 = .ok (.iload 9, 2) := by decide +kernel
theorem dX13_conforms_189 : decode cX13_conforms 189 = .ok (.ifCond .eq 48, 3) := by decide +kernel
theorem dX13_conforms_192 : decode cX13_conforms 192 = .ok (.aload_n 0, 1) := by decide +kernel
theorem dX13_conforms_193 : decode cX13_conforms 193 = .ok (.getfield 363, 3) := by decide +kernel
theorem dX13_conforms_196 : decode cX13_conforms 196 = .ok (.iload 10, 2) := by decide +kernel
theorem dX13_conforms_198 : decode cX13_conforms 198 = .ok (.baload, 1) := by decide +kernel
theorem dX13_conforms_199 : decode cX13_conforms 199 = .ok (.ifCond .ne 38, 3) := by decide +kernel
theorem dX13_conforms_2 : decode cX13_conforms 2 = .ok (.lconst 0, 1) := by decide +kernel
theorem dX13_conforms_202 : decode cX13_conforms 202 = .ok (.aload_n 0, 1) := by decide +kernel
theorem dX13_conforms_203 : decode cX13_conforms 203 = .ok (.getfield 363, 3) := by decide +kernel
theorem dX13_conforms_206 : decode cX13_conforms 206 = .ok (.iload 10, 2) := by decide +kernel
theorem dX13_conforms_208 : decode cX13_conforms 208 = .ok (.iconst 1, 1) := by decide +kernel
theorem dX13_conforms_209 : decode cX13_conforms 209 = .ok (.bastore, 1) := by decide +kernel
theorem dX13_conforms_21 : decode cX13_conforms 21 = .ok (.ifCond .ne 5, 3) := by decide +kernel
theorem dX13_conforms_210 : decode cX13_conforms 210 = .ok (.aload_n 0, 1) := by decide +kernel
theorem dX13_conforms_211 : decode cX13_conforms 211 = .ok (.getfield 359, 3) := by decide +kernel
theorem dX13_conforms_214 : decode cX13_conforms 214 = .ok (.iload_n 3, 1) := by decide +kernel
theorem dX13_conforms_215 : decode cX13_conforms 215 = .ok (.iload 10, 2) := by decide +kernel
theorem dX13_conforms_217 : decode cX13_conforms 217 = .ok (.iastore, 1) := by decide +kernel
theorem dX13_conforms_218 : decode cX13_conforms 218 = .ok (.aload_n 0, 1) := by decide +kernel
theorem dX13_conforms_219 : decode cX13_conforms 219 = .ok (.getfield 353, 3) := by decide +kernel
theorem dX13_conforms_222 : decode cX13_conforms 222 = .ok (.iload_n 3, 1) := by decide +kernel
theorem dX13_conforms_223 : decode cX13_conforms 223 = .ok (.iload 4, 2) := by decide +kernel
theorem dX13_conforms_225 : decode cX13_conforms 225 = .ok (.iastore, 1) := by decide +kernel
theorem dX13_conforms_226 : decode cX13_conforms 226 = .ok (.aload_n 0, 1) := by decide +kernel
theorem dX13_conforms_227 : decode cX13_conforms 227 = .ok (.getfield 356, 3) := by decide +kernel
theorem dX13_conforms_230 : decode cX13_conforms 230 = .ok (.iload_n 3, 1) := by decide +kernel
theorem dX13_conforms_231 : decode cX13_conforms 231 = .ok (.iload 7, 2) := by decide +kernel
theorem dX13_conforms_233 : decode cX13_conforms 233 = .ok (.iastore, 1) := by decide +kernel
theorem dX13_conforms_234 : decode cX13_conforms 234 = .ok (.iinc 3 1, 3) := by decide +kernel
theorem dX13_conforms_237 : decode cX13_conforms 237 = .ok (.iinc 7 1, 3) := by decide +kernel
theorem dX13_conforms_24 : decode cX13_conforms 24 = .ok (.iconst (-1), 1) := by decide +kernel
theorem dX13_conforms_240 : decode cX13_conforms 240 = .ok (.goto (-119), 3) := by decide +kernel
theorem dX13_conforms_243 : decode cX13_conforms 243 = .ok (.iinc 4 1, 3) := by decide +kernel
theorem dX13_conforms_246 : decode cX13_conforms 246 = .ok (.goto (-160), 3) := by decide +kernel
theorem dX13_conforms_249 : decode cX13_conforms 249 = .ok (.iconst 1, 1) := by decide +kernel
theorem dX13_conforms_25 : decode cX13_conforms 25 = .ok (.ireturn, 1) := by decide +kernel
theorem dX13_conforms_250 : decode cX13_conforms 250 = .ok (.ireturn, 1) := by decide +kernel
theorem dX13_conforms_26 : decode cX13_conforms 26 = .ok (.iconst 0, 1) := by decide +kernel
theorem dX13_conforms_27 : decode cX13_conforms 27 = .ok (.istore_n 3, 1) := by decide +kernel
theorem dX13_conforms_28 : decode cX13_conforms 28 = .ok (.iload_n 3, 1) := by decide +kernel
theorem dX13_conforms_29 : decode cX13_conforms 29 = .ok (.ldc_w 362, 3) := by decide +kernel
theorem dX13_conforms_3 : decode cX13_conforms 3 = .ok (.ldc2_w 1198, 3) := by decide +kernel
theorem dX13_conforms_32 : decode cX13_conforms 32 = .ok (.if_icmp .ge 16, 3) := by decide +kernel
theorem dX13_conforms_35 : decode cX13_conforms 35 = .ok (.aload_n 0, 1) := by decide +kernel
theorem dX13_conforms_36 : decode cX13_conforms 36 = .ok (.getfield 363, 3) := by decide +kernel
theorem dX13_conforms_39 : decode cX13_conforms 39 = .ok (.iload_n 3, 1) := by decide +kernel
theorem dX13_conforms_40 : decode cX13_conforms 40 = .ok (.iconst 0, 1) := by decide +kernel
theorem dX13_conforms_41 : decode cX13_conforms 41 = .ok (.bastore, 1) := by decide +kernel
theorem dX13_conforms_42 : decode cX13_conforms 42 = .ok (.iinc 3 1, 3) := by decide +kernel
theorem dX13_conforms_45 : decode cX13_conforms 45 = .ok (.goto (-17), 3) := by decide +kernel
theorem dX13_conforms_48 : decode cX13_conforms 48 = .ok (.aload_n 0, 1) := by decide +kernel
theorem dX13_conforms_49 : decode cX13_conforms 49 = .ok (.iconst 0, 1) := by decide +kernel
theorem dX13_conforms_50 : decode cX13_conforms 50 = .ok (.putfield 1502, 3) := by decide +kernel
theorem dX13_conforms_53 : decode cX13_conforms 53 = .ok (.iconst 0, 1) := by decide +kernel
theorem dX13_conforms_54 : decode cX13_conforms 54 = .ok (.istore_n 3, 1) := by decide +kernel
theorem dX13_conforms_55 : decode cX13_conforms 55 = .ok (.aload_n 0, 1) := by decide +kernel
theorem dX13_conforms_56 : decode cX13_conforms 56 = .ok (.getfield 359, 3) := by decide +kernel
theorem dX13_conforms_59 : decode cX13_conforms 59 = .ok (.iconst 0, 1) := by decide +kernel
theorem dX13_conforms_6 : decode cX13_conforms 6 = .ok (.invokestatic 371, 3) := by decide +kernel
theorem dX13_conforms_60 : decode cX13_conforms 60 = .ok (.sipush 257, 3) := by decide +kernel
theorem dX13_conforms_63 : decode cX13_conforms 63 = .ok (.iastore, 1) := by decide +kernel
theorem dX13_conforms_64 : decode cX13_conforms 64 = .ok (.aload_n 0, 1) := by decide +kernel
theorem dX13_conforms_65 : decode cX13_conforms 65 = .ok (.getfield 353, 3) := by decide +kernel
theorem dX13_conforms_68 : decode cX13_conforms 68 = .ok (.iconst 0, 1) := by decide +kernel
theorem dX13_conforms_69 : decode cX13_conforms 69 = .ok (.iconst (-1), 1) := by decide +kernel
theorem dX13_conforms_70 : decode cX13_conforms 70 = .ok (.iastore, 1) := by decide +kernel
theorem dX13_conforms_71 : decode cX13_conforms 71 = .ok (.aload_n 0, 1) := by decide +kernel
theorem dX13_conforms_72 : decode cX13_conforms 72 = .ok (.getfield 363, 3) := by decide +kernel
theorem dX13_conforms_75 : decode cX13_conforms 75 = .ok (.sipush 257, 3) := by decide +kernel
theorem dX13_conforms_78 : decode cX13_conforms 78 = .ok (.iconst 1, 1) := by decide +kernel
theorem dX13_conforms_79 : decode cX13_conforms 79 = .ok (.bastore, 1) := by decide +kernel
theorem dX13_conforms_80 : decode cX13_conforms 80 = .ok (.iinc 3 1, 3) := by decide +kernel
theorem dX13_conforms_83 : decode cX13_conforms 83 = .ok (.iconst 0, 1) := by decide +kernel
theorem dX13_conforms_84 : decode cX13_conforms 84 = .ok (.istore 4, 2) := by decide +kernel
theorem dX13_conforms_86 : decode cX13_conforms 86 = .ok (.iload 4, 2) := by decide +kernel
theorem dX13_conforms_88 : decode cX13_conforms 88 = .ok (.iload_n 3, 1) := by decide +kernel
theorem dX13_conforms_89 : decode cX13_conforms 89 = .ok (.if_icmp .ge 160, 3) := by decide +kernel
theorem dX13_conforms_9 : decode cX13_conforms 9 = .ok (.ifCond .eq 15, 3) := by decide +kernel
theorem dX13_conforms_92 : decode cX13_conforms 92 = .ok (.aload_n 0, 1) := by decide +kernel
theorem dX13_conforms_93 : decode cX13_conforms 93 = .ok (.getfield 359, 3) := by decide +kernel
theorem dX13_conforms_96 : decode cX13_conforms 96 = .ok (.iload 4, 2) := by decide +kernel
theorem dX13_conforms_98 : decode cX13_conforms 98 = .ok (.iaload, 1) := by decide +kernel
theorem dX13_conforms_99 : decode cX13_conforms 99 = .ok (.sipush 256, 3) := by decide +kernel
noncomputable def k_X13_conforms_237 (l1 : Int32) (l2 : Int32) (l3 : Int32) (l4 : Int32) (l5 : Int32) (l6 : Int32) (l7 : Int32) (s : t_S) : Option ((Int32 × Int32 × Int32 × Int32 × Int32 × Int32 × Int32 × t_S) ⊕ ((Int32 × Int32 × Int32 × Int32 × t_S) ⊕ (Int32 × t_S))) :=
 some (.inl (l1, l2, l3, l4, l5, l6, (l7 + 1), s))
set_option maxRecDepth 4000 in
set_option maxHeartbeats 1000000 in
theorem B_X13_conforms_237 {D : va_G} {cy : Nat → ClassId} {ad : Nat → Nat} {bs : Nat} {X : State → Heap → Prop} (l1 : Int32) (l2 : Int32) (l3 : Int32) (l4 : Int32) (l5 : Int32) (l6 : Int32) (l7 : Int32) (s : t_S) (Q : (Int32 × Int32 × Int32 × Int32 × Int32 × Int32 × Int32 × t_S) ⊕ ((Int32 × Int32 × Int32 × Int32 × t_S) ⊕ (Int32 × t_S)) → Prop) (Hb86 : ∀ (y0 : Int32) (y1 : Int32) (y2 : Int32) (y3 : Int32) (y4 : t_S), Q (.inr (.inl (y0, y1, y2, y3, y4))) → mj_G D cy ad bs X cX13_conforms 11 yX13_conforms.cls (some .int) yX13_conforms.name 3 0 0 1065 (t_P (fun v s' => ∃ x, v = some (.int x) ∧ Q (.inr (.inr ((x, s')))))) 86 [(0, .ref 950), (1, .int (y0)), (2, .int (y1)), (3, .int (y2)), (4, .int (y3))] [] (t_m y4) 1065 0 0) (Hb121 : ∀ (y0 : Int32) (y1 : Int32) (y2 : Int32) (y3 : Int32) (y4 : Int32) (y5 : Int32) (y6 : Int32) (y7 : t_S), Q (.inl (y0, y1, y2, y3, y4, y5, y6, y7)) → mj_G D cy ad bs X cX13_conforms 11 yX13_conforms.cls (some .int) yX13_conforms.name 3 0 0 1065 (t_P (fun v s' => ∃ x, v = some (.int x) ∧ Q (.inr (.inr ((x, s')))))) 121 [(0, .ref 950), (1, .int (y0)), (2, .int (y1)), (3, .int (y2)), (4, .int (y3)), (5, .int (y4)), (6, .int (y5)), (7, .int (y6))] [] (t_m y7) 1065 0 0) (hk : t_hk (k_X13_conforms_237 l1 l2 l3 l4 l5 l6 l7 s) Q) : mj_G D cy ad bs X cX13_conforms 11 yX13_conforms.cls (some .int) yX13_conforms.name 3 0 0 1065 (t_P (fun v s' => ∃ x, v = some (.int x) ∧ Q (.inr (.inr ((x, s')))))) 237 [(0, .ref 950), (1, .int l1), (2, .int l2), (3, .int l3), (4, .int l4), (5, .int l5), (6, .int l6), (7, .int l7)] [] (t_m s) 1065 0 0 := by
  refine mj_iinc (k := 7) (v := (l7 + 1)) (lv2 := [(7, .int (l7 + 1)), (0, .ref 950), (1, .int l1), (2, .int l2), (3, .int l3), (4, .int l4), (5, .int l5), (6, .int l6)]) dX13_conforms_237 rfl rfl (by decide) rfl ?_
  refine mj_goto 121 dX13_conforms_240 (by decide) ?_
  refine mj_sublv [(0, .ref 950), (1, .int l1), (2, .int l2), (3, .int l3), (4, .int l4), (5, .int l5), (6, .int l6), (7, .int (l7 + 1))] [1, 2, 3, 4, 5, 6, 7, 0] rfl ?_
  exact t_somK hk (fun hf => Hb121 l1 l2 l3 l4 l5 l6 (l7 + 1) s hf)
noncomputable def k_X13_conforms_176 (l1 : Int32) (l2 : Int32) (l3 : Int32) (l4 : Int32) (l5 : Int32) (l6 : Int32) (l7 : Int32) (l8 : Int32) (l9 : Int32) (s : t_S) : Option ((Int32 × Int32 × Int32 × Int32 × Int32 × Int32 × Int32 × t_S) ⊕ ((Int32 × Int32 × Int32 × Int32 × t_S) ⊕ (Int32 × t_S))) :=
 if l9 = (0 : Int32) then (k_X13_conforms_237 l1 l2 l3 l4 l5 l6 l7 s)
 else (if t_ix (((256 : Int32) * l8) + l9) 65536 = true then
  if (s.1 1064 ((((256 : Int32) * l8) + l9).toNatClampNeg)) = (0 : Int32) then (t_let (t_setI s 1064 ((((256 : Int32) * l8) + l9).toNatClampNeg) (1 : Int32)) (fun s1 =>
 if t_ix l3 65600 = true then
  t_let (t_setI s1 1063 (l3.toNatClampNeg) (((256 : Int32) * l8) + l9)) (fun s2 =>
 t_let (t_setI s2 1061 (l3.toNatClampNeg) l4) (fun s3 =>
 t_let (t_setI s3 1062 (l3.toNatClampNeg) l7) (fun s4 =>
 k_X13_conforms_237 l1 l2 (l3 + 1) l4 l5 l6 l7 s4)))
else none))
 else (k_X13_conforms_237 l1 l2 l3 l4 l5 l6 l7 s)
else none)
set_option maxRecDepth 4000 in
set_option maxHeartbeats 1000000 in
theorem B_X13_conforms_176 {D : va_G} {cy : Nat → ClassId} {ad : Nat → Nat} {bs : Nat} {X : State → Heap → Prop} (l1 : Int32) (l2 : Int32) (l3 : Int32) (l4 : Int32) (l5 : Int32) (l6 : Int32) (l7 : Int32) (l8 : Int32) (l9 : Int32) (s : t_S) (Q : (Int32 × Int32 × Int32 × Int32 × Int32 × Int32 × Int32 × t_S) ⊕ ((Int32 × Int32 × Int32 × Int32 × t_S) ⊕ (Int32 × t_S)) → Prop) (Hb86 : ∀ (y0 : Int32) (y1 : Int32) (y2 : Int32) (y3 : Int32) (y4 : t_S), Q (.inr (.inl (y0, y1, y2, y3, y4))) → mj_G D cy ad bs X cX13_conforms 11 yX13_conforms.cls (some .int) yX13_conforms.name 3 0 0 1065 (t_P (fun v s' => ∃ x, v = some (.int x) ∧ Q (.inr (.inr ((x, s')))))) 86 [(0, .ref 950), (1, .int (y0)), (2, .int (y1)), (3, .int (y2)), (4, .int (y3))] [] (t_m y4) 1065 0 0) (Hb121 : ∀ (y0 : Int32) (y1 : Int32) (y2 : Int32) (y3 : Int32) (y4 : Int32) (y5 : Int32) (y6 : Int32) (y7 : t_S), Q (.inl (y0, y1, y2, y3, y4, y5, y6, y7)) → mj_G D cy ad bs X cX13_conforms 11 yX13_conforms.cls (some .int) yX13_conforms.name 3 0 0 1065 (t_P (fun v s' => ∃ x, v = some (.int x) ∧ Q (.inr (.inr ((x, s')))))) 121 [(0, .ref 950), (1, .int (y0)), (2, .int (y1)), (3, .int (y2)), (4, .int (y3)), (5, .int (y4)), (6, .int (y5)), (7, .int (y6))] [] (t_m y7) 1065 0 0) (hk : t_hk (k_X13_conforms_176 l1 l2 l3 l4 l5 l6 l7 l8 l9 s) Q) : mj_G D cy ad bs X cX13_conforms 11 yX13_conforms.cls (some .int) yX13_conforms.name 3 0 0 1065 (t_P (fun v s' => ∃ x, v = some (.int x) ∧ Q (.inr (.inr ((x, s')))))) 176 [(0, .ref 950), (1, .int l1), (2, .int l2), (3, .int l3), (4, .int l4), (5, .int l5), (6, .int l6), (7, .int l7), (8, .int l8), (9, .int l9)] [] (t_m s) 1065 0 0 := by
  refine mj_sipush (v := 256) dX13_conforms_176 (by decide) ?_
  refine mj_iload dX13_conforms_179 8 rfl ?_
  refine mj_imul dX13_conforms_181 ?_
  refine mj_iload dX13_conforms_182 9 rfl ?_
  refine mj_iadd dX13_conforms_184 ?_
  refine mj_istore (lv2 := [(10, .int (((256 : Int32) * l8) + l9)), (0, .ref 950), (1, .int l1), (2, .int l2), (3, .int l3), (4, .int l4), (5, .int l5), (6, .int l6), (7, .int l7), (8, .int l8), (9, .int l9)]) dX13_conforms_185 (by decide) rfl ?_
  refine mj_iload dX13_conforms_187 10 rfl ?_
  refine mj_if_eq 237 dX13_conforms_189 (by decide) (fun z => t_posK hk z (fun hk => ?_)) (fun z => t_negK hk z (fun hk => ?_))
  · refine mj_sublv [(0, .ref 950), (1, .int l1), (2, .int l2), (3, .int l3), (4, .int l4), (5, .int l5), (6, .int l6), (7, .int l7)] [1, 2, 3, 4, 5, 6, 7, 8] rfl ?_
    exact B_X13_conforms_237 _ _ _ _ _ _ _ _ _ (fun y0 y1 y2 y3 y4 hx => Hb86 y0 y1 y2 y3 y4 hx) (fun y0 y1 y2 y3 y4 y5 y6 y7 hx => Hb121 y0 y1 y2 y3 y4 y5 y6 y7 hx) hk
  · refine mj_aload_n dX13_conforms_192 1 rfl ?_
    refine t_getR 1064 dX13_conforms_193 F_X13_363 qr_950_189 ?_
    refine mj_iload dX13_conforms_196 0 rfl ?_
    refine t_chkK hk (fun c0 hk => ?_)
    refine t_zald dX13_conforms_198 qa_1064 (t_ixv c0) ?_
    refine mj_if_ne 237 dX13_conforms_199 (by decide) (fun z => t_negK hk z (fun hk => ?_)) (fun z => t_posK hk z (fun hk => ?_))
    · refine mj_sublv [(0, .ref 950), (1, .int l1), (2, .int l2), (3, .int l3), (4, .int l4), (5, .int l5), (6, .int l6), (7, .int l7)] [1, 2, 3, 4, 5, 6, 7, 8] rfl ?_
      exact B_X13_conforms_237 _ _ _ _ _ _ _ _ _ (fun y0 y1 y2 y3 y4 hx => Hb86 y0 y1 y2 y3 y4 hx) (fun y0 y1 y2 y3 y4 y5 y6 y7 hx => Hb121 y0 y1 y2 y3 y4 y5 y6 y7 hx) hk
    · refine mj_aload_n dX13_conforms_202 1 rfl ?_
      refine t_getR 1064 dX13_conforms_203 F_X13_363 qr_950_189 ?_
      refine mj_iload dX13_conforms_206 0 rfl ?_
      refine mj_iconst (v := 1) dX13_conforms_208 (by decide) ?_
      refine t_zastK dX13_conforms_209 qa_1064 (t_ixv c0) (by decide) (fun s1 ws1 => t_letE hk ws1 (fun hk => ?_))
      refine mj_aload_n dX13_conforms_210 1 rfl ?_
      refine t_getR 1063 dX13_conforms_211 F_X13_359 qr_950_188 ?_
      refine mj_iload_n dX13_conforms_214 4 rfl ?_
      refine mj_iload dX13_conforms_215 0 rfl ?_
      refine t_chkK hk (fun c1 hk => ?_)
      refine t_iastK dX13_conforms_217 qa_1063 (t_ixv c1) (fun s2 ws2 => t_letE hk ws2 (fun hk => ?_))
      refine mj_aload_n dX13_conforms_218 1 rfl ?_
      refine t_getR 1061 dX13_conforms_219 F_X13_353 qr_950_186 ?_
      refine mj_iload_n dX13_conforms_222 4 rfl ?_
      refine mj_iload dX13_conforms_223 5 rfl ?_
      refine t_iastK dX13_conforms_225 qa_1061 (t_ixv c1) (fun s3 ws3 => t_letE hk ws3 (fun hk => ?_))
      refine mj_aload_n dX13_conforms_226 1 rfl ?_
      refine t_getR 1062 dX13_conforms_227 F_X13_356 qr_950_187 ?_
      refine mj_iload_n dX13_conforms_230 4 rfl ?_
      refine mj_iload dX13_conforms_231 8 rfl ?_
      refine t_iastK dX13_conforms_233 qa_1062 (t_ixv c1) (fun s4 ws4 => t_letE hk ws4 (fun hk => ?_))
      refine mj_iinc (k := 4) (v := (l3 + 1)) (lv2 := [(3, .int (l3 + 1)), (10, .int (((256 : Int32) * l8) + l9)), (0, .ref 950), (1, .int l1), (2, .int l2), (4, .int l4), (5, .int l5), (6, .int l6), (7, .int l7), (8, .int l8), (9, .int l9)]) dX13_conforms_234 rfl rfl (by decide) rfl ?_
      refine mj_sublv [(0, .ref 950), (1, .int l1), (2, .int l2), (3, .int (l3 + 1)), (4, .int l4), (5, .int l5), (6, .int l6), (7, .int l7)] [2, 3, 4, 0, 5, 6, 7, 8] rfl ?_
      exact B_X13_conforms_237 _ _ _ _ _ _ _ _ _ (fun y0 y1 y2 y3 y4 hx => Hb86 y0 y1 y2 y3 y4 hx) (fun y0 y1 y2 y3 y4 y5 y6 y7 hx => Hb121 y0 y1 y2 y3 y4 y5 y6 y7 hx) hk
noncomputable def k_X13_conforms_121 (l1 : Int32) (l2 : Int32) (l3 : Int32) (l4 : Int32) (l5 : Int32) (l6 : Int32) (l7 : Int32) (s : t_S) : Option ((Int32 × Int32 × Int32 × Int32 × Int32 × Int32 × Int32 × t_S) ⊕ ((Int32 × Int32 × Int32 × Int32 × t_S) ⊕ (Int32 × t_S))) :=
 if (9 : Int32) ≤ l7 then ((some (.inl (l1, l2, l3, (l4 + 1), s))).map Sum.inr)
 else ((f_X13_leads l1 l5 l7 s).bind (fun r1 =>
 (f_X13_leads l2 l6 l7 s).bind (fun r2 =>
 if l7 < (4 : Int32) then (k_X13_conforms_176 l1 l2 l3 l4 l5 l6 l7 r1 r2 s)
 else (if r1 = (0 : Int32) then (k_X13_conforms_176 l1 l2 l3 l4 l5 l6 l7 r1 r2 s)
 else (if r2 = (0 : Int32) then ((((f_X13_tellBreak l4 l7 s).bind (fun r3 =>
 some ((0 : Int32), r3))).map Sum.inr).map Sum.inr)
 else (k_X13_conforms_176 l1 l2 l3 l4 l5 l6 l7 r1 r2 s))))))
set_option maxRecDepth 4000 in
set_option maxHeartbeats 1000000 in
theorem B_X13_conforms_121 {D : va_G} {cy : Nat → ClassId} {ad : Nat → Nat} {bs : Nat} {X : State → Heap → Prop} (l1 : Int32) (l2 : Int32) (l3 : Int32) (l4 : Int32) (l5 : Int32) (l6 : Int32) (l7 : Int32) (s : t_S) (Q : (Int32 × Int32 × Int32 × Int32 × Int32 × Int32 × Int32 × t_S) ⊕ ((Int32 × Int32 × Int32 × Int32 × t_S) ⊕ (Int32 × t_S)) → Prop) (Hb86 : ∀ (y0 : Int32) (y1 : Int32) (y2 : Int32) (y3 : Int32) (y4 : t_S), Q (.inr (.inl (y0, y1, y2, y3, y4))) → mj_G D cy ad bs X cX13_conforms 11 yX13_conforms.cls (some .int) yX13_conforms.name 3 0 0 1065 (t_P (fun v s' => ∃ x, v = some (.int x) ∧ Q (.inr (.inr ((x, s')))))) 86 [(0, .ref 950), (1, .int (y0)), (2, .int (y1)), (3, .int (y2)), (4, .int (y3))] [] (t_m y4) 1065 0 0) (Hb121 : ∀ (y0 : Int32) (y1 : Int32) (y2 : Int32) (y3 : Int32) (y4 : Int32) (y5 : Int32) (y6 : Int32) (y7 : t_S), Q (.inl (y0, y1, y2, y3, y4, y5, y6, y7)) → mj_G D cy ad bs X cX13_conforms 11 yX13_conforms.cls (some .int) yX13_conforms.name 3 0 0 1065 (t_P (fun v s' => ∃ x, v = some (.int x) ∧ Q (.inr (.inr ((x, s')))))) 121 [(0, .ref 950), (1, .int (y0)), (2, .int (y1)), (3, .int (y2)), (4, .int (y3)), (5, .int (y4)), (6, .int (y5)), (7, .int (y6))] [] (t_m y7) 1065 0 0) (hk : t_hk (k_X13_conforms_121 l1 l2 l3 l4 l5 l6 l7 s) Q) : mj_G D cy ad bs X cX13_conforms 11 yX13_conforms.cls (some .int) yX13_conforms.name 3 0 0 1065 (t_P (fun v s' => ∃ x, v = some (.int x) ∧ Q (.inr (.inr ((x, s')))))) 121 [(0, .ref 950), (1, .int l1), (2, .int l2), (3, .int l3), (4, .int l4), (5, .int l5), (6, .int l6), (7, .int l7)] [] (t_m s) 1065 0 0 := by
  refine mj_iload dX13_conforms_121 7 rfl ?_
  refine mj_bipush (v := 9) dX13_conforms_123 (by decide) ?_
  refine mj_icmp_ge 243 dX13_conforms_125 (by decide) (fun z => t_posK hk z (fun hk => ?_)) (fun z => t_negK hk z (fun hk => ?_))
  · refine t_mapK hk (fun hk => ?_)
    refine mj_iinc (k := 4) (v := (l4 + 1)) (lv2 := [(4, .int (l4 + 1)), (0, .ref 950), (1, .int l1), (2, .int l2), (3, .int l3), (5, .int l5), (6, .int l6), (7, .int l7)]) dX13_conforms_243 rfl rfl (by decide) rfl ?_
    refine mj_goto 86 dX13_conforms_246 (by decide) ?_
    refine mj_sublv [(0, .ref 950), (1, .int l1), (2, .int l2), (3, .int l3), (4, .int (l4 + 1))] [1, 2, 3, 4, 0] rfl ?_
    exact t_somK hk (fun hf => Hb86 l1 l2 l3 (l4 + 1) s hf)
  · refine mj_aload_n dX13_conforms_128 0 rfl ?_
    refine mj_iload_n dX13_conforms_129 1 rfl ?_
    refine mj_iload dX13_conforms_130 5 rfl ?_
    refine mj_iload dX13_conforms_132 7 rfl ?_
    refine t_bndK hk (fun r1 er1 hk => ?_)
    refine t_callViP dX13_conforms_134 M_X13_leads (C_X13_leads _ _ _ _ _ er1) ML_X13_1505 IM_X13_leads SE_X13_leads qc_950 rfl (As := [.int l1, .int l5, .int l7]) rfl rfl (Nat.le_of_ble_eq_true rfl) (Nat.le_of_ble_eq_true rfl) (Nat.le_of_ble_eq_true rfl) (Nat.le_of_ble_eq_true rfl) ?_
    refine mj_istore (lv2 := [(8, .int r1), (0, .ref 950), (1, .int l1), (2, .int l2), (3, .int l3), (4, .int l4), (5, .int l5), (6, .int l6), (7, .int l7)]) dX13_conforms_137 (by decide) rfl ?_
    refine mj_aload_n dX13_conforms_139 1 rfl ?_
    refine mj_iload_n dX13_conforms_140 3 rfl ?_
    refine mj_iload dX13_conforms_141 7 rfl ?_
    refine mj_iload dX13_conforms_143 8 rfl ?_
    refine t_bndK hk (fun r2 er2 hk => ?_)
    refine t_callViP dX13_conforms_145 M_X13_leads (C_X13_leads _ _ _ _ _ er2) ML_X13_1505 IM_X13_leads SE_X13_leads qc_950 rfl (As := [.int l2, .int l6, .int l7]) rfl rfl (Nat.le_of_ble_eq_true rfl) (Nat.le_of_ble_eq_true rfl) (Nat.le_of_ble_eq_true rfl) (Nat.le_of_ble_eq_true rfl) ?_
    refine mj_istore (lv2 := [(9, .int r2), (8, .int r1), (0, .ref 950), (1, .int l1), (2, .int l2), (3, .int l3), (4, .int l4), (5, .int l5), (6, .int l6), (7, .int l7)]) dX13_conforms_148 (by decide) rfl ?_
    refine mj_iload dX13_conforms_150 9 rfl ?_
    refine mj_iconst (v := 4) dX13_conforms_152 (by decide) ?_
    refine mj_icmp_lt 176 dX13_conforms_153 (by decide) (fun z => t_posK hk z (fun hk => ?_)) (fun z => t_negK hk z (fun hk => ?_))
    · refine mj_sublv [(0, .ref 950), (1, .int l1), (2, .int l2), (3, .int l3), (4, .int l4), (5, .int l5), (6, .int l6), (7, .int l7), (8, .int r1), (9, .int r2)] [2, 3, 4, 5, 6, 7, 8, 9, 1, 0] rfl ?_
      exact B_X13_conforms_176 _ _ _ _ _ _ _ _ _ _ _ (fun y0 y1 y2 y3 y4 hx => Hb86 y0 y1 y2 y3 y4 hx) (fun y0 y1 y2 y3 y4 y5 y6 y7 hx => Hb121 y0 y1 y2 y3 y4 y5 y6 y7 hx) hk
    · refine mj_iload dX13_conforms_156 1 rfl ?_
      refine mj_if_eq 176 dX13_conforms_158 (by decide) (fun z => t_posK hk z (fun hk => ?_)) (fun z => t_negK hk z (fun hk => ?_))
      · refine mj_sublv [(0, .ref 950), (1, .int l1), (2, .int l2), (3, .int l3), (4, .int l4), (5, .int l5), (6, .int l6), (7, .int l7), (8, .int r1), (9, .int r2)] [2, 3, 4, 5, 6, 7, 8, 9, 1, 0] rfl ?_
        exact B_X13_conforms_176 _ _ _ _ _ _ _ _ _ _ _ (fun y0 y1 y2 y3 y4 hx => Hb86 y0 y1 y2 y3 y4 hx) (fun y0 y1 y2 y3 y4 y5 y6 y7 hx => Hb121 y0 y1 y2 y3 y4 y5 y6 y7 hx) hk
      · refine mj_iload dX13_conforms_161 0 rfl ?_
        refine mj_if_ne 176 dX13_conforms_163 (by decide) (fun z => t_negK hk z (fun hk => ?_)) (fun z => t_posK hk z (fun hk => ?_))
        · refine mj_sublv [(0, .ref 950), (1, .int l1), (2, .int l2), (3, .int l3), (4, .int l4), (5, .int l5), (6, .int l6), (7, .int l7), (8, .int r1), (9, .int r2)] [2, 3, 4, 5, 6, 7, 8, 9, 1, 0] rfl ?_
          exact B_X13_conforms_176 _ _ _ _ _ _ _ _ _ _ _ (fun y0 y1 y2 y3 y4 hx => Hb86 y0 y1 y2 y3 y4 hx) (fun y0 y1 y2 y3 y4 y5 y6 y7 hx => Hb121 y0 y1 y2 y3 y4 y5 y6 y7 hx) hk
        · refine t_mapK hk (fun hk => ?_)
          refine t_mapK hk (fun hk => ?_)
          refine mj_aload_n dX13_conforms_166 2 rfl ?_
          refine mj_iload dX13_conforms_167 6 rfl ?_
          refine mj_iload dX13_conforms_169 9 rfl ?_
          refine t_bndK hk (fun r3 er3 hk => ?_)
          refine t_callVvE dX13_conforms_171 M_X13_tellBreak (C_X13_tellBreak _ _ _ _ er3) ML_X13_1508 IM_X13_tellBreak SE_X13_tellBreak qc_950 rfl (As := [.int l4, .int l7]) rfl rfl (Nat.le_of_ble_eq_true rfl) (Nat.le_of_ble_eq_true rfl) (Nat.le_of_ble_eq_true rfl) (Nat.le_of_ble_eq_true rfl) ?_
          refine mj_iconst (v := 0) dX13_conforms_174 (by decide) ?_
          exact t_somK hk (fun hf => t_iret dX13_conforms_175 rfl rfl ⟨_, rfl, hf⟩ (Nat.le_of_ble_eq_true rfl) (Nat.le_of_ble_eq_true rfl))
noncomputable def b_X13_conforms_121 (x : Int32 × Int32 × Int32 × Int32 × Int32 × Int32 × Int32 × t_S) : Option ((Int32 × Int32 × Int32 × Int32 × Int32 × Int32 × Int32 × t_S) ⊕ ((Int32 × Int32 × Int32 × Int32 × t_S) ⊕ (Int32 × t_S))) := k_X13_conforms_121 x.1 x.2.1 x.2.2.1 x.2.2.2.1 x.2.2.2.2.1 x.2.2.2.2.2.1 x.2.2.2.2.2.2.1 x.2.2.2.2.2.2.2
set_option maxRecDepth 4000 in
set_option maxHeartbeats 1000000 in
theorem LH_X13_conforms_121 {D : va_G} {cy : Nat → ClassId} {ad : Nat → Nat} {bs : Nat} {X : State → Heap → Prop} : ∀ (n : Nat) (y0 : Int32) (y1 : Int32) (y2 : Int32) (y3 : Int32) (y4 : Int32) (y5 : Int32) (y6 : Int32) (y7 : t_S) (Q : (Int32 × Int32 × Int32 × Int32 × t_S) ⊕ (Int32 × t_S) → Prop) (Hb86 : ∀ (y0 : Int32) (y1 : Int32) (y2 : Int32) (y3 : Int32) (y4 : t_S), Q (.inl (y0, y1, y2, y3, y4)) → mj_G D cy ad bs X cX13_conforms 11 yX13_conforms.cls (some .int) yX13_conforms.name 3 0 0 1065 (t_P (fun v s' => ∃ x, v = some (.int x) ∧ Q (.inr ((x, s'))))) 86 [(0, .ref 950), (1, .int (y0)), (2, .int (y1)), (3, .int (y2)), (4, .int (y3))] [] (t_m y4) 1065 0 0) (hk : t_hk (t_loop (b_X13_conforms_121) n (y0, y1, y2, y3, y4, y5, y6, y7)) Q), mj_G D cy ad bs X cX13_conforms 11 yX13_conforms.cls (some .int) yX13_conforms.name 3 0 0 1065 (t_P (fun v s' => ∃ x, v = some (.int x) ∧ Q (.inr ((x, s'))))) 121 [(0, .ref 950), (1, .int (y0)), (2, .int (y1)), (3, .int (y2)), (4, .int (y3)), (5, .int (y4)), (6, .int (y5)), (7, .int (y6))] [] (t_m y7) 1065 0 0 := by
  intro n
  induction n with
  | zero => intro y0 y1 y2 y3 y4 y5 y6 y7 Q Hb86 hk; obtain ⟨r, hr, _⟩ := hk; cases hr
  | succ n ih =>
    intro y0 y1 y2 y3 y4 y5 y6 y7 Q Hb86 hk
    exact B_X13_conforms_121 y0 y1 y2 y3 y4 y5 y6 y7 (fun y => t_lq (b_X13_conforms_121) n Q y) (fun y0' y1' y2' y3' y4' hy => Hb86 y0' y1' y2' y3' y4' hy) (fun y0' y1' y2' y3' y4' y5' y6' y7' hy => ih y0' y1' y2' y3' y4' y5' y6' y7' Q Hb86 hy) (t_lp hk)
noncomputable def k_X13_conforms_86 (l1 : Int32) (l2 : Int32) (l3 : Int32) (l4 : Int32) (s : t_S) : Option ((Int32 × Int32 × Int32 × Int32 × t_S) ⊕ (Int32 × t_S)) :=
 if l3 ≤ l4 then ((some ((1 : Int32), s)).map Sum.inr)
 else (if t_ix l4 65600 = true then
  t_loop (b_X13_conforms_121) t_N (l1, l2, l3, l4, ((s.1 1063 (l4.toNatClampNeg)) / (256 : Int32)), ((s.1 1063 (l4.toNatClampNeg)) - (s.1 1063 (l4.toNatClampNeg)) / (256 : Int32) * (256 : Int32)), 0, s)
else none)
set_option maxRecDepth 4000 in
set_option maxHeartbeats 1000000 in
theorem B_X13_conforms_86 {D : va_G} {cy : Nat → ClassId} {ad : Nat → Nat} {bs : Nat} {X : State → Heap → Prop} (l1 : Int32) (l2 : Int32) (l3 : Int32) (l4 : Int32) (s : t_S) (Q : (Int32 × Int32 × Int32 × Int32 × t_S) ⊕ (Int32 × t_S) → Prop) (Hb86 : ∀ (y0 : Int32) (y1 : Int32) (y2 : Int32) (y3 : Int32) (y4 : t_S), Q (.inl (y0, y1, y2, y3, y4)) → mj_G D cy ad bs X cX13_conforms 11 yX13_conforms.cls (some .int) yX13_conforms.name 3 0 0 1065 (t_P (fun v s' => ∃ x, v = some (.int x) ∧ Q (.inr ((x, s'))))) 86 [(0, .ref 950), (1, .int (y0)), (2, .int (y1)), (3, .int (y2)), (4, .int (y3))] [] (t_m y4) 1065 0 0) (hk : t_hk (k_X13_conforms_86 l1 l2 l3 l4 s) Q) : mj_G D cy ad bs X cX13_conforms 11 yX13_conforms.cls (some .int) yX13_conforms.name 3 0 0 1065 (t_P (fun v s' => ∃ x, v = some (.int x) ∧ Q (.inr ((x, s'))))) 86 [(0, .ref 950), (1, .int l1), (2, .int l2), (3, .int l3), (4, .int l4)] [] (t_m s) 1065 0 0 := by
  refine mj_iload dX13_conforms_86 4 rfl ?_
  refine mj_iload_n dX13_conforms_88 3 rfl ?_
  refine mj_icmp_ge 249 dX13_conforms_89 (by decide) (fun z => t_posK hk z (fun hk => ?_)) (fun z => t_negK hk z (fun hk => ?_))
  · refine t_mapK hk (fun hk => ?_)
    refine mj_iconst (v := 1) dX13_conforms_249 (by decide) ?_
    exact t_somK hk (fun hf => t_iret dX13_conforms_250 rfl rfl ⟨_, rfl, hf⟩ (Nat.le_of_ble_eq_true rfl) (Nat.le_of_ble_eq_true rfl))
  · refine mj_aload_n dX13_conforms_92 0 rfl ?_
    refine t_getR 1063 dX13_conforms_93 F_X13_359 qr_950_188 ?_
    refine mj_iload dX13_conforms_96 4 rfl ?_
    refine t_chkK hk (fun c0 hk => ?_)
    refine t_iald dX13_conforms_98 qa_1063 (t_ixv c0) ?_
    refine mj_sipush (v := 256) dX13_conforms_99 (by decide) ?_
    refine mj_idiv dX13_conforms_102 (by decide) ?_
    refine mj_istore (lv2 := [(5, .int ((s.1 1063 (l4.toNatClampNeg)) / (256 : Int32))), (0, .ref 950), (1, .int l1), (2, .int l2), (3, .int l3), (4, .int l4)]) dX13_conforms_103 (by decide) rfl ?_
    refine mj_aload_n dX13_conforms_105 1 rfl ?_
    refine t_getR 1063 dX13_conforms_106 F_X13_359 qr_950_188 ?_
    refine mj_iload dX13_conforms_109 5 rfl ?_
    refine t_iald dX13_conforms_111 qa_1063 (t_ixv c0) ?_
    refine mj_sipush (v := 256) dX13_conforms_112 (by decide) ?_
    refine mj_irem dX13_conforms_115 (by decide) ?_
    refine mj_istore (lv2 := [(6, .int ((s.1 1063 (l4.toNatClampNeg)) - (s.1 1063 (l4.toNatClampNeg)) / (256 : Int32) * (256 : Int32))), (5, .int ((s.1 1063 (l4.toNatClampNeg)) / (256 : Int32))), (0, .ref 950), (1, .int l1), (2, .int l2), (3, .int l3), (4, .int l4)]) dX13_conforms_116 (by decide) rfl ?_
    refine mj_iconst (v := 0) dX13_conforms_118 (by decide) ?_
    refine mj_istore (lv2 := [(7, .int 0), (6, .int ((s.1 1063 (l4.toNatClampNeg)) - (s.1 1063 (l4.toNatClampNeg)) / (256 : Int32) * (256 : Int32))), (5, .int ((s.1 1063 (l4.toNatClampNeg)) / (256 : Int32))), (0, .ref 950), (1, .int l1), (2, .int l2), (3, .int l3), (4, .int l4)]) dX13_conforms_119 (by decide) rfl ?_
    refine mj_sublv [(0, .ref 950), (1, .int l1), (2, .int l2), (3, .int l3), (4, .int l4), (5, .int ((s.1 1063 (l4.toNatClampNeg)) / (256 : Int32))), (6, .int ((s.1 1063 (l4.toNatClampNeg)) - (s.1 1063 (l4.toNatClampNeg)) / (256 : Int32) * (256 : Int32))), (7, .int 0)] [3, 4, 5, 6, 7, 2, 1, 0] rfl ?_
    exact LH_X13_conforms_121 _ l1 l2 l3 l4 ((s.1 1063 (l4.toNatClampNeg)) / (256 : Int32)) ((s.1 1063 (l4.toNatClampNeg)) - (s.1 1063 (l4.toNatClampNeg)) / (256 : Int32) * (256 : Int32)) 0 s _ (fun y0 y1 y2 y3 y4 hx => Hb86 y0 y1 y2 y3 y4 hx) hk
noncomputable def b_X13_conforms_86 (x : Int32 × Int32 × Int32 × Int32 × t_S) : Option ((Int32 × Int32 × Int32 × Int32 × t_S) ⊕ (Int32 × t_S)) := k_X13_conforms_86 x.1 x.2.1 x.2.2.1 x.2.2.2.1 x.2.2.2.2
set_option maxRecDepth 4000 in
set_option maxHeartbeats 1000000 in
theorem LH_X13_conforms_86 {D : va_G} {cy : Nat → ClassId} {ad : Nat → Nat} {bs : Nat} {X : State → Heap → Prop} : ∀ (n : Nat) (y0 : Int32) (y1 : Int32) (y2 : Int32) (y3 : Int32) (y4 : t_S) (Q : Int32 × t_S → Prop) (hk : t_hk (t_loop (b_X13_conforms_86) n (y0, y1, y2, y3, y4)) Q), mj_G D cy ad bs X cX13_conforms 11 yX13_conforms.cls (some .int) yX13_conforms.name 3 0 0 1065 (t_P (fun v s' => ∃ x, v = some (.int x) ∧ Q ((x, s')))) 86 [(0, .ref 950), (1, .int (y0)), (2, .int (y1)), (3, .int (y2)), (4, .int (y3))] [] (t_m y4) 1065 0 0 := by
  intro n
  induction n with
  | zero => intro y0 y1 y2 y3 y4 Q hk; obtain ⟨r, hr, _⟩ := hk; cases hr
  | succ n ih =>
    intro y0 y1 y2 y3 y4 Q hk
    exact B_X13_conforms_86 y0 y1 y2 y3 y4 (fun y => t_lq (b_X13_conforms_86) n Q y) (fun y0' y1' y2' y3' y4' hy => ih y0' y1' y2' y3' y4' Q hy) (t_lp hk)
noncomputable def k_X13_conforms_28 (l1 : Int32) (l2 : Int32) (l3 : Int32) (s : t_S) : Option ((Int32 × Int32 × Int32 × t_S) ⊕ (Int32 × t_S)) :=
 if (65536 : Int32) ≤ l3 then ((t_let (t_setI s 950 183 (0 : Int32)) (fun s1 =>
 t_let (t_setI s1 1063 ((0 : Int32).toNatClampNeg) (257 : Int32)) (fun s2 =>
 t_let (t_setI s2 1061 ((0 : Int32).toNatClampNeg) (-1 : Int32)) (fun s3 =>
 t_let (t_setI s3 1064 ((257 : Int32).toNatClampNeg) (1 : Int32)) (fun s4 =>
 t_loop (b_X13_conforms_86) t_N (l1, l2, 1, 0, s4)))))).map Sum.inr)
 else (if t_ix l3 65536 = true then
  t_let (t_setI s 1064 (l3.toNatClampNeg) (0 : Int32)) (fun s5 =>
 some (.inl (l1, l2, (l3 + 1), s5)))
else none)
set_option maxRecDepth 4000 in
set_option maxHeartbeats 1000000 in
theorem B_X13_conforms_28 {D : va_G} {cy : Nat → ClassId} {ad : Nat → Nat} {bs : Nat} {X : State → Heap → Prop} (l1 : Int32) (l2 : Int32) (l3 : Int32) (s : t_S) (Q : (Int32 × Int32 × Int32 × t_S) ⊕ (Int32 × t_S) → Prop) (Hb28 : ∀ (y0 : Int32) (y1 : Int32) (y2 : Int32) (y3 : t_S), Q (.inl (y0, y1, y2, y3)) → mj_G D cy ad bs X cX13_conforms 11 yX13_conforms.cls (some .int) yX13_conforms.name 3 0 0 1065 (t_P (fun v s' => ∃ x, v = some (.int x) ∧ Q (.inr ((x, s'))))) 28 [(0, .ref 950), (1, .int (y0)), (2, .int (y1)), (3, .int (y2))] [] (t_m y3) 1065 0 0) (hk : t_hk (k_X13_conforms_28 l1 l2 l3 s) Q) : mj_G D cy ad bs X cX13_conforms 11 yX13_conforms.cls (some .int) yX13_conforms.name 3 0 0 1065 (t_P (fun v s' => ∃ x, v = some (.int x) ∧ Q (.inr ((x, s'))))) 28 [(0, .ref 950), (1, .int l1), (2, .int l2), (3, .int l3)] [] (t_m s) 1065 0 0 := by
  refine mj_iload_n dX13_conforms_28 3 rfl ?_
  refine mj_ldcw dX13_conforms_29 K_X13_362 ?_
  refine mj_icmp_ge 48 dX13_conforms_32 (by decide) (fun z => t_posK hk z (fun hk => ?_)) (fun z => t_negK hk z (fun hk => ?_))
  · refine t_mapK hk (fun hk => ?_)
    refine mj_aload_n dX13_conforms_48 0 rfl ?_
    refine mj_iconst (v := 0) dX13_conforms_49 (by decide) ?_
    refine t_putIK dX13_conforms_50 F_X13_1502 qf_950_183 rfl (fun s1 ws1 => t_letE hk ws1 (fun hk => ?_))
    refine mj_iconst (v := 0) dX13_conforms_53 (by decide) ?_
    refine mj_istore_n 3 (lv2 := [(3, .int 0), (0, .ref 950), (1, .int l1), (2, .int l2)]) dX13_conforms_54 rfl (by decide) rfl ?_
    refine mj_aload_n dX13_conforms_55 1 rfl ?_
    refine t_getR 1063 dX13_conforms_56 F_X13_359 qr_950_188 ?_
    refine mj_iconst (v := 0) dX13_conforms_59 (by decide) ?_
    refine mj_sipush (v := 257) dX13_conforms_60 (by decide) ?_
    refine t_iastK dX13_conforms_63 qa_1063 (by unfold vp_in; decide) (fun s2 ws2 => t_letE hk ws2 (fun hk => ?_))
    refine mj_aload_n dX13_conforms_64 1 rfl ?_
    refine t_getR 1061 dX13_conforms_65 F_X13_353 qr_950_186 ?_
    refine mj_iconst (v := 0) dX13_conforms_68 (by decide) ?_
    refine mj_iconst (v := (-1)) dX13_conforms_69 (by decide) ?_
    refine t_iastK dX13_conforms_70 qa_1061 (by unfold vp_in; decide) (fun s3 ws3 => t_letE hk ws3 (fun hk => ?_))
    refine mj_aload_n dX13_conforms_71 1 rfl ?_
    refine t_getR 1064 dX13_conforms_72 F_X13_363 qr_950_189 ?_
    refine mj_sipush (v := 257) dX13_conforms_75 (by decide) ?_
    refine mj_iconst (v := 1) dX13_conforms_78 (by decide) ?_
    refine t_zastK dX13_conforms_79 qa_1064 (by unfold vp_in; decide) (by decide) (fun s4 ws4 => t_letE hk ws4 (fun hk => ?_))
    refine mj_iinc (k := 0) (v := 1) (lv2 := [(3, .int 1), (0, .ref 950), (1, .int l1), (2, .int l2)]) dX13_conforms_80 rfl (by decide) (by decide) rfl ?_
    refine mj_iconst (v := 0) dX13_conforms_83 (by decide) ?_
    refine mj_istore (lv2 := [(4, .int 0), (3, .int 1), (0, .ref 950), (1, .int l1), (2, .int l2)]) dX13_conforms_84 (by decide) rfl ?_
    refine mj_sublv [(0, .ref 950), (1, .int l1), (2, .int l2), (3, .int 1), (4, .int 0)] [2, 3, 4, 1, 0] rfl ?_
    exact LH_X13_conforms_86 _ l1 l2 1 0 s4 _ hk
  · refine mj_aload_n dX13_conforms_35 0 rfl ?_
    refine t_getR 1064 dX13_conforms_36 F_X13_363 qr_950_189 ?_
    refine mj_iload_n dX13_conforms_39 3 rfl ?_
    refine mj_iconst (v := 0) dX13_conforms_40 (by decide) ?_
    refine t_chkK hk (fun c0 hk => ?_)
    refine t_zastK dX13_conforms_41 qa_1064 (t_ixv c0) (by decide) (fun s5 ws5 => t_letE hk ws5 (fun hk => ?_))
    refine mj_iinc (k := 3) (v := (l3 + 1)) (lv2 := [(3, .int (l3 + 1)), (0, .ref 950), (1, .int l1), (2, .int l2)]) dX13_conforms_42 rfl rfl (by decide) rfl ?_
    refine mj_goto 28 dX13_conforms_45 (by decide) ?_
    refine mj_sublv [(0, .ref 950), (1, .int l1), (2, .int l2), (3, .int (l3 + 1))] [1, 2, 3, 0] rfl ?_
    exact t_somK hk (fun hf => Hb28 l1 l2 (l3 + 1) s5 hf)
noncomputable def b_X13_conforms_28 (x : Int32 × Int32 × Int32 × t_S) : Option ((Int32 × Int32 × Int32 × t_S) ⊕ (Int32 × t_S)) := k_X13_conforms_28 x.1 x.2.1 x.2.2.1 x.2.2.2
set_option maxRecDepth 4000 in
set_option maxHeartbeats 1000000 in
theorem LH_X13_conforms_28 {D : va_G} {cy : Nat → ClassId} {ad : Nat → Nat} {bs : Nat} {X : State → Heap → Prop} : ∀ (n : Nat) (y0 : Int32) (y1 : Int32) (y2 : Int32) (y3 : t_S) (Q : Int32 × t_S → Prop) (hk : t_hk (t_loop (b_X13_conforms_28) n (y0, y1, y2, y3)) Q), mj_G D cy ad bs X cX13_conforms 11 yX13_conforms.cls (some .int) yX13_conforms.name 3 0 0 1065 (t_P (fun v s' => ∃ x, v = some (.int x) ∧ Q ((x, s')))) 28 [(0, .ref 950), (1, .int (y0)), (2, .int (y1)), (3, .int (y2))] [] (t_m y3) 1065 0 0 := by
  intro n
  induction n with
  | zero => intro y0 y1 y2 y3 Q hk; obtain ⟨r, hr, _⟩ := hk; cases hr
  | succ n ih =>
    intro y0 y1 y2 y3 Q hk
    exact B_X13_conforms_28 y0 y1 y2 y3 (fun y => t_lq (b_X13_conforms_28) n Q y) (fun y0' y1' y2' y3' hy => ih y0' y1' y2' y3' Q hy) (t_lp hk)
noncomputable def f_X13_conforms (x1 : Int32) (x2 : Int32) (s : t_S) : Option (Int32 × t_S) :=
 if (f_X13_in x1.toInt64 (0 : Int64) (3 : Int64) s) = (0 : Int32) then (some ((-1 : Int32), s))
 else (if (f_X13_in x2.toInt64 (0 : Int64) (3 : Int64) s) = (0 : Int32) then (some ((-1 : Int32), s))
 else (t_loop (b_X13_conforms_28) t_N (x1, x2, 0, s)))
set_option maxRecDepth 4000 in
set_option maxHeartbeats 1000000 in
theorem C_X13_conforms (x1 : Int32) (x2 : Int32) (s : t_S) (r : Int32 × t_S) (hr : f_X13_conforms x1 x2 s = some r) : t_C yX13_conforms cX13_conforms 11 (some .int) 3 [.ref 950, .int x1, .int x2] s (fun v s' => v = some (.int r.1) ∧ s' = r.2) := by
  refine t_C.imp (P := fun v s' => ∃ x, v = some (.int x) ∧ (fun q => q = r) ((x, s'))) (t_C.of (by decide +kernel) (Nat.le_of_ble_eq_true rfl) ?_) (fun v s' hp => by obtain ⟨x, rfl, rfl⟩ := hp; exact ⟨rfl, rfl⟩)
  intro D cy ad bs X
  have hk : t_hk (f_X13_conforms x1 x2 s) (fun q => q = r) := ⟨r, hr, rfl⟩
  show mj_G D cy ad bs X cX13_conforms 11 yX13_conforms.cls (some .int) yX13_conforms.name 3 0 0 1065 (t_P (fun v s' => ∃ x, v = some (.int x) ∧ (fun q => q = r) ((x, s')))) 0 [(0, .ref 950), (1, .int x1), (2, .int x2)] [] (t_m s) 1065 0 0
  refine mj_iload_n dX13_conforms_0 1 rfl ?_
  refine mj_i2l (v := x1.toInt64) dX13_conforms_1 rfl ?_
  refine mj_lconst (v := 0) dX13_conforms_2 (by decide) ?_
  refine mj_ldc2 dX13_conforms_3 K_X13_1198 ?_
  refine t_callSiP dX13_conforms_6 M_X13_in (C_X13_in _ _ _ _) ML_X13_371 SM_X13_in (As := [.long x1.toInt64, .long 0, .long 3]) rfl rfl (Nat.le_of_ble_eq_true rfl) (Nat.le_of_ble_eq_true rfl) (Nat.le_of_ble_eq_true rfl) (Nat.le_of_ble_eq_true rfl) ?_
  refine mj_if_eq 24 dX13_conforms_9 (by decide) (fun z => t_posK hk z (fun hk => ?_)) (fun z => t_negK hk z (fun hk => ?_))
  · refine mj_iconst (v := (-1)) dX13_conforms_24 (by decide) ?_
    exact t_somK hk (fun hf => t_iret dX13_conforms_25 rfl rfl ⟨_, rfl, hf⟩ (Nat.le_of_ble_eq_true rfl) (Nat.le_of_ble_eq_true rfl))
  · refine mj_iload_n dX13_conforms_12 2 rfl ?_
    refine mj_i2l (v := x2.toInt64) dX13_conforms_13 rfl ?_
    refine mj_lconst (v := 0) dX13_conforms_14 (by decide) ?_
    refine mj_ldc2 dX13_conforms_15 K_X13_1198 ?_
    refine t_callSiP dX13_conforms_18 M_X13_in (C_X13_in _ _ _ _) ML_X13_371 SM_X13_in (As := [.long x2.toInt64, .long 0, .long 3]) rfl rfl (Nat.le_of_ble_eq_true rfl) (Nat.le_of_ble_eq_true rfl) (Nat.le_of_ble_eq_true rfl) (Nat.le_of_ble_eq_true rfl) ?_
    refine mj_if_ne 26 dX13_conforms_21 (by decide) (fun z => t_negK hk z (fun hk => ?_)) (fun z => t_posK hk z (fun hk => ?_))
    · refine mj_iconst (v := 0) dX13_conforms_26 (by decide) ?_
      refine mj_istore_n 3 (lv2 := [(3, .int 0), (0, .ref 950), (1, .int x1), (2, .int x2)]) dX13_conforms_27 rfl (by decide) rfl ?_
      refine mj_sublv [(0, .ref 950), (1, .int x1), (2, .int x2), (3, .int 0)] [1, 2, 3, 0] rfl ?_
      exact LH_X13_conforms_28 _ x1 x2 0 s _ hk
    · refine mj_iconst (v := (-1)) dX13_conforms_24 (by decide) ?_
      exact t_somK hk (fun hf => t_iret dX13_conforms_25 rfl rfl ⟨_, rfl, hf⟩ (Nat.le_of_ble_eq_true rfl) (Nat.le_of_ble_eq_true rfl))

theorem dX13_move_0 : decode cX13_move 0 = .ok (.iload_n 1, 1) := by decide +kernel
theorem dX13_move_1 : decode cX13_move 1 = .ok (.i2l, 1) := by decide +kernel
theorem dX13_move_100 : decode cX13_move 100 = .ok (.aload_n 0, 1) := by decide +kernel
theorem dX13_move_101 : decode cX13_move 101 = .ok (.getfield 345, 3) := by decide +kernel
theorem dX13_move_104 : decode cX13_move 104 = .ok (.iload 6, 2) := by decide +kernel
theorem dX13_move_106 : decode cX13_move 106 = .ok (.iaload, 1) := by decide +kernel
theorem dX13_move_107 : decode cX13_move 107 = .ok (.iconst 1, 1) := by decide +kernel
theorem dX13_move_108 : decode cX13_move 108 = .ok (.iload 4, 2) := by decide +kernel
theorem dX13_move_110 : decode cX13_move 110 = .ok (.ishl, 1) := by decide +kernel
theorem dX13_move_111 : decode cX13_move 111 = .ok (.iconst (-1), 1) := by decide +kernel
theorem dX13_move_112 : decode cX13_move 112 = .ok (.ixor, 1) := by decide +kernel
theorem dX13_move_113 : decode cX13_move 113 = .ok (.iand, 1) := by decide +kernel
theorem dX13_move_114 : decode cX13_move 114 = .ok (.iastore, 1) := by decide +kernel
theorem dX13_move_115 : decode cX13_move 115 = .ok (.iload 7, 2) := by decide +kernel
theorem dX13_move_117 : decode cX13_move 117 = .ok (.ireturn, 1) := by decide +kernel
theorem dX13_move_12 : decode cX13_move 12 = .ok (.iload_n 2, 1) := by decide +kernel
theorem dX13_move_13 : decode cX13_move 13 = .ok (.i2l, 1) := by decide +kernel
theorem dX13_move_14 : decode cX13_move 14 = .ok (.lconst 0, 1) := by decide +kernel
theorem dX13_move_15 : decode cX13_move 15 = .ok (.ldc2_w 697, 3) := by decide +kernel
theorem dX13_move_18 : decode cX13_move 18 = .ok (.invokestatic 371, 3) := by decide +kernel
theorem dX13_move_2 : decode cX13_move 2 = .ok (.lconst 0, 1) := by decide +kernel
theorem dX13_move_21 : decode cX13_move 21 = .ok (.ifCond .eq 28, 3) := by decide +kernel
theorem dX13_move_24 : decode cX13_move 24 = .ok (.iload 4, 2) := by decide +kernel
theorem dX13_move_26 : decode cX13_move 26 = .ok (.i2l, 1) := by decide +kernel
theorem dX13_move_27 : decode cX13_move 27 = .ok (.lconst 0, 1) := by decide +kernel
theorem dX13_move_28 : decode cX13_move 28 = .ok (.ldc2_w 697, 3) := by decide +kernel
theorem dX13_move_3 : decode cX13_move 3 = .ok (.ldc2_w 1198, 3) := by decide +kernel
theorem dX13_move_31 : decode cX13_move 31 = .ok (.invokestatic 371, 3) := by decide +kernel
theorem dX13_move_34 : decode cX13_move 34 = .ok (.ifCond .eq 15, 3) := by decide +kernel
theorem dX13_move_37 : decode cX13_move 37 = .ok (.iload_n 3, 1) := by decide +kernel
theorem dX13_move_38 : decode cX13_move 38 = .ok (.i2l, 1) := by decide +kernel
theorem dX13_move_39 : decode cX13_move 39 = .ok (.lconst 0, 1) := by decide +kernel
theorem dX13_move_40 : decode cX13_move 40 = .ok (.ldc2_w 697, 3) := by decide +kernel
theorem dX13_move_43 : decode cX13_move 43 = .ok (.invokestatic 371, 3) := by decide +kernel
theorem dX13_move_46 : decode cX13_move 46 = .ok (.ifCond .ne 5, 3) := by decide +kernel
theorem dX13_move_49 : decode cX13_move 49 = .ok (.iconst (-1), 1) := by decide +kernel
theorem dX13_move_50 : decode cX13_move 50 = .ok (.ireturn, 1) := by decide +kernel
theorem dX13_move_51 : decode cX13_move 51 = .ok (.aload_n 0, 1) := by decide +kernel
theorem dX13_move_52 : decode cX13_move 52 = .ok (.iload_n 1, 1) := by decide +kernel
theorem dX13_move_53 : decode cX13_move 53 = .ok (.iload_n 2, 1) := by decide +kernel
theorem dX13_move_54 : decode cX13_move 54 = .ok (.iload_n 3, 1) := by decide +kernel
theorem dX13_move_55 : decode cX13_move 55 = .ok (.invokevirtual 1496, 3) := by decide +kernel
theorem dX13_move_58 : decode cX13_move 58 = .ok (.istore 6, 2) := by decide +kernel
theorem dX13_move_6 : decode cX13_move 6 = .ok (.invokestatic 371, 3) := by decide +kernel
theorem dX13_move_60 : decode cX13_move 60 = .ok (.aload_n 0, 1) := by decide +kernel
theorem dX13_move_61 : decode cX13_move 61 = .ok (.getfield 345, 3) := by decide +kernel
theorem dX13_move_64 : decode cX13_move 64 = .ok (.iload 6, 2) := by decide +kernel
theorem dX13_move_66 : decode cX13_move 66 = .ok (.iaload, 1) := by decide +kernel
theorem dX13_move_67 : decode cX13_move 67 = .ok (.iload 4, 2) := by decide +kernel
theorem dX13_move_69 : decode cX13_move 69 = .ok (.ishr, 1) := by decide +kernel
theorem dX13_move_70 : decode cX13_move 70 = .ok (.iconst 1, 1) := by decide +kernel
theorem dX13_move_71 : decode cX13_move 71 = .ok (.iand, 1) := by decide +kernel
theorem dX13_move_72 : decode cX13_move 72 = .ok (.istore 7, 2) := by decide +kernel
theorem dX13_move_74 : decode cX13_move 74 = .ok (.aload_n 0, 1) := by decide +kernel
theorem dX13_move_75 : decode cX13_move 75 = .ok (.getfield 345, 3) := by decide +kernel
theorem dX13_move_78 : decode cX13_move 78 = .ok (.iload 6, 2) := by decide +kernel
theorem dX13_move_80 : decode cX13_move 80 = .ok (.iload 5, 2) := by decide +kernel
theorem dX13_move_82 : decode cX13_move 82 = .ok (.ifCond .eq 18, 3) := by decide +kernel
theorem dX13_move_85 : decode cX13_move 85 = .ok (.aload_n 0, 1) := by decide +kernel
theorem dX13_move_86 : decode cX13_move 86 = .ok (.getfield 345, 3) := by decide +kernel
theorem dX13_move_89 : decode cX13_move 89 = .ok (.iload 6, 2) := by decide +kernel
theorem dX13_move_9 : decode cX13_move 9 = .ok (.ifCond .eq 40, 3) := by decide +kernel
theorem dX13_move_91 : decode cX13_move 91 = .ok (.iaload, 1) := by decide +kernel
theorem dX13_move_92 : decode cX13_move 92 = .ok (.iconst 1, 1) := by decide +kernel
theorem dX13_move_93 : decode cX13_move 93 = .ok (.iload 4, 2) := by decide +kernel
theorem dX13_move_95 : decode cX13_move 95 = .ok (.ishl, 1) := by decide +kernel
theorem dX13_move_96 : decode cX13_move 96 = .ok (.ior, 1) := by decide +kernel
theorem dX13_move_97 : decode cX13_move 97 = .ok (.goto 17, 3) := by decide +kernel
noncomputable def k_X13_move_114 (l7 : Int32) (k0 : Int32) (k1 : Int32) (s : t_S) : Option (Int32 × t_S) :=
 if t_ix k1 256 = true then
  t_let (t_setI s 1059 (k1.toNatClampNeg) k0) (fun s1 =>
 some (l7, s1))
else none
set_option maxRecDepth 4000 in
set_option maxHeartbeats 1000000 in
theorem B_X13_move_114 {D : va_G} {cy : Nat → ClassId} {ad : Nat → Nat} {bs : Nat} {X : State → Heap → Prop} (l7 : Int32) (k0 : Int32) (k1 : Int32) (s : t_S) (Q : Int32 × t_S → Prop) (hk : t_hk (k_X13_move_114 l7 k0 k1 s) Q) : mj_G D cy ad bs X cX13_move 8 yX13_move.cls (some .int) yX13_move.name 1 0 0 1065 (t_P (fun v s' => ∃ x, v = some (.int x) ∧ Q ((x, s')))) 114 [(7, .int l7)] [.int k0, .int k1, .ref 1059] (t_m s) 1065 0 0 := by
  refine t_chkK hk (fun c0 hk => ?_)
  refine t_iastK dX13_move_114 qa_1059 (t_ixv c0) (fun s1 ws1 => t_letE hk ws1 (fun hk => ?_))
  refine mj_iload dX13_move_115 0 rfl ?_
  exact t_somK hk (fun hf => t_iret dX13_move_117 rfl rfl ⟨_, rfl, hf⟩ (Nat.le_of_ble_eq_true rfl) (Nat.le_of_ble_eq_true rfl))
noncomputable def f_X13_move (x1 : Int32) (x2 : Int32) (x3 : Int32) (x4 : Int32) (x5 : Int32) (s : t_S) : Option (Int32 × t_S) :=
 if (f_X13_in x1.toInt64 (0 : Int64) (3 : Int64) s) = (0 : Int32) then (some ((-1 : Int32), s))
 else (if (f_X13_in x2.toInt64 (0 : Int64) (7 : Int64) s) = (0 : Int32) then (some ((-1 : Int32), s))
 else (if (f_X13_in x4.toInt64 (0 : Int64) (7 : Int64) s) = (0 : Int32) then (some ((-1 : Int32), s))
 else (if (f_X13_in x3.toInt64 (0 : Int64) (7 : Int64) s) = (0 : Int32) then (some ((-1 : Int32), s))
 else (if t_ix (f_X13_cellOf x1 x2 x3 s) 256 = true then
  if x5 = (0 : Int32) then (k_X13_move_114 (((s.1 1059 ((f_X13_cellOf x1 x2 x3 s).toNatClampNeg)) >>> (x4 &&& 31)) &&& (1 : Int32)) ((s.1 1059 ((f_X13_cellOf x1 x2 x3 s).toNatClampNeg)) &&& (((1 : Int32) <<< (x4 &&& 31)) ^^^ (-1 : Int32))) (f_X13_cellOf x1 x2 x3 s) s)
 else (k_X13_move_114 (((s.1 1059 ((f_X13_cellOf x1 x2 x3 s).toNatClampNeg)) >>> (x4 &&& 31)) &&& (1 : Int32)) ((s.1 1059 ((f_X13_cellOf x1 x2 x3 s).toNatClampNeg)) ||| ((1 : Int32) <<< (x4 &&& 31))) (f_X13_cellOf x1 x2 x3 s) s)
else none))))
set_option maxRecDepth 4000 in
set_option maxHeartbeats 1000000 in
theorem C_X13_move (x1 : Int32) (x2 : Int32) (x3 : Int32) (x4 : Int32) (x5 : Int32) (s : t_S) (r : Int32 × t_S) (hr : f_X13_move x1 x2 x3 x4 x5 s = some r) : t_C yX13_move cX13_move 8 (some .int) 1 [.ref 950, .int x1, .int x2, .int x3, .int x4, .int x5] s (fun v s' => v = some (.int r.1) ∧ s' = r.2) := by
  refine t_C.imp (P := fun v s' => ∃ x, v = some (.int x) ∧ (fun q => q = r) ((x, s'))) (t_C.of (by decide +kernel) (Nat.le_of_ble_eq_true rfl) ?_) (fun v s' hp => by obtain ⟨x, rfl, rfl⟩ := hp; exact ⟨rfl, rfl⟩)
  intro D cy ad bs X
  have hk : t_hk (f_X13_move x1 x2 x3 x4 x5 s) (fun q => q = r) := ⟨r, hr, rfl⟩
  show mj_G D cy ad bs X cX13_move 8 yX13_move.cls (some .int) yX13_move.name 1 0 0 1065 (t_P (fun v s' => ∃ x, v = some (.int x) ∧ (fun q => q = r) ((x, s')))) 0 [(0, .ref 950), (1, .int x1), (2, .int x2), (3, .int x3), (4, .int x4), (5, .int x5)] [] (t_m s) 1065 0 0
  refine mj_iload_n dX13_move_0 1 rfl ?_
  refine mj_i2l (v := x1.toInt64) dX13_move_1 rfl ?_
  refine mj_lconst (v := 0) dX13_move_2 (by decide) ?_
  refine mj_ldc2 dX13_move_3 K_X13_1198 ?_
  refine t_callSiP dX13_move_6 M_X13_in (C_X13_in _ _ _ _) ML_X13_371 SM_X13_in (As := [.long x1.toInt64, .long 0, .long 3]) rfl rfl (Nat.le_of_ble_eq_true rfl) (Nat.le_of_ble_eq_true rfl) (Nat.le_of_ble_eq_true rfl) (Nat.le_of_ble_eq_true rfl) ?_
  refine mj_if_eq 49 dX13_move_9 (by decide) (fun z => t_posK hk z (fun hk => ?_)) (fun z => t_negK hk z (fun hk => ?_))
  · refine mj_iconst (v := (-1)) dX13_move_49 (by decide) ?_
    exact t_somK hk (fun hf => t_iret dX13_move_50 rfl rfl ⟨_, rfl, hf⟩ (Nat.le_of_ble_eq_true rfl) (Nat.le_of_ble_eq_true rfl))
  · refine mj_iload_n dX13_move_12 2 rfl ?_
    refine mj_i2l (v := x2.toInt64) dX13_move_13 rfl ?_
    refine mj_lconst (v := 0) dX13_move_14 (by decide) ?_
    refine mj_ldc2 dX13_move_15 K_X13_697 ?_
    refine t_callSiP dX13_move_18 M_X13_in (C_X13_in _ _ _ _) ML_X13_371 SM_X13_in (As := [.long x2.toInt64, .long 0, .long 7]) rfl rfl (Nat.le_of_ble_eq_true rfl) (Nat.le_of_ble_eq_true rfl) (Nat.le_of_ble_eq_true rfl) (Nat.le_of_ble_eq_true rfl) ?_
    refine mj_if_eq 49 dX13_move_21 (by decide) (fun z => t_posK hk z (fun hk => ?_)) (fun z => t_negK hk z (fun hk => ?_))
    · refine mj_iconst (v := (-1)) dX13_move_49 (by decide) ?_
      exact t_somK hk (fun hf => t_iret dX13_move_50 rfl rfl ⟨_, rfl, hf⟩ (Nat.le_of_ble_eq_true rfl) (Nat.le_of_ble_eq_true rfl))
    · refine mj_iload dX13_move_24 4 rfl ?_
      refine mj_i2l (v := x4.toInt64) dX13_move_26 rfl ?_
      refine mj_lconst (v := 0) dX13_move_27 (by decide) ?_
      refine mj_ldc2 dX13_move_28 K_X13_697 ?_
      refine t_callSiP dX13_move_31 M_X13_in (C_X13_in _ _ _ _) ML_X13_371 SM_X13_in (As := [.long x4.toInt64, .long 0, .long 7]) rfl rfl (Nat.le_of_ble_eq_true rfl) (Nat.le_of_ble_eq_true rfl) (Nat.le_of_ble_eq_true rfl) (Nat.le_of_ble_eq_true rfl) ?_
      refine mj_if_eq 49 dX13_move_34 (by decide) (fun z => t_posK hk z (fun hk => ?_)) (fun z => t_negK hk z (fun hk => ?_))
      · refine mj_iconst (v := (-1)) dX13_move_49 (by decide) ?_
        exact t_somK hk (fun hf => t_iret dX13_move_50 rfl rfl ⟨_, rfl, hf⟩ (Nat.le_of_ble_eq_true rfl) (Nat.le_of_ble_eq_true rfl))
      · refine mj_iload_n dX13_move_37 3 rfl ?_
        refine mj_i2l (v := x3.toInt64) dX13_move_38 rfl ?_
        refine mj_lconst (v := 0) dX13_move_39 (by decide) ?_
        refine mj_ldc2 dX13_move_40 K_X13_697 ?_
        refine t_callSiP dX13_move_43 M_X13_in (C_X13_in _ _ _ _) ML_X13_371 SM_X13_in (As := [.long x3.toInt64, .long 0, .long 7]) rfl rfl (Nat.le_of_ble_eq_true rfl) (Nat.le_of_ble_eq_true rfl) (Nat.le_of_ble_eq_true rfl) (Nat.le_of_ble_eq_true rfl) ?_
        refine mj_if_ne 51 dX13_move_46 (by decide) (fun z => t_negK hk z (fun hk => ?_)) (fun z => t_posK hk z (fun hk => ?_))
        · refine mj_aload_n dX13_move_51 0 rfl ?_
          refine mj_iload_n dX13_move_52 1 rfl ?_
          refine mj_iload_n dX13_move_53 2 rfl ?_
          refine mj_iload_n dX13_move_54 3 rfl ?_
          refine t_callViP dX13_move_55 M_X13_cellOf (C_X13_cellOf _ _ _ _) ML_X13_1496 IM_X13_cellOf SE_X13_cellOf qc_950 rfl (As := [.int x1, .int x2, .int x3]) rfl rfl (Nat.le_of_ble_eq_true rfl) (Nat.le_of_ble_eq_true rfl) (Nat.le_of_ble_eq_true rfl) (Nat.le_of_ble_eq_true rfl) ?_
          refine mj_istore (lv2 := [(6, .int (f_X13_cellOf x1 x2 x3 s)), (0, .ref 950), (1, .int x1), (2, .int x2), (3, .int x3), (4, .int x4), (5, .int x5)]) dX13_move_58 (by decide) rfl ?_
          refine mj_aload_n dX13_move_60 1 rfl ?_
          refine t_getR 1059 dX13_move_61 F_X13_345 qr_950_181 ?_
          refine mj_iload dX13_move_64 0 rfl ?_
          refine t_chkK hk (fun c5 hk => ?_)
          refine t_iald dX13_move_66 qa_1059 (t_ixv c5) ?_
          refine mj_iload dX13_move_67 5 rfl ?_
          refine mj_ishr dX13_move_69 ?_
          refine mj_iconst (v := 1) dX13_move_70 (by decide) ?_
          refine mj_iand dX13_move_71 ?_
          refine mj_istore (lv2 := [(7, .int (((s.1 1059 ((f_X13_cellOf x1 x2 x3 s).toNatClampNeg)) >>> (x4 &&& 31)) &&& (1 : Int32))), (6, .int (f_X13_cellOf x1 x2 x3 s)), (0, .ref 950), (1, .int x1), (2, .int x2), (3, .int x3), (4, .int x4), (5, .int x5)]) dX13_move_72 (by decide) rfl ?_
          refine mj_aload_n dX13_move_74 2 rfl ?_
          refine t_getR 1059 dX13_move_75 F_X13_345 qr_950_181 ?_
          refine mj_iload dX13_move_78 1 rfl ?_
          refine mj_iload dX13_move_80 7 rfl ?_
          refine mj_if_eq 100 dX13_move_82 (by decide) (fun z => t_posK hk z (fun hk => ?_)) (fun z => t_negK hk z (fun hk => ?_))
          · refine mj_aload_n dX13_move_100 2 rfl ?_
            refine t_getR 1059 dX13_move_101 F_X13_345 qr_950_181 ?_
            refine mj_iload dX13_move_104 1 rfl ?_
            refine t_iald dX13_move_106 qa_1059 (t_ixv c5) ?_
            refine mj_iconst (v := 1) dX13_move_107 (by decide) ?_
            refine mj_iload dX13_move_108 6 rfl ?_
            refine mj_ishl dX13_move_110 ?_
            refine mj_iconst (v := (-1)) dX13_move_111 (by decide) ?_
            refine mj_ixor dX13_move_112 ?_
            refine mj_iand dX13_move_113 ?_
            refine mj_sublv [(7, .int (((s.1 1059 ((f_X13_cellOf x1 x2 x3 s).toNatClampNeg)) >>> (x4 &&& 31)) &&& (1 : Int32)))] [0] rfl ?_
            exact B_X13_move_114 _ _ _ _ _ hk
          · refine mj_aload_n dX13_move_85 2 rfl ?_
            refine t_getR 1059 dX13_move_86 F_X13_345 qr_950_181 ?_
            refine mj_iload dX13_move_89 1 rfl ?_
            refine t_iald dX13_move_91 qa_1059 (t_ixv c5) ?_
            refine mj_iconst (v := 1) dX13_move_92 (by decide) ?_
            refine mj_iload dX13_move_93 6 rfl ?_
            refine mj_ishl dX13_move_95 ?_
            refine mj_ior dX13_move_96 ?_
            refine mj_goto 114 dX13_move_97 (by decide) ?_
            refine mj_sublv [(7, .int (((s.1 1059 ((f_X13_cellOf x1 x2 x3 s).toNatClampNeg)) >>> (x4 &&& 31)) &&& (1 : Int32)))] [0] rfl ?_
            exact B_X13_move_114 _ _ _ _ _ hk
        · refine mj_iconst (v := (-1)) dX13_move_49 (by decide) ?_
          exact t_somK hk (fun hf => t_iret dX13_move_50 rfl rfl ⟨_, rfl, hf⟩ (Nat.le_of_ble_eq_true rfl) (Nat.le_of_ble_eq_true rfl))

theorem dX13_row_0 : decode cX13_row 0 = .ok (.iload_n 1, 1) := by decide +kernel
theorem dX13_row_1 : decode cX13_row 1 = .ok (.iconst (-1), 1) := by decide +kernel
theorem dX13_row_12 : decode cX13_row 12 = .ok (.iload_n 1, 1) := by decide +kernel
theorem dX13_row_13 : decode cX13_row 13 = .ok (.i2l, 1) := by decide +kernel
theorem dX13_row_14 : decode cX13_row 14 = .ok (.lconst 0, 1) := by decide +kernel
theorem dX13_row_15 : decode cX13_row 15 = .ok (.aload_n 0, 1) := by decide +kernel
theorem dX13_row_16 : decode cX13_row 16 = .ok (.getfield 1502, 3) := by decide +kernel
theorem dX13_row_19 : decode cX13_row 19 = .ok (.iconst 1, 1) := by decide +kernel
theorem dX13_row_2 : decode cX13_row 2 = .ok (.if_icmp .ne 10, 3) := by decide +kernel
theorem dX13_row_20 : decode cX13_row 20 = .ok (.isub, 1) := by decide +kernel
theorem dX13_row_21 : decode cX13_row 21 = .ok (.i2l, 1) := by decide +kernel
theorem dX13_row_22 : decode cX13_row 22 = .ok (.invokestatic 371, 3) := by decide +kernel
theorem dX13_row_25 : decode cX13_row 25 = .ok (.ifCond .eq 12, 3) := by decide +kernel
theorem dX13_row_28 : decode cX13_row 28 = .ok (.aload_n 0, 1) := by decide +kernel
theorem dX13_row_29 : decode cX13_row 29 = .ok (.getfield 349, 3) := by decide +kernel
theorem dX13_row_32 : decode cX13_row 32 = .ok (.iload_n 1, 1) := by decide +kernel
theorem dX13_row_33 : decode cX13_row 33 = .ok (.iaload, 1) := by decide +kernel
theorem dX13_row_34 : decode cX13_row 34 = .ok (.goto 5, 3) := by decide +kernel
theorem dX13_row_37 : decode cX13_row 37 = .ok (.bipush (-2), 2) := by decide +kernel
theorem dX13_row_39 : decode cX13_row 39 = .ok (.ireturn, 1) := by decide +kernel
theorem dX13_row_5 : decode cX13_row 5 = .ok (.aload_n 0, 1) := by decide +kernel
theorem dX13_row_6 : decode cX13_row 6 = .ok (.getfield 1502, 3) := by decide +kernel
theorem dX13_row_9 : decode cX13_row 9 = .ok (.goto 30, 3) := by decide +kernel
noncomputable def f_X13_row (x1 : Int32) (s : t_S) : Option (Int32) :=
 if x1 = (-1 : Int32) then (some (s.1 950 183))
 else (if (f_X13_in x1.toInt64 (0 : Int64) (((s.1 950 183) - (1 : Int32)).toInt64) s) = (0 : Int32) then (some (-2 : Int32))
 else (if t_ix x1 66000 = true then
  some (s.1 1060 (x1.toNatClampNeg))
else none))
set_option maxRecDepth 4000 in
set_option maxHeartbeats 1000000 in
theorem C_X13_row (x1 : Int32) (s : t_S) (r : Int32) (hr : f_X13_row x1 s = some r) : t_C yX13_row cX13_row 2 (some .int) 1 [.ref 950, .int x1] s (fun v s' => v = some (.int r) ∧ s' = s) := by
  refine t_C.imp (P := fun v s' => s' = s ∧ ∃ x, v = some (.int x) ∧ (fun q => q = r) (x)) (t_C.of (by decide +kernel) (Nat.le_of_ble_eq_true rfl) ?_) (fun v s' hp => by obtain ⟨rfl, x, rfl, rfl⟩ := hp; exact ⟨rfl, rfl⟩)
  intro D cy ad bs X
  have hk : t_hk (f_X13_row x1 s) (fun q => q = r) := ⟨r, hr, rfl⟩
  show mj_G D cy ad bs X cX13_row 2 yX13_row.cls (some .int) yX13_row.name 1 0 0 1065 (t_P (fun v s' => s' = s ∧ ∃ x, v = some (.int x) ∧ (fun q => q = r) (x))) 0 [(0, .ref 950), (1, .int x1)] [] (t_m s) 1065 0 0
  refine mj_iload_n dX13_row_0 1 rfl ?_
  refine mj_iconst (v := (-1)) dX13_row_1 (by decide) ?_
  refine mj_icmp_ne 12 dX13_row_2 (by decide) (fun z => t_negK hk z (fun hk => ?_)) (fun z => t_posK hk z (fun hk => ?_))
  · refine mj_iload_n dX13_row_12 1 rfl ?_
    refine mj_i2l (v := x1.toInt64) dX13_row_13 rfl ?_
    refine mj_lconst (v := 0) dX13_row_14 (by decide) ?_
    refine mj_aload_n dX13_row_15 0 rfl ?_
    refine t_getI dX13_row_16 F_X13_1502 qf_950_183 ?_
    refine mj_iconst (v := 1) dX13_row_19 (by decide) ?_
    refine mj_isub dX13_row_20 ?_
    refine mj_i2l (v := ((s.1 950 183) - (1 : Int32)).toInt64) dX13_row_21 rfl ?_
    refine t_callSiP dX13_row_22 M_X13_in (C_X13_in _ _ _ _) ML_X13_371 SM_X13_in (As := [.long x1.toInt64, .long 0, .long (((s.1 950 183) - (1 : Int32)).toInt64)]) rfl rfl (Nat.le_of_ble_eq_true rfl) (Nat.le_of_ble_eq_true rfl) (Nat.le_of_ble_eq_true rfl) (Nat.le_of_ble_eq_true rfl) ?_
    refine mj_if_eq 37 dX13_row_25 (by decide) (fun z => t_posK hk z (fun hk => ?_)) (fun z => t_negK hk z (fun hk => ?_))
    · refine mj_bipush (v := (-2)) dX13_row_37 (by decide) ?_
      exact t_somK hk (fun hf => t_iret dX13_row_39 rfl rfl ⟨rfl, _, rfl, hf⟩ (Nat.le_of_ble_eq_true rfl) (Nat.le_of_ble_eq_true rfl))
    · refine mj_aload_n dX13_row_28 0 rfl ?_
      refine t_getR 1060 dX13_row_29 F_X13_349 qr_950_182 ?_
      refine mj_iload_n dX13_row_32 1 rfl ?_
      refine t_chkK hk (fun c1 hk => ?_)
      refine t_iald dX13_row_33 qa_1060 (t_ixv c1) ?_
      refine mj_goto 39 dX13_row_34 (by decide) ?_
      exact t_somK hk (fun hf => t_iret dX13_row_39 rfl rfl ⟨rfl, _, rfl, hf⟩ (Nat.le_of_ble_eq_true rfl) (Nat.le_of_ble_eq_true rfl))
  · refine mj_aload_n dX13_row_5 0 rfl ?_
    refine t_getI dX13_row_6 F_X13_1502 qf_950_183 ?_
    refine mj_goto 39 dX13_row_9 (by decide) ?_
    exact t_somK hk (fun hf => t_iret dX13_row_39 rfl rfl ⟨rfl, _, rfl, hf⟩ (Nat.le_of_ble_eq_true rfl) (Nat.le_of_ble_eq_true rfl))

