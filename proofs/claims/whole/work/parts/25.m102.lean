/-! Methods as functions, 102: X13_within -/
theorem dX13_within_0 : decode cX13_within 0 = .ok (.aload_n 0, 1) := by decide +kernel
theorem dX13_within_1 : decode cX13_within 1 = .ok (.iload_n 1, 1) := by decide +kernel
theorem dX13_within_10 : decode cX13_within 10 = .ok (.invokevirtual 1051, 3) := by decide +kernel
theorem dX13_within_101 : decode cX13_within 101 = .ok (.i2l, 1) := by decide +kernel
theorem dX13_within_102 : decode cX13_within 102 = .ok (.lmul, 1) := by decide +kernel
theorem dX13_within_103 : decode cX13_within 103 = .ok (.ldc2_w 878, 3) := by decide +kernel
theorem dX13_within_106 : decode cX13_within 106 = .ok (.ldiv, 1) := by decide +kernel
theorem dX13_within_107 : decode cX13_within 107 = .ok (.l2i, 1) := by decide +kernel
theorem dX13_within_108 : decode cX13_within 108 = .ok (.iconst 1, 1) := by decide +kernel
theorem dX13_within_109 : decode cX13_within 109 = .ok (.iadd, 1) := by decide +kernel
theorem dX13_within_110 : decode cX13_within 110 = .ok (.istore_n 3, 1) := by decide +kernel
theorem dX13_within_111 : decode cX13_within 111 = .ok (.iconst 0, 1) := by decide +kernel
theorem dX13_within_112 : decode cX13_within 112 = .ok (.istore 4, 2) := by decide +kernel
theorem dX13_within_114 : decode cX13_within 114 = .ok (.iload 4, 2) := by decide +kernel
theorem dX13_within_116 : decode cX13_within 116 = .ok (.iload_n 3, 1) := by decide +kernel
theorem dX13_within_117 : decode cX13_within 117 = .ok (.if_icmp .ge 25, 3) := by decide +kernel
theorem dX13_within_120 : decode cX13_within 120 = .ok (.aload_n 0, 1) := by decide +kernel
theorem dX13_within_121 : decode cX13_within 121 = .ok (.getfield 210, 3) := by decide +kernel
theorem dX13_within_124 : decode cX13_within 124 = .ok (.iload 4, 2) := by decide +kernel
theorem dX13_within_126 : decode cX13_within 126 = .ok (.lconst 0, 1) := by decide +kernel
theorem dX13_within_127 : decode cX13_within 127 = .ok (.lastore, 1) := by decide +kernel
theorem dX13_within_128 : decode cX13_within 128 = .ok (.aload_n 0, 1) := by decide +kernel
theorem dX13_within_129 : decode cX13_within 129 = .ok (.getfield 213, 3) := by decide +kernel
theorem dX13_within_13 : decode cX13_within 13 = .ok (.ifCond .eq 5, 3) := by decide +kernel
theorem dX13_within_132 : decode cX13_within 132 = .ok (.iload 4, 2) := by decide +kernel
theorem dX13_within_134 : decode cX13_within 134 = .ok (.lconst 0, 1) := by decide +kernel
theorem dX13_within_135 : decode cX13_within 135 = .ok (.lastore, 1) := by decide +kernel
theorem dX13_within_136 : decode cX13_within 136 = .ok (.iinc 4 1, 3) := by decide +kernel
theorem dX13_within_139 : decode cX13_within 139 = .ok (.goto (-25), 3) := by decide +kernel
theorem dX13_within_142 : decode cX13_within 142 = .ok (.aload_n 0, 1) := by decide +kernel
theorem dX13_within_143 : decode cX13_within 143 = .ok (.aload_n 0, 1) := by decide +kernel
theorem dX13_within_144 : decode cX13_within 144 = .ok (.getfield 57, 3) := by decide +kernel
theorem dX13_within_147 : decode cX13_within 147 = .ok (.iload_n 1, 1) := by decide +kernel
theorem dX13_within_148 : decode cX13_within 148 = .ok (.iaload, 1) := by decide +kernel
theorem dX13_within_149 : decode cX13_within 149 = .ok (.aload_n 0, 1) := by decide +kernel
theorem dX13_within_150 : decode cX13_within 150 = .ok (.getfield 57, 3) := by decide +kernel
theorem dX13_within_153 : decode cX13_within 153 = .ok (.iload_n 2, 1) := by decide +kernel
theorem dX13_within_154 : decode cX13_within 154 = .ok (.iaload, 1) := by decide +kernel
theorem dX13_within_155 : decode cX13_within 155 = .ok (.invokevirtual 1081, 3) := by decide +kernel
theorem dX13_within_158 : decode cX13_within 158 = .ok (.iconst 1, 1) := by decide +kernel
theorem dX13_within_159 : decode cX13_within 159 = .ok (.istore 4, 2) := by decide +kernel
theorem dX13_within_16 : decode cX13_within 16 = .ok (.iconst (-1), 1) := by decide +kernel
theorem dX13_within_161 : decode cX13_within 161 = .ok (.iconst 1, 1) := by decide +kernel
theorem dX13_within_162 : decode cX13_within 162 = .ok (.istore 5, 2) := by decide +kernel
theorem dX13_within_164 : decode cX13_within 164 = .ok (.iload 5, 2) := by decide +kernel
theorem dX13_within_166 : decode cX13_within 166 = .ok (.ifCond .eq 71, 3) := by decide +kernel
theorem dX13_within_169 : decode cX13_within 169 = .ok (.iload 4, 2) := by decide +kernel
theorem dX13_within_17 : decode cX13_within 17 = .ok (.ireturn, 1) := by decide +kernel
theorem dX13_within_171 : decode cX13_within 171 = .ok (.ifCond .eq 66, 3) := by decide +kernel
theorem dX13_within_174 : decode cX13_within 174 = .ok (.iconst 0, 1) := by decide +kernel
theorem dX13_within_175 : decode cX13_within 175 = .ok (.istore 5, 2) := by decide +kernel
theorem dX13_within_177 : decode cX13_within 177 = .ok (.iconst 0, 1) := by decide +kernel
theorem dX13_within_178 : decode cX13_within 178 = .ok (.istore 6, 2) := by decide +kernel
theorem dX13_within_18 : decode cX13_within 18 = .ok (.aload_n 0, 1) := by decide +kernel
theorem dX13_within_180 : decode cX13_within 180 = .ok (.iload 6, 2) := by decide +kernel
theorem dX13_within_182 : decode cX13_within 182 = .ok (.iload_n 3, 1) := by decide +kernel
theorem dX13_within_183 : decode cX13_within 183 = .ok (.if_icmp .ge 51, 3) := by decide +kernel
theorem dX13_within_186 : decode cX13_within 186 = .ok (.iload 4, 2) := by decide +kernel
theorem dX13_within_188 : decode cX13_within 188 = .ok (.ifCond .eq 46, 3) := by decide +kernel
theorem dX13_within_19 : decode cX13_within 19 = .ok (.invokevirtual 1073, 3) := by decide +kernel
theorem dX13_within_191 : decode cX13_within 191 = .ok (.aload_n 0, 1) := by decide +kernel
theorem dX13_within_192 : decode cX13_within 192 = .ok (.getfield 210, 3) := by decide +kernel
theorem dX13_within_195 : decode cX13_within 195 = .ok (.iload 6, 2) := by decide +kernel
theorem dX13_within_197 : decode cX13_within 197 = .ok (.laload, 1) := by decide +kernel
theorem dX13_within_198 : decode cX13_within 198 = .ok (.aload_n 0, 1) := by decide +kernel
theorem dX13_within_199 : decode cX13_within 199 = .ok (.getfield 213, 3) := by decide +kernel
theorem dX13_within_2 : decode cX13_within 2 = .ok (.invokevirtual 1051, 3) := by decide +kernel
theorem dX13_within_202 : decode cX13_within 202 = .ok (.iload 6, 2) := by decide +kernel
theorem dX13_within_204 : decode cX13_within 204 = .ok (.laload, 1) := by decide +kernel
theorem dX13_within_205 : decode cX13_within 205 = .ok (.lcmp, 1) := by decide +kernel
theorem dX13_within_206 : decode cX13_within 206 = .ok (.ifCond .eq 22, 3) := by decide +kernel
theorem dX13_within_209 : decode cX13_within 209 = .ok (.iload 4, 2) := by decide +kernel
theorem dX13_within_211 : decode cX13_within 211 = .ok (.ifCond .eq 17, 3) := by decide +kernel
theorem dX13_within_214 : decode cX13_within 214 = .ok (.iconst 1, 1) := by decide +kernel
theorem dX13_within_215 : decode cX13_within 215 = .ok (.istore 5, 2) := by decide +kernel
theorem dX13_within_217 : decode cX13_within 217 = .ok (.aload_n 0, 1) := by decide +kernel
theorem dX13_within_218 : decode cX13_within 218 = .ok (.iload 6, 2) := by decide +kernel
theorem dX13_within_22 : decode cX13_within 22 = .ok (.aload_n 0, 1) := by decide +kernel
theorem dX13_within_220 : decode cX13_within 220 = .ok (.invokevirtual 1084, 3) := by decide +kernel
theorem dX13_within_223 : decode cX13_within 223 = .ok (.istore 4, 2) := by decide +kernel
theorem dX13_within_225 : decode cX13_within 225 = .ok (.goto (-34), 3) := by decide +kernel
theorem dX13_within_228 : decode cX13_within 228 = .ok (.iinc 6 1, 3) := by decide +kernel
theorem dX13_within_23 : decode cX13_within 23 = .ok (.iconst 0, 1) := by decide +kernel
theorem dX13_within_231 : decode cX13_within 231 = .ok (.goto (-51), 3) := by decide +kernel
theorem dX13_within_234 : decode cX13_within 234 = .ok (.goto (-70), 3) := by decide +kernel
theorem dX13_within_237 : decode cX13_within 237 = .ok (.iload 4, 2) := by decide +kernel
theorem dX13_within_239 : decode cX13_within 239 = .ok (.ifCond .eq 7, 3) := by decide +kernel
theorem dX13_within_24 : decode cX13_within 24 = .ok (.putfield 1078, 3) := by decide +kernel
theorem dX13_within_242 : decode cX13_within 242 = .ok (.iconst 1, 1) := by decide +kernel
theorem dX13_within_243 : decode cX13_within 243 = .ok (.goto 4, 3) := by decide +kernel
theorem dX13_within_246 : decode cX13_within 246 = .ok (.iconst 0, 1) := by decide +kernel
theorem dX13_within_247 : decode cX13_within 247 = .ok (.ireturn, 1) := by decide +kernel
theorem dX13_within_27 : decode cX13_within 27 = .ok (.iconst 0, 1) := by decide +kernel
theorem dX13_within_28 : decode cX13_within 28 = .ok (.istore_n 3, 1) := by decide +kernel
theorem dX13_within_29 : decode cX13_within 29 = .ok (.iload_n 3, 1) := by decide +kernel
theorem dX13_within_30 : decode cX13_within 30 = .ok (.aload_n 0, 1) := by decide +kernel
theorem dX13_within_31 : decode cX13_within 31 = .ok (.getfield 664, 3) := by decide +kernel
theorem dX13_within_34 : decode cX13_within 34 = .ok (.if_icmp .ge 58, 3) := by decide +kernel
theorem dX13_within_37 : decode cX13_within 37 = .ok (.aload_n 0, 1) := by decide +kernel
theorem dX13_within_38 : decode cX13_within 38 = .ok (.iload_n 3, 1) := by decide +kernel
theorem dX13_within_39 : decode cX13_within 39 = .ok (.invokevirtual 1063, 3) := by decide +kernel
theorem dX13_within_42 : decode cX13_within 42 = .ok (.ifCond .eq 44, 3) := by decide +kernel
theorem dX13_within_45 : decode cX13_within 45 = .ok (.aload_n 0, 1) := by decide +kernel
theorem dX13_within_46 : decode cX13_within 46 = .ok (.getfield 26, 3) := by decide +kernel
theorem dX13_within_49 : decode cX13_within 49 = .ok (.iload_n 3, 1) := by decide +kernel
theorem dX13_within_5 : decode cX13_within 5 = .ok (.ifCond .ne 11, 3) := by decide +kernel
theorem dX13_within_50 : decode cX13_within 50 = .ok (.iaload, 1) := by decide +kernel
theorem dX13_within_51 : decode cX13_within 51 = .ok (.bipush 8, 2) := by decide +kernel
theorem dX13_within_53 : decode cX13_within 53 = .ok (.if_icmp .eq 33, 3) := by decide +kernel
theorem dX13_within_56 : decode cX13_within 56 = .ok (.aload_n 0, 1) := by decide +kernel
theorem dX13_within_57 : decode cX13_within 57 = .ok (.getfield 203, 3) := by decide +kernel
theorem dX13_within_60 : decode cX13_within 60 = .ok (.iload_n 3, 1) := by decide +kernel
theorem dX13_within_61 : decode cX13_within 61 = .ok (.aload_n 0, 1) := by decide +kernel
theorem dX13_within_62 : decode cX13_within 62 = .ok (.getfield 1078, 3) := by decide +kernel
theorem dX13_within_65 : decode cX13_within 65 = .ok (.iastore, 1) := by decide +kernel
theorem dX13_within_66 : decode cX13_within 66 = .ok (.aload_n 0, 1) := by decide +kernel
theorem dX13_within_67 : decode cX13_within 67 = .ok (.getfield 206, 3) := by decide +kernel
theorem dX13_within_70 : decode cX13_within 70 = .ok (.aload_n 0, 1) := by decide +kernel
theorem dX13_within_71 : decode cX13_within 71 = .ok (.getfield 1078, 3) := by decide +kernel
theorem dX13_within_74 : decode cX13_within 74 = .ok (.iload_n 3, 1) := by decide +kernel
theorem dX13_within_75 : decode cX13_within 75 = .ok (.iastore, 1) := by decide +kernel
theorem dX13_within_76 : decode cX13_within 76 = .ok (.aload_n 0, 1) := by decide +kernel
theorem dX13_within_77 : decode cX13_within 77 = .ok (.dup, 1) := by decide +kernel
theorem dX13_within_78 : decode cX13_within 78 = .ok (.getfield 1078, 3) := by decide +kernel
theorem dX13_within_8 : decode cX13_within 8 = .ok (.aload_n 0, 1) := by decide +kernel
theorem dX13_within_81 : decode cX13_within 81 = .ok (.iconst 1, 1) := by decide +kernel
theorem dX13_within_82 : decode cX13_within 82 = .ok (.iadd, 1) := by decide +kernel
theorem dX13_within_83 : decode cX13_within 83 = .ok (.putfield 1078, 3) := by decide +kernel
theorem dX13_within_86 : decode cX13_within 86 = .ok (.iinc 3 1, 3) := by decide +kernel
theorem dX13_within_89 : decode cX13_within 89 = .ok (.goto (-60), 3) := by decide +kernel
theorem dX13_within_9 : decode cX13_within 9 = .ok (.iload_n 2, 1) := by decide +kernel
theorem dX13_within_92 : decode cX13_within 92 = .ok (.aload_n 0, 1) := by decide +kernel
theorem dX13_within_93 : decode cX13_within 93 = .ok (.getfield 1078, 3) := by decide +kernel
theorem dX13_within_96 : decode cX13_within 96 = .ok (.i2l, 1) := by decide +kernel
theorem dX13_within_97 : decode cX13_within 97 = .ok (.aload_n 0, 1) := by decide +kernel
theorem dX13_within_98 : decode cX13_within 98 = .ok (.getfield 1078, 3) := by decide +kernel
noncomputable def k_X13_within_228 (l3 : Int32) (l4 : Int32) (l5 : Int32) (l6 : Int32) (s : t_S) : Option ((Int32 × Int32 × Int32 × Int32 × t_S) ⊕ ((Int32 × Int32 × Int32 × t_S) ⊕ (Int32 × t_S))) :=
 some (.inl (l3, l4, l5, (l6 + 1), s))
set_option maxRecDepth 4000 in
set_option maxHeartbeats 1000000 in
theorem B_X13_within_228 {D : va_G} {cy : Nat → ClassId} {ad : Nat → Nat} {bs : Nat} {X : State → Heap → Prop} (l3 : Int32) (l4 : Int32) (l5 : Int32) (l6 : Int32) (s : t_S) (Q : (Int32 × Int32 × Int32 × Int32 × t_S) ⊕ ((Int32 × Int32 × Int32 × t_S) ⊕ (Int32 × t_S)) → Prop) (Hb164 : ∀ (y0 : Int32) (y1 : Int32) (y2 : Int32) (y3 : t_S), Q (.inr (.inl (y0, y1, y2, y3))) → mj_G D cy ad bs X cX13_within 7 yX13_within.cls (some .int) yX13_within.name 6 0 0 1065 (t_P (fun v s' => ∃ x, v = some (.int x) ∧ Q (.inr (.inr ((x, s')))))) 164 [(0, .ref 950), (3, .int (y0)), (4, .int (y1)), (5, .int (y2))] [] (t_m y3) 1065 0 0) (Hb180 : ∀ (y0 : Int32) (y1 : Int32) (y2 : Int32) (y3 : Int32) (y4 : t_S), Q (.inl (y0, y1, y2, y3, y4)) → mj_G D cy ad bs X cX13_within 7 yX13_within.cls (some .int) yX13_within.name 6 0 0 1065 (t_P (fun v s' => ∃ x, v = some (.int x) ∧ Q (.inr (.inr ((x, s')))))) 180 [(0, .ref 950), (3, .int (y0)), (4, .int (y1)), (5, .int (y2)), (6, .int (y3))] [] (t_m y4) 1065 0 0) (hk : t_hk (k_X13_within_228 l3 l4 l5 l6 s) Q) : mj_G D cy ad bs X cX13_within 7 yX13_within.cls (some .int) yX13_within.name 6 0 0 1065 (t_P (fun v s' => ∃ x, v = some (.int x) ∧ Q (.inr (.inr ((x, s')))))) 228 [(0, .ref 950), (3, .int l3), (4, .int l4), (5, .int l5), (6, .int l6)] [] (t_m s) 1065 0 0 := by
  refine mj_iinc (k := 4) (v := (l6 + 1)) (lv2 := [(6, .int (l6 + 1)), (0, .ref 950), (3, .int l3), (4, .int l4), (5, .int l5)]) dX13_within_228 rfl rfl (by decide) rfl ?_
  refine mj_goto 180 dX13_within_231 (by decide) ?_
  refine mj_sublv [(0, .ref 950), (3, .int l3), (4, .int l4), (5, .int l5), (6, .int (l6 + 1))] [1, 2, 3, 4, 0] rfl ?_
  exact t_somK hk (fun hf => Hb180 l3 l4 l5 (l6 + 1) s hf)
noncomputable def k_X13_within_191 (l3 : Int32) (l4 : Int32) (l5 : Int32) (l6 : Int32) (s : t_S) : Option ((Int32 × Int32 × Int32 × Int32 × t_S) ⊕ ((Int32 × Int32 × Int32 × Int32 × t_S) ⊕ ((Int32 × Int32 × Int32 × t_S) ⊕ (Int32 × t_S)))) :=
 if t_ix l6 150200 = true then
  if (lg_cmp (s.2.1 1015 (l6.toNatClampNeg)) (s.2.1 1016 (l6.toNatClampNeg))) = (0 : Int32) then ((k_X13_within_228 l3 l4 l5 l6 s).map Sum.inr)
 else (if l4 = (0 : Int32) then ((k_X13_within_228 l3 l4 l5 l6 s).map Sum.inr)
 else ((f_X13_askPair l6 s).bind (fun r2 =>
 some (.inl (l3, r2.1, 1, l6, r2.2)))))
else none
set_option maxRecDepth 4000 in
set_option maxHeartbeats 1000000 in
theorem B_X13_within_191 {D : va_G} {cy : Nat → ClassId} {ad : Nat → Nat} {bs : Nat} {X : State → Heap → Prop} (l3 : Int32) (l4 : Int32) (l5 : Int32) (l6 : Int32) (s : t_S) (Q : (Int32 × Int32 × Int32 × Int32 × t_S) ⊕ ((Int32 × Int32 × Int32 × Int32 × t_S) ⊕ ((Int32 × Int32 × Int32 × t_S) ⊕ (Int32 × t_S))) → Prop) (Hb164 : ∀ (y0 : Int32) (y1 : Int32) (y2 : Int32) (y3 : t_S), Q (.inr (.inr (.inl (y0, y1, y2, y3)))) → mj_G D cy ad bs X cX13_within 7 yX13_within.cls (some .int) yX13_within.name 6 0 0 1065 (t_P (fun v s' => ∃ x, v = some (.int x) ∧ Q (.inr (.inr (.inr ((x, s'))))))) 164 [(0, .ref 950), (3, .int (y0)), (4, .int (y1)), (5, .int (y2))] [] (t_m y3) 1065 0 0) (Hb180 : ∀ (y0 : Int32) (y1 : Int32) (y2 : Int32) (y3 : Int32) (y4 : t_S), Q (.inr (.inl (y0, y1, y2, y3, y4))) → mj_G D cy ad bs X cX13_within 7 yX13_within.cls (some .int) yX13_within.name 6 0 0 1065 (t_P (fun v s' => ∃ x, v = some (.int x) ∧ Q (.inr (.inr (.inr ((x, s'))))))) 180 [(0, .ref 950), (3, .int (y0)), (4, .int (y1)), (5, .int (y2)), (6, .int (y3))] [] (t_m y4) 1065 0 0) (Hb191 : ∀ (y0 : Int32) (y1 : Int32) (y2 : Int32) (y3 : Int32) (y4 : t_S), Q (.inl (y0, y1, y2, y3, y4)) → mj_G D cy ad bs X cX13_within 7 yX13_within.cls (some .int) yX13_within.name 6 0 0 1065 (t_P (fun v s' => ∃ x, v = some (.int x) ∧ Q (.inr (.inr (.inr ((x, s'))))))) 191 [(0, .ref 950), (3, .int (y0)), (4, .int (y1)), (5, .int (y2)), (6, .int (y3))] [] (t_m y4) 1065 0 0) (hk : t_hk (k_X13_within_191 l3 l4 l5 l6 s) Q) : mj_G D cy ad bs X cX13_within 7 yX13_within.cls (some .int) yX13_within.name 6 0 0 1065 (t_P (fun v s' => ∃ x, v = some (.int x) ∧ Q (.inr (.inr (.inr ((x, s'))))))) 191 [(0, .ref 950), (3, .int l3), (4, .int l4), (5, .int l5), (6, .int l6)] [] (t_m s) 1065 0 0 := by
  refine mj_aload_n dX13_within_191 0 rfl ?_
  refine t_getR 1015 dX13_within_192 F_X13_210 qr_950_112 ?_
  refine mj_iload dX13_within_195 4 rfl ?_
  refine t_chkK hk (fun c0 hk => ?_)
  refine t_lald dX13_within_197 qa_1015 (t_ixv c0) ?_
  refine mj_aload_n dX13_within_198 0 rfl ?_
  refine t_getR 1016 dX13_within_199 F_X13_213 qr_950_113 ?_
  refine mj_iload dX13_within_202 4 rfl ?_
  refine t_lald dX13_within_204 qa_1016 (t_ixv c0) ?_
  refine mj_lcmp dX13_within_205 ?_
  refine mj_if_eq 228 dX13_within_206 (by decide) (fun z => t_posK hk z (fun hk => ?_)) (fun z => t_negK hk z (fun hk => ?_))
  · refine t_mapK hk (fun hk => ?_)
    exact B_X13_within_228 _ _ _ _ _ _ (fun y0 y1 y2 y3 hx => Hb164 y0 y1 y2 y3 hx) (fun y0 y1 y2 y3 y4 hx => Hb180 y0 y1 y2 y3 y4 hx) hk
  · refine mj_iload dX13_within_209 2 rfl ?_
    refine mj_if_eq 228 dX13_within_211 (by decide) (fun z => t_posK hk z (fun hk => ?_)) (fun z => t_negK hk z (fun hk => ?_))
    · refine t_mapK hk (fun hk => ?_)
      exact B_X13_within_228 _ _ _ _ _ _ (fun y0 y1 y2 y3 hx => Hb164 y0 y1 y2 y3 hx) (fun y0 y1 y2 y3 y4 hx => Hb180 y0 y1 y2 y3 y4 hx) hk
    · refine mj_iconst (v := 1) dX13_within_214 (by decide) ?_
      refine mj_istore (lv2 := [(5, .int 1), (0, .ref 950), (3, .int l3), (4, .int l4), (6, .int l6)]) dX13_within_215 (by decide) rfl ?_
      refine mj_aload_n dX13_within_217 1 rfl ?_
      refine mj_iload dX13_within_218 4 rfl ?_
      refine t_bndK hk (fun r2 er2 hk => ?_)
      refine t_callViE dX13_within_220 M_X13_askPair (C_X13_askPair _ _ _ er2) ML_X13_1084 IM_X13_askPair SE_X13_askPair qc_950 rfl (As := [.int l6]) rfl rfl (Nat.le_of_ble_eq_true rfl) (Nat.le_of_ble_eq_true rfl) (Nat.le_of_ble_eq_true rfl) (Nat.le_of_ble_eq_true rfl) ?_
      refine mj_istore (lv2 := [(4, .int r2.1), (5, .int 1), (0, .ref 950), (3, .int l3), (6, .int l6)]) dX13_within_223 (by decide) rfl ?_
      refine mj_goto 191 dX13_within_225 (by decide) ?_
      refine mj_sublv [(0, .ref 950), (3, .int l3), (4, .int r2.1), (5, .int 1), (6, .int l6)] [2, 3, 0, 1, 4] rfl ?_
      exact t_somK hk (fun hf => Hb191 l3 r2.1 1 l6 r2.2 hf)
noncomputable def b_X13_within_191 (x : Int32 × Int32 × Int32 × Int32 × t_S) : Option ((Int32 × Int32 × Int32 × Int32 × t_S) ⊕ ((Int32 × Int32 × Int32 × Int32 × t_S) ⊕ ((Int32 × Int32 × Int32 × t_S) ⊕ (Int32 × t_S)))) := k_X13_within_191 x.1 x.2.1 x.2.2.1 x.2.2.2.1 x.2.2.2.2
set_option maxRecDepth 4000 in
set_option maxHeartbeats 1000000 in
theorem LH_X13_within_191 {D : va_G} {cy : Nat → ClassId} {ad : Nat → Nat} {bs : Nat} {X : State → Heap → Prop} : ∀ (n : Nat) (y0 : Int32) (y1 : Int32) (y2 : Int32) (y3 : Int32) (y4 : t_S) (Q : (Int32 × Int32 × Int32 × Int32 × t_S) ⊕ ((Int32 × Int32 × Int32 × t_S) ⊕ (Int32 × t_S)) → Prop) (Hb164 : ∀ (y0 : Int32) (y1 : Int32) (y2 : Int32) (y3 : t_S), Q (.inr (.inl (y0, y1, y2, y3))) → mj_G D cy ad bs X cX13_within 7 yX13_within.cls (some .int) yX13_within.name 6 0 0 1065 (t_P (fun v s' => ∃ x, v = some (.int x) ∧ Q (.inr (.inr ((x, s')))))) 164 [(0, .ref 950), (3, .int (y0)), (4, .int (y1)), (5, .int (y2))] [] (t_m y3) 1065 0 0) (Hb180 : ∀ (y0 : Int32) (y1 : Int32) (y2 : Int32) (y3 : Int32) (y4 : t_S), Q (.inl (y0, y1, y2, y3, y4)) → mj_G D cy ad bs X cX13_within 7 yX13_within.cls (some .int) yX13_within.name 6 0 0 1065 (t_P (fun v s' => ∃ x, v = some (.int x) ∧ Q (.inr (.inr ((x, s')))))) 180 [(0, .ref 950), (3, .int (y0)), (4, .int (y1)), (5, .int (y2)), (6, .int (y3))] [] (t_m y4) 1065 0 0) (hk : t_hk (t_loop (b_X13_within_191) n (y0, y1, y2, y3, y4)) Q), mj_G D cy ad bs X cX13_within 7 yX13_within.cls (some .int) yX13_within.name 6 0 0 1065 (t_P (fun v s' => ∃ x, v = some (.int x) ∧ Q (.inr (.inr ((x, s')))))) 191 [(0, .ref 950), (3, .int (y0)), (4, .int (y1)), (5, .int (y2)), (6, .int (y3))] [] (t_m y4) 1065 0 0 := by
  intro n
  induction n with
  | zero => intro y0 y1 y2 y3 y4 Q Hb164 Hb180 hk; obtain ⟨r, hr, _⟩ := hk; cases hr
  | succ n ih =>
    intro y0 y1 y2 y3 y4 Q Hb164 Hb180 hk
    exact B_X13_within_191 y0 y1 y2 y3 y4 (fun y => t_lq (b_X13_within_191) n Q y) (fun y0' y1' y2' y3' hy => Hb164 y0' y1' y2' y3' hy) (fun y0' y1' y2' y3' y4' hy => Hb180 y0' y1' y2' y3' y4' hy) (fun y0' y1' y2' y3' y4' hy => ih y0' y1' y2' y3' y4' Q Hb164 Hb180 hy) (t_lp (b := b_X13_within_191) (n := n) (x := (y0, y1, y2, y3, y4)) hk)
noncomputable def k_X13_within_180 (l3 : Int32) (l4 : Int32) (l5 : Int32) (l6 : Int32) (s : t_S) : Option ((Int32 × Int32 × Int32 × Int32 × t_S) ⊕ ((Int32 × Int32 × Int32 × t_S) ⊕ (Int32 × t_S))) :=
 if l3 ≤ l6 then ((some (.inl (l3, l4, l5, s))).map Sum.inr)
 else (if l4 = (0 : Int32) then ((some (.inl (l3, l4, l5, s))).map Sum.inr)
 else (t_loop (b_X13_within_191) t_N (l3, l4, l5, l6, s)))
set_option maxRecDepth 4000 in
set_option maxHeartbeats 1000000 in
theorem B_X13_within_180 {D : va_G} {cy : Nat → ClassId} {ad : Nat → Nat} {bs : Nat} {X : State → Heap → Prop} (l3 : Int32) (l4 : Int32) (l5 : Int32) (l6 : Int32) (s : t_S) (Q : (Int32 × Int32 × Int32 × Int32 × t_S) ⊕ ((Int32 × Int32 × Int32 × t_S) ⊕ (Int32 × t_S)) → Prop) (Hb164 : ∀ (y0 : Int32) (y1 : Int32) (y2 : Int32) (y3 : t_S), Q (.inr (.inl (y0, y1, y2, y3))) → mj_G D cy ad bs X cX13_within 7 yX13_within.cls (some .int) yX13_within.name 6 0 0 1065 (t_P (fun v s' => ∃ x, v = some (.int x) ∧ Q (.inr (.inr ((x, s')))))) 164 [(0, .ref 950), (3, .int (y0)), (4, .int (y1)), (5, .int (y2))] [] (t_m y3) 1065 0 0) (Hb180 : ∀ (y0 : Int32) (y1 : Int32) (y2 : Int32) (y3 : Int32) (y4 : t_S), Q (.inl (y0, y1, y2, y3, y4)) → mj_G D cy ad bs X cX13_within 7 yX13_within.cls (some .int) yX13_within.name 6 0 0 1065 (t_P (fun v s' => ∃ x, v = some (.int x) ∧ Q (.inr (.inr ((x, s')))))) 180 [(0, .ref 950), (3, .int (y0)), (4, .int (y1)), (5, .int (y2)), (6, .int (y3))] [] (t_m y4) 1065 0 0) (hk : t_hk (k_X13_within_180 l3 l4 l5 l6 s) Q) : mj_G D cy ad bs X cX13_within 7 yX13_within.cls (some .int) yX13_within.name 6 0 0 1065 (t_P (fun v s' => ∃ x, v = some (.int x) ∧ Q (.inr (.inr ((x, s')))))) 180 [(0, .ref 950), (3, .int l3), (4, .int l4), (5, .int l5), (6, .int l6)] [] (t_m s) 1065 0 0 := by
  refine mj_iload dX13_within_180 4 rfl ?_
  refine mj_iload_n dX13_within_182 1 rfl ?_
  refine mj_icmp_ge 234 dX13_within_183 (by decide) (fun z => t_posK hk z (fun hk => ?_)) (fun z => t_negK hk z (fun hk => ?_))
  · refine t_mapK hk (fun hk => ?_)
    refine mj_goto 164 dX13_within_234 (by decide) ?_
    refine mj_sublv [(0, .ref 950), (3, .int l3), (4, .int l4), (5, .int l5)] [0, 1, 2, 3] rfl ?_
    exact t_somK hk (fun hf => Hb164 l3 l4 l5 s hf)
  · refine mj_iload dX13_within_186 2 rfl ?_
    refine mj_if_eq 234 dX13_within_188 (by decide) (fun z => t_posK hk z (fun hk => ?_)) (fun z => t_negK hk z (fun hk => ?_))
    · refine t_mapK hk (fun hk => ?_)
      refine mj_goto 164 dX13_within_234 (by decide) ?_
      refine mj_sublv [(0, .ref 950), (3, .int l3), (4, .int l4), (5, .int l5)] [0, 1, 2, 3] rfl ?_
      exact t_somK hk (fun hf => Hb164 l3 l4 l5 s hf)
    · exact LH_X13_within_191 _ l3 l4 l5 l6 s _ (fun y0 y1 y2 y3 hx => Hb164 y0 y1 y2 y3 hx) (fun y0 y1 y2 y3 y4 hx => Hb180 y0 y1 y2 y3 y4 hx) hk
noncomputable def b_X13_within_180 (x : Int32 × Int32 × Int32 × Int32 × t_S) : Option ((Int32 × Int32 × Int32 × Int32 × t_S) ⊕ ((Int32 × Int32 × Int32 × t_S) ⊕ (Int32 × t_S))) := k_X13_within_180 x.1 x.2.1 x.2.2.1 x.2.2.2.1 x.2.2.2.2
set_option maxRecDepth 4000 in
set_option maxHeartbeats 1000000 in
theorem LH_X13_within_180 {D : va_G} {cy : Nat → ClassId} {ad : Nat → Nat} {bs : Nat} {X : State → Heap → Prop} : ∀ (n : Nat) (y0 : Int32) (y1 : Int32) (y2 : Int32) (y3 : Int32) (y4 : t_S) (Q : (Int32 × Int32 × Int32 × t_S) ⊕ (Int32 × t_S) → Prop) (Hb164 : ∀ (y0 : Int32) (y1 : Int32) (y2 : Int32) (y3 : t_S), Q (.inl (y0, y1, y2, y3)) → mj_G D cy ad bs X cX13_within 7 yX13_within.cls (some .int) yX13_within.name 6 0 0 1065 (t_P (fun v s' => ∃ x, v = some (.int x) ∧ Q (.inr ((x, s'))))) 164 [(0, .ref 950), (3, .int (y0)), (4, .int (y1)), (5, .int (y2))] [] (t_m y3) 1065 0 0) (hk : t_hk (t_loop (b_X13_within_180) n (y0, y1, y2, y3, y4)) Q), mj_G D cy ad bs X cX13_within 7 yX13_within.cls (some .int) yX13_within.name 6 0 0 1065 (t_P (fun v s' => ∃ x, v = some (.int x) ∧ Q (.inr ((x, s'))))) 180 [(0, .ref 950), (3, .int (y0)), (4, .int (y1)), (5, .int (y2)), (6, .int (y3))] [] (t_m y4) 1065 0 0 := by
  intro n
  induction n with
  | zero => intro y0 y1 y2 y3 y4 Q Hb164 hk; obtain ⟨r, hr, _⟩ := hk; cases hr
  | succ n ih =>
    intro y0 y1 y2 y3 y4 Q Hb164 hk
    exact B_X13_within_180 y0 y1 y2 y3 y4 (fun y => t_lq (b_X13_within_180) n Q y) (fun y0' y1' y2' y3' hy => Hb164 y0' y1' y2' y3' hy) (fun y0' y1' y2' y3' y4' hy => ih y0' y1' y2' y3' y4' Q Hb164 hy) (t_lp (b := b_X13_within_180) (n := n) (x := (y0, y1, y2, y3, y4)) hk)
noncomputable def k_X13_within_237 (l4 : Int32) (s : t_S) : Option (Int32 × t_S) :=
 if l4 = (0 : Int32) then (some ((0 : Int32), s))
 else (some ((1 : Int32), s))
set_option maxRecDepth 4000 in
set_option maxHeartbeats 1000000 in
theorem B_X13_within_237 {D : va_G} {cy : Nat → ClassId} {ad : Nat → Nat} {bs : Nat} {X : State → Heap → Prop} (l4 : Int32) (s : t_S) (Q : Int32 × t_S → Prop) (hk : t_hk (k_X13_within_237 l4 s) Q) : mj_G D cy ad bs X cX13_within 7 yX13_within.cls (some .int) yX13_within.name 6 0 0 1065 (t_P (fun v s' => ∃ x, v = some (.int x) ∧ Q ((x, s')))) 237 [(4, .int l4)] [] (t_m s) 1065 0 0 := by
  refine mj_iload dX13_within_237 0 rfl ?_
  refine mj_if_eq 246 dX13_within_239 (by decide) (fun z => t_posK hk z (fun hk => ?_)) (fun z => t_negK hk z (fun hk => ?_))
  · refine mj_iconst (v := 0) dX13_within_246 (by decide) ?_
    exact t_somK hk (fun hf => t_iret dX13_within_247 rfl rfl ⟨_, rfl, hf⟩ (Nat.le_of_ble_eq_true rfl) (Nat.le_of_ble_eq_true rfl))
  · refine mj_iconst (v := 1) dX13_within_242 (by decide) ?_
    refine mj_goto 247 dX13_within_243 (by decide) ?_
    exact t_somK hk (fun hf => t_iret dX13_within_247 rfl rfl ⟨_, rfl, hf⟩ (Nat.le_of_ble_eq_true rfl) (Nat.le_of_ble_eq_true rfl))
noncomputable def k_X13_within_164 (l3 : Int32) (l4 : Int32) (l5 : Int32) (s : t_S) : Option ((Int32 × Int32 × Int32 × t_S) ⊕ (Int32 × t_S)) :=
 if l5 = (0 : Int32) then ((k_X13_within_237 l4 s).map Sum.inr)
 else (if l4 = (0 : Int32) then ((k_X13_within_237 l4 s).map Sum.inr)
 else (t_loop (b_X13_within_180) t_N (l3, l4, 0, 0, s)))
set_option maxRecDepth 4000 in
set_option maxHeartbeats 1000000 in
theorem B_X13_within_164 {D : va_G} {cy : Nat → ClassId} {ad : Nat → Nat} {bs : Nat} {X : State → Heap → Prop} (l3 : Int32) (l4 : Int32) (l5 : Int32) (s : t_S) (Q : (Int32 × Int32 × Int32 × t_S) ⊕ (Int32 × t_S) → Prop) (Hb164 : ∀ (y0 : Int32) (y1 : Int32) (y2 : Int32) (y3 : t_S), Q (.inl (y0, y1, y2, y3)) → mj_G D cy ad bs X cX13_within 7 yX13_within.cls (some .int) yX13_within.name 6 0 0 1065 (t_P (fun v s' => ∃ x, v = some (.int x) ∧ Q (.inr ((x, s'))))) 164 [(0, .ref 950), (3, .int (y0)), (4, .int (y1)), (5, .int (y2))] [] (t_m y3) 1065 0 0) (hk : t_hk (k_X13_within_164 l3 l4 l5 s) Q) : mj_G D cy ad bs X cX13_within 7 yX13_within.cls (some .int) yX13_within.name 6 0 0 1065 (t_P (fun v s' => ∃ x, v = some (.int x) ∧ Q (.inr ((x, s'))))) 164 [(0, .ref 950), (3, .int l3), (4, .int l4), (5, .int l5)] [] (t_m s) 1065 0 0 := by
  refine mj_iload dX13_within_164 3 rfl ?_
  refine mj_if_eq 237 dX13_within_166 (by decide) (fun z => t_posK hk z (fun hk => ?_)) (fun z => t_negK hk z (fun hk => ?_))
  · refine mj_sublv [(4, .int l4)] [2] rfl ?_
    refine t_mapK hk (fun hk => ?_)
    exact B_X13_within_237 _ _ _ hk
  · refine mj_iload dX13_within_169 2 rfl ?_
    refine mj_if_eq 237 dX13_within_171 (by decide) (fun z => t_posK hk z (fun hk => ?_)) (fun z => t_negK hk z (fun hk => ?_))
    · refine mj_sublv [(4, .int l4)] [2] rfl ?_
      refine t_mapK hk (fun hk => ?_)
      exact B_X13_within_237 _ _ _ hk
    · refine mj_iconst (v := 0) dX13_within_174 (by decide) ?_
      refine mj_istore (lv2 := [(5, .int 0), (0, .ref 950), (3, .int l3), (4, .int l4)]) dX13_within_175 (by decide) rfl ?_
      refine mj_iconst (v := 0) dX13_within_177 (by decide) ?_
      refine mj_istore (lv2 := [(6, .int 0), (5, .int 0), (0, .ref 950), (3, .int l3), (4, .int l4)]) dX13_within_178 (by decide) rfl ?_
      refine mj_sublv [(0, .ref 950), (3, .int l3), (4, .int l4), (5, .int 0), (6, .int 0)] [2, 3, 4, 1, 0] rfl ?_
      exact LH_X13_within_180 _ l3 l4 0 0 s _ (fun y0 y1 y2 y3 hx => Hb164 y0 y1 y2 y3 hx) hk
noncomputable def b_X13_within_164 (x : Int32 × Int32 × Int32 × t_S) : Option ((Int32 × Int32 × Int32 × t_S) ⊕ (Int32 × t_S)) := k_X13_within_164 x.1 x.2.1 x.2.2.1 x.2.2.2
set_option maxRecDepth 4000 in
set_option maxHeartbeats 1000000 in
theorem LH_X13_within_164 {D : va_G} {cy : Nat → ClassId} {ad : Nat → Nat} {bs : Nat} {X : State → Heap → Prop} : ∀ (n : Nat) (y0 : Int32) (y1 : Int32) (y2 : Int32) (y3 : t_S) (Q : Int32 × t_S → Prop) (hk : t_hk (t_loop (b_X13_within_164) n (y0, y1, y2, y3)) Q), mj_G D cy ad bs X cX13_within 7 yX13_within.cls (some .int) yX13_within.name 6 0 0 1065 (t_P (fun v s' => ∃ x, v = some (.int x) ∧ Q ((x, s')))) 164 [(0, .ref 950), (3, .int (y0)), (4, .int (y1)), (5, .int (y2))] [] (t_m y3) 1065 0 0 := by
  intro n
  induction n with
  | zero => intro y0 y1 y2 y3 Q hk; obtain ⟨r, hr, _⟩ := hk; cases hr
  | succ n ih =>
    intro y0 y1 y2 y3 Q hk
    exact B_X13_within_164 y0 y1 y2 y3 (fun y => t_lq (b_X13_within_164) n Q y) (fun y0' y1' y2' y3' hy => ih y0' y1' y2' y3' Q hy) (t_lp (b := b_X13_within_164) (n := n) (x := (y0, y1, y2, y3)) hk)
noncomputable def k_X13_within_114 (l1 : Int32) (l2 : Int32) (l3 : Int32) (l4 : Int32) (s : t_S) : Option ((Int32 × Int32 × Int32 × Int32 × t_S) ⊕ (Int32 × t_S)) :=
 if l3 ≤ l4 then ((if t_ix l1 60 = true then
  if t_ix l2 60 = true then
  (f_X13_addPair (s.1 965 (l1.toNatClampNeg)) (s.1 965 (l2.toNatClampNeg)) s).bind (fun r3 =>
 t_loop (b_X13_within_164) t_N (l3, 1, 1, r3))
else none
else none).map Sum.inr)
 else (if t_ix l4 150200 = true then
  t_let (t_setJ s 1015 (l4.toNatClampNeg) (0 : Int64)) (fun s1 =>
 t_let (t_setJ s1 1016 (l4.toNatClampNeg) (0 : Int64)) (fun s2 =>
 some (.inl (l1, l2, l3, (l4 + 1), s2))))
else none)
set_option maxRecDepth 4000 in
set_option maxHeartbeats 1000000 in
theorem B_X13_within_114 {D : va_G} {cy : Nat → ClassId} {ad : Nat → Nat} {bs : Nat} {X : State → Heap → Prop} (l1 : Int32) (l2 : Int32) (l3 : Int32) (l4 : Int32) (s : t_S) (Q : (Int32 × Int32 × Int32 × Int32 × t_S) ⊕ (Int32 × t_S) → Prop) (Hb114 : ∀ (y0 : Int32) (y1 : Int32) (y2 : Int32) (y3 : Int32) (y4 : t_S), Q (.inl (y0, y1, y2, y3, y4)) → mj_G D cy ad bs X cX13_within 7 yX13_within.cls (some .int) yX13_within.name 6 0 0 1065 (t_P (fun v s' => ∃ x, v = some (.int x) ∧ Q (.inr ((x, s'))))) 114 [(0, .ref 950), (1, .int (y0)), (2, .int (y1)), (3, .int (y2)), (4, .int (y3))] [] (t_m y4) 1065 0 0) (hk : t_hk (k_X13_within_114 l1 l2 l3 l4 s) Q) : mj_G D cy ad bs X cX13_within 7 yX13_within.cls (some .int) yX13_within.name 6 0 0 1065 (t_P (fun v s' => ∃ x, v = some (.int x) ∧ Q (.inr ((x, s'))))) 114 [(0, .ref 950), (1, .int l1), (2, .int l2), (3, .int l3), (4, .int l4)] [] (t_m s) 1065 0 0 := by
  refine mj_iload dX13_within_114 4 rfl ?_
  refine mj_iload_n dX13_within_116 3 rfl ?_
  refine mj_icmp_ge 142 dX13_within_117 (by decide) (fun z => t_posK hk z (fun hk => ?_)) (fun z => t_negK hk z (fun hk => ?_))
  · refine t_mapK hk (fun hk => ?_)
    refine mj_aload_n dX13_within_142 0 rfl ?_
    refine mj_aload_n dX13_within_143 0 rfl ?_
    refine t_getR 965 dX13_within_144 F_X13_57 qr_950_38 ?_
    refine mj_iload_n dX13_within_147 1 rfl ?_
    refine t_chkK hk (fun c0 hk => ?_)
    refine t_iald dX13_within_148 qa_965 (t_ixv c0) ?_
    refine mj_aload_n dX13_within_149 0 rfl ?_
    refine t_getR 965 dX13_within_150 F_X13_57 qr_950_38 ?_
    refine mj_iload_n dX13_within_153 2 rfl ?_
    refine t_chkK hk (fun c1 hk => ?_)
    refine t_iald dX13_within_154 qa_965 (t_ixv c1) ?_
    refine t_bndK hk (fun r3 er3 hk => ?_)
    refine t_callVvE dX13_within_155 M_X13_addPair (C_X13_addPair _ _ _ _ er3) ML_X13_1081 IM_X13_addPair SE_X13_addPair qc_950 rfl (As := [.int (s.1 965 (l1.toNatClampNeg)), .int (s.1 965 (l2.toNatClampNeg))]) rfl rfl (Nat.le_of_ble_eq_true rfl) (Nat.le_of_ble_eq_true rfl) (Nat.le_of_ble_eq_true rfl) (Nat.le_of_ble_eq_true rfl) ?_
    refine mj_iconst (v := 1) dX13_within_158 (by decide) ?_
    refine mj_istore (lv2 := [(4, .int 1), (0, .ref 950), (1, .int l1), (2, .int l2), (3, .int l3)]) dX13_within_159 (by decide) rfl ?_
    refine mj_iconst (v := 1) dX13_within_161 (by decide) ?_
    refine mj_istore (lv2 := [(5, .int 1), (4, .int 1), (0, .ref 950), (1, .int l1), (2, .int l2), (3, .int l3)]) dX13_within_162 (by decide) rfl ?_
    refine mj_sublv [(0, .ref 950), (3, .int l3), (4, .int 1), (5, .int 1)] [2, 5, 1, 0] rfl ?_
    exact LH_X13_within_164 _ l3 1 1 r3 _ hk
  · refine mj_aload_n dX13_within_120 0 rfl ?_
    refine t_getR 1015 dX13_within_121 F_X13_210 qr_950_112 ?_
    refine mj_iload dX13_within_124 4 rfl ?_
    refine mj_lconst (v := 0) dX13_within_126 (by decide) ?_
    refine t_chkK hk (fun c3 hk => ?_)
    refine t_lastK dX13_within_127 qa_1015 (t_ixv c3) (fun s1 ws1 => t_letE hk ws1 (fun hk => ?_))
    refine mj_aload_n dX13_within_128 0 rfl ?_
    refine t_getR 1016 dX13_within_129 F_X13_213 qr_950_113 ?_
    refine mj_iload dX13_within_132 4 rfl ?_
    refine mj_lconst (v := 0) dX13_within_134 (by decide) ?_
    refine t_lastK dX13_within_135 qa_1016 (t_ixv c3) (fun s2 ws2 => t_letE hk ws2 (fun hk => ?_))
    refine mj_iinc (k := 4) (v := (l4 + 1)) (lv2 := [(4, .int (l4 + 1)), (0, .ref 950), (1, .int l1), (2, .int l2), (3, .int l3)]) dX13_within_136 rfl rfl (by decide) rfl ?_
    refine mj_goto 114 dX13_within_139 (by decide) ?_
    refine mj_sublv [(0, .ref 950), (1, .int l1), (2, .int l2), (3, .int l3), (4, .int (l4 + 1))] [1, 2, 3, 4, 0] rfl ?_
    exact t_somK hk (fun hf => Hb114 l1 l2 l3 (l4 + 1) s2 hf)
noncomputable def b_X13_within_114 (x : Int32 × Int32 × Int32 × Int32 × t_S) : Option ((Int32 × Int32 × Int32 × Int32 × t_S) ⊕ (Int32 × t_S)) := k_X13_within_114 x.1 x.2.1 x.2.2.1 x.2.2.2.1 x.2.2.2.2
set_option maxRecDepth 4000 in
set_option maxHeartbeats 1000000 in
theorem LH_X13_within_114 {D : va_G} {cy : Nat → ClassId} {ad : Nat → Nat} {bs : Nat} {X : State → Heap → Prop} : ∀ (n : Nat) (y0 : Int32) (y1 : Int32) (y2 : Int32) (y3 : Int32) (y4 : t_S) (Q : Int32 × t_S → Prop) (hk : t_hk (t_loop (b_X13_within_114) n (y0, y1, y2, y3, y4)) Q), mj_G D cy ad bs X cX13_within 7 yX13_within.cls (some .int) yX13_within.name 6 0 0 1065 (t_P (fun v s' => ∃ x, v = some (.int x) ∧ Q ((x, s')))) 114 [(0, .ref 950), (1, .int (y0)), (2, .int (y1)), (3, .int (y2)), (4, .int (y3))] [] (t_m y4) 1065 0 0 := by
  intro n
  induction n with
  | zero => intro y0 y1 y2 y3 y4 Q hk; obtain ⟨r, hr, _⟩ := hk; cases hr
  | succ n ih =>
    intro y0 y1 y2 y3 y4 Q hk
    exact B_X13_within_114 y0 y1 y2 y3 y4 (fun y => t_lq (b_X13_within_114) n Q y) (fun y0' y1' y2' y3' y4' hy => ih y0' y1' y2' y3' y4' Q hy) (t_lp (b := b_X13_within_114) (n := n) (x := (y0, y1, y2, y3, y4)) hk)
noncomputable def k_X13_within_86 (l1 : Int32) (l2 : Int32) (l3 : Int32) (s : t_S) : Option ((Int32 × Int32 × Int32 × t_S) ⊕ (Int32 × t_S)) :=
 some (.inl (l1, l2, (l3 + 1), s))
set_option maxRecDepth 4000 in
set_option maxHeartbeats 1000000 in
theorem B_X13_within_86 {D : va_G} {cy : Nat → ClassId} {ad : Nat → Nat} {bs : Nat} {X : State → Heap → Prop} (l1 : Int32) (l2 : Int32) (l3 : Int32) (s : t_S) (Q : (Int32 × Int32 × Int32 × t_S) ⊕ (Int32 × t_S) → Prop) (Hb29 : ∀ (y0 : Int32) (y1 : Int32) (y2 : Int32) (y3 : t_S), Q (.inl (y0, y1, y2, y3)) → mj_G D cy ad bs X cX13_within 7 yX13_within.cls (some .int) yX13_within.name 6 0 0 1065 (t_P (fun v s' => ∃ x, v = some (.int x) ∧ Q (.inr ((x, s'))))) 29 [(0, .ref 950), (1, .int (y0)), (2, .int (y1)), (3, .int (y2))] [] (t_m y3) 1065 0 0) (hk : t_hk (k_X13_within_86 l1 l2 l3 s) Q) : mj_G D cy ad bs X cX13_within 7 yX13_within.cls (some .int) yX13_within.name 6 0 0 1065 (t_P (fun v s' => ∃ x, v = some (.int x) ∧ Q (.inr ((x, s'))))) 86 [(0, .ref 950), (1, .int l1), (2, .int l2), (3, .int l3)] [] (t_m s) 1065 0 0 := by
  refine mj_iinc (k := 3) (v := (l3 + 1)) (lv2 := [(3, .int (l3 + 1)), (0, .ref 950), (1, .int l1), (2, .int l2)]) dX13_within_86 rfl rfl (by decide) rfl ?_
  refine mj_goto 29 dX13_within_89 (by decide) ?_
  refine mj_sublv [(0, .ref 950), (1, .int l1), (2, .int l2), (3, .int (l3 + 1))] [1, 2, 3, 0] rfl ?_
  exact t_somK hk (fun hf => Hb29 l1 l2 (l3 + 1) s hf)
noncomputable def k_X13_within_29 (l1 : Int32) (l2 : Int32) (l3 : Int32) (s : t_S) : Option ((Int32 × Int32 × Int32 × t_S) ⊕ (Int32 × t_S)) :=
 if (s.1 950 29) ≤ l3 then ((t_loop (b_X13_within_114) t_N (l1, l2, ((((((s.1 950 114).toInt64) * ((s.1 950 114).toInt64)) / (64 : Int64)).toInt32) + (1 : Int32)), 0, s)).map Sum.inr)
 else ((f_X13_isTypeNode l3 s).bind (fun r1 =>
 if r1 = (0 : Int32) then (k_X13_within_86 l1 l2 l3 s)
 else (if t_ix l3 13000 = true then
  if (s.1 955 (l3.toNatClampNeg)) = (8 : Int32) then (k_X13_within_86 l1 l2 l3 s)
 else (t_let (t_setI s 1013 (l3.toNatClampNeg) (s.1 950 114)) (fun s1 =>
 if t_ix (s1.1 950 114) 3100 = true then
  t_let (t_setI s1 1014 ((s1.1 950 114).toNatClampNeg) l3) (fun s2 =>
 t_let (t_setI s2 950 114 ((s2.1 950 114) + (1 : Int32))) (fun s3 =>
 k_X13_within_86 l1 l2 l3 s3))
else none))
else none)))
set_option maxRecDepth 4000 in
set_option maxHeartbeats 1000000 in
theorem B_X13_within_29 {D : va_G} {cy : Nat → ClassId} {ad : Nat → Nat} {bs : Nat} {X : State → Heap → Prop} (l1 : Int32) (l2 : Int32) (l3 : Int32) (s : t_S) (Q : (Int32 × Int32 × Int32 × t_S) ⊕ (Int32 × t_S) → Prop) (Hb29 : ∀ (y0 : Int32) (y1 : Int32) (y2 : Int32) (y3 : t_S), Q (.inl (y0, y1, y2, y3)) → mj_G D cy ad bs X cX13_within 7 yX13_within.cls (some .int) yX13_within.name 6 0 0 1065 (t_P (fun v s' => ∃ x, v = some (.int x) ∧ Q (.inr ((x, s'))))) 29 [(0, .ref 950), (1, .int (y0)), (2, .int (y1)), (3, .int (y2))] [] (t_m y3) 1065 0 0) (hk : t_hk (k_X13_within_29 l1 l2 l3 s) Q) : mj_G D cy ad bs X cX13_within 7 yX13_within.cls (some .int) yX13_within.name 6 0 0 1065 (t_P (fun v s' => ∃ x, v = some (.int x) ∧ Q (.inr ((x, s'))))) 29 [(0, .ref 950), (1, .int l1), (2, .int l2), (3, .int l3)] [] (t_m s) 1065 0 0 := by
  refine mj_iload_n dX13_within_29 3 rfl ?_
  refine mj_aload_n dX13_within_30 0 rfl ?_
  refine t_getI dX13_within_31 F_X13_664 qf_950_29 ?_
  refine mj_icmp_ge 92 dX13_within_34 (by decide) (fun z => t_posK hk z (fun hk => ?_)) (fun z => t_negK hk z (fun hk => ?_))
  · refine t_mapK hk (fun hk => ?_)
    refine mj_aload_n dX13_within_92 0 rfl ?_
    refine t_getI dX13_within_93 F_X13_1078 qf_950_114 ?_
    refine mj_i2l (v := (s.1 950 114).toInt64) dX13_within_96 rfl ?_
    refine mj_aload_n dX13_within_97 0 rfl ?_
    refine t_getI dX13_within_98 F_X13_1078 qf_950_114 ?_
    refine mj_i2l (v := (s.1 950 114).toInt64) dX13_within_101 rfl ?_
    refine mj_lmul dX13_within_102 ?_
    refine mj_ldc2 dX13_within_103 K_X13_878 ?_
    refine mj_ldiv dX13_within_106 (by decide) ?_
    refine mj_l2i (v := ((((s.1 950 114).toInt64) * ((s.1 950 114).toInt64)) / (64 : Int64)).toInt32) dX13_within_107 rfl ?_
    refine mj_iconst (v := 1) dX13_within_108 (by decide) ?_
    refine mj_iadd dX13_within_109 ?_
    refine mj_istore_n 3 (lv2 := [(3, .int ((((((s.1 950 114).toInt64) * ((s.1 950 114).toInt64)) / (64 : Int64)).toInt32) + (1 : Int32))), (0, .ref 950), (1, .int l1), (2, .int l2)]) dX13_within_110 rfl (by decide) rfl ?_
    refine mj_iconst (v := 0) dX13_within_111 (by decide) ?_
    refine mj_istore (lv2 := [(4, .int 0), (3, .int ((((((s.1 950 114).toInt64) * ((s.1 950 114).toInt64)) / (64 : Int64)).toInt32) + (1 : Int32))), (0, .ref 950), (1, .int l1), (2, .int l2)]) dX13_within_112 (by decide) rfl ?_
    refine mj_sublv [(0, .ref 950), (1, .int l1), (2, .int l2), (3, .int ((((((s.1 950 114).toInt64) * ((s.1 950 114).toInt64)) / (64 : Int64)).toInt32) + (1 : Int32))), (4, .int 0)] [2, 3, 4, 1, 0] rfl ?_
    exact LH_X13_within_114 _ l1 l2 ((((((s.1 950 114).toInt64) * ((s.1 950 114).toInt64)) / (64 : Int64)).toInt32) + (1 : Int32)) 0 s _ hk
  · refine mj_aload_n dX13_within_37 0 rfl ?_
    refine mj_iload_n dX13_within_38 3 rfl ?_
    refine t_bndK hk (fun r1 er1 hk => ?_)
    refine t_callViP dX13_within_39 M_X13_isTypeNode (C_X13_isTypeNode _ _ _ er1) ML_X13_1063 IM_X13_isTypeNode SE_X13_isTypeNode qc_950 rfl (As := [.int l3]) rfl rfl (Nat.le_of_ble_eq_true rfl) (Nat.le_of_ble_eq_true rfl) (Nat.le_of_ble_eq_true rfl) (Nat.le_of_ble_eq_true rfl) ?_
    refine mj_if_eq 86 dX13_within_42 (by decide) (fun z => t_posK hk z (fun hk => ?_)) (fun z => t_negK hk z (fun hk => ?_))
    · exact B_X13_within_86 _ _ _ _ _ (fun y0 y1 y2 y3 hx => Hb29 y0 y1 y2 y3 hx) hk
    · refine mj_aload_n dX13_within_45 0 rfl ?_
      refine t_getR 955 dX13_within_46 F_X13_26 qr_950_17 ?_
      refine mj_iload_n dX13_within_49 3 rfl ?_
      refine t_chkK hk (fun c1 hk => ?_)
      refine t_iald dX13_within_50 qa_955 (t_ixv c1) ?_
      refine mj_bipush (v := 8) dX13_within_51 (by decide) ?_
      refine mj_icmp_eq 86 dX13_within_53 (by decide) (fun z => t_posK hk z (fun hk => ?_)) (fun z => t_negK hk z (fun hk => ?_))
      · exact B_X13_within_86 _ _ _ _ _ (fun y0 y1 y2 y3 hx => Hb29 y0 y1 y2 y3 hx) hk
      · refine mj_aload_n dX13_within_56 0 rfl ?_
        refine t_getR 1013 dX13_within_57 F_X13_203 qr_950_110 ?_
        refine mj_iload_n dX13_within_60 3 rfl ?_
        refine mj_aload_n dX13_within_61 0 rfl ?_
        refine t_getI dX13_within_62 F_X13_1078 qf_950_114 ?_
        refine t_iastK dX13_within_65 qa_1013 (t_ixv c1) (fun s1 ws1 => t_letE hk ws1 (fun hk => ?_))
        refine mj_aload_n dX13_within_66 0 rfl ?_
        refine t_getR 1014 dX13_within_67 F_X13_206 qr_950_111 ?_
        refine mj_aload_n dX13_within_70 0 rfl ?_
        refine t_getI dX13_within_71 F_X13_1078 qf_950_114 ?_
        refine mj_iload_n dX13_within_74 3 rfl ?_
        refine t_chkK hk (fun c2 hk => ?_)
        refine t_iastK dX13_within_75 qa_1014 (t_ixv c2) (fun s2 ws2 => t_letE hk ws2 (fun hk => ?_))
        refine mj_aload_n dX13_within_76 0 rfl ?_
        refine mj_dup dX13_within_77 rfl ?_
        refine t_getI dX13_within_78 F_X13_1078 qf_950_114 ?_
        refine mj_iconst (v := 1) dX13_within_81 (by decide) ?_
        refine mj_iadd dX13_within_82 ?_
        refine t_putIK dX13_within_83 F_X13_1078 qf_950_114 rfl (fun s3 ws3 => t_letE hk ws3 (fun hk => ?_))
        exact B_X13_within_86 _ _ _ _ _ (fun y0 y1 y2 y3 hx => Hb29 y0 y1 y2 y3 hx) hk
noncomputable def b_X13_within_29 (x : Int32 × Int32 × Int32 × t_S) : Option ((Int32 × Int32 × Int32 × t_S) ⊕ (Int32 × t_S)) := k_X13_within_29 x.1 x.2.1 x.2.2.1 x.2.2.2
set_option maxRecDepth 4000 in
set_option maxHeartbeats 1000000 in
theorem LH_X13_within_29 {D : va_G} {cy : Nat → ClassId} {ad : Nat → Nat} {bs : Nat} {X : State → Heap → Prop} : ∀ (n : Nat) (y0 : Int32) (y1 : Int32) (y2 : Int32) (y3 : t_S) (Q : Int32 × t_S → Prop) (hk : t_hk (t_loop (b_X13_within_29) n (y0, y1, y2, y3)) Q), mj_G D cy ad bs X cX13_within 7 yX13_within.cls (some .int) yX13_within.name 6 0 0 1065 (t_P (fun v s' => ∃ x, v = some (.int x) ∧ Q ((x, s')))) 29 [(0, .ref 950), (1, .int (y0)), (2, .int (y1)), (3, .int (y2))] [] (t_m y3) 1065 0 0 := by
  intro n
  induction n with
  | zero => intro y0 y1 y2 y3 Q hk; obtain ⟨r, hr, _⟩ := hk; cases hr
  | succ n ih =>
    intro y0 y1 y2 y3 Q hk
    exact B_X13_within_29 y0 y1 y2 y3 (fun y => t_lq (b_X13_within_29) n Q y) (fun y0' y1' y2' y3' hy => ih y0' y1' y2' y3' Q hy) (t_lp (b := b_X13_within_29) (n := n) (x := (y0, y1, y2, y3)) hk)
noncomputable def f_X13_within (x1 : Int32) (x2 : Int32) (s : t_S) : Option (Int32 × t_S) :=
 if (f_X13_noType x1 s) = (0 : Int32) then (if (f_X13_noType x2 s) = (0 : Int32) then ((f_X13_findLight s).bind (fun r3 =>
 t_let (t_setI r3 950 114 (0 : Int32)) (fun s1 =>
 t_loop (b_X13_within_29) t_N (x1, x2, 0, s1))))
 else (some ((-1 : Int32), s)))
 else (some ((-1 : Int32), s))
set_option maxRecDepth 4000 in
set_option maxHeartbeats 1000000 in
theorem C_X13_within (x1 : Int32) (x2 : Int32) (s : t_S) (r : Int32 × t_S) (hr : f_X13_within x1 x2 s = some r) : t_C yX13_within cX13_within 7 (some .int) 6 [.ref 950, .int x1, .int x2] s (fun v s' => v = some (.int r.1) ∧ s' = r.2) := by
  refine t_C.imp (P := fun v s' => ∃ x, v = some (.int x) ∧ (fun q => q = r) ((x, s'))) (t_C.of (by decide +kernel) (Nat.le_of_ble_eq_true rfl) ?_) (fun v s' hp => by obtain ⟨x, rfl, rfl⟩ := hp; exact ⟨rfl, rfl⟩)
  intro D cy ad bs X
  have hk : t_hk (f_X13_within x1 x2 s) (fun q => q = r) := ⟨r, hr, rfl⟩
  show mj_G D cy ad bs X cX13_within 7 yX13_within.cls (some .int) yX13_within.name 6 0 0 1065 (t_P (fun v s' => ∃ x, v = some (.int x) ∧ (fun q => q = r) ((x, s')))) 0 [(0, .ref 950), (1, .int x1), (2, .int x2)] [] (t_m s) 1065 0 0
  refine mj_aload_n dX13_within_0 0 rfl ?_
  refine mj_iload_n dX13_within_1 1 rfl ?_
  refine t_callViP dX13_within_2 M_X13_noType (C_X13_noType _ _) ML_X13_1051 IM_X13_noType SE_X13_noType qc_950 rfl (As := [.int x1]) rfl rfl (Nat.le_of_ble_eq_true rfl) (Nat.le_of_ble_eq_true rfl) (Nat.le_of_ble_eq_true rfl) (Nat.le_of_ble_eq_true rfl) ?_
  refine mj_if_ne 16 dX13_within_5 (by decide) (fun z => t_negK hk z (fun hk => ?_)) (fun z => t_posK hk z (fun hk => ?_))
  · refine mj_iconst (v := (-1)) dX13_within_16 (by decide) ?_
    exact t_somK hk (fun hf => t_iret dX13_within_17 rfl rfl ⟨_, rfl, hf⟩ (Nat.le_of_ble_eq_true rfl) (Nat.le_of_ble_eq_true rfl))
  · refine mj_aload_n dX13_within_8 0 rfl ?_
    refine mj_iload_n dX13_within_9 2 rfl ?_
    refine t_callViP dX13_within_10 M_X13_noType (C_X13_noType _ _) ML_X13_1051 IM_X13_noType SE_X13_noType qc_950 rfl (As := [.int x2]) rfl rfl (Nat.le_of_ble_eq_true rfl) (Nat.le_of_ble_eq_true rfl) (Nat.le_of_ble_eq_true rfl) (Nat.le_of_ble_eq_true rfl) ?_
    refine mj_if_eq 18 dX13_within_13 (by decide) (fun z => t_posK hk z (fun hk => ?_)) (fun z => t_negK hk z (fun hk => ?_))
    · refine mj_aload_n dX13_within_18 0 rfl ?_
      refine t_bndK hk (fun r3 er3 hk => ?_)
      refine t_callVvE dX13_within_19 M_X13_findLight (C_X13_findLight _ _ er3) ML_X13_1073 IM_X13_findLight SE_X13_findLight qc_950 rfl (As := []) rfl rfl (Nat.le_of_ble_eq_true rfl) (Nat.le_of_ble_eq_true rfl) (Nat.le_of_ble_eq_true rfl) (Nat.le_of_ble_eq_true rfl) ?_
      refine mj_aload_n dX13_within_22 0 rfl ?_
      refine mj_iconst (v := 0) dX13_within_23 (by decide) ?_
      refine t_putIK dX13_within_24 F_X13_1078 qf_950_114 rfl (fun s1 ws1 => t_letE hk ws1 (fun hk => ?_))
      refine mj_iconst (v := 0) dX13_within_27 (by decide) ?_
      refine mj_istore_n 3 (lv2 := [(3, .int 0), (0, .ref 950), (1, .int x1), (2, .int x2)]) dX13_within_28 rfl (by decide) rfl ?_
      refine mj_sublv [(0, .ref 950), (1, .int x1), (2, .int x2), (3, .int 0)] [1, 2, 3, 0] rfl ?_
      exact LH_X13_within_29 _ x1 x2 0 s1 _ hk
    · refine mj_iconst (v := (-1)) dX13_within_16 (by decide) ?_
      exact t_somK hk (fun hf => t_iret dX13_within_17 rfl rfl ⟨_, rfl, hf⟩ (Nat.le_of_ble_eq_true rfl) (Nat.le_of_ble_eq_true rfl))

