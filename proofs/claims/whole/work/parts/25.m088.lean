/-! Methods as functions, 88: X13_sortOne, X13_sortRecords, X13_decode -/
theorem dX13_sortOne_0 : decode cX13_sortOne 0 = .ok (.iload_n 1, 1) := by decide +kernel
theorem dX13_sortOne_1 : decode cX13_sortOne 1 = .ok (.iconst 2, 1) := by decide +kernel
theorem dX13_sortOne_100 : decode cX13_sortOne 100 = .ok (.lload 11, 2) := by decide +kernel
theorem dX13_sortOne_102 : decode cX13_sortOne 102 = .ok (.aload_n 0, 1) := by decide +kernel
theorem dX13_sortOne_103 : decode cX13_sortOne 103 = .ok (.getfield 185, 3) := by decide +kernel
theorem dX13_sortOne_106 : decode cX13_sortOne 106 = .ok (.iload_n 1, 1) := by decide +kernel
theorem dX13_sortOne_107 : decode cX13_sortOne 107 = .ok (.iconst 2, 1) := by decide +kernel
theorem dX13_sortOne_108 : decode cX13_sortOne 108 = .ok (.iadd, 1) := by decide +kernel
theorem dX13_sortOne_109 : decode cX13_sortOne 109 = .ok (.iload 9, 2) := by decide +kernel
theorem dX13_sortOne_11 : decode cX13_sortOne 11 = .ok (.iload_n 2, 1) := by decide +kernel
theorem dX13_sortOne_111 : decode cX13_sortOne 111 = .ok (.iadd, 1) := by decide +kernel
theorem dX13_sortOne_112 : decode cX13_sortOne 112 = .ok (.laload, 1) := by decide +kernel
theorem dX13_sortOne_113 : decode cX13_sortOne 113 = .ok (.lcmp, 1) := by decide +kernel
theorem dX13_sortOne_114 : decode cX13_sortOne 114 = .ok (.ifCond .ge 8, 3) := by decide +kernel
theorem dX13_sortOne_117 : decode cX13_sortOne 117 = .ok (.iload 10, 2) := by decide +kernel
theorem dX13_sortOne_119 : decode cX13_sortOne 119 = .ok (.goto 5, 3) := by decide +kernel
theorem dX13_sortOne_12 : decode cX13_sortOne 12 = .ok (.if_icmp .ge 26, 3) := by decide +kernel
theorem dX13_sortOne_122 : decode cX13_sortOne 122 = .ok (.iload 9, 2) := by decide +kernel
theorem dX13_sortOne_124 : decode cX13_sortOne 124 = .ok (.istore 9, 2) := by decide +kernel
theorem dX13_sortOne_126 : decode cX13_sortOne 126 = .ok (.iinc 10 1, 3) := by decide +kernel
theorem dX13_sortOne_129 : decode cX13_sortOne 129 = .ok (.goto (-61), 3) := by decide +kernel
theorem dX13_sortOne_132 : decode cX13_sortOne 132 = .ok (.aload_n 0, 1) := by decide +kernel
theorem dX13_sortOne_133 : decode cX13_sortOne 133 = .ok (.getfield 185, 3) := by decide +kernel
theorem dX13_sortOne_136 : decode cX13_sortOne 136 = .ok (.iload_n 1, 1) := by decide +kernel
theorem dX13_sortOne_137 : decode cX13_sortOne 137 = .ok (.iconst 2, 1) := by decide +kernel
theorem dX13_sortOne_138 : decode cX13_sortOne 138 = .ok (.iadd, 1) := by decide +kernel
theorem dX13_sortOne_139 : decode cX13_sortOne 139 = .ok (.iload 9, 2) := by decide +kernel
theorem dX13_sortOne_141 : decode cX13_sortOne 141 = .ok (.iadd, 1) := by decide +kernel
theorem dX13_sortOne_142 : decode cX13_sortOne 142 = .ok (.laload, 1) := by decide +kernel
theorem dX13_sortOne_143 : decode cX13_sortOne 143 = .ok (.lstore 6, 2) := by decide +kernel
theorem dX13_sortOne_145 : decode cX13_sortOne 145 = .ok (.aload_n 0, 1) := by decide +kernel
theorem dX13_sortOne_146 : decode cX13_sortOne 146 = .ok (.getfield 238, 3) := by decide +kernel
theorem dX13_sortOne_149 : decode cX13_sortOne 149 = .ok (.iload_n 1, 1) := by decide +kernel
theorem dX13_sortOne_15 : decode cX13_sortOne 15 = .ok (.aload_n 0, 1) := by decide +kernel
theorem dX13_sortOne_150 : decode cX13_sortOne 150 = .ok (.iconst 2, 1) := by decide +kernel
theorem dX13_sortOne_151 : decode cX13_sortOne 151 = .ok (.iadd, 1) := by decide +kernel
theorem dX13_sortOne_152 : decode cX13_sortOne 152 = .ok (.iload 8, 2) := by decide +kernel
theorem dX13_sortOne_154 : decode cX13_sortOne 154 = .ok (.iadd, 1) := by decide +kernel
theorem dX13_sortOne_155 : decode cX13_sortOne 155 = .ok (.lload 6, 2) := by decide +kernel
theorem dX13_sortOne_157 : decode cX13_sortOne 157 = .ok (.lastore, 1) := by decide +kernel
theorem dX13_sortOne_158 : decode cX13_sortOne 158 = .ok (.aload_n 0, 1) := by decide +kernel
theorem dX13_sortOne_159 : decode cX13_sortOne 159 = .ok (.getfield 185, 3) := by decide +kernel
theorem dX13_sortOne_16 : decode cX13_sortOne 16 = .ok (.getfield 241, 3) := by decide +kernel
theorem dX13_sortOne_162 : decode cX13_sortOne 162 = .ok (.aload_n 0, 1) := by decide +kernel
theorem dX13_sortOne_163 : decode cX13_sortOne 163 = .ok (.getfield 241, 3) := by decide +kernel
theorem dX13_sortOne_166 : decode cX13_sortOne 166 = .ok (.iload 9, 2) := by decide +kernel
theorem dX13_sortOne_168 : decode cX13_sortOne 168 = .ok (.iaload, 1) := by decide +kernel
theorem dX13_sortOne_169 : decode cX13_sortOne 169 = .ok (.invokestatic 849, 3) := by decide +kernel
theorem dX13_sortOne_172 : decode cX13_sortOne 172 = .ok (.istore 10, 2) := by decide +kernel
theorem dX13_sortOne_174 : decode cX13_sortOne 174 = .ok (.aload_n 0, 1) := by decide +kernel
theorem dX13_sortOne_175 : decode cX13_sortOne 175 = .ok (.getfield 241, 3) := by decide +kernel
theorem dX13_sortOne_178 : decode cX13_sortOne 178 = .ok (.iload 9, 2) := by decide +kernel
theorem dX13_sortOne_180 : decode cX13_sortOne 180 = .ok (.iaload, 1) := by decide +kernel
theorem dX13_sortOne_181 : decode cX13_sortOne 181 = .ok (.istore 11, 2) := by decide +kernel
theorem dX13_sortOne_183 : decode cX13_sortOne 183 = .ok (.iload 11, 2) := by decide +kernel
theorem dX13_sortOne_185 : decode cX13_sortOne 185 = .ok (.iload 10, 2) := by decide +kernel
theorem dX13_sortOne_187 : decode cX13_sortOne 187 = .ok (.if_icmp .ge 26, 3) := by decide +kernel
theorem dX13_sortOne_19 : decode cX13_sortOne 19 = .ok (.iload 4, 2) := by decide +kernel
theorem dX13_sortOne_190 : decode cX13_sortOne 190 = .ok (.aload_n 0, 1) := by decide +kernel
theorem dX13_sortOne_191 : decode cX13_sortOne 191 = .ok (.getfield 238, 3) := by decide +kernel
theorem dX13_sortOne_194 : decode cX13_sortOne 194 = .ok (.iload 5, 2) := by decide +kernel
theorem dX13_sortOne_196 : decode cX13_sortOne 196 = .ok (.aload_n 0, 1) := by decide +kernel
theorem dX13_sortOne_197 : decode cX13_sortOne 197 = .ok (.getfield 185, 3) := by decide +kernel
theorem dX13_sortOne_2 : decode cX13_sortOne 2 = .ok (.iadd, 1) := by decide +kernel
theorem dX13_sortOne_200 : decode cX13_sortOne 200 = .ok (.iload 11, 2) := by decide +kernel
theorem dX13_sortOne_202 : decode cX13_sortOne 202 = .ok (.laload, 1) := by decide +kernel
theorem dX13_sortOne_203 : decode cX13_sortOne 203 = .ok (.lastore, 1) := by decide +kernel
theorem dX13_sortOne_204 : decode cX13_sortOne 204 = .ok (.iinc 5 1, 3) := by decide +kernel
theorem dX13_sortOne_207 : decode cX13_sortOne 207 = .ok (.iinc 11 1, 3) := by decide +kernel
theorem dX13_sortOne_21 : decode cX13_sortOne 21 = .ok (.iload_n 3, 1) := by decide +kernel
theorem dX13_sortOne_210 : decode cX13_sortOne 210 = .ok (.goto (-27), 3) := by decide +kernel
theorem dX13_sortOne_213 : decode cX13_sortOne 213 = .ok (.iinc 8 1, 3) := by decide +kernel
theorem dX13_sortOne_216 : decode cX13_sortOne 216 = .ok (.goto (-160), 3) := by decide +kernel
theorem dX13_sortOne_219 : decode cX13_sortOne 219 = .ok (.iload_n 1, 1) := by decide +kernel
theorem dX13_sortOne_22 : decode cX13_sortOne 22 = .ok (.iastore, 1) := by decide +kernel
theorem dX13_sortOne_220 : decode cX13_sortOne 220 = .ok (.iconst 2, 1) := by decide +kernel
theorem dX13_sortOne_221 : decode cX13_sortOne 221 = .ok (.iadd, 1) := by decide +kernel
theorem dX13_sortOne_222 : decode cX13_sortOne 222 = .ok (.istore 8, 2) := by decide +kernel
theorem dX13_sortOne_224 : decode cX13_sortOne 224 = .ok (.iload 8, 2) := by decide +kernel
theorem dX13_sortOne_226 : decode cX13_sortOne 226 = .ok (.iload 4, 2) := by decide +kernel
theorem dX13_sortOne_228 : decode cX13_sortOne 228 = .ok (.if_icmp .ge 23, 3) := by decide +kernel
theorem dX13_sortOne_23 : decode cX13_sortOne 23 = .ok (.aload_n 0, 1) := by decide +kernel
theorem dX13_sortOne_231 : decode cX13_sortOne 231 = .ok (.aload_n 0, 1) := by decide +kernel
theorem dX13_sortOne_232 : decode cX13_sortOne 232 = .ok (.getfield 185, 3) := by decide +kernel
theorem dX13_sortOne_235 : decode cX13_sortOne 235 = .ok (.iload 8, 2) := by decide +kernel
theorem dX13_sortOne_237 : decode cX13_sortOne 237 = .ok (.aload_n 0, 1) := by decide +kernel
theorem dX13_sortOne_238 : decode cX13_sortOne 238 = .ok (.getfield 238, 3) := by decide +kernel
theorem dX13_sortOne_24 : decode cX13_sortOne 24 = .ok (.getfield 185, 3) := by decide +kernel
theorem dX13_sortOne_241 : decode cX13_sortOne 241 = .ok (.iload 8, 2) := by decide +kernel
theorem dX13_sortOne_243 : decode cX13_sortOne 243 = .ok (.laload, 1) := by decide +kernel
theorem dX13_sortOne_244 : decode cX13_sortOne 244 = .ok (.lastore, 1) := by decide +kernel
theorem dX13_sortOne_245 : decode cX13_sortOne 245 = .ok (.iinc 8 1, 3) := by decide +kernel
theorem dX13_sortOne_248 : decode cX13_sortOne 248 = .ok (.goto (-24), 3) := by decide +kernel
theorem dX13_sortOne_251 : decode cX13_sortOne 251 = .ok (.return_, 1) := by decide +kernel
theorem dX13_sortOne_27 : decode cX13_sortOne 27 = .ok (.iload_n 3, 1) := by decide +kernel
theorem dX13_sortOne_28 : decode cX13_sortOne 28 = .ok (.invokestatic 849, 3) := by decide +kernel
theorem dX13_sortOne_3 : decode cX13_sortOne 3 = .ok (.iload_n 2, 1) := by decide +kernel
theorem dX13_sortOne_31 : decode cX13_sortOne 31 = .ok (.istore_n 3, 1) := by decide +kernel
theorem dX13_sortOne_32 : decode cX13_sortOne 32 = .ok (.iinc 4 1, 3) := by decide +kernel
theorem dX13_sortOne_35 : decode cX13_sortOne 35 = .ok (.goto (-26), 3) := by decide +kernel
theorem dX13_sortOne_38 : decode cX13_sortOne 38 = .ok (.iload_n 3, 1) := by decide +kernel
theorem dX13_sortOne_39 : decode cX13_sortOne 39 = .ok (.istore 4, 2) := by decide +kernel
theorem dX13_sortOne_4 : decode cX13_sortOne 4 = .ok (.iadd, 1) := by decide +kernel
theorem dX13_sortOne_41 : decode cX13_sortOne 41 = .ok (.iload_n 1, 1) := by decide +kernel
theorem dX13_sortOne_42 : decode cX13_sortOne 42 = .ok (.iconst 2, 1) := by decide +kernel
theorem dX13_sortOne_43 : decode cX13_sortOne 43 = .ok (.iadd, 1) := by decide +kernel
theorem dX13_sortOne_44 : decode cX13_sortOne 44 = .ok (.iload_n 2, 1) := by decide +kernel
theorem dX13_sortOne_45 : decode cX13_sortOne 45 = .ok (.iadd, 1) := by decide +kernel
theorem dX13_sortOne_46 : decode cX13_sortOne 46 = .ok (.istore 5, 2) := by decide +kernel
theorem dX13_sortOne_48 : decode cX13_sortOne 48 = .ok (.ldc2_w 1087, 3) := by decide +kernel
theorem dX13_sortOne_5 : decode cX13_sortOne 5 = .ok (.istore_n 3, 1) := by decide +kernel
theorem dX13_sortOne_51 : decode cX13_sortOne 51 = .ok (.lstore 6, 2) := by decide +kernel
theorem dX13_sortOne_53 : decode cX13_sortOne 53 = .ok (.iconst 0, 1) := by decide +kernel
theorem dX13_sortOne_54 : decode cX13_sortOne 54 = .ok (.istore 8, 2) := by decide +kernel
theorem dX13_sortOne_56 : decode cX13_sortOne 56 = .ok (.iload 8, 2) := by decide +kernel
theorem dX13_sortOne_58 : decode cX13_sortOne 58 = .ok (.iload_n 2, 1) := by decide +kernel
theorem dX13_sortOne_59 : decode cX13_sortOne 59 = .ok (.if_icmp .ge 160, 3) := by decide +kernel
theorem dX13_sortOne_6 : decode cX13_sortOne 6 = .ok (.iconst 0, 1) := by decide +kernel
theorem dX13_sortOne_62 : decode cX13_sortOne 62 = .ok (.iconst (-1), 1) := by decide +kernel
theorem dX13_sortOne_63 : decode cX13_sortOne 63 = .ok (.istore 9, 2) := by decide +kernel
theorem dX13_sortOne_65 : decode cX13_sortOne 65 = .ok (.iconst 0, 1) := by decide +kernel
theorem dX13_sortOne_66 : decode cX13_sortOne 66 = .ok (.istore 10, 2) := by decide +kernel
theorem dX13_sortOne_68 : decode cX13_sortOne 68 = .ok (.iload 10, 2) := by decide +kernel
theorem dX13_sortOne_7 : decode cX13_sortOne 7 = .ok (.istore 4, 2) := by decide +kernel
theorem dX13_sortOne_70 : decode cX13_sortOne 70 = .ok (.iload_n 2, 1) := by decide +kernel
theorem dX13_sortOne_71 : decode cX13_sortOne 71 = .ok (.if_icmp .ge 61, 3) := by decide +kernel
theorem dX13_sortOne_74 : decode cX13_sortOne 74 = .ok (.aload_n 0, 1) := by decide +kernel
theorem dX13_sortOne_75 : decode cX13_sortOne 75 = .ok (.getfield 185, 3) := by decide +kernel
theorem dX13_sortOne_78 : decode cX13_sortOne 78 = .ok (.iload_n 1, 1) := by decide +kernel
theorem dX13_sortOne_79 : decode cX13_sortOne 79 = .ok (.iconst 2, 1) := by decide +kernel
theorem dX13_sortOne_80 : decode cX13_sortOne 80 = .ok (.iadd, 1) := by decide +kernel
theorem dX13_sortOne_81 : decode cX13_sortOne 81 = .ok (.iload 10, 2) := by decide +kernel
theorem dX13_sortOne_83 : decode cX13_sortOne 83 = .ok (.iadd, 1) := by decide +kernel
theorem dX13_sortOne_84 : decode cX13_sortOne 84 = .ok (.laload, 1) := by decide +kernel
theorem dX13_sortOne_85 : decode cX13_sortOne 85 = .ok (.lstore 11, 2) := by decide +kernel
theorem dX13_sortOne_87 : decode cX13_sortOne 87 = .ok (.lload 11, 2) := by decide +kernel
theorem dX13_sortOne_89 : decode cX13_sortOne 89 = .ok (.lload 6, 2) := by decide +kernel
theorem dX13_sortOne_9 : decode cX13_sortOne 9 = .ok (.iload 4, 2) := by decide +kernel
theorem dX13_sortOne_91 : decode cX13_sortOne 91 = .ok (.lcmp, 1) := by decide +kernel
theorem dX13_sortOne_92 : decode cX13_sortOne 92 = .ok (.ifCond .le 30, 3) := by decide +kernel
theorem dX13_sortOne_95 : decode cX13_sortOne 95 = .ok (.iload 9, 2) := by decide +kernel
theorem dX13_sortOne_97 : decode cX13_sortOne 97 = .ok (.ifCond .lt 20, 3) := by decide +kernel
noncomputable def k_X13_sortOne_224 (l4 : Int32) (l8 : Int32) (s : t_S) : Option ((Int32 × Int32 × t_S) ⊕ (t_S)) :=
 if l4 ≤ l8 then ((some (s)).map Sum.inr)
 else (if t_ix l8 8600 = true then
  t_let (t_setJ s 1007 (l8.toNatClampNeg) (s.2.1 1024 (l8.toNatClampNeg))) (fun s1 =>
 some (.inl (l4, (l8 + 1), s1)))
else none)
set_option maxRecDepth 4000 in
set_option maxHeartbeats 1000000 in
theorem B_X13_sortOne_224 {D : va_G} {cy : Nat → ClassId} {ad : Nat → Nat} {bs : Nat} {X : State → Heap → Prop} (l4 : Int32) (l8 : Int32) (s : t_S) (Q : (Int32 × Int32 × t_S) ⊕ (t_S) → Prop) (Hb224 : ∀ (y0 : Int32) (y1 : Int32) (y2 : t_S), Q (.inl (y0, y1, y2)) → mj_G D cy ad bs X cX13_sortOne 13 yX13_sortOne.cls none yX13_sortOne.name 2 0 0 1065 (t_P (fun v s' => v = none ∧ Q (.inr (s')))) 224 [(0, .ref 950), (4, .int (y0)), (8, .int (y1))] [] (t_m y2) 1065 0 0) (hk : t_hk (k_X13_sortOne_224 l4 l8 s) Q) : mj_G D cy ad bs X cX13_sortOne 13 yX13_sortOne.cls none yX13_sortOne.name 2 0 0 1065 (t_P (fun v s' => v = none ∧ Q (.inr (s')))) 224 [(0, .ref 950), (4, .int l4), (8, .int l8)] [] (t_m s) 1065 0 0 := by
  refine mj_iload dX13_sortOne_224 2 rfl ?_
  refine mj_iload dX13_sortOne_226 1 rfl ?_
  refine mj_icmp_ge 251 dX13_sortOne_228 (by decide) (fun z => t_posK hk z (fun hk => ?_)) (fun z => t_negK hk z (fun hk => ?_))
  · refine t_mapK hk (fun hk => ?_)
    exact t_somK hk (fun hf => t_vret dX13_sortOne_251 rfl ⟨rfl, hf⟩ (Nat.le_of_ble_eq_true rfl) (Nat.le_of_ble_eq_true rfl))
  · refine mj_aload_n dX13_sortOne_231 0 rfl ?_
    refine t_getR 1007 dX13_sortOne_232 F_X13_185 qr_950_99 ?_
    refine mj_iload dX13_sortOne_235 2 rfl ?_
    refine mj_aload_n dX13_sortOne_237 0 rfl ?_
    refine t_getR 1024 dX13_sortOne_238 F_X13_238 qr_950_130 ?_
    refine mj_iload dX13_sortOne_241 2 rfl ?_
    refine t_chkK hk (fun c0 hk => ?_)
    refine t_lald dX13_sortOne_243 qa_1024 (t_ixv c0) ?_
    refine t_lastK dX13_sortOne_244 qa_1007 (t_ixv c0) (fun s1 ws1 => t_letE hk ws1 (fun hk => ?_))
    refine mj_iinc (k := 2) (v := (l8 + 1)) (lv2 := [(8, .int (l8 + 1)), (0, .ref 950), (4, .int l4)]) dX13_sortOne_245 rfl rfl (by decide) rfl ?_
    refine mj_goto 224 dX13_sortOne_248 (by decide) ?_
    refine mj_sublv [(0, .ref 950), (4, .int l4), (8, .int (l8 + 1))] [1, 2, 0] rfl ?_
    exact t_somK hk (fun hf => Hb224 l4 (l8 + 1) s1 hf)
noncomputable def b_X13_sortOne_224 (x : Int32 × Int32 × t_S) : Option ((Int32 × Int32 × t_S) ⊕ (t_S)) := k_X13_sortOne_224 x.1 x.2.1 x.2.2
set_option maxRecDepth 4000 in
set_option maxHeartbeats 1000000 in
theorem LH_X13_sortOne_224 {D : va_G} {cy : Nat → ClassId} {ad : Nat → Nat} {bs : Nat} {X : State → Heap → Prop} : ∀ (n : Nat) (y0 : Int32) (y1 : Int32) (y2 : t_S) (Q : t_S → Prop) (hk : t_hk (t_loop (b_X13_sortOne_224) n (y0, y1, y2)) Q), mj_G D cy ad bs X cX13_sortOne 13 yX13_sortOne.cls none yX13_sortOne.name 2 0 0 1065 (t_P (fun v s' => v = none ∧ Q (s'))) 224 [(0, .ref 950), (4, .int (y0)), (8, .int (y1))] [] (t_m y2) 1065 0 0 := by
  intro n
  induction n with
  | zero => intro y0 y1 y2 Q hk; obtain ⟨r, hr, _⟩ := hk; cases hr
  | succ n ih =>
    intro y0 y1 y2 Q hk
    exact B_X13_sortOne_224 y0 y1 y2 (fun y => t_lq (b_X13_sortOne_224) n Q y) (fun y0' y1' y2' hy => ih y0' y1' y2' Q hy) (t_lp (b := b_X13_sortOne_224) (n := n) (x := (y0, y1, y2)) hk)
noncomputable def k_X13_sortOne_124 (l1 : Int32) (l2 : Int32) (l4 : Int32) (l5 : Int32) (l6 : Int64) (l8 : Int32) (l10 : Int32) (k0 : Int32) (s : t_S) : Option ((Int32 × Int32 × Int32 × Int32 × Int64 × Int32 × Int32 × Int32 × t_S) ⊕ ((Int32 × Int32 × Int32 × Int32 × Int64 × Int32 × t_S) ⊕ (t_S))) :=
 some (.inl (l1, l2, l4, l5, l6, l8, k0, (l10 + 1), s))
set_option maxRecDepth 4000 in
set_option maxHeartbeats 1000000 in
theorem B_X13_sortOne_124 {D : va_G} {cy : Nat → ClassId} {ad : Nat → Nat} {bs : Nat} {X : State → Heap → Prop} (l1 : Int32) (l2 : Int32) (l4 : Int32) (l5 : Int32) (l6 : Int64) (l8 : Int32) (l10 : Int32) (k0 : Int32) (s : t_S) (Q : (Int32 × Int32 × Int32 × Int32 × Int64 × Int32 × Int32 × Int32 × t_S) ⊕ ((Int32 × Int32 × Int32 × Int32 × Int64 × Int32 × t_S) ⊕ (t_S)) → Prop) (Hb56 : ∀ (y0 : Int32) (y1 : Int32) (y2 : Int32) (y3 : Int32) (y4 : Int64) (y5 : Int32) (y6 : t_S), Q (.inr (.inl (y0, y1, y2, y3, y4, y5, y6))) → mj_G D cy ad bs X cX13_sortOne 13 yX13_sortOne.cls none yX13_sortOne.name 2 0 0 1065 (t_P (fun v s' => v = none ∧ Q (.inr (.inr (s'))))) 56 [(0, .ref 950), (1, .int (y0)), (2, .int (y1)), (4, .int (y2)), (5, .int (y3)), (6, .long (y4)), (8, .int (y5))] [] (t_m y6) 1065 0 0) (Hb68 : ∀ (y0 : Int32) (y1 : Int32) (y2 : Int32) (y3 : Int32) (y4 : Int64) (y5 : Int32) (y6 : Int32) (y7 : Int32) (y8 : t_S), Q (.inl (y0, y1, y2, y3, y4, y5, y6, y7, y8)) → mj_G D cy ad bs X cX13_sortOne 13 yX13_sortOne.cls none yX13_sortOne.name 2 0 0 1065 (t_P (fun v s' => v = none ∧ Q (.inr (.inr (s'))))) 68 [(0, .ref 950), (1, .int (y0)), (2, .int (y1)), (4, .int (y2)), (5, .int (y3)), (6, .long (y4)), (8, .int (y5)), (9, .int (y6)), (10, .int (y7))] [] (t_m y8) 1065 0 0) (hk : t_hk (k_X13_sortOne_124 l1 l2 l4 l5 l6 l8 l10 k0 s) Q) : mj_G D cy ad bs X cX13_sortOne 13 yX13_sortOne.cls none yX13_sortOne.name 2 0 0 1065 (t_P (fun v s' => v = none ∧ Q (.inr (.inr (s'))))) 124 [(0, .ref 950), (1, .int l1), (2, .int l2), (4, .int l4), (5, .int l5), (6, .long l6), (8, .int l8), (10, .int l10)] [.int k0] (t_m s) 1065 0 0 := by
  refine mj_istore (lv2 := [(9, .int k0), (0, .ref 950), (1, .int l1), (2, .int l2), (4, .int l4), (5, .int l5), (6, .long l6), (8, .int l8), (10, .int l10)]) dX13_sortOne_124 (by decide) rfl ?_
  refine mj_iinc (k := 8) (v := (l10 + 1)) (lv2 := [(10, .int (l10 + 1)), (9, .int k0), (0, .ref 950), (1, .int l1), (2, .int l2), (4, .int l4), (5, .int l5), (6, .long l6), (8, .int l8)]) dX13_sortOne_126 rfl rfl (by decide) rfl ?_
  refine mj_goto 68 dX13_sortOne_129 (by decide) ?_
  refine mj_sublv [(0, .ref 950), (1, .int l1), (2, .int l2), (4, .int l4), (5, .int l5), (6, .long l6), (8, .int l8), (9, .int k0), (10, .int (l10 + 1))] [2, 3, 4, 5, 6, 7, 8, 1, 0] rfl ?_
  exact t_somK hk (fun hf => Hb68 l1 l2 l4 l5 l6 l8 k0 (l10 + 1) s hf)
noncomputable def k_X13_sortOne_122 (l1 : Int32) (l2 : Int32) (l4 : Int32) (l5 : Int32) (l6 : Int64) (l8 : Int32) (l9 : Int32) (l10 : Int32) (s : t_S) : Option ((Int32 × Int32 × Int32 × Int32 × Int64 × Int32 × Int32 × Int32 × t_S) ⊕ ((Int32 × Int32 × Int32 × Int32 × Int64 × Int32 × t_S) ⊕ (t_S))) :=
 k_X13_sortOne_124 l1 l2 l4 l5 l6 l8 l10 l9 s
set_option maxRecDepth 4000 in
set_option maxHeartbeats 1000000 in
theorem B_X13_sortOne_122 {D : va_G} {cy : Nat → ClassId} {ad : Nat → Nat} {bs : Nat} {X : State → Heap → Prop} (l1 : Int32) (l2 : Int32) (l4 : Int32) (l5 : Int32) (l6 : Int64) (l8 : Int32) (l9 : Int32) (l10 : Int32) (s : t_S) (Q : (Int32 × Int32 × Int32 × Int32 × Int64 × Int32 × Int32 × Int32 × t_S) ⊕ ((Int32 × Int32 × Int32 × Int32 × Int64 × Int32 × t_S) ⊕ (t_S)) → Prop) (Hb56 : ∀ (y0 : Int32) (y1 : Int32) (y2 : Int32) (y3 : Int32) (y4 : Int64) (y5 : Int32) (y6 : t_S), Q (.inr (.inl (y0, y1, y2, y3, y4, y5, y6))) → mj_G D cy ad bs X cX13_sortOne 13 yX13_sortOne.cls none yX13_sortOne.name 2 0 0 1065 (t_P (fun v s' => v = none ∧ Q (.inr (.inr (s'))))) 56 [(0, .ref 950), (1, .int (y0)), (2, .int (y1)), (4, .int (y2)), (5, .int (y3)), (6, .long (y4)), (8, .int (y5))] [] (t_m y6) 1065 0 0) (Hb68 : ∀ (y0 : Int32) (y1 : Int32) (y2 : Int32) (y3 : Int32) (y4 : Int64) (y5 : Int32) (y6 : Int32) (y7 : Int32) (y8 : t_S), Q (.inl (y0, y1, y2, y3, y4, y5, y6, y7, y8)) → mj_G D cy ad bs X cX13_sortOne 13 yX13_sortOne.cls none yX13_sortOne.name 2 0 0 1065 (t_P (fun v s' => v = none ∧ Q (.inr (.inr (s'))))) 68 [(0, .ref 950), (1, .int (y0)), (2, .int (y1)), (4, .int (y2)), (5, .int (y3)), (6, .long (y4)), (8, .int (y5)), (9, .int (y6)), (10, .int (y7))] [] (t_m y8) 1065 0 0) (hk : t_hk (k_X13_sortOne_122 l1 l2 l4 l5 l6 l8 l9 l10 s) Q) : mj_G D cy ad bs X cX13_sortOne 13 yX13_sortOne.cls none yX13_sortOne.name 2 0 0 1065 (t_P (fun v s' => v = none ∧ Q (.inr (.inr (s'))))) 122 [(0, .ref 950), (1, .int l1), (2, .int l2), (4, .int l4), (5, .int l5), (6, .long l6), (8, .int l8), (9, .int l9), (10, .int l10)] [] (t_m s) 1065 0 0 := by
  refine mj_iload dX13_sortOne_122 7 rfl ?_
  refine mj_sublv [(0, .ref 950), (1, .int l1), (2, .int l2), (4, .int l4), (5, .int l5), (6, .long l6), (8, .int l8), (10, .int l10)] [0, 1, 2, 3, 4, 5, 6, 8] rfl ?_
  exact B_X13_sortOne_124 _ _ _ _ _ _ _ _ _ _ (fun y0 y1 y2 y3 y4 y5 y6 hx => Hb56 y0 y1 y2 y3 y4 y5 y6 hx) (fun y0 y1 y2 y3 y4 y5 y6 y7 y8 hx => Hb68 y0 y1 y2 y3 y4 y5 y6 y7 y8 hx) hk
noncomputable def k_X13_sortOne_117 (l1 : Int32) (l2 : Int32) (l4 : Int32) (l5 : Int32) (l6 : Int64) (l8 : Int32) (l10 : Int32) (s : t_S) : Option ((Int32 × Int32 × Int32 × Int32 × Int64 × Int32 × Int32 × Int32 × t_S) ⊕ ((Int32 × Int32 × Int32 × Int32 × Int64 × Int32 × t_S) ⊕ (t_S))) :=
 k_X13_sortOne_124 l1 l2 l4 l5 l6 l8 l10 l10 s
set_option maxRecDepth 4000 in
set_option maxHeartbeats 1000000 in
theorem B_X13_sortOne_117 {D : va_G} {cy : Nat → ClassId} {ad : Nat → Nat} {bs : Nat} {X : State → Heap → Prop} (l1 : Int32) (l2 : Int32) (l4 : Int32) (l5 : Int32) (l6 : Int64) (l8 : Int32) (l10 : Int32) (s : t_S) (Q : (Int32 × Int32 × Int32 × Int32 × Int64 × Int32 × Int32 × Int32 × t_S) ⊕ ((Int32 × Int32 × Int32 × Int32 × Int64 × Int32 × t_S) ⊕ (t_S)) → Prop) (Hb56 : ∀ (y0 : Int32) (y1 : Int32) (y2 : Int32) (y3 : Int32) (y4 : Int64) (y5 : Int32) (y6 : t_S), Q (.inr (.inl (y0, y1, y2, y3, y4, y5, y6))) → mj_G D cy ad bs X cX13_sortOne 13 yX13_sortOne.cls none yX13_sortOne.name 2 0 0 1065 (t_P (fun v s' => v = none ∧ Q (.inr (.inr (s'))))) 56 [(0, .ref 950), (1, .int (y0)), (2, .int (y1)), (4, .int (y2)), (5, .int (y3)), (6, .long (y4)), (8, .int (y5))] [] (t_m y6) 1065 0 0) (Hb68 : ∀ (y0 : Int32) (y1 : Int32) (y2 : Int32) (y3 : Int32) (y4 : Int64) (y5 : Int32) (y6 : Int32) (y7 : Int32) (y8 : t_S), Q (.inl (y0, y1, y2, y3, y4, y5, y6, y7, y8)) → mj_G D cy ad bs X cX13_sortOne 13 yX13_sortOne.cls none yX13_sortOne.name 2 0 0 1065 (t_P (fun v s' => v = none ∧ Q (.inr (.inr (s'))))) 68 [(0, .ref 950), (1, .int (y0)), (2, .int (y1)), (4, .int (y2)), (5, .int (y3)), (6, .long (y4)), (8, .int (y5)), (9, .int (y6)), (10, .int (y7))] [] (t_m y8) 1065 0 0) (hk : t_hk (k_X13_sortOne_117 l1 l2 l4 l5 l6 l8 l10 s) Q) : mj_G D cy ad bs X cX13_sortOne 13 yX13_sortOne.cls none yX13_sortOne.name 2 0 0 1065 (t_P (fun v s' => v = none ∧ Q (.inr (.inr (s'))))) 117 [(0, .ref 950), (1, .int l1), (2, .int l2), (4, .int l4), (5, .int l5), (6, .long l6), (8, .int l8), (10, .int l10)] [] (t_m s) 1065 0 0 := by
  refine mj_iload dX13_sortOne_117 7 rfl ?_
  refine mj_goto 124 dX13_sortOne_119 (by decide) ?_
  exact B_X13_sortOne_124 _ _ _ _ _ _ _ _ _ _ (fun y0 y1 y2 y3 y4 y5 y6 hx => Hb56 y0 y1 y2 y3 y4 y5 y6 hx) (fun y0 y1 y2 y3 y4 y5 y6 y7 y8 hx => Hb68 y0 y1 y2 y3 y4 y5 y6 y7 y8 hx) hk
noncomputable def k_X13_sortOne_183 (l1 : Int32) (l2 : Int32) (l4 : Int32) (l5 : Int32) (l6 : Int64) (l8 : Int32) (l10 : Int32) (l11 : Int32) (s : t_S) : Option ((Int32 × Int32 × Int32 × Int32 × Int64 × Int32 × Int32 × Int32 × t_S) ⊕ ((Int32 × Int32 × Int32 × Int32 × Int64 × Int32 × t_S) ⊕ (t_S))) :=
 if l10 ≤ l11 then ((some (.inl (l1, l2, l4, l5, l6, (l8 + 1), s))).map Sum.inr)
 else (if t_ix l11 8600 = true then
  if t_ix l5 8600 = true then
  t_let (t_setJ s 1024 (l5.toNatClampNeg) (s.2.1 1007 (l11.toNatClampNeg))) (fun s1 =>
 some (.inl (l1, l2, l4, (l5 + 1), l6, l8, l10, (l11 + 1), s1)))
else none
else none)
set_option maxRecDepth 4000 in
set_option maxHeartbeats 1000000 in
theorem B_X13_sortOne_183 {D : va_G} {cy : Nat → ClassId} {ad : Nat → Nat} {bs : Nat} {X : State → Heap → Prop} (l1 : Int32) (l2 : Int32) (l4 : Int32) (l5 : Int32) (l6 : Int64) (l8 : Int32) (l10 : Int32) (l11 : Int32) (s : t_S) (Q : (Int32 × Int32 × Int32 × Int32 × Int64 × Int32 × Int32 × Int32 × t_S) ⊕ ((Int32 × Int32 × Int32 × Int32 × Int64 × Int32 × t_S) ⊕ (t_S)) → Prop) (Hb56 : ∀ (y0 : Int32) (y1 : Int32) (y2 : Int32) (y3 : Int32) (y4 : Int64) (y5 : Int32) (y6 : t_S), Q (.inr (.inl (y0, y1, y2, y3, y4, y5, y6))) → mj_G D cy ad bs X cX13_sortOne 13 yX13_sortOne.cls none yX13_sortOne.name 2 0 0 1065 (t_P (fun v s' => v = none ∧ Q (.inr (.inr (s'))))) 56 [(0, .ref 950), (1, .int (y0)), (2, .int (y1)), (4, .int (y2)), (5, .int (y3)), (6, .long (y4)), (8, .int (y5))] [] (t_m y6) 1065 0 0) (Hb183 : ∀ (y0 : Int32) (y1 : Int32) (y2 : Int32) (y3 : Int32) (y4 : Int64) (y5 : Int32) (y6 : Int32) (y7 : Int32) (y8 : t_S), Q (.inl (y0, y1, y2, y3, y4, y5, y6, y7, y8)) → mj_G D cy ad bs X cX13_sortOne 13 yX13_sortOne.cls none yX13_sortOne.name 2 0 0 1065 (t_P (fun v s' => v = none ∧ Q (.inr (.inr (s'))))) 183 [(0, .ref 950), (1, .int (y0)), (2, .int (y1)), (4, .int (y2)), (5, .int (y3)), (6, .long (y4)), (8, .int (y5)), (10, .int (y6)), (11, .int (y7))] [] (t_m y8) 1065 0 0) (hk : t_hk (k_X13_sortOne_183 l1 l2 l4 l5 l6 l8 l10 l11 s) Q) : mj_G D cy ad bs X cX13_sortOne 13 yX13_sortOne.cls none yX13_sortOne.name 2 0 0 1065 (t_P (fun v s' => v = none ∧ Q (.inr (.inr (s'))))) 183 [(0, .ref 950), (1, .int l1), (2, .int l2), (4, .int l4), (5, .int l5), (6, .long l6), (8, .int l8), (10, .int l10), (11, .int l11)] [] (t_m s) 1065 0 0 := by
  refine mj_iload dX13_sortOne_183 8 rfl ?_
  refine mj_iload dX13_sortOne_185 7 rfl ?_
  refine mj_icmp_ge 213 dX13_sortOne_187 (by decide) (fun z => t_posK hk z (fun hk => ?_)) (fun z => t_negK hk z (fun hk => ?_))
  · refine t_mapK hk (fun hk => ?_)
    refine mj_iinc (k := 6) (v := (l8 + 1)) (lv2 := [(8, .int (l8 + 1)), (0, .ref 950), (1, .int l1), (2, .int l2), (4, .int l4), (5, .int l5), (6, .long l6), (10, .int l10), (11, .int l11)]) dX13_sortOne_213 rfl rfl (by decide) rfl ?_
    refine mj_goto 56 dX13_sortOne_216 (by decide) ?_
    refine mj_sublv [(0, .ref 950), (1, .int l1), (2, .int l2), (4, .int l4), (5, .int l5), (6, .long l6), (8, .int (l8 + 1))] [1, 2, 3, 4, 5, 6, 0] rfl ?_
    exact t_somK hk (fun hf => Hb56 l1 l2 l4 l5 l6 (l8 + 1) s hf)
  · refine mj_aload_n dX13_sortOne_190 0 rfl ?_
    refine t_getR 1024 dX13_sortOne_191 F_X13_238 qr_950_130 ?_
    refine mj_iload dX13_sortOne_194 4 rfl ?_
    refine mj_aload_n dX13_sortOne_196 0 rfl ?_
    refine t_getR 1007 dX13_sortOne_197 F_X13_185 qr_950_99 ?_
    refine mj_iload dX13_sortOne_200 8 rfl ?_
    refine t_chkK hk (fun c0 hk => ?_)
    refine t_lald dX13_sortOne_202 qa_1007 (t_ixv c0) ?_
    refine t_chkK hk (fun c1 hk => ?_)
    refine t_lastK dX13_sortOne_203 qa_1024 (t_ixv c1) (fun s1 ws1 => t_letE hk ws1 (fun hk => ?_))
    refine mj_iinc (k := 4) (v := (l5 + 1)) (lv2 := [(5, .int (l5 + 1)), (0, .ref 950), (1, .int l1), (2, .int l2), (4, .int l4), (6, .long l6), (8, .int l8), (10, .int l10), (11, .int l11)]) dX13_sortOne_204 rfl rfl (by decide) rfl ?_
    refine mj_iinc (k := 8) (v := (l11 + 1)) (lv2 := [(11, .int (l11 + 1)), (5, .int (l5 + 1)), (0, .ref 950), (1, .int l1), (2, .int l2), (4, .int l4), (6, .long l6), (8, .int l8), (10, .int l10)]) dX13_sortOne_207 rfl rfl (by decide) rfl ?_
    refine mj_goto 183 dX13_sortOne_210 (by decide) ?_
    refine mj_sublv [(0, .ref 950), (1, .int l1), (2, .int l2), (4, .int l4), (5, .int (l5 + 1)), (6, .long l6), (8, .int l8), (10, .int l10), (11, .int (l11 + 1))] [2, 3, 4, 5, 1, 6, 7, 8, 0] rfl ?_
    exact t_somK hk (fun hf => Hb183 l1 l2 l4 (l5 + 1) l6 l8 l10 (l11 + 1) s1 hf)
noncomputable def b_X13_sortOne_183 (x : Int32 × Int32 × Int32 × Int32 × Int64 × Int32 × Int32 × Int32 × t_S) : Option ((Int32 × Int32 × Int32 × Int32 × Int64 × Int32 × Int32 × Int32 × t_S) ⊕ ((Int32 × Int32 × Int32 × Int32 × Int64 × Int32 × t_S) ⊕ (t_S))) := k_X13_sortOne_183 x.1 x.2.1 x.2.2.1 x.2.2.2.1 x.2.2.2.2.1 x.2.2.2.2.2.1 x.2.2.2.2.2.2.1 x.2.2.2.2.2.2.2.1 x.2.2.2.2.2.2.2.2
set_option maxRecDepth 4000 in
set_option maxHeartbeats 1000000 in
theorem LH_X13_sortOne_183 {D : va_G} {cy : Nat → ClassId} {ad : Nat → Nat} {bs : Nat} {X : State → Heap → Prop} : ∀ (n : Nat) (y0 : Int32) (y1 : Int32) (y2 : Int32) (y3 : Int32) (y4 : Int64) (y5 : Int32) (y6 : Int32) (y7 : Int32) (y8 : t_S) (Q : (Int32 × Int32 × Int32 × Int32 × Int64 × Int32 × t_S) ⊕ (t_S) → Prop) (Hb56 : ∀ (y0 : Int32) (y1 : Int32) (y2 : Int32) (y3 : Int32) (y4 : Int64) (y5 : Int32) (y6 : t_S), Q (.inl (y0, y1, y2, y3, y4, y5, y6)) → mj_G D cy ad bs X cX13_sortOne 13 yX13_sortOne.cls none yX13_sortOne.name 2 0 0 1065 (t_P (fun v s' => v = none ∧ Q (.inr (s')))) 56 [(0, .ref 950), (1, .int (y0)), (2, .int (y1)), (4, .int (y2)), (5, .int (y3)), (6, .long (y4)), (8, .int (y5))] [] (t_m y6) 1065 0 0) (hk : t_hk (t_loop (b_X13_sortOne_183) n (y0, y1, y2, y3, y4, y5, y6, y7, y8)) Q), mj_G D cy ad bs X cX13_sortOne 13 yX13_sortOne.cls none yX13_sortOne.name 2 0 0 1065 (t_P (fun v s' => v = none ∧ Q (.inr (s')))) 183 [(0, .ref 950), (1, .int (y0)), (2, .int (y1)), (4, .int (y2)), (5, .int (y3)), (6, .long (y4)), (8, .int (y5)), (10, .int (y6)), (11, .int (y7))] [] (t_m y8) 1065 0 0 := by
  intro n
  induction n with
  | zero => intro y0 y1 y2 y3 y4 y5 y6 y7 y8 Q Hb56 hk; obtain ⟨r, hr, _⟩ := hk; cases hr
  | succ n ih =>
    intro y0 y1 y2 y3 y4 y5 y6 y7 y8 Q Hb56 hk
    exact B_X13_sortOne_183 y0 y1 y2 y3 y4 y5 y6 y7 y8 (fun y => t_lq (b_X13_sortOne_183) n Q y) (fun y0' y1' y2' y3' y4' y5' y6' hy => Hb56 y0' y1' y2' y3' y4' y5' y6' hy) (fun y0' y1' y2' y3' y4' y5' y6' y7' y8' hy => ih y0' y1' y2' y3' y4' y5' y6' y7' y8' Q Hb56 hy) (t_lp (b := b_X13_sortOne_183) (n := n) (x := (y0, y1, y2, y3, y4, y5, y6, y7, y8)) hk)
noncomputable def k_X13_sortOne_68 (l1 : Int32) (l2 : Int32) (l4 : Int32) (l5 : Int32) (l6 : Int64) (l8 : Int32) (l9 : Int32) (l10 : Int32) (s : t_S) : Option ((Int32 × Int32 × Int32 × Int32 × Int64 × Int32 × Int32 × Int32 × t_S) ⊕ ((Int32 × Int32 × Int32 × Int32 × Int64 × Int32 × t_S) ⊕ (t_S))) :=
 if l2 ≤ l10 then ((if t_ix ((l1 + (2 : Int32)) + l9) 8600 = true then
  if t_ix ((l1 + (2 : Int32)) + l8) 8600 = true then
  t_let (t_setJ s 1024 (((l1 + (2 : Int32)) + l8).toNatClampNeg) (s.2.1 1007 (((l1 + (2 : Int32)) + l9).toNatClampNeg))) (fun s1 =>
 if t_ix l9 20 = true then
  (f_X13_endOf 1007 (s1.1 1025 (l9.toNatClampNeg)) s1).bind (fun r4 =>
 t_loop (b_X13_sortOne_183) t_N (l1, l2, l4, l5, (s.2.1 1007 (((l1 + (2 : Int32)) + l9).toNatClampNeg)), l8, r4, (s1.1 1025 (l9.toNatClampNeg)), s1))
else none)
else none
else none).map Sum.inr)
 else (if t_ix ((l1 + (2 : Int32)) + l10) 8600 = true then
  if (lg_cmp (s.2.1 1007 (((l1 + (2 : Int32)) + l10).toNatClampNeg)) l6) ≤ (0 : Int32) then (k_X13_sortOne_122 l1 l2 l4 l5 l6 l8 l9 l10 s)
 else (if l9 < (0 : Int32) then (k_X13_sortOne_117 l1 l2 l4 l5 l6 l8 l10 s)
 else (if t_ix ((l1 + (2 : Int32)) + l9) 8600 = true then
  if (0 : Int32) ≤ (lg_cmp (s.2.1 1007 (((l1 + (2 : Int32)) + l10).toNatClampNeg)) (s.2.1 1007 (((l1 + (2 : Int32)) + l9).toNatClampNeg))) then (k_X13_sortOne_122 l1 l2 l4 l5 l6 l8 l9 l10 s)
 else (k_X13_sortOne_117 l1 l2 l4 l5 l6 l8 l10 s)
else none))
else none)
set_option maxRecDepth 4000 in
set_option maxHeartbeats 1000000 in
theorem B_X13_sortOne_68 {D : va_G} {cy : Nat → ClassId} {ad : Nat → Nat} {bs : Nat} {X : State → Heap → Prop} (l1 : Int32) (l2 : Int32) (l4 : Int32) (l5 : Int32) (l6 : Int64) (l8 : Int32) (l9 : Int32) (l10 : Int32) (s : t_S) (Q : (Int32 × Int32 × Int32 × Int32 × Int64 × Int32 × Int32 × Int32 × t_S) ⊕ ((Int32 × Int32 × Int32 × Int32 × Int64 × Int32 × t_S) ⊕ (t_S)) → Prop) (Hb56 : ∀ (y0 : Int32) (y1 : Int32) (y2 : Int32) (y3 : Int32) (y4 : Int64) (y5 : Int32) (y6 : t_S), Q (.inr (.inl (y0, y1, y2, y3, y4, y5, y6))) → mj_G D cy ad bs X cX13_sortOne 13 yX13_sortOne.cls none yX13_sortOne.name 2 0 0 1065 (t_P (fun v s' => v = none ∧ Q (.inr (.inr (s'))))) 56 [(0, .ref 950), (1, .int (y0)), (2, .int (y1)), (4, .int (y2)), (5, .int (y3)), (6, .long (y4)), (8, .int (y5))] [] (t_m y6) 1065 0 0) (Hb68 : ∀ (y0 : Int32) (y1 : Int32) (y2 : Int32) (y3 : Int32) (y4 : Int64) (y5 : Int32) (y6 : Int32) (y7 : Int32) (y8 : t_S), Q (.inl (y0, y1, y2, y3, y4, y5, y6, y7, y8)) → mj_G D cy ad bs X cX13_sortOne 13 yX13_sortOne.cls none yX13_sortOne.name 2 0 0 1065 (t_P (fun v s' => v = none ∧ Q (.inr (.inr (s'))))) 68 [(0, .ref 950), (1, .int (y0)), (2, .int (y1)), (4, .int (y2)), (5, .int (y3)), (6, .long (y4)), (8, .int (y5)), (9, .int (y6)), (10, .int (y7))] [] (t_m y8) 1065 0 0) (hk : t_hk (k_X13_sortOne_68 l1 l2 l4 l5 l6 l8 l9 l10 s) Q) : mj_G D cy ad bs X cX13_sortOne 13 yX13_sortOne.cls none yX13_sortOne.name 2 0 0 1065 (t_P (fun v s' => v = none ∧ Q (.inr (.inr (s'))))) 68 [(0, .ref 950), (1, .int l1), (2, .int l2), (4, .int l4), (5, .int l5), (6, .long l6), (8, .int l8), (9, .int l9), (10, .int l10)] [] (t_m s) 1065 0 0 := by
  refine mj_iload dX13_sortOne_68 8 rfl ?_
  refine mj_iload_n dX13_sortOne_70 2 rfl ?_
  refine mj_icmp_ge 132 dX13_sortOne_71 (by decide) (fun z => t_posK hk z (fun hk => ?_)) (fun z => t_negK hk z (fun hk => ?_))
  · refine t_mapK hk (fun hk => ?_)
    refine mj_aload_n dX13_sortOne_132 0 rfl ?_
    refine t_getR 1007 dX13_sortOne_133 F_X13_185 qr_950_99 ?_
    refine mj_iload_n dX13_sortOne_136 1 rfl ?_
    refine mj_iconst (v := 2) dX13_sortOne_137 (by decide) ?_
    refine mj_iadd dX13_sortOne_138 ?_
    refine mj_iload dX13_sortOne_139 7 rfl ?_
    refine mj_iadd dX13_sortOne_141 ?_
    refine t_chkK hk (fun c0 hk => ?_)
    refine t_lald dX13_sortOne_142 qa_1007 (t_ixv c0) ?_
    refine mj_lstore (lv2 := [(6, .long (s.2.1 1007 (((l1 + (2 : Int32)) + l9).toNatClampNeg))), (0, .ref 950), (1, .int l1), (2, .int l2), (4, .int l4), (5, .int l5), (8, .int l8), (9, .int l9), (10, .int l10)]) dX13_sortOne_143 (by decide) rfl ?_
    refine mj_aload_n dX13_sortOne_145 1 rfl ?_
    refine t_getR 1024 dX13_sortOne_146 F_X13_238 qr_950_130 ?_
    refine mj_iload_n dX13_sortOne_149 2 rfl ?_
    refine mj_iconst (v := 2) dX13_sortOne_150 (by decide) ?_
    refine mj_iadd dX13_sortOne_151 ?_
    refine mj_iload dX13_sortOne_152 6 rfl ?_
    refine mj_iadd dX13_sortOne_154 ?_
    refine mj_lload dX13_sortOne_155 0 rfl ?_
    refine t_chkK hk (fun c1 hk => ?_)
    refine t_lastK dX13_sortOne_157 qa_1024 (t_ixv c1) (fun s1 ws1 => t_letE hk ws1 (fun hk => ?_))
    refine mj_aload_n dX13_sortOne_158 1 rfl ?_
    refine t_getR 1007 dX13_sortOne_159 F_X13_185 qr_950_99 ?_
    refine mj_aload_n dX13_sortOne_162 1 rfl ?_
    refine t_getR 1025 dX13_sortOne_163 F_X13_241 qr_950_131 ?_
    refine mj_iload dX13_sortOne_166 7 rfl ?_
    refine t_chkK hk (fun c2 hk => ?_)
    refine t_iald dX13_sortOne_168 qa_1025 (t_ixv c2) ?_
    refine t_bndK hk (fun r4 er4 hk => ?_)
    refine t_callSiP dX13_sortOne_169 M_X13_endOf (C_X13_endOf _ _ _ _ er4) ML_X13_849 SM_X13_endOf (As := [.ref 1007, .int (s1.1 1025 (l9.toNatClampNeg))]) rfl rfl (Nat.le_of_ble_eq_true rfl) (Nat.le_of_ble_eq_true rfl) (Nat.le_of_ble_eq_true rfl) (Nat.le_of_ble_eq_true rfl) ?_
    refine mj_istore (lv2 := [(10, .int r4), (6, .long (s.2.1 1007 (((l1 + (2 : Int32)) + l9).toNatClampNeg))), (0, .ref 950), (1, .int l1), (2, .int l2), (4, .int l4), (5, .int l5), (8, .int l8), (9, .int l9)]) dX13_sortOne_172 (by decide) rfl ?_
    refine mj_aload_n dX13_sortOne_174 2 rfl ?_
    refine t_getR 1025 dX13_sortOne_175 F_X13_241 qr_950_131 ?_
    refine mj_iload dX13_sortOne_178 8 rfl ?_
    refine t_iald dX13_sortOne_180 qa_1025 (t_ixv c2) ?_
    refine mj_istore (lv2 := [(11, .int (s1.1 1025 (l9.toNatClampNeg))), (10, .int r4), (6, .long (s.2.1 1007 (((l1 + (2 : Int32)) + l9).toNatClampNeg))), (0, .ref 950), (1, .int l1), (2, .int l2), (4, .int l4), (5, .int l5), (8, .int l8), (9, .int l9)]) dX13_sortOne_181 (by decide) rfl ?_
    refine mj_sublv [(0, .ref 950), (1, .int l1), (2, .int l2), (4, .int l4), (5, .int l5), (6, .long (s.2.1 1007 (((l1 + (2 : Int32)) + l9).toNatClampNeg))), (8, .int l8), (10, .int r4), (11, .int (s1.1 1025 (l9.toNatClampNeg)))] [3, 4, 5, 6, 7, 2, 8, 1, 0] rfl ?_
    exact LH_X13_sortOne_183 _ l1 l2 l4 l5 (s.2.1 1007 (((l1 + (2 : Int32)) + l9).toNatClampNeg)) l8 r4 (s1.1 1025 (l9.toNatClampNeg)) s1 _ (fun y0 y1 y2 y3 y4 y5 y6 hx => Hb56 y0 y1 y2 y3 y4 y5 y6 hx) hk
  · refine mj_aload_n dX13_sortOne_74 0 rfl ?_
    refine t_getR 1007 dX13_sortOne_75 F_X13_185 qr_950_99 ?_
    refine mj_iload_n dX13_sortOne_78 1 rfl ?_
    refine mj_iconst (v := 2) dX13_sortOne_79 (by decide) ?_
    refine mj_iadd dX13_sortOne_80 ?_
    refine mj_iload dX13_sortOne_81 8 rfl ?_
    refine mj_iadd dX13_sortOne_83 ?_
    refine t_chkK hk (fun c4 hk => ?_)
    refine t_lald dX13_sortOne_84 qa_1007 (t_ixv c4) ?_
    refine mj_lstore (lv2 := [(11, .long (s.2.1 1007 (((l1 + (2 : Int32)) + l10).toNatClampNeg))), (0, .ref 950), (1, .int l1), (2, .int l2), (4, .int l4), (5, .int l5), (6, .long l6), (8, .int l8), (9, .int l9), (10, .int l10)]) dX13_sortOne_85 (by decide) rfl ?_
    refine mj_lload dX13_sortOne_87 0 rfl ?_
    refine mj_lload dX13_sortOne_89 6 rfl ?_
    refine mj_lcmp dX13_sortOne_91 ?_
    refine mj_if_le 122 dX13_sortOne_92 (by decide) (fun z => t_posK hk z (fun hk => ?_)) (fun z => t_negK hk z (fun hk => ?_))
    · refine mj_sublv [(0, .ref 950), (1, .int l1), (2, .int l2), (4, .int l4), (5, .int l5), (6, .long l6), (8, .int l8), (9, .int l9), (10, .int l10)] [1, 2, 3, 4, 5, 6, 7, 8, 9] rfl ?_
      exact B_X13_sortOne_122 _ _ _ _ _ _ _ _ _ _ (fun y0 y1 y2 y3 y4 y5 y6 hx => Hb56 y0 y1 y2 y3 y4 y5 y6 hx) (fun y0 y1 y2 y3 y4 y5 y6 y7 y8 hx => Hb68 y0 y1 y2 y3 y4 y5 y6 y7 y8 hx) hk
    · refine mj_iload dX13_sortOne_95 8 rfl ?_
      refine mj_if_lt 117 dX13_sortOne_97 (by decide) (fun z => t_posK hk z (fun hk => ?_)) (fun z => t_negK hk z (fun hk => ?_))
      · refine mj_sublv [(0, .ref 950), (1, .int l1), (2, .int l2), (4, .int l4), (5, .int l5), (6, .long l6), (8, .int l8), (10, .int l10)] [1, 2, 3, 4, 5, 6, 7, 9] rfl ?_
        exact B_X13_sortOne_117 _ _ _ _ _ _ _ _ _ (fun y0 y1 y2 y3 y4 y5 y6 hx => Hb56 y0 y1 y2 y3 y4 y5 y6 hx) (fun y0 y1 y2 y3 y4 y5 y6 y7 y8 hx => Hb68 y0 y1 y2 y3 y4 y5 y6 y7 y8 hx) hk
      · refine mj_lload dX13_sortOne_100 0 rfl ?_
        refine mj_aload_n dX13_sortOne_102 1 rfl ?_
        refine t_getR 1007 dX13_sortOne_103 F_X13_185 qr_950_99 ?_
        refine mj_iload_n dX13_sortOne_106 2 rfl ?_
        refine mj_iconst (v := 2) dX13_sortOne_107 (by decide) ?_
        refine mj_iadd dX13_sortOne_108 ?_
        refine mj_iload dX13_sortOne_109 8 rfl ?_
        refine mj_iadd dX13_sortOne_111 ?_
        refine t_chkK hk (fun c5 hk => ?_)
        refine t_lald dX13_sortOne_112 qa_1007 (t_ixv c5) ?_
        refine mj_lcmp dX13_sortOne_113 ?_
        refine mj_if_ge 122 dX13_sortOne_114 (by decide) (fun z => t_posK hk z (fun hk => ?_)) (fun z => t_negK hk z (fun hk => ?_))
        · refine mj_sublv [(0, .ref 950), (1, .int l1), (2, .int l2), (4, .int l4), (5, .int l5), (6, .long l6), (8, .int l8), (9, .int l9), (10, .int l10)] [1, 2, 3, 4, 5, 6, 7, 8, 9] rfl ?_
          exact B_X13_sortOne_122 _ _ _ _ _ _ _ _ _ _ (fun y0 y1 y2 y3 y4 y5 y6 hx => Hb56 y0 y1 y2 y3 y4 y5 y6 hx) (fun y0 y1 y2 y3 y4 y5 y6 y7 y8 hx => Hb68 y0 y1 y2 y3 y4 y5 y6 y7 y8 hx) hk
        · refine mj_sublv [(0, .ref 950), (1, .int l1), (2, .int l2), (4, .int l4), (5, .int l5), (6, .long l6), (8, .int l8), (10, .int l10)] [1, 2, 3, 4, 5, 6, 7, 9] rfl ?_
          exact B_X13_sortOne_117 _ _ _ _ _ _ _ _ _ (fun y0 y1 y2 y3 y4 y5 y6 hx => Hb56 y0 y1 y2 y3 y4 y5 y6 hx) (fun y0 y1 y2 y3 y4 y5 y6 y7 y8 hx => Hb68 y0 y1 y2 y3 y4 y5 y6 y7 y8 hx) hk
noncomputable def b_X13_sortOne_68 (x : Int32 × Int32 × Int32 × Int32 × Int64 × Int32 × Int32 × Int32 × t_S) : Option ((Int32 × Int32 × Int32 × Int32 × Int64 × Int32 × Int32 × Int32 × t_S) ⊕ ((Int32 × Int32 × Int32 × Int32 × Int64 × Int32 × t_S) ⊕ (t_S))) := k_X13_sortOne_68 x.1 x.2.1 x.2.2.1 x.2.2.2.1 x.2.2.2.2.1 x.2.2.2.2.2.1 x.2.2.2.2.2.2.1 x.2.2.2.2.2.2.2.1 x.2.2.2.2.2.2.2.2
set_option maxRecDepth 4000 in
set_option maxHeartbeats 1000000 in
theorem LH_X13_sortOne_68 {D : va_G} {cy : Nat → ClassId} {ad : Nat → Nat} {bs : Nat} {X : State → Heap → Prop} : ∀ (n : Nat) (y0 : Int32) (y1 : Int32) (y2 : Int32) (y3 : Int32) (y4 : Int64) (y5 : Int32) (y6 : Int32) (y7 : Int32) (y8 : t_S) (Q : (Int32 × Int32 × Int32 × Int32 × Int64 × Int32 × t_S) ⊕ (t_S) → Prop) (Hb56 : ∀ (y0 : Int32) (y1 : Int32) (y2 : Int32) (y3 : Int32) (y4 : Int64) (y5 : Int32) (y6 : t_S), Q (.inl (y0, y1, y2, y3, y4, y5, y6)) → mj_G D cy ad bs X cX13_sortOne 13 yX13_sortOne.cls none yX13_sortOne.name 2 0 0 1065 (t_P (fun v s' => v = none ∧ Q (.inr (s')))) 56 [(0, .ref 950), (1, .int (y0)), (2, .int (y1)), (4, .int (y2)), (5, .int (y3)), (6, .long (y4)), (8, .int (y5))] [] (t_m y6) 1065 0 0) (hk : t_hk (t_loop (b_X13_sortOne_68) n (y0, y1, y2, y3, y4, y5, y6, y7, y8)) Q), mj_G D cy ad bs X cX13_sortOne 13 yX13_sortOne.cls none yX13_sortOne.name 2 0 0 1065 (t_P (fun v s' => v = none ∧ Q (.inr (s')))) 68 [(0, .ref 950), (1, .int (y0)), (2, .int (y1)), (4, .int (y2)), (5, .int (y3)), (6, .long (y4)), (8, .int (y5)), (9, .int (y6)), (10, .int (y7))] [] (t_m y8) 1065 0 0 := by
  intro n
  induction n with
  | zero => intro y0 y1 y2 y3 y4 y5 y6 y7 y8 Q Hb56 hk; obtain ⟨r, hr, _⟩ := hk; cases hr
  | succ n ih =>
    intro y0 y1 y2 y3 y4 y5 y6 y7 y8 Q Hb56 hk
    exact B_X13_sortOne_68 y0 y1 y2 y3 y4 y5 y6 y7 y8 (fun y => t_lq (b_X13_sortOne_68) n Q y) (fun y0' y1' y2' y3' y4' y5' y6' hy => Hb56 y0' y1' y2' y3' y4' y5' y6' hy) (fun y0' y1' y2' y3' y4' y5' y6' y7' y8' hy => ih y0' y1' y2' y3' y4' y5' y6' y7' y8' Q Hb56 hy) (t_lp (b := b_X13_sortOne_68) (n := n) (x := (y0, y1, y2, y3, y4, y5, y6, y7, y8)) hk)
noncomputable def k_X13_sortOne_56 (l1 : Int32) (l2 : Int32) (l4 : Int32) (l5 : Int32) (l6 : Int64) (l8 : Int32) (s : t_S) : Option ((Int32 × Int32 × Int32 × Int32 × Int64 × Int32 × t_S) ⊕ (t_S)) :=
 if l2 ≤ l8 then ((t_loop (b_X13_sortOne_224) t_N (l4, (l1 + (2 : Int32)), s)).map Sum.inr)
 else (t_loop (b_X13_sortOne_68) t_N (l1, l2, l4, l5, l6, l8, (-1), 0, s))
set_option maxRecDepth 4000 in
set_option maxHeartbeats 1000000 in
theorem B_X13_sortOne_56 {D : va_G} {cy : Nat → ClassId} {ad : Nat → Nat} {bs : Nat} {X : State → Heap → Prop} (l1 : Int32) (l2 : Int32) (l4 : Int32) (l5 : Int32) (l6 : Int64) (l8 : Int32) (s : t_S) (Q : (Int32 × Int32 × Int32 × Int32 × Int64 × Int32 × t_S) ⊕ (t_S) → Prop) (Hb56 : ∀ (y0 : Int32) (y1 : Int32) (y2 : Int32) (y3 : Int32) (y4 : Int64) (y5 : Int32) (y6 : t_S), Q (.inl (y0, y1, y2, y3, y4, y5, y6)) → mj_G D cy ad bs X cX13_sortOne 13 yX13_sortOne.cls none yX13_sortOne.name 2 0 0 1065 (t_P (fun v s' => v = none ∧ Q (.inr (s')))) 56 [(0, .ref 950), (1, .int (y0)), (2, .int (y1)), (4, .int (y2)), (5, .int (y3)), (6, .long (y4)), (8, .int (y5))] [] (t_m y6) 1065 0 0) (hk : t_hk (k_X13_sortOne_56 l1 l2 l4 l5 l6 l8 s) Q) : mj_G D cy ad bs X cX13_sortOne 13 yX13_sortOne.cls none yX13_sortOne.name 2 0 0 1065 (t_P (fun v s' => v = none ∧ Q (.inr (s')))) 56 [(0, .ref 950), (1, .int l1), (2, .int l2), (4, .int l4), (5, .int l5), (6, .long l6), (8, .int l8)] [] (t_m s) 1065 0 0 := by
  refine mj_iload dX13_sortOne_56 6 rfl ?_
  refine mj_iload_n dX13_sortOne_58 2 rfl ?_
  refine mj_icmp_ge 219 dX13_sortOne_59 (by decide) (fun z => t_posK hk z (fun hk => ?_)) (fun z => t_negK hk z (fun hk => ?_))
  · refine t_mapK hk (fun hk => ?_)
    refine mj_iload_n dX13_sortOne_219 1 rfl ?_
    refine mj_iconst (v := 2) dX13_sortOne_220 (by decide) ?_
    refine mj_iadd dX13_sortOne_221 ?_
    refine mj_istore (lv2 := [(8, .int (l1 + (2 : Int32))), (0, .ref 950), (1, .int l1), (2, .int l2), (4, .int l4), (5, .int l5), (6, .long l6)]) dX13_sortOne_222 (by decide) rfl ?_
    refine mj_sublv [(0, .ref 950), (4, .int l4), (8, .int (l1 + (2 : Int32)))] [1, 4, 0] rfl ?_
    exact LH_X13_sortOne_224 _ l4 (l1 + (2 : Int32)) s _ hk
  · refine mj_iconst (v := (-1)) dX13_sortOne_62 (by decide) ?_
    refine mj_istore (lv2 := [(9, .int (-1)), (0, .ref 950), (1, .int l1), (2, .int l2), (4, .int l4), (5, .int l5), (6, .long l6), (8, .int l8)]) dX13_sortOne_63 (by decide) rfl ?_
    refine mj_iconst (v := 0) dX13_sortOne_65 (by decide) ?_
    refine mj_istore (lv2 := [(10, .int 0), (9, .int (-1)), (0, .ref 950), (1, .int l1), (2, .int l2), (4, .int l4), (5, .int l5), (6, .long l6), (8, .int l8)]) dX13_sortOne_66 (by decide) rfl ?_
    refine mj_sublv [(0, .ref 950), (1, .int l1), (2, .int l2), (4, .int l4), (5, .int l5), (6, .long l6), (8, .int l8), (9, .int (-1)), (10, .int 0)] [2, 3, 4, 5, 6, 7, 8, 1, 0] rfl ?_
    exact LH_X13_sortOne_68 _ l1 l2 l4 l5 l6 l8 (-1) 0 s _ (fun y0 y1 y2 y3 y4 y5 y6 hx => Hb56 y0 y1 y2 y3 y4 y5 y6 hx) hk
noncomputable def b_X13_sortOne_56 (x : Int32 × Int32 × Int32 × Int32 × Int64 × Int32 × t_S) : Option ((Int32 × Int32 × Int32 × Int32 × Int64 × Int32 × t_S) ⊕ (t_S)) := k_X13_sortOne_56 x.1 x.2.1 x.2.2.1 x.2.2.2.1 x.2.2.2.2.1 x.2.2.2.2.2.1 x.2.2.2.2.2.2
set_option maxRecDepth 4000 in
set_option maxHeartbeats 1000000 in
theorem LH_X13_sortOne_56 {D : va_G} {cy : Nat → ClassId} {ad : Nat → Nat} {bs : Nat} {X : State → Heap → Prop} : ∀ (n : Nat) (y0 : Int32) (y1 : Int32) (y2 : Int32) (y3 : Int32) (y4 : Int64) (y5 : Int32) (y6 : t_S) (Q : t_S → Prop) (hk : t_hk (t_loop (b_X13_sortOne_56) n (y0, y1, y2, y3, y4, y5, y6)) Q), mj_G D cy ad bs X cX13_sortOne 13 yX13_sortOne.cls none yX13_sortOne.name 2 0 0 1065 (t_P (fun v s' => v = none ∧ Q (s'))) 56 [(0, .ref 950), (1, .int (y0)), (2, .int (y1)), (4, .int (y2)), (5, .int (y3)), (6, .long (y4)), (8, .int (y5))] [] (t_m y6) 1065 0 0 := by
  intro n
  induction n with
  | zero => intro y0 y1 y2 y3 y4 y5 y6 Q hk; obtain ⟨r, hr, _⟩ := hk; cases hr
  | succ n ih =>
    intro y0 y1 y2 y3 y4 y5 y6 Q hk
    exact B_X13_sortOne_56 y0 y1 y2 y3 y4 y5 y6 (fun y => t_lq (b_X13_sortOne_56) n Q y) (fun y0' y1' y2' y3' y4' y5' y6' hy => ih y0' y1' y2' y3' y4' y5' y6' Q hy) (t_lp (b := b_X13_sortOne_56) (n := n) (x := (y0, y1, y2, y3, y4, y5, y6)) hk)
noncomputable def k_X13_sortOne_9 (l1 : Int32) (l2 : Int32) (l3 : Int32) (l4 : Int32) (s : t_S) : Option ((Int32 × Int32 × Int32 × Int32 × t_S) ⊕ (t_S)) :=
 if l2 ≤ l4 then ((t_loop (b_X13_sortOne_56) t_N (l1, l2, l3, ((l1 + (2 : Int32)) + l2), (-1), 0, s)).map Sum.inr)
 else (if t_ix l4 20 = true then
  t_let (t_setI s 1025 (l4.toNatClampNeg) l3) (fun s1 =>
 (f_X13_endOf 1007 l3 s1).bind (fun r2 =>
 some (.inl (l1, l2, r2, (l4 + 1), s1))))
else none)
set_option maxRecDepth 4000 in
set_option maxHeartbeats 1000000 in
theorem B_X13_sortOne_9 {D : va_G} {cy : Nat → ClassId} {ad : Nat → Nat} {bs : Nat} {X : State → Heap → Prop} (l1 : Int32) (l2 : Int32) (l3 : Int32) (l4 : Int32) (s : t_S) (Q : (Int32 × Int32 × Int32 × Int32 × t_S) ⊕ (t_S) → Prop) (Hb9 : ∀ (y0 : Int32) (y1 : Int32) (y2 : Int32) (y3 : Int32) (y4 : t_S), Q (.inl (y0, y1, y2, y3, y4)) → mj_G D cy ad bs X cX13_sortOne 13 yX13_sortOne.cls none yX13_sortOne.name 2 0 0 1065 (t_P (fun v s' => v = none ∧ Q (.inr (s')))) 9 [(0, .ref 950), (1, .int (y0)), (2, .int (y1)), (3, .int (y2)), (4, .int (y3))] [] (t_m y4) 1065 0 0) (hk : t_hk (k_X13_sortOne_9 l1 l2 l3 l4 s) Q) : mj_G D cy ad bs X cX13_sortOne 13 yX13_sortOne.cls none yX13_sortOne.name 2 0 0 1065 (t_P (fun v s' => v = none ∧ Q (.inr (s')))) 9 [(0, .ref 950), (1, .int l1), (2, .int l2), (3, .int l3), (4, .int l4)] [] (t_m s) 1065 0 0 := by
  refine mj_iload dX13_sortOne_9 4 rfl ?_
  refine mj_iload_n dX13_sortOne_11 2 rfl ?_
  refine mj_icmp_ge 38 dX13_sortOne_12 (by decide) (fun z => t_posK hk z (fun hk => ?_)) (fun z => t_negK hk z (fun hk => ?_))
  · refine t_mapK hk (fun hk => ?_)
    refine mj_iload_n dX13_sortOne_38 3 rfl ?_
    refine mj_istore (lv2 := [(4, .int l3), (0, .ref 950), (1, .int l1), (2, .int l2), (3, .int l3)]) dX13_sortOne_39 (by decide) rfl ?_
    refine mj_iload_n dX13_sortOne_41 2 rfl ?_
    refine mj_iconst (v := 2) dX13_sortOne_42 (by decide) ?_
    refine mj_iadd dX13_sortOne_43 ?_
    refine mj_iload_n dX13_sortOne_44 3 rfl ?_
    refine mj_iadd dX13_sortOne_45 ?_
    refine mj_istore (lv2 := [(5, .int ((l1 + (2 : Int32)) + l2)), (4, .int l3), (0, .ref 950), (1, .int l1), (2, .int l2), (3, .int l3)]) dX13_sortOne_46 (by decide) rfl ?_
    refine mj_ldc2 dX13_sortOne_48 K_X13_1087 ?_
    refine mj_lstore (lv2 := [(6, .long (-1)), (5, .int ((l1 + (2 : Int32)) + l2)), (4, .int l3), (0, .ref 950), (1, .int l1), (2, .int l2), (3, .int l3)]) dX13_sortOne_51 (by decide) rfl ?_
    refine mj_iconst (v := 0) dX13_sortOne_53 (by decide) ?_
    refine mj_istore (lv2 := [(8, .int 0), (6, .long (-1)), (5, .int ((l1 + (2 : Int32)) + l2)), (4, .int l3), (0, .ref 950), (1, .int l1), (2, .int l2), (3, .int l3)]) dX13_sortOne_54 (by decide) rfl ?_
    refine mj_sublv [(0, .ref 950), (1, .int l1), (2, .int l2), (4, .int l3), (5, .int ((l1 + (2 : Int32)) + l2)), (6, .long (-1)), (8, .int 0)] [4, 5, 6, 3, 2, 1, 0] rfl ?_
    exact LH_X13_sortOne_56 _ l1 l2 l3 ((l1 + (2 : Int32)) + l2) (-1) 0 s _ hk
  · refine mj_aload_n dX13_sortOne_15 0 rfl ?_
    refine t_getR 1025 dX13_sortOne_16 F_X13_241 qr_950_131 ?_
    refine mj_iload dX13_sortOne_19 4 rfl ?_
    refine mj_iload_n dX13_sortOne_21 3 rfl ?_
    refine t_chkK hk (fun c0 hk => ?_)
    refine t_iastK dX13_sortOne_22 qa_1025 (t_ixv c0) (fun s1 ws1 => t_letE hk ws1 (fun hk => ?_))
    refine mj_aload_n dX13_sortOne_23 0 rfl ?_
    refine t_getR 1007 dX13_sortOne_24 F_X13_185 qr_950_99 ?_
    refine mj_iload_n dX13_sortOne_27 3 rfl ?_
    refine t_bndK hk (fun r2 er2 hk => ?_)
    refine t_callSiP dX13_sortOne_28 M_X13_endOf (C_X13_endOf _ _ _ _ er2) ML_X13_849 SM_X13_endOf (As := [.ref 1007, .int l3]) rfl rfl (Nat.le_of_ble_eq_true rfl) (Nat.le_of_ble_eq_true rfl) (Nat.le_of_ble_eq_true rfl) (Nat.le_of_ble_eq_true rfl) ?_
    refine mj_istore_n 3 (lv2 := [(3, .int r2), (0, .ref 950), (1, .int l1), (2, .int l2), (4, .int l4)]) dX13_sortOne_31 rfl (by decide) rfl ?_
    refine mj_iinc (k := 4) (v := (l4 + 1)) (lv2 := [(4, .int (l4 + 1)), (3, .int r2), (0, .ref 950), (1, .int l1), (2, .int l2)]) dX13_sortOne_32 rfl rfl (by decide) rfl ?_
    refine mj_goto 9 dX13_sortOne_35 (by decide) ?_
    refine mj_sublv [(0, .ref 950), (1, .int l1), (2, .int l2), (3, .int r2), (4, .int (l4 + 1))] [2, 3, 4, 1, 0] rfl ?_
    exact t_somK hk (fun hf => Hb9 l1 l2 r2 (l4 + 1) s1 hf)
noncomputable def b_X13_sortOne_9 (x : Int32 × Int32 × Int32 × Int32 × t_S) : Option ((Int32 × Int32 × Int32 × Int32 × t_S) ⊕ (t_S)) := k_X13_sortOne_9 x.1 x.2.1 x.2.2.1 x.2.2.2.1 x.2.2.2.2
set_option maxRecDepth 4000 in
set_option maxHeartbeats 1000000 in
theorem LH_X13_sortOne_9 {D : va_G} {cy : Nat → ClassId} {ad : Nat → Nat} {bs : Nat} {X : State → Heap → Prop} : ∀ (n : Nat) (y0 : Int32) (y1 : Int32) (y2 : Int32) (y3 : Int32) (y4 : t_S) (Q : t_S → Prop) (hk : t_hk (t_loop (b_X13_sortOne_9) n (y0, y1, y2, y3, y4)) Q), mj_G D cy ad bs X cX13_sortOne 13 yX13_sortOne.cls none yX13_sortOne.name 2 0 0 1065 (t_P (fun v s' => v = none ∧ Q (s'))) 9 [(0, .ref 950), (1, .int (y0)), (2, .int (y1)), (3, .int (y2)), (4, .int (y3))] [] (t_m y4) 1065 0 0 := by
  intro n
  induction n with
  | zero => intro y0 y1 y2 y3 y4 Q hk; obtain ⟨r, hr, _⟩ := hk; cases hr
  | succ n ih =>
    intro y0 y1 y2 y3 y4 Q hk
    exact B_X13_sortOne_9 y0 y1 y2 y3 y4 (fun y => t_lq (b_X13_sortOne_9) n Q y) (fun y0' y1' y2' y3' y4' hy => ih y0' y1' y2' y3' y4' Q hy) (t_lp (b := b_X13_sortOne_9) (n := n) (x := (y0, y1, y2, y3, y4)) hk)
noncomputable def f_X13_sortOne (x1 : Int32) (x2 : Int32) (s : t_S) : Option (t_S) :=
 t_loop (b_X13_sortOne_9) t_N (x1, x2, ((x1 + (2 : Int32)) + x2), 0, s)
set_option maxRecDepth 4000 in
set_option maxHeartbeats 1000000 in
theorem C_X13_sortOne (x1 : Int32) (x2 : Int32) (s : t_S) (r : t_S) (hr : f_X13_sortOne x1 x2 s = some r) : t_C yX13_sortOne cX13_sortOne 13 none 2 [.ref 950, .int x1, .int x2] s (fun v s' => v = none ∧ s' = r) := by
  refine t_C.imp (P := fun v s' => v = none ∧ (fun q => q = r) (s')) (t_C.of (by decide +kernel) (Nat.le_of_ble_eq_true rfl) ?_) (fun v s' hp => hp)
  intro D cy ad bs X
  have hk : t_hk (f_X13_sortOne x1 x2 s) (fun q => q = r) := ⟨r, hr, rfl⟩
  show mj_G D cy ad bs X cX13_sortOne 13 yX13_sortOne.cls none yX13_sortOne.name 2 0 0 1065 (t_P (fun v s' => v = none ∧ (fun q => q = r) (s'))) 0 [(0, .ref 950), (1, .int x1), (2, .int x2)] [] (t_m s) 1065 0 0
  refine mj_iload_n dX13_sortOne_0 1 rfl ?_
  refine mj_iconst (v := 2) dX13_sortOne_1 (by decide) ?_
  refine mj_iadd dX13_sortOne_2 ?_
  refine mj_iload_n dX13_sortOne_3 2 rfl ?_
  refine mj_iadd dX13_sortOne_4 ?_
  refine mj_istore_n 3 (lv2 := [(3, .int ((x1 + (2 : Int32)) + x2)), (0, .ref 950), (1, .int x1), (2, .int x2)]) dX13_sortOne_5 rfl (by decide) rfl ?_
  refine mj_iconst (v := 0) dX13_sortOne_6 (by decide) ?_
  refine mj_istore (lv2 := [(4, .int 0), (3, .int ((x1 + (2 : Int32)) + x2)), (0, .ref 950), (1, .int x1), (2, .int x2)]) dX13_sortOne_7 (by decide) rfl ?_
  refine mj_sublv [(0, .ref 950), (1, .int x1), (2, .int x2), (3, .int ((x1 + (2 : Int32)) + x2)), (4, .int 0)] [2, 3, 4, 1, 0] rfl ?_
  exact LH_X13_sortOne_9 _ x1 x2 ((x1 + (2 : Int32)) + x2) 0 s _ hk

theorem dX13_sortRecords_0 : decode cX13_sortRecords 0 = .ok (.aload_n 0, 1) := by decide +kernel
theorem dX13_sortRecords_1 : decode cX13_sortRecords 1 = .ok (.getfield 185, 3) := by decide +kernel
theorem dX13_sortRecords_100 : decode cX13_sortRecords 100 = .ok (.iload_n 1, 1) := by decide +kernel
theorem dX13_sortRecords_101 : decode cX13_sortRecords 101 = .ok (.iload_n 3, 1) := by decide +kernel
theorem dX13_sortRecords_102 : decode cX13_sortRecords 102 = .ok (.invokevirtual 1209, 3) := by decide +kernel
theorem dX13_sortRecords_105 : decode cX13_sortRecords 105 = .ok (.return_, 1) := by decide +kernel
theorem dX13_sortRecords_11 : decode cX13_sortRecords 11 = .ok (.if_icmp .ne 7, 3) := by decide +kernel
theorem dX13_sortRecords_14 : decode cX13_sortRecords 14 = .ok (.iconst 1, 1) := by decide +kernel
theorem dX13_sortRecords_15 : decode cX13_sortRecords 15 = .ok (.goto 28, 3) := by decide +kernel
theorem dX13_sortRecords_18 : decode cX13_sortRecords 18 = .ok (.iload_n 2, 1) := by decide +kernel
theorem dX13_sortRecords_19 : decode cX13_sortRecords 19 = .ok (.bipush 6, 2) := by decide +kernel
theorem dX13_sortRecords_21 : decode cX13_sortRecords 21 = .ok (.if_icmp .eq 9, 3) := by decide +kernel
theorem dX13_sortRecords_24 : decode cX13_sortRecords 24 = .ok (.iload_n 2, 1) := by decide +kernel
theorem dX13_sortRecords_25 : decode cX13_sortRecords 25 = .ok (.bipush 8, 2) := by decide +kernel
theorem dX13_sortRecords_27 : decode cX13_sortRecords 27 = .ok (.if_icmp .ne 15, 3) := by decide +kernel
theorem dX13_sortRecords_30 : decode cX13_sortRecords 30 = .ok (.aload_n 0, 1) := by decide +kernel
theorem dX13_sortRecords_31 : decode cX13_sortRecords 31 = .ok (.getfield 185, 3) := by decide +kernel
theorem dX13_sortRecords_34 : decode cX13_sortRecords 34 = .ok (.iload_n 1, 1) := by decide +kernel
theorem dX13_sortRecords_35 : decode cX13_sortRecords 35 = .ok (.iconst 1, 1) := by decide +kernel
theorem dX13_sortRecords_36 : decode cX13_sortRecords 36 = .ok (.iadd, 1) := by decide +kernel
theorem dX13_sortRecords_37 : decode cX13_sortRecords 37 = .ok (.laload, 1) := by decide +kernel
theorem dX13_sortRecords_38 : decode cX13_sortRecords 38 = .ok (.l2i, 1) := by decide +kernel
theorem dX13_sortRecords_39 : decode cX13_sortRecords 39 = .ok (.goto 4, 3) := by decide +kernel
theorem dX13_sortRecords_4 : decode cX13_sortRecords 4 = .ok (.iload_n 1, 1) := by decide +kernel
theorem dX13_sortRecords_42 : decode cX13_sortRecords 42 = .ok (.iconst 0, 1) := by decide +kernel
theorem dX13_sortRecords_43 : decode cX13_sortRecords 43 = .ok (.istore_n 3, 1) := by decide +kernel
theorem dX13_sortRecords_44 : decode cX13_sortRecords 44 = .ok (.iload_n 1, 1) := by decide +kernel
theorem dX13_sortRecords_45 : decode cX13_sortRecords 45 = .ok (.iconst 2, 1) := by decide +kernel
theorem dX13_sortRecords_46 : decode cX13_sortRecords 46 = .ok (.iadd, 1) := by decide +kernel
theorem dX13_sortRecords_47 : decode cX13_sortRecords 47 = .ok (.iload_n 2, 1) := by decide +kernel
theorem dX13_sortRecords_48 : decode cX13_sortRecords 48 = .ok (.bipush 6, 2) := by decide +kernel
theorem dX13_sortRecords_5 : decode cX13_sortRecords 5 = .ok (.laload, 1) := by decide +kernel
theorem dX13_sortRecords_50 : decode cX13_sortRecords 50 = .ok (.if_icmp .ne 7, 3) := by decide +kernel
theorem dX13_sortRecords_53 : decode cX13_sortRecords 53 = .ok (.iload_n 3, 1) := by decide +kernel
theorem dX13_sortRecords_54 : decode cX13_sortRecords 54 = .ok (.goto 4, 3) := by decide +kernel
theorem dX13_sortRecords_57 : decode cX13_sortRecords 57 = .ok (.iconst 0, 1) := by decide +kernel
theorem dX13_sortRecords_58 : decode cX13_sortRecords 58 = .ok (.iadd, 1) := by decide +kernel
theorem dX13_sortRecords_59 : decode cX13_sortRecords 59 = .ok (.istore 4, 2) := by decide +kernel
theorem dX13_sortRecords_6 : decode cX13_sortRecords 6 = .ok (.l2i, 1) := by decide +kernel
theorem dX13_sortRecords_61 : decode cX13_sortRecords 61 = .ok (.iconst 0, 1) := by decide +kernel
theorem dX13_sortRecords_62 : decode cX13_sortRecords 62 = .ok (.istore 5, 2) := by decide +kernel
theorem dX13_sortRecords_64 : decode cX13_sortRecords 64 = .ok (.iload 5, 2) := by decide +kernel
theorem dX13_sortRecords_66 : decode cX13_sortRecords 66 = .ok (.iload_n 3, 1) := by decide +kernel
theorem dX13_sortRecords_67 : decode cX13_sortRecords 67 = .ok (.if_icmp .ge 26, 3) := by decide +kernel
theorem dX13_sortRecords_7 : decode cX13_sortRecords 7 = .ok (.istore_n 2, 1) := by decide +kernel
theorem dX13_sortRecords_70 : decode cX13_sortRecords 70 = .ok (.aload_n 0, 1) := by decide +kernel
theorem dX13_sortRecords_71 : decode cX13_sortRecords 71 = .ok (.iload 4, 2) := by decide +kernel
theorem dX13_sortRecords_73 : decode cX13_sortRecords 73 = .ok (.invokestatic 1183, 3) := by decide +kernel
theorem dX13_sortRecords_76 : decode cX13_sortRecords 76 = .ok (.aload_n 0, 1) := by decide +kernel
theorem dX13_sortRecords_77 : decode cX13_sortRecords 77 = .ok (.getfield 185, 3) := by decide +kernel
theorem dX13_sortRecords_8 : decode cX13_sortRecords 8 = .ok (.iload_n 2, 1) := by decide +kernel
theorem dX13_sortRecords_80 : decode cX13_sortRecords 80 = .ok (.iload 4, 2) := by decide +kernel
theorem dX13_sortRecords_82 : decode cX13_sortRecords 82 = .ok (.invokestatic 849, 3) := by decide +kernel
theorem dX13_sortRecords_85 : decode cX13_sortRecords 85 = .ok (.istore 4, 2) := by decide +kernel
theorem dX13_sortRecords_87 : decode cX13_sortRecords 87 = .ok (.iinc 5 1, 3) := by decide +kernel
theorem dX13_sortRecords_9 : decode cX13_sortRecords 9 = .ok (.bipush 7, 2) := by decide +kernel
theorem dX13_sortRecords_90 : decode cX13_sortRecords 90 = .ok (.goto (-26), 3) := by decide +kernel
theorem dX13_sortRecords_93 : decode cX13_sortRecords 93 = .ok (.iload_n 2, 1) := by decide +kernel
theorem dX13_sortRecords_94 : decode cX13_sortRecords 94 = .ok (.bipush 6, 2) := by decide +kernel
theorem dX13_sortRecords_96 : decode cX13_sortRecords 96 = .ok (.if_icmp .ne 9, 3) := by decide +kernel
theorem dX13_sortRecords_99 : decode cX13_sortRecords 99 = .ok (.aload_n 0, 1) := by decide +kernel
abbrev RT_X13_sortRecords : Type := (Int32 → t_S → Option (t_S))
def RH_X13_sortRecords (rc : RT_X13_sortRecords) (k : Nat) : Prop := (∀ (x2 : Int32) (s : t_S) (r : t_S), rc x2 s = some r → t_C yX13_sortRecords cX13_sortRecords 6 none (3 + k) [.ref 950, .int x2] s (fun v s' => v = none ∧ s' = r))
noncomputable def k_X13_sortRecords_64 (rc : RT_X13_sortRecords) (l1 : Int32) (l2 : Int32) (l3 : Int32) (l4 : Int32) (l5 : Int32) (s : t_S) : Option ((Int32 × Int32 × Int32 × Int32 × Int32 × t_S) ⊕ (t_S)) :=
 if l3 ≤ l5 then ((if l2 = (6 : Int32) then ((f_X13_sortOne l1 l3 s).bind (fun r1 =>
 some (r1)))
 else (some (s))).map Sum.inr)
 else ((rc l4 s).bind (fun r2 =>
 (f_X13_endOf 1007 l4 r2).bind (fun r3 =>
 some (.inl (l1, l2, l3, r3, (l5 + 1), r2)))))
set_option maxRecDepth 4000 in
set_option maxHeartbeats 1000000 in
theorem B_X13_sortRecords_64 {D : va_G} {cy : Nat → ClassId} {ad : Nat → Nat} {bs : Nat} {X : State → Heap → Prop} (rc : RT_X13_sortRecords) {k : Nat} (H : RH_X13_sortRecords rc k) (l1 : Int32) (l2 : Int32) (l3 : Int32) (l4 : Int32) (l5 : Int32) (s : t_S) (Q : (Int32 × Int32 × Int32 × Int32 × Int32 × t_S) ⊕ (t_S) → Prop) (Hb64 : ∀ (y0 : Int32) (y1 : Int32) (y2 : Int32) (y3 : Int32) (y4 : Int32) (y5 : t_S), Q (.inl (y0, y1, y2, y3, y4, y5)) → mj_G D cy ad bs X cX13_sortRecords 6 yX13_sortRecords.cls none yX13_sortRecords.name (3 + (k + 1)) 0 0 1065 (t_P (fun v s' => v = none ∧ Q (.inr (s')))) 64 [(0, .ref 950), (1, .int (y0)), (2, .int (y1)), (3, .int (y2)), (4, .int (y3)), (5, .int (y4))] [] (t_m y5) 1065 0 0) (hk : t_hk (k_X13_sortRecords_64 rc l1 l2 l3 l4 l5 s) Q) : mj_G D cy ad bs X cX13_sortRecords 6 yX13_sortRecords.cls none yX13_sortRecords.name (3 + (k + 1)) 0 0 1065 (t_P (fun v s' => v = none ∧ Q (.inr (s')))) 64 [(0, .ref 950), (1, .int l1), (2, .int l2), (3, .int l3), (4, .int l4), (5, .int l5)] [] (t_m s) 1065 0 0 := by
  refine mj_iload dX13_sortRecords_64 5 rfl ?_
  refine mj_iload_n dX13_sortRecords_66 3 rfl ?_
  refine mj_icmp_ge 93 dX13_sortRecords_67 (by decide) (fun z => t_posK hk z (fun hk => ?_)) (fun z => t_negK hk z (fun hk => ?_))
  · refine t_mapK hk (fun hk => ?_)
    refine mj_iload_n dX13_sortRecords_93 2 rfl ?_
    refine mj_bipush (v := 6) dX13_sortRecords_94 (by decide) ?_
    refine mj_icmp_ne 105 dX13_sortRecords_96 (by decide) (fun z => t_negK hk z (fun hk => ?_)) (fun z => t_posK hk z (fun hk => ?_))
    · exact t_somK hk (fun hf => t_vret dX13_sortRecords_105 rfl ⟨rfl, hf⟩ (Nat.le_of_ble_eq_true rfl) (Nat.le_of_ble_eq_true rfl))
    · refine mj_aload_n dX13_sortRecords_99 0 rfl ?_
      refine mj_iload_n dX13_sortRecords_100 1 rfl ?_
      refine mj_iload_n dX13_sortRecords_101 3 rfl ?_
      refine t_bndK hk (fun r1 er1 hk => ?_)
      refine t_callVvE dX13_sortRecords_102 M_X13_sortOne (C_X13_sortOne _ _ _ _ er1) ML_X13_1209 IM_X13_sortOne SE_X13_sortOne qc_950 rfl (As := [.int l1, .int l3]) rfl rfl (by omega) (Nat.le_of_ble_eq_true rfl) (Nat.le_of_ble_eq_true rfl) (Nat.le_of_ble_eq_true rfl) ?_
      exact t_somK hk (fun hf => t_vret dX13_sortRecords_105 rfl ⟨rfl, hf⟩ (Nat.le_of_ble_eq_true rfl) (Nat.le_of_ble_eq_true rfl))
  · refine mj_aload_n dX13_sortRecords_70 0 rfl ?_
    refine mj_iload dX13_sortRecords_71 4 rfl ?_
    refine t_bndK hk (fun r2 er2 hk => ?_)
    refine t_callSvE dX13_sortRecords_73 M_X13_sortRecords (H _ _ _ er2) ML_X13_1183 SM_X13_sortRecords (As := [.ref 950, .int l4]) rfl rfl (by omega) (Nat.le_of_ble_eq_true rfl) (Nat.le_of_ble_eq_true rfl) (Nat.le_of_ble_eq_true rfl) ?_
    refine mj_aload_n dX13_sortRecords_76 0 rfl ?_
    refine t_getR 1007 dX13_sortRecords_77 F_X13_185 qr_950_99 ?_
    refine mj_iload dX13_sortRecords_80 4 rfl ?_
    refine t_bndK hk (fun r3 er3 hk => ?_)
    refine t_callSiP dX13_sortRecords_82 M_X13_endOf (C_X13_endOf _ _ _ _ er3) ML_X13_849 SM_X13_endOf (As := [.ref 1007, .int l4]) rfl rfl (by omega) (Nat.le_of_ble_eq_true rfl) (Nat.le_of_ble_eq_true rfl) (Nat.le_of_ble_eq_true rfl) ?_
    refine mj_istore (lv2 := [(4, .int r3), (0, .ref 950), (1, .int l1), (2, .int l2), (3, .int l3), (5, .int l5)]) dX13_sortRecords_85 (by decide) rfl ?_
    refine mj_iinc (k := 5) (v := (l5 + 1)) (lv2 := [(5, .int (l5 + 1)), (4, .int r3), (0, .ref 950), (1, .int l1), (2, .int l2), (3, .int l3)]) dX13_sortRecords_87 rfl rfl (by decide) rfl ?_
    refine mj_goto 64 dX13_sortRecords_90 (by decide) ?_
    refine mj_sublv [(0, .ref 950), (1, .int l1), (2, .int l2), (3, .int l3), (4, .int r3), (5, .int (l5 + 1))] [2, 3, 4, 5, 1, 0] rfl ?_
    exact t_somK hk (fun hf => Hb64 l1 l2 l3 r3 (l5 + 1) r2 hf)
noncomputable def b_X13_sortRecords_64 (rc : RT_X13_sortRecords) (x : Int32 × Int32 × Int32 × Int32 × Int32 × t_S) : Option ((Int32 × Int32 × Int32 × Int32 × Int32 × t_S) ⊕ (t_S)) := k_X13_sortRecords_64 rc x.1 x.2.1 x.2.2.1 x.2.2.2.1 x.2.2.2.2.1 x.2.2.2.2.2
set_option maxRecDepth 4000 in
set_option maxHeartbeats 1000000 in
theorem LH_X13_sortRecords_64 {D : va_G} {cy : Nat → ClassId} {ad : Nat → Nat} {bs : Nat} {X : State → Heap → Prop} (rc : RT_X13_sortRecords) {k : Nat} (H : RH_X13_sortRecords rc k) : ∀ (n : Nat) (y0 : Int32) (y1 : Int32) (y2 : Int32) (y3 : Int32) (y4 : Int32) (y5 : t_S) (Q : t_S → Prop) (hk : t_hk (t_loop (b_X13_sortRecords_64 rc) n (y0, y1, y2, y3, y4, y5)) Q), mj_G D cy ad bs X cX13_sortRecords 6 yX13_sortRecords.cls none yX13_sortRecords.name (3 + (k + 1)) 0 0 1065 (t_P (fun v s' => v = none ∧ Q (s'))) 64 [(0, .ref 950), (1, .int (y0)), (2, .int (y1)), (3, .int (y2)), (4, .int (y3)), (5, .int (y4))] [] (t_m y5) 1065 0 0 := by
  intro n
  induction n with
  | zero => intro y0 y1 y2 y3 y4 y5 Q hk; obtain ⟨r, hr, _⟩ := hk; cases hr
  | succ n ih =>
    intro y0 y1 y2 y3 y4 y5 Q hk
    exact B_X13_sortRecords_64 rc H y0 y1 y2 y3 y4 y5 (fun y => t_lq (b_X13_sortRecords_64 rc) n Q y) (fun y0' y1' y2' y3' y4' y5' hy => ih y0' y1' y2' y3' y4' y5' Q hy) (t_lp (b := b_X13_sortRecords_64 rc) (n := n) (x := (y0, y1, y2, y3, y4, y5)) hk)
noncomputable def k_X13_sortRecords_58 (rc : RT_X13_sortRecords) (l1 : Int32) (l2 : Int32) (l3 : Int32) (k0 : Int32) (k1 : Int32) (s : t_S) : Option (t_S) :=
 t_loop (b_X13_sortRecords_64 rc) t_N (l1, l2, l3, (k1 + k0), 0, s)
set_option maxRecDepth 4000 in
set_option maxHeartbeats 1000000 in
theorem B_X13_sortRecords_58 {D : va_G} {cy : Nat → ClassId} {ad : Nat → Nat} {bs : Nat} {X : State → Heap → Prop} (rc : RT_X13_sortRecords) {k : Nat} (H : RH_X13_sortRecords rc k) (l1 : Int32) (l2 : Int32) (l3 : Int32) (k0 : Int32) (k1 : Int32) (s : t_S) (Q : t_S → Prop) (hk : t_hk (k_X13_sortRecords_58 rc l1 l2 l3 k0 k1 s) Q) : mj_G D cy ad bs X cX13_sortRecords 6 yX13_sortRecords.cls none yX13_sortRecords.name (3 + (k + 1)) 0 0 1065 (t_P (fun v s' => v = none ∧ Q (s'))) 58 [(0, .ref 950), (1, .int l1), (2, .int l2), (3, .int l3)] [.int k0, .int k1] (t_m s) 1065 0 0 := by
  refine mj_iadd dX13_sortRecords_58 ?_
  refine mj_istore (lv2 := [(4, .int (k1 + k0)), (0, .ref 950), (1, .int l1), (2, .int l2), (3, .int l3)]) dX13_sortRecords_59 (by decide) rfl ?_
  refine mj_iconst (v := 0) dX13_sortRecords_61 (by decide) ?_
  refine mj_istore (lv2 := [(5, .int 0), (4, .int (k1 + k0)), (0, .ref 950), (1, .int l1), (2, .int l2), (3, .int l3)]) dX13_sortRecords_62 (by decide) rfl ?_
  refine mj_sublv [(0, .ref 950), (1, .int l1), (2, .int l2), (3, .int l3), (4, .int (k1 + k0)), (5, .int 0)] [2, 3, 4, 5, 1, 0] rfl ?_
  exact LH_X13_sortRecords_64 rc H _ l1 l2 l3 (k1 + k0) 0 s _ hk
noncomputable def k_X13_sortRecords_43 (rc : RT_X13_sortRecords) (l1 : Int32) (l2 : Int32) (k0 : Int32) (s : t_S) : Option (t_S) :=
 if l2 = (6 : Int32) then (k_X13_sortRecords_58 rc l1 l2 k0 k0 (l1 + (2 : Int32)) s)
 else (k_X13_sortRecords_58 rc l1 l2 k0 0 (l1 + (2 : Int32)) s)
set_option maxRecDepth 4000 in
set_option maxHeartbeats 1000000 in
theorem B_X13_sortRecords_43 {D : va_G} {cy : Nat → ClassId} {ad : Nat → Nat} {bs : Nat} {X : State → Heap → Prop} (rc : RT_X13_sortRecords) {k : Nat} (H : RH_X13_sortRecords rc k) (l1 : Int32) (l2 : Int32) (k0 : Int32) (s : t_S) (Q : t_S → Prop) (hk : t_hk (k_X13_sortRecords_43 rc l1 l2 k0 s) Q) : mj_G D cy ad bs X cX13_sortRecords 6 yX13_sortRecords.cls none yX13_sortRecords.name (3 + (k + 1)) 0 0 1065 (t_P (fun v s' => v = none ∧ Q (s'))) 43 [(0, .ref 950), (1, .int l1), (2, .int l2)] [.int k0] (t_m s) 1065 0 0 := by
  refine mj_istore_n 3 (lv2 := [(3, .int k0), (0, .ref 950), (1, .int l1), (2, .int l2)]) dX13_sortRecords_43 rfl (by decide) rfl ?_
  refine mj_iload_n dX13_sortRecords_44 2 rfl ?_
  refine mj_iconst (v := 2) dX13_sortRecords_45 (by decide) ?_
  refine mj_iadd dX13_sortRecords_46 ?_
  refine mj_iload_n dX13_sortRecords_47 3 rfl ?_
  refine mj_bipush (v := 6) dX13_sortRecords_48 (by decide) ?_
  refine mj_icmp_ne 57 dX13_sortRecords_50 (by decide) (fun z => t_negK hk z (fun hk => ?_)) (fun z => t_posK hk z (fun hk => ?_))
  · refine mj_iconst (v := 0) dX13_sortRecords_57 (by decide) ?_
    refine mj_sublv [(0, .ref 950), (1, .int l1), (2, .int l2), (3, .int k0)] [1, 2, 3, 0] rfl ?_
    exact B_X13_sortRecords_58 rc H _ _ _ _ _ _ _ hk
  · refine mj_iload_n dX13_sortRecords_53 0 rfl ?_
    refine mj_goto 58 dX13_sortRecords_54 (by decide) ?_
    refine mj_sublv [(0, .ref 950), (1, .int l1), (2, .int l2), (3, .int k0)] [1, 2, 3, 0] rfl ?_
    exact B_X13_sortRecords_58 rc H _ _ _ _ _ _ _ hk
noncomputable def k_X13_sortRecords_30 (rc : RT_X13_sortRecords) (l1 : Int32) (l2 : Int32) (s : t_S) : Option (t_S) :=
 if t_ix (l1 + (1 : Int32)) 8600 = true then
  k_X13_sortRecords_43 rc l1 l2 ((s.2.1 1007 ((l1 + (1 : Int32)).toNatClampNeg)).toInt32) s
else none
set_option maxRecDepth 4000 in
set_option maxHeartbeats 1000000 in
theorem B_X13_sortRecords_30 {D : va_G} {cy : Nat → ClassId} {ad : Nat → Nat} {bs : Nat} {X : State → Heap → Prop} (rc : RT_X13_sortRecords) {k : Nat} (H : RH_X13_sortRecords rc k) (l1 : Int32) (l2 : Int32) (s : t_S) (Q : t_S → Prop) (hk : t_hk (k_X13_sortRecords_30 rc l1 l2 s) Q) : mj_G D cy ad bs X cX13_sortRecords 6 yX13_sortRecords.cls none yX13_sortRecords.name (3 + (k + 1)) 0 0 1065 (t_P (fun v s' => v = none ∧ Q (s'))) 30 [(0, .ref 950), (1, .int l1), (2, .int l2)] [] (t_m s) 1065 0 0 := by
  refine mj_aload_n dX13_sortRecords_30 0 rfl ?_
  refine t_getR 1007 dX13_sortRecords_31 F_X13_185 qr_950_99 ?_
  refine mj_iload_n dX13_sortRecords_34 1 rfl ?_
  refine mj_iconst (v := 1) dX13_sortRecords_35 (by decide) ?_
  refine mj_iadd dX13_sortRecords_36 ?_
  refine t_chkK hk (fun c0 hk => ?_)
  refine t_lald dX13_sortRecords_37 qa_1007 (t_ixv c0) ?_
  refine mj_l2i (v := (s.2.1 1007 ((l1 + (1 : Int32)).toNatClampNeg)).toInt32) dX13_sortRecords_38 rfl ?_
  refine mj_goto 43 dX13_sortRecords_39 (by decide) ?_
  exact B_X13_sortRecords_43 rc H _ _ _ _ _ hk
noncomputable def m_X13_sortRecords (rc : RT_X13_sortRecords) (x2 : Int32) (s : t_S) : Option (t_S) :=
 if t_ix x2 8600 = true then
  if ((s.2.1 1007 (x2.toNatClampNeg)).toInt32) = (7 : Int32) then (k_X13_sortRecords_43 rc x2 ((s.2.1 1007 (x2.toNatClampNeg)).toInt32) 1 s)
 else (if ((s.2.1 1007 (x2.toNatClampNeg)).toInt32) = (6 : Int32) then (k_X13_sortRecords_30 rc x2 ((s.2.1 1007 (x2.toNatClampNeg)).toInt32) s)
 else (if ((s.2.1 1007 (x2.toNatClampNeg)).toInt32) = (8 : Int32) then (k_X13_sortRecords_30 rc x2 ((s.2.1 1007 (x2.toNatClampNeg)).toInt32) s)
 else (k_X13_sortRecords_43 rc x2 ((s.2.1 1007 (x2.toNatClampNeg)).toInt32) 0 s)))
else none
set_option maxRecDepth 4000 in
set_option maxHeartbeats 1000000 in
theorem E_X13_sortRecords (rc : RT_X13_sortRecords) {k : Nat} (H : RH_X13_sortRecords rc k) (x2 : Int32) (s : t_S) (r : t_S) (hr : m_X13_sortRecords rc x2 s = some r) : t_C yX13_sortRecords cX13_sortRecords 6 none (3 + (k + 1)) [.ref 950, .int x2] s (fun v s' => v = none ∧ s' = r) := by
  refine t_C.imp (P := fun v s' => v = none ∧ (fun q => q = r) (s')) (t_C.of (by decide +kernel) (Nat.le_of_ble_eq_true rfl) ?_) (fun v s' hp => hp)
  intro D cy ad bs X
  have hk : t_hk (m_X13_sortRecords rc x2 s) (fun q => q = r) := ⟨r, hr, rfl⟩
  show mj_G D cy ad bs X cX13_sortRecords 6 yX13_sortRecords.cls none yX13_sortRecords.name (3 + (k + 1)) 0 0 1065 (t_P (fun v s' => v = none ∧ (fun q => q = r) (s'))) 0 [(0, .ref 950), (1, .int x2)] [] (t_m s) 1065 0 0
  refine mj_aload_n dX13_sortRecords_0 0 rfl ?_
  refine t_getR 1007 dX13_sortRecords_1 F_X13_185 qr_950_99 ?_
  refine mj_iload_n dX13_sortRecords_4 1 rfl ?_
  refine t_chkK hk (fun c0 hk => ?_)
  refine t_lald dX13_sortRecords_5 qa_1007 (t_ixv c0) ?_
  refine mj_l2i (v := (s.2.1 1007 (x2.toNatClampNeg)).toInt32) dX13_sortRecords_6 rfl ?_
  refine mj_istore_n 2 (lv2 := [(2, .int ((s.2.1 1007 (x2.toNatClampNeg)).toInt32)), (0, .ref 950), (1, .int x2)]) dX13_sortRecords_7 rfl (by decide) rfl ?_
  refine mj_iload_n dX13_sortRecords_8 0 rfl ?_
  refine mj_bipush (v := 7) dX13_sortRecords_9 (by decide) ?_
  refine mj_icmp_ne 18 dX13_sortRecords_11 (by decide) (fun z => t_negK hk z (fun hk => ?_)) (fun z => t_posK hk z (fun hk => ?_))
  · refine mj_iload_n dX13_sortRecords_18 0 rfl ?_
    refine mj_bipush (v := 6) dX13_sortRecords_19 (by decide) ?_
    refine mj_icmp_eq 30 dX13_sortRecords_21 (by decide) (fun z => t_posK hk z (fun hk => ?_)) (fun z => t_negK hk z (fun hk => ?_))
    · refine mj_sublv [(0, .ref 950), (1, .int x2), (2, .int ((s.2.1 1007 (x2.toNatClampNeg)).toInt32))] [1, 2, 0] rfl ?_
      exact B_X13_sortRecords_30 rc H _ _ _ _ hk
    · refine mj_iload_n dX13_sortRecords_24 0 rfl ?_
      refine mj_bipush (v := 8) dX13_sortRecords_25 (by decide) ?_
      refine mj_icmp_ne 42 dX13_sortRecords_27 (by decide) (fun z => t_negK hk z (fun hk => ?_)) (fun z => t_posK hk z (fun hk => ?_))
      · refine mj_iconst (v := 0) dX13_sortRecords_42 (by decide) ?_
        refine mj_sublv [(0, .ref 950), (1, .int x2), (2, .int ((s.2.1 1007 (x2.toNatClampNeg)).toInt32))] [1, 2, 0] rfl ?_
        exact B_X13_sortRecords_43 rc H _ _ _ _ _ hk
      · refine mj_sublv [(0, .ref 950), (1, .int x2), (2, .int ((s.2.1 1007 (x2.toNatClampNeg)).toInt32))] [1, 2, 0] rfl ?_
        exact B_X13_sortRecords_30 rc H _ _ _ _ hk
  · refine mj_iconst (v := 1) dX13_sortRecords_14 (by decide) ?_
    refine mj_goto 43 dX13_sortRecords_15 (by decide) ?_
    refine mj_sublv [(0, .ref 950), (1, .int x2), (2, .int ((s.2.1 1007 (x2.toNatClampNeg)).toInt32))] [1, 2, 0] rfl ?_
    exact B_X13_sortRecords_43 rc H _ _ _ _ _ hk
/-- so many calls deep -/
noncomputable def R_X13_sortRecords : Nat → RT_X13_sortRecords
  | 0 => fun _ _ => none
  | k + 1 => fun x2 s => m_X13_sortRecords (R_X13_sortRecords k) x2 s
theorem RR_X13_sortRecords : ∀ k : Nat, RH_X13_sortRecords (R_X13_sortRecords k) k := by
  intro k
  induction k with
  | zero => exact fun _ _ _ h => (by cases h)
  | succ k ih => exact fun x2 s r h => E_X13_sortRecords (R_X13_sortRecords k) ih x2 s r h
noncomputable def f_X13_sortRecords (x2 : Int32) (s : t_S) : Option (t_S) := (R_X13_sortRecords 200) x2 s
theorem C_X13_sortRecords (x2 : Int32) (s : t_S) (r : t_S) (hr : f_X13_sortRecords x2 s = some r) : t_C yX13_sortRecords cX13_sortRecords 6 none 203 [.ref 950, .int x2] s (fun v s' => v = none ∧ s' = r) := (RR_X13_sortRecords 200) x2 s r hr

theorem dX13_decode_0 : decode cX13_decode 0 = .ok (.aload_n 0, 1) := by decide +kernel
theorem dX13_decode_1 : decode cX13_decode 1 = .ok (.iload_n 1, 1) := by decide +kernel
theorem dX13_decode_10 : decode cX13_decode 10 = .ok (.aload_n 0, 1) := by decide +kernel
theorem dX13_decode_100 : decode cX13_decode 100 = .ok (.if_icmp .ne 45, 3) := by decide +kernel
theorem dX13_decode_103 : decode cX13_decode 103 = .ok (.aload_n 0, 1) := by decide +kernel
theorem dX13_decode_104 : decode cX13_decode 104 = .ok (.dup, 1) := by decide +kernel
theorem dX13_decode_105 : decode cX13_decode 105 = .ok (.getfield 1167, 3) := by decide +kernel
theorem dX13_decode_108 : decode cX13_decode 108 = .ok (.iconst 1, 1) := by decide +kernel
theorem dX13_decode_109 : decode cX13_decode 109 = .ok (.isub, 1) := by decide +kernel
theorem dX13_decode_11 : decode cX13_decode 11 = .ok (.getfield 654, 3) := by decide +kernel
theorem dX13_decode_110 : decode cX13_decode 110 = .ok (.putfield 1167, 3) := by decide +kernel
theorem dX13_decode_113 : decode cX13_decode 113 = .ok (.aload_n 0, 1) := by decide +kernel
theorem dX13_decode_114 : decode cX13_decode 114 = .ok (.aload_n 0, 1) := by decide +kernel
theorem dX13_decode_115 : decode cX13_decode 115 = .ok (.aload_n 0, 1) := by decide +kernel
theorem dX13_decode_116 : decode cX13_decode 116 = .ok (.getfield 232, 3) := by decide +kernel
theorem dX13_decode_119 : decode cX13_decode 119 = .ok (.iload_n 2, 1) := by decide +kernel
theorem dX13_decode_120 : decode cX13_decode 120 = .ok (.iaload, 1) := by decide +kernel
theorem dX13_decode_121 : decode cX13_decode 121 = .ok (.invokevirtual 1036, 3) := by decide +kernel
theorem dX13_decode_124 : decode cX13_decode 124 = .ok (.aload_n 0, 1) := by decide +kernel
theorem dX13_decode_125 : decode cX13_decode 125 = .ok (.getfield 229, 3) := by decide +kernel
theorem dX13_decode_128 : decode cX13_decode 128 = .ok (.iload_n 2, 1) := by decide +kernel
theorem dX13_decode_129 : decode cX13_decode 129 = .ok (.iaload, 1) := by decide +kernel
theorem dX13_decode_130 : decode cX13_decode 130 = .ok (.iconst 3, 1) := by decide +kernel
theorem dX13_decode_131 : decode cX13_decode 131 = .ok (.if_icmp .ne 7, 3) := by decide +kernel
theorem dX13_decode_134 : decode cX13_decode 134 = .ok (.lconst 1, 1) := by decide +kernel
theorem dX13_decode_135 : decode cX13_decode 135 = .ok (.goto 4, 3) := by decide +kernel
theorem dX13_decode_138 : decode cX13_decode 138 = .ok (.lconst 0, 1) := by decide +kernel
theorem dX13_decode_139 : decode cX13_decode 139 = .ok (.invokevirtual 1173, 3) := by decide +kernel
theorem dX13_decode_14 : decode cX13_decode 14 = .ok (.bipush 40, 2) := by decide +kernel
theorem dX13_decode_142 : decode cX13_decode 142 = .ok (.goto 26, 3) := by decide +kernel
theorem dX13_decode_145 : decode cX13_decode 145 = .ok (.aload_n 0, 1) := by decide +kernel
theorem dX13_decode_146 : decode cX13_decode 146 = .ok (.getfield 229, 3) := by decide +kernel
theorem dX13_decode_149 : decode cX13_decode 149 = .ok (.iload_n 2, 1) := by decide +kernel
theorem dX13_decode_150 : decode cX13_decode 150 = .ok (.iaload, 1) := by decide +kernel
theorem dX13_decode_151 : decode cX13_decode 151 = .ok (.iconst 1, 1) := by decide +kernel
theorem dX13_decode_152 : decode cX13_decode 152 = .ok (.if_icmp .ne 11, 3) := by decide +kernel
theorem dX13_decode_155 : decode cX13_decode 155 = .ok (.aload_n 0, 1) := by decide +kernel
theorem dX13_decode_156 : decode cX13_decode 156 = .ok (.iload_n 2, 1) := by decide +kernel
theorem dX13_decode_157 : decode cX13_decode 157 = .ok (.invokevirtual 1177, 3) := by decide +kernel
theorem dX13_decode_16 : decode cX13_decode 16 = .ok (.if_icmp .ne 6, 3) := by decide +kernel
theorem dX13_decode_160 : decode cX13_decode 160 = .ok (.goto 8, 3) := by decide +kernel
theorem dX13_decode_163 : decode cX13_decode 163 = .ok (.aload_n 0, 1) := by decide +kernel
theorem dX13_decode_164 : decode cX13_decode 164 = .ok (.iload_n 2, 1) := by decide +kernel
theorem dX13_decode_165 : decode cX13_decode 165 = .ok (.invokevirtual 1180, 3) := by decide +kernel
theorem dX13_decode_168 : decode cX13_decode 168 = .ok (.goto (-106), 3) := by decide +kernel
theorem dX13_decode_171 : decode cX13_decode 171 = .ok (.aload_n 0, 1) := by decide +kernel
theorem dX13_decode_172 : decode cX13_decode 172 = .ok (.getfield 1155, 3) := by decide +kernel
theorem dX13_decode_175 : decode cX13_decode 175 = .ok (.iconst (-1), 1) := by decide +kernel
theorem dX13_decode_176 : decode cX13_decode 176 = .ok (.if_icmp .ne 22, 3) := by decide +kernel
theorem dX13_decode_179 : decode cX13_decode 179 = .ok (.aload_n 0, 1) := by decide +kernel
theorem dX13_decode_180 : decode cX13_decode 180 = .ok (.getfield 1158, 3) := by decide +kernel
theorem dX13_decode_183 : decode cX13_decode 183 = .ok (.aload_n 0, 1) := by decide +kernel
theorem dX13_decode_184 : decode cX13_decode 184 = .ok (.getfield 833, 3) := by decide +kernel
theorem dX13_decode_187 : decode cX13_decode 187 = .ok (.if_icmp .ge 11, 3) := by decide +kernel
theorem dX13_decode_19 : decode cX13_decode 19 = .ok (.bipush (-3), 2) := by decide +kernel
theorem dX13_decode_190 : decode cX13_decode 190 = .ok (.aload_n 0, 1) := by decide +kernel
theorem dX13_decode_191 : decode cX13_decode 191 = .ok (.aload_n 0, 1) := by decide +kernel
theorem dX13_decode_192 : decode cX13_decode 192 = .ok (.getfield 1158, 3) := by decide +kernel
theorem dX13_decode_195 : decode cX13_decode 195 = .ok (.invokevirtual 1161, 3) := by decide +kernel
theorem dX13_decode_198 : decode cX13_decode 198 = .ok (.aload_n 0, 1) := by decide +kernel
theorem dX13_decode_199 : decode cX13_decode 199 = .ok (.getfield 1155, 3) := by decide +kernel
theorem dX13_decode_2 : decode cX13_decode 2 = .ok (.invokevirtual 1051, 3) := by decide +kernel
theorem dX13_decode_202 : decode cX13_decode 202 = .ok (.iconst (-1), 1) := by decide +kernel
theorem dX13_decode_203 : decode cX13_decode 203 = .ok (.if_icmp .eq 11, 3) := by decide +kernel
theorem dX13_decode_206 : decode cX13_decode 206 = .ok (.bipush (-10), 2) := by decide +kernel
theorem dX13_decode_208 : decode cX13_decode 208 = .ok (.aload_n 0, 1) := by decide +kernel
theorem dX13_decode_209 : decode cX13_decode 209 = .ok (.getfield 1155, 3) := by decide +kernel
theorem dX13_decode_21 : decode cX13_decode 21 = .ok (.ireturn, 1) := by decide +kernel
theorem dX13_decode_212 : decode cX13_decode 212 = .ok (.isub, 1) := by decide +kernel
theorem dX13_decode_213 : decode cX13_decode 213 = .ok (.ireturn, 1) := by decide +kernel
theorem dX13_decode_214 : decode cX13_decode 214 = .ok (.aload_n 0, 1) := by decide +kernel
theorem dX13_decode_215 : decode cX13_decode 215 = .ok (.iconst 0, 1) := by decide +kernel
theorem dX13_decode_216 : decode cX13_decode 216 = .ok (.invokestatic 1183, 3) := by decide +kernel
theorem dX13_decode_219 : decode cX13_decode 219 = .ok (.iconst 0, 1) := by decide +kernel
theorem dX13_decode_22 : decode cX13_decode 22 = .ok (.aload_n 0, 1) := by decide +kernel
theorem dX13_decode_220 : decode cX13_decode 220 = .ok (.istore_n 2, 1) := by decide +kernel
theorem dX13_decode_221 : decode cX13_decode 221 = .ok (.iload_n 2, 1) := by decide +kernel
theorem dX13_decode_222 : decode cX13_decode 222 = .ok (.aload_n 0, 1) := by decide +kernel
theorem dX13_decode_223 : decode cX13_decode 223 = .ok (.getfield 1152, 3) := by decide +kernel
theorem dX13_decode_226 : decode cX13_decode 226 = .ok (.if_icmp .ge 32, 3) := by decide +kernel
theorem dX13_decode_229 : decode cX13_decode 229 = .ok (.aload_n 0, 1) := by decide +kernel
theorem dX13_decode_23 : decode cX13_decode 23 = .ok (.invokevirtual 1073, 3) := by decide +kernel
theorem dX13_decode_230 : decode cX13_decode 230 = .ok (.getfield 182, 3) := by decide +kernel
theorem dX13_decode_233 : decode cX13_decode 233 = .ok (.sipush 260, 3) := by decide +kernel
theorem dX13_decode_236 : decode cX13_decode 236 = .ok (.iconst 0, 1) := by decide +kernel
theorem dX13_decode_237 : decode cX13_decode 237 = .ok (.aload_n 0, 1) := by decide +kernel
theorem dX13_decode_238 : decode cX13_decode 238 = .ok (.getfield 654, 3) := by decide +kernel
theorem dX13_decode_241 : decode cX13_decode 241 = .ok (.iadd, 1) := by decide +kernel
theorem dX13_decode_242 : decode cX13_decode 242 = .ok (.imul, 1) := by decide +kernel
theorem dX13_decode_243 : decode cX13_decode 243 = .ok (.iload_n 2, 1) := by decide +kernel
theorem dX13_decode_244 : decode cX13_decode 244 = .ok (.iadd, 1) := by decide +kernel
theorem dX13_decode_245 : decode cX13_decode 245 = .ok (.aload_n 0, 1) := by decide +kernel
theorem dX13_decode_246 : decode cX13_decode 246 = .ok (.getfield 185, 3) := by decide +kernel
theorem dX13_decode_249 : decode cX13_decode 249 = .ok (.iload_n 2, 1) := by decide +kernel
theorem dX13_decode_250 : decode cX13_decode 250 = .ok (.laload, 1) := by decide +kernel
theorem dX13_decode_251 : decode cX13_decode 251 = .ok (.lastore, 1) := by decide +kernel
theorem dX13_decode_252 : decode cX13_decode 252 = .ok (.iinc 2 1, 3) := by decide +kernel
theorem dX13_decode_255 : decode cX13_decode 255 = .ok (.goto (-34), 3) := by decide +kernel
theorem dX13_decode_258 : decode cX13_decode 258 = .ok (.aload_n 0, 1) := by decide +kernel
theorem dX13_decode_259 : decode cX13_decode 259 = .ok (.dup, 1) := by decide +kernel
theorem dX13_decode_26 : decode cX13_decode 26 = .ok (.aload_n 0, 1) := by decide +kernel
theorem dX13_decode_260 : decode cX13_decode 260 = .ok (.getfield 654, 3) := by decide +kernel
theorem dX13_decode_263 : decode cX13_decode 263 = .ok (.iconst 1, 1) := by decide +kernel
theorem dX13_decode_264 : decode cX13_decode 264 = .ok (.iadd, 1) := by decide +kernel
theorem dX13_decode_265 : decode cX13_decode 265 = .ok (.putfield 654, 3) := by decide +kernel
theorem dX13_decode_268 : decode cX13_decode 268 = .ok (.aload_n 0, 1) := by decide +kernel
theorem dX13_decode_269 : decode cX13_decode 269 = .ok (.getfield 654, 3) := by decide +kernel
theorem dX13_decode_27 : decode cX13_decode 27 = .ok (.iconst 0, 1) := by decide +kernel
theorem dX13_decode_272 : decode cX13_decode 272 = .ok (.iconst 1, 1) := by decide +kernel
theorem dX13_decode_273 : decode cX13_decode 273 = .ok (.isub, 1) := by decide +kernel
theorem dX13_decode_274 : decode cX13_decode 274 = .ok (.ireturn, 1) := by decide +kernel
theorem dX13_decode_28 : decode cX13_decode 28 = .ok (.putfield 1167, 3) := by decide +kernel
theorem dX13_decode_31 : decode cX13_decode 31 = .ok (.aload_n 0, 1) := by decide +kernel
theorem dX13_decode_32 : decode cX13_decode 32 = .ok (.iconst 0, 1) := by decide +kernel
theorem dX13_decode_33 : decode cX13_decode 33 = .ok (.putfield 1158, 3) := by decide +kernel
theorem dX13_decode_36 : decode cX13_decode 36 = .ok (.aload_n 0, 1) := by decide +kernel
theorem dX13_decode_37 : decode cX13_decode 37 = .ok (.iconst (-1), 1) := by decide +kernel
theorem dX13_decode_38 : decode cX13_decode 38 = .ok (.putfield 1155, 3) := by decide +kernel
theorem dX13_decode_41 : decode cX13_decode 41 = .ok (.aload_n 0, 1) := by decide +kernel
theorem dX13_decode_42 : decode cX13_decode 42 = .ok (.lconst 0, 1) := by decide +kernel
theorem dX13_decode_43 : decode cX13_decode 43 = .ok (.putfield 1164, 3) := by decide +kernel
theorem dX13_decode_46 : decode cX13_decode 46 = .ok (.aload_n 0, 1) := by decide +kernel
theorem dX13_decode_47 : decode cX13_decode 47 = .ok (.iconst 0, 1) := by decide +kernel
theorem dX13_decode_48 : decode cX13_decode 48 = .ok (.putfield 1152, 3) := by decide +kernel
theorem dX13_decode_5 : decode cX13_decode 5 = .ok (.ifCond .eq 5, 3) := by decide +kernel
theorem dX13_decode_51 : decode cX13_decode 51 = .ok (.aload_n 0, 1) := by decide +kernel
theorem dX13_decode_52 : decode cX13_decode 52 = .ok (.iconst 0, 1) := by decide +kernel
theorem dX13_decode_53 : decode cX13_decode 53 = .ok (.aload_n 0, 1) := by decide +kernel
theorem dX13_decode_54 : decode cX13_decode 54 = .ok (.getfield 57, 3) := by decide +kernel
theorem dX13_decode_57 : decode cX13_decode 57 = .ok (.iload_n 1, 1) := by decide +kernel
theorem dX13_decode_58 : decode cX13_decode 58 = .ok (.iaload, 1) := by decide +kernel
theorem dX13_decode_59 : decode cX13_decode 59 = .ok (.invokevirtual 1170, 3) := by decide +kernel
theorem dX13_decode_62 : decode cX13_decode 62 = .ok (.aload_n 0, 1) := by decide +kernel
theorem dX13_decode_63 : decode cX13_decode 63 = .ok (.getfield 1167, 3) := by decide +kernel
theorem dX13_decode_66 : decode cX13_decode 66 = .ok (.ifCond .le 105, 3) := by decide +kernel
theorem dX13_decode_69 : decode cX13_decode 69 = .ok (.aload_n 0, 1) := by decide +kernel
theorem dX13_decode_70 : decode cX13_decode 70 = .ok (.getfield 1155, 3) := by decide +kernel
theorem dX13_decode_73 : decode cX13_decode 73 = .ok (.iconst (-1), 1) := by decide +kernel
theorem dX13_decode_74 : decode cX13_decode 74 = .ok (.if_icmp .ne 97, 3) := by decide +kernel
theorem dX13_decode_77 : decode cX13_decode 77 = .ok (.aload_n 0, 1) := by decide +kernel
theorem dX13_decode_78 : decode cX13_decode 78 = .ok (.getfield 1167, 3) := by decide +kernel
theorem dX13_decode_8 : decode cX13_decode 8 = .ok (.iconst (-1), 1) := by decide +kernel
theorem dX13_decode_81 : decode cX13_decode 81 = .ok (.iconst 1, 1) := by decide +kernel
theorem dX13_decode_82 : decode cX13_decode 82 = .ok (.isub, 1) := by decide +kernel
theorem dX13_decode_83 : decode cX13_decode 83 = .ok (.istore_n 2, 1) := by decide +kernel
theorem dX13_decode_84 : decode cX13_decode 84 = .ok (.aload_n 0, 1) := by decide +kernel
theorem dX13_decode_85 : decode cX13_decode 85 = .ok (.getfield 229, 3) := by decide +kernel
theorem dX13_decode_88 : decode cX13_decode 88 = .ok (.iload_n 2, 1) := by decide +kernel
theorem dX13_decode_89 : decode cX13_decode 89 = .ok (.iaload, 1) := by decide +kernel
theorem dX13_decode_9 : decode cX13_decode 9 = .ok (.ireturn, 1) := by decide +kernel
theorem dX13_decode_90 : decode cX13_decode 90 = .ok (.ifCond .eq 13, 3) := by decide +kernel
theorem dX13_decode_93 : decode cX13_decode 93 = .ok (.aload_n 0, 1) := by decide +kernel
theorem dX13_decode_94 : decode cX13_decode 94 = .ok (.getfield 229, 3) := by decide +kernel
theorem dX13_decode_97 : decode cX13_decode 97 = .ok (.iload_n 2, 1) := by decide +kernel
theorem dX13_decode_98 : decode cX13_decode 98 = .ok (.iaload, 1) := by decide +kernel
theorem dX13_decode_99 : decode cX13_decode 99 = .ok (.iconst 3, 1) := by decide +kernel
noncomputable def k_X13_decode_221 (l2 : Int32) (s : t_S) : Option ((Int32 × t_S) ⊕ (Int32 × t_S)) :=
 if (s.1 950 129) ≤ l2 then ((t_let (t_setI s 950 96 ((s.1 950 96) + (1 : Int32))) (fun s1 =>
 some (((s1.1 950 96) - (1 : Int32)), s1))).map Sum.inr)
 else (if t_ix l2 8600 = true then
  if t_ix (((260 : Int32) * ((0 : Int32) + (s.1 950 96))) + l2) 626600 = true then
  t_let (t_setJ s 1006 ((((260 : Int32) * ((0 : Int32) + (s.1 950 96))) + l2).toNatClampNeg) (s.2.1 1007 (l2.toNatClampNeg))) (fun s2 =>
 some (.inl ((l2 + 1), s2)))
else none
else none)
set_option maxRecDepth 4000 in
set_option maxHeartbeats 1000000 in
theorem B_X13_decode_221 {D : va_G} {cy : Nat → ClassId} {ad : Nat → Nat} {bs : Nat} {X : State → Heap → Prop} (l2 : Int32) (s : t_S) (Q : (Int32 × t_S) ⊕ (Int32 × t_S) → Prop) (Hb221 : ∀ (y0 : Int32) (y1 : t_S), Q (.inl (y0, y1)) → mj_G D cy ad bs X cX13_decode 3 yX13_decode.cls (some .int) yX13_decode.name 204 0 0 1065 (t_P (fun v s' => ∃ x, v = some (.int x) ∧ Q (.inr ((x, s'))))) 221 [(0, .ref 950), (2, .int (y0))] [] (t_m y1) 1065 0 0) (hk : t_hk (k_X13_decode_221 l2 s) Q) : mj_G D cy ad bs X cX13_decode 3 yX13_decode.cls (some .int) yX13_decode.name 204 0 0 1065 (t_P (fun v s' => ∃ x, v = some (.int x) ∧ Q (.inr ((x, s'))))) 221 [(0, .ref 950), (2, .int l2)] [] (t_m s) 1065 0 0 := by
  refine mj_iload_n dX13_decode_221 1 rfl ?_
  refine mj_aload_n dX13_decode_222 0 rfl ?_
  refine t_getI dX13_decode_223 F_X13_1152 qf_950_129 ?_
  refine mj_icmp_ge 258 dX13_decode_226 (by decide) (fun z => t_posK hk z (fun hk => ?_)) (fun z => t_negK hk z (fun hk => ?_))
  · refine t_mapK hk (fun hk => ?_)
    refine mj_aload_n dX13_decode_258 0 rfl ?_
    refine mj_dup dX13_decode_259 rfl ?_
    refine t_getI dX13_decode_260 F_X13_654 qf_950_96 ?_
    refine mj_iconst (v := 1) dX13_decode_263 (by decide) ?_
    refine mj_iadd dX13_decode_264 ?_
    refine t_putIK dX13_decode_265 F_X13_654 qf_950_96 rfl (fun s1 ws1 => t_letE hk ws1 (fun hk => ?_))
    refine mj_aload_n dX13_decode_268 0 rfl ?_
    refine t_getI dX13_decode_269 F_X13_654 qf_950_96 ?_
    refine mj_iconst (v := 1) dX13_decode_272 (by decide) ?_
    refine mj_isub dX13_decode_273 ?_
    exact t_somK hk (fun hf => t_iret dX13_decode_274 rfl rfl ⟨_, rfl, hf⟩ (Nat.le_of_ble_eq_true rfl) (Nat.le_of_ble_eq_true rfl))
  · refine mj_aload_n dX13_decode_229 0 rfl ?_
    refine t_getR 1006 dX13_decode_230 F_X13_182 qr_950_95 ?_
    refine mj_sipush (v := 260) dX13_decode_233 (by decide) ?_
    refine mj_iconst (v := 0) dX13_decode_236 (by decide) ?_
    refine mj_aload_n dX13_decode_237 0 rfl ?_
    refine t_getI dX13_decode_238 F_X13_654 qf_950_96 ?_
    refine mj_iadd dX13_decode_241 ?_
    refine mj_imul dX13_decode_242 ?_
    refine mj_iload_n dX13_decode_243 1 rfl ?_
    refine mj_iadd dX13_decode_244 ?_
    refine mj_aload_n dX13_decode_245 0 rfl ?_
    refine t_getR 1007 dX13_decode_246 F_X13_185 qr_950_99 ?_
    refine mj_iload_n dX13_decode_249 1 rfl ?_
    refine t_chkK hk (fun c0 hk => ?_)
    refine t_lald dX13_decode_250 qa_1007 (t_ixv c0) ?_
    refine t_chkK hk (fun c1 hk => ?_)
    refine t_lastK dX13_decode_251 qa_1006 (t_ixv c1) (fun s2 ws2 => t_letE hk ws2 (fun hk => ?_))
    refine mj_iinc (k := 1) (v := (l2 + 1)) (lv2 := [(2, .int (l2 + 1)), (0, .ref 950)]) dX13_decode_252 rfl rfl (by decide) rfl ?_
    refine mj_goto 221 dX13_decode_255 (by decide) ?_
    refine mj_sublv [(0, .ref 950), (2, .int (l2 + 1))] [1, 0] rfl ?_
    exact t_somK hk (fun hf => Hb221 (l2 + 1) s2 hf)
noncomputable def b_X13_decode_221 (x : Int32 × t_S) : Option ((Int32 × t_S) ⊕ (Int32 × t_S)) := k_X13_decode_221 x.1 x.2
set_option maxRecDepth 4000 in
set_option maxHeartbeats 1000000 in
theorem LH_X13_decode_221 {D : va_G} {cy : Nat → ClassId} {ad : Nat → Nat} {bs : Nat} {X : State → Heap → Prop} : ∀ (n : Nat) (y0 : Int32) (y1 : t_S) (Q : Int32 × t_S → Prop) (hk : t_hk (t_loop (b_X13_decode_221) n (y0, y1)) Q), mj_G D cy ad bs X cX13_decode 3 yX13_decode.cls (some .int) yX13_decode.name 204 0 0 1065 (t_P (fun v s' => ∃ x, v = some (.int x) ∧ Q ((x, s')))) 221 [(0, .ref 950), (2, .int (y0))] [] (t_m y1) 1065 0 0 := by
  intro n
  induction n with
  | zero => intro y0 y1 Q hk; obtain ⟨r, hr, _⟩ := hk; cases hr
  | succ n ih =>
    intro y0 y1 Q hk
    exact B_X13_decode_221 y0 y1 (fun y => t_lq (b_X13_decode_221) n Q y) (fun y0' y1' hy => ih y0' y1' Q hy) (t_lp (b := b_X13_decode_221) (n := n) (x := (y0, y1)) hk)
noncomputable def k_X13_decode_198 (s : t_S) : Option (Int32 × t_S) :=
 if (s.1 950 127) = (-1 : Int32) then ((f_X13_sortRecords (0 : Int32) s).bind (fun r1 =>
 t_loop (b_X13_decode_221) t_N (0, r1)))
 else (some (((-10 : Int32) - (s.1 950 127)), s))
set_option maxRecDepth 4000 in
set_option maxHeartbeats 1000000 in
theorem B_X13_decode_198 {D : va_G} {cy : Nat → ClassId} {ad : Nat → Nat} {bs : Nat} {X : State → Heap → Prop} (s : t_S) (Q : Int32 × t_S → Prop) (hk : t_hk (k_X13_decode_198 s) Q) : mj_G D cy ad bs X cX13_decode 3 yX13_decode.cls (some .int) yX13_decode.name 204 0 0 1065 (t_P (fun v s' => ∃ x, v = some (.int x) ∧ Q ((x, s')))) 198 [(0, .ref 950)] [] (t_m s) 1065 0 0 := by
  refine mj_aload_n dX13_decode_198 0 rfl ?_
  refine t_getI dX13_decode_199 F_X13_1155 qf_950_127 ?_
  refine mj_iconst (v := (-1)) dX13_decode_202 (by decide) ?_
  refine mj_icmp_eq 214 dX13_decode_203 (by decide) (fun z => t_posK hk z (fun hk => ?_)) (fun z => t_negK hk z (fun hk => ?_))
  · refine mj_aload_n dX13_decode_214 0 rfl ?_
    refine mj_iconst (v := 0) dX13_decode_215 (by decide) ?_
    refine t_bndK hk (fun r1 er1 hk => ?_)
    refine t_callSvE dX13_decode_216 M_X13_sortRecords (C_X13_sortRecords _ _ _ er1) ML_X13_1183 SM_X13_sortRecords (As := [.ref 950, .int 0]) rfl rfl (Nat.le_of_ble_eq_true rfl) (Nat.le_of_ble_eq_true rfl) (Nat.le_of_ble_eq_true rfl) (Nat.le_of_ble_eq_true rfl) ?_
    refine mj_iconst (v := 0) dX13_decode_219 (by decide) ?_
    refine mj_istore_n 2 (lv2 := [(2, .int 0), (0, .ref 950)]) dX13_decode_220 rfl (by decide) rfl ?_
    refine mj_sublv [(0, .ref 950), (2, .int 0)] [1, 0] rfl ?_
    exact LH_X13_decode_221 _ 0 r1 _ hk
  · refine mj_bipush (v := (-10)) dX13_decode_206 (by decide) ?_
    refine mj_aload_n dX13_decode_208 0 rfl ?_
    refine t_getI dX13_decode_209 F_X13_1155 qf_950_127 ?_
    refine mj_isub dX13_decode_212 ?_
    exact t_somK hk (fun hf => t_iret dX13_decode_213 rfl rfl ⟨_, rfl, hf⟩ (Nat.le_of_ble_eq_true rfl) (Nat.le_of_ble_eq_true rfl))
noncomputable def k_X13_decode_171 (s : t_S) : Option (Int32 × t_S) :=
 if (s.1 950 127) = (-1 : Int32) then (if (s.1 950 121) ≤ (s.1 950 126) then (k_X13_decode_198 s)
 else ((f_X13_wrongBit (s.1 950 126) s).bind (fun r1 =>
 k_X13_decode_198 r1)))
 else (k_X13_decode_198 s)
set_option maxRecDepth 4000 in
set_option maxHeartbeats 1000000 in
theorem B_X13_decode_171 {D : va_G} {cy : Nat → ClassId} {ad : Nat → Nat} {bs : Nat} {X : State → Heap → Prop} (s : t_S) (Q : Int32 × t_S → Prop) (hk : t_hk (k_X13_decode_171 s) Q) : mj_G D cy ad bs X cX13_decode 3 yX13_decode.cls (some .int) yX13_decode.name 204 0 0 1065 (t_P (fun v s' => ∃ x, v = some (.int x) ∧ Q ((x, s')))) 171 [(0, .ref 950)] [] (t_m s) 1065 0 0 := by
  refine mj_aload_n dX13_decode_171 0 rfl ?_
  refine t_getI dX13_decode_172 F_X13_1155 qf_950_127 ?_
  refine mj_iconst (v := (-1)) dX13_decode_175 (by decide) ?_
  refine mj_icmp_ne 198 dX13_decode_176 (by decide) (fun z => t_negK hk z (fun hk => ?_)) (fun z => t_posK hk z (fun hk => ?_))
  · exact B_X13_decode_198 _ _ hk
  · refine mj_aload_n dX13_decode_179 0 rfl ?_
    refine t_getI dX13_decode_180 F_X13_1158 qf_950_126 ?_
    refine mj_aload_n dX13_decode_183 0 rfl ?_
    refine t_getI dX13_decode_184 F_X13_833 qf_950_121 ?_
    refine mj_icmp_ge 198 dX13_decode_187 (by decide) (fun z => t_posK hk z (fun hk => ?_)) (fun z => t_negK hk z (fun hk => ?_))
    · exact B_X13_decode_198 _ _ hk
    · refine mj_aload_n dX13_decode_190 0 rfl ?_
      refine mj_aload_n dX13_decode_191 0 rfl ?_
      refine t_getI dX13_decode_192 F_X13_1158 qf_950_126 ?_
      refine t_bndK hk (fun r1 er1 hk => ?_)
      refine t_callVvE dX13_decode_195 M_X13_wrongBit (C_X13_wrongBit _ _ _ er1) ML_X13_1161 IM_X13_wrongBit SE_X13_wrongBit qc_950 rfl (As := [.int (s.1 950 126)]) rfl rfl (Nat.le_of_ble_eq_true rfl) (Nat.le_of_ble_eq_true rfl) (Nat.le_of_ble_eq_true rfl) (Nat.le_of_ble_eq_true rfl) ?_
      exact B_X13_decode_198 _ _ hk
noncomputable def k_X13_decode_139 (k0 : Int64) (k1 : Int32) (s : t_S) : Option ((t_S) ⊕ (Int32 × t_S)) :=
 (f_X13_readValue k1 k0 s).bind (fun r1 =>
 some (.inl r1))
set_option maxRecDepth 4000 in
set_option maxHeartbeats 1000000 in
theorem B_X13_decode_139 {D : va_G} {cy : Nat → ClassId} {ad : Nat → Nat} {bs : Nat} {X : State → Heap → Prop} (k0 : Int64) (k1 : Int32) (s : t_S) (Q : (t_S) ⊕ (Int32 × t_S) → Prop) (Hb62 : ∀ (y0 : t_S), Q (.inl y0) → mj_G D cy ad bs X cX13_decode 3 yX13_decode.cls (some .int) yX13_decode.name 204 0 0 1065 (t_P (fun v s' => ∃ x, v = some (.int x) ∧ Q (.inr ((x, s'))))) 62 [(0, .ref 950)] [] (t_m y0) 1065 0 0) (hk : t_hk (k_X13_decode_139 k0 k1 s) Q) : mj_G D cy ad bs X cX13_decode 3 yX13_decode.cls (some .int) yX13_decode.name 204 0 0 1065 (t_P (fun v s' => ∃ x, v = some (.int x) ∧ Q (.inr ((x, s'))))) 139 [(0, .ref 950)] [.long k0, .int k1, .ref 950] (t_m s) 1065 0 0 := by
  refine t_bndK hk (fun r1 er1 hk => ?_)
  refine t_callVvE dX13_decode_139 M_X13_readValue (C_X13_readValue _ _ _ _ er1) ML_X13_1173 IM_X13_readValue SE_X13_readValue qc_950 rfl (As := [.int k1, .long k0]) rfl rfl (Nat.le_of_ble_eq_true rfl) (Nat.le_of_ble_eq_true rfl) (Nat.le_of_ble_eq_true rfl) (Nat.le_of_ble_eq_true rfl) ?_
  refine mj_goto 168 dX13_decode_142 (by decide) ?_
  refine mj_goto 62 dX13_decode_168 (by decide) ?_
  exact t_somK hk (fun hf => Hb62 r1 hf)
noncomputable def k_X13_decode_103 (l2 : Int32) (s : t_S) : Option ((t_S) ⊕ (Int32 × t_S)) :=
 t_let (t_setI s 950 125 ((s.1 950 125) - (1 : Int32))) (fun s1 =>
 if t_ix l2 400 = true then
  (f_X13_meant (s1.1 1022 (l2.toNatClampNeg)) s1).bind (fun r2 =>
 if (s1.1 1021 (l2.toNatClampNeg)) = (3 : Int32) then (k_X13_decode_139 1 r2 s1)
 else (k_X13_decode_139 0 r2 s1))
else none)
set_option maxRecDepth 4000 in
set_option maxHeartbeats 1000000 in
theorem B_X13_decode_103 {D : va_G} {cy : Nat → ClassId} {ad : Nat → Nat} {bs : Nat} {X : State → Heap → Prop} (l2 : Int32) (s : t_S) (Q : (t_S) ⊕ (Int32 × t_S) → Prop) (Hb62 : ∀ (y0 : t_S), Q (.inl y0) → mj_G D cy ad bs X cX13_decode 3 yX13_decode.cls (some .int) yX13_decode.name 204 0 0 1065 (t_P (fun v s' => ∃ x, v = some (.int x) ∧ Q (.inr ((x, s'))))) 62 [(0, .ref 950)] [] (t_m y0) 1065 0 0) (hk : t_hk (k_X13_decode_103 l2 s) Q) : mj_G D cy ad bs X cX13_decode 3 yX13_decode.cls (some .int) yX13_decode.name 204 0 0 1065 (t_P (fun v s' => ∃ x, v = some (.int x) ∧ Q (.inr ((x, s'))))) 103 [(0, .ref 950), (2, .int l2)] [] (t_m s) 1065 0 0 := by
  refine mj_aload_n dX13_decode_103 0 rfl ?_
  refine mj_dup dX13_decode_104 rfl ?_
  refine t_getI dX13_decode_105 F_X13_1167 qf_950_125 ?_
  refine mj_iconst (v := 1) dX13_decode_108 (by decide) ?_
  refine mj_isub dX13_decode_109 ?_
  refine t_putIK dX13_decode_110 F_X13_1167 qf_950_125 rfl (fun s1 ws1 => t_letE hk ws1 (fun hk => ?_))
  refine mj_aload_n dX13_decode_113 0 rfl ?_
  refine mj_aload_n dX13_decode_114 0 rfl ?_
  refine mj_aload_n dX13_decode_115 0 rfl ?_
  refine t_getR 1022 dX13_decode_116 F_X13_232 qr_950_123 ?_
  refine mj_iload_n dX13_decode_119 1 rfl ?_
  refine t_chkK hk (fun c0 hk => ?_)
  refine t_iald dX13_decode_120 qa_1022 (t_ixv c0) ?_
  refine t_bndK hk (fun r2 er2 hk => ?_)
  refine t_callViP dX13_decode_121 M_X13_meant (C_X13_meant _ _ _ er2) ML_X13_1036 IM_X13_meant SE_X13_meant qc_950 rfl (As := [.int (s1.1 1022 (l2.toNatClampNeg))]) rfl rfl (Nat.le_of_ble_eq_true rfl) (Nat.le_of_ble_eq_true rfl) (Nat.le_of_ble_eq_true rfl) (Nat.le_of_ble_eq_true rfl) ?_
  refine mj_aload_n dX13_decode_124 0 rfl ?_
  refine t_getR 1021 dX13_decode_125 F_X13_229 qr_950_122 ?_
  refine mj_iload_n dX13_decode_128 1 rfl ?_
  refine t_iald dX13_decode_129 qa_1021 (t_ixv c0) ?_
  refine mj_iconst (v := 3) dX13_decode_130 (by decide) ?_
  refine mj_icmp_ne 138 dX13_decode_131 (by decide) (fun z => t_negK hk z (fun hk => ?_)) (fun z => t_posK hk z (fun hk => ?_))
  · refine mj_lconst (v := 0) dX13_decode_138 (by decide) ?_
    refine mj_sublv [(0, .ref 950)] [0] rfl ?_
    exact B_X13_decode_139 _ _ _ _ (fun y0 hx => Hb62 y0 hx) hk
  · refine mj_lconst (v := 1) dX13_decode_134 (by decide) ?_
    refine mj_goto 139 dX13_decode_135 (by decide) ?_
    refine mj_sublv [(0, .ref 950)] [0] rfl ?_
    exact B_X13_decode_139 _ _ _ _ (fun y0 hx => Hb62 y0 hx) hk
noncomputable def k_X13_decode_62 (s : t_S) : Option ((t_S) ⊕ (Int32 × t_S)) :=
 if (s.1 950 125) ≤ (0 : Int32) then ((k_X13_decode_171 s).map Sum.inr)
 else (if (s.1 950 127) = (-1 : Int32) then (if t_ix ((s.1 950 125) - (1 : Int32)) 400 = true then
  if (s.1 1021 (((s.1 950 125) - (1 : Int32)).toNatClampNeg)) = (0 : Int32) then (k_X13_decode_103 ((s.1 950 125) - (1 : Int32)) s)
 else (if (s.1 1021 (((s.1 950 125) - (1 : Int32)).toNatClampNeg)) = (3 : Int32) then (k_X13_decode_103 ((s.1 950 125) - (1 : Int32)) s)
 else (if (s.1 1021 (((s.1 950 125) - (1 : Int32)).toNatClampNeg)) = (1 : Int32) then ((f_X13_goOnList ((s.1 950 125) - (1 : Int32)) s).bind (fun r3 =>
 some (.inl r3)))
 else ((f_X13_goOnRecord ((s.1 950 125) - (1 : Int32)) s).bind (fun r2 =>
 some (.inl r2)))))
else none)
 else ((k_X13_decode_171 s).map Sum.inr))
set_option maxRecDepth 4000 in
set_option maxHeartbeats 1000000 in
theorem B_X13_decode_62 {D : va_G} {cy : Nat → ClassId} {ad : Nat → Nat} {bs : Nat} {X : State → Heap → Prop} (s : t_S) (Q : (t_S) ⊕ (Int32 × t_S) → Prop) (Hb62 : ∀ (y0 : t_S), Q (.inl y0) → mj_G D cy ad bs X cX13_decode 3 yX13_decode.cls (some .int) yX13_decode.name 204 0 0 1065 (t_P (fun v s' => ∃ x, v = some (.int x) ∧ Q (.inr ((x, s'))))) 62 [(0, .ref 950)] [] (t_m y0) 1065 0 0) (hk : t_hk (k_X13_decode_62 s) Q) : mj_G D cy ad bs X cX13_decode 3 yX13_decode.cls (some .int) yX13_decode.name 204 0 0 1065 (t_P (fun v s' => ∃ x, v = some (.int x) ∧ Q (.inr ((x, s'))))) 62 [(0, .ref 950)] [] (t_m s) 1065 0 0 := by
  refine mj_aload_n dX13_decode_62 0 rfl ?_
  refine t_getI dX13_decode_63 F_X13_1167 qf_950_125 ?_
  refine mj_if_le 171 dX13_decode_66 (by decide) (fun z => t_posK hk z (fun hk => ?_)) (fun z => t_negK hk z (fun hk => ?_))
  · refine t_mapK hk (fun hk => ?_)
    exact B_X13_decode_171 _ _ hk
  · refine mj_aload_n dX13_decode_69 0 rfl ?_
    refine t_getI dX13_decode_70 F_X13_1155 qf_950_127 ?_
    refine mj_iconst (v := (-1)) dX13_decode_73 (by decide) ?_
    refine mj_icmp_ne 171 dX13_decode_74 (by decide) (fun z => t_negK hk z (fun hk => ?_)) (fun z => t_posK hk z (fun hk => ?_))
    · refine t_mapK hk (fun hk => ?_)
      exact B_X13_decode_171 _ _ hk
    · refine mj_aload_n dX13_decode_77 0 rfl ?_
      refine t_getI dX13_decode_78 F_X13_1167 qf_950_125 ?_
      refine mj_iconst (v := 1) dX13_decode_81 (by decide) ?_
      refine mj_isub dX13_decode_82 ?_
      refine mj_istore_n 2 (lv2 := [(2, .int ((s.1 950 125) - (1 : Int32))), (0, .ref 950)]) dX13_decode_83 rfl (by decide) rfl ?_
      refine mj_aload_n dX13_decode_84 1 rfl ?_
      refine t_getR 1021 dX13_decode_85 F_X13_229 qr_950_122 ?_
      refine mj_iload_n dX13_decode_88 0 rfl ?_
      refine t_chkK hk (fun c0 hk => ?_)
      refine t_iald dX13_decode_89 qa_1021 (t_ixv c0) ?_
      refine mj_if_eq 103 dX13_decode_90 (by decide) (fun z => t_posK hk z (fun hk => ?_)) (fun z => t_negK hk z (fun hk => ?_))
      · refine mj_sublv [(0, .ref 950), (2, .int ((s.1 950 125) - (1 : Int32)))] [1, 0] rfl ?_
        exact B_X13_decode_103 _ _ _ (fun y0 hx => Hb62 y0 hx) hk
      · refine mj_aload_n dX13_decode_93 1 rfl ?_
        refine t_getR 1021 dX13_decode_94 F_X13_229 qr_950_122 ?_
        refine mj_iload_n dX13_decode_97 0 rfl ?_
        refine t_iald dX13_decode_98 qa_1021 (t_ixv c0) ?_
        refine mj_iconst (v := 3) dX13_decode_99 (by decide) ?_
        refine mj_icmp_ne 145 dX13_decode_100 (by decide) (fun z => t_negK hk z (fun hk => ?_)) (fun z => t_posK hk z (fun hk => ?_))
        · refine mj_aload_n dX13_decode_145 1 rfl ?_
          refine t_getR 1021 dX13_decode_146 F_X13_229 qr_950_122 ?_
          refine mj_iload_n dX13_decode_149 0 rfl ?_
          refine t_iald dX13_decode_150 qa_1021 (t_ixv c0) ?_
          refine mj_iconst (v := 1) dX13_decode_151 (by decide) ?_
          refine mj_icmp_ne 163 dX13_decode_152 (by decide) (fun z => t_negK hk z (fun hk => ?_)) (fun z => t_posK hk z (fun hk => ?_))
          · refine mj_aload_n dX13_decode_163 1 rfl ?_
            refine mj_iload_n dX13_decode_164 0 rfl ?_
            refine t_bndK hk (fun r2 er2 hk => ?_)
            refine t_callVvE dX13_decode_165 M_X13_goOnRecord (C_X13_goOnRecord _ _ _ er2) ML_X13_1180 IM_X13_goOnRecord SE_X13_goOnRecord qc_950 rfl (As := [.int ((s.1 950 125) - (1 : Int32))]) rfl rfl (Nat.le_of_ble_eq_true rfl) (Nat.le_of_ble_eq_true rfl) (Nat.le_of_ble_eq_true rfl) (Nat.le_of_ble_eq_true rfl) ?_
            refine mj_goto 62 dX13_decode_168 (by decide) ?_
            refine mj_sublv [(0, .ref 950)] [1] rfl ?_
            exact t_somK hk (fun hf => Hb62 r2 hf)
          · refine mj_aload_n dX13_decode_155 1 rfl ?_
            refine mj_iload_n dX13_decode_156 0 rfl ?_
            refine t_bndK hk (fun r3 er3 hk => ?_)
            refine t_callVvE dX13_decode_157 M_X13_goOnList (C_X13_goOnList _ _ _ er3) ML_X13_1177 IM_X13_goOnList SE_X13_goOnList qc_950 rfl (As := [.int ((s.1 950 125) - (1 : Int32))]) rfl rfl (Nat.le_of_ble_eq_true rfl) (Nat.le_of_ble_eq_true rfl) (Nat.le_of_ble_eq_true rfl) (Nat.le_of_ble_eq_true rfl) ?_
            refine mj_goto 168 dX13_decode_160 (by decide) ?_
            refine mj_goto 62 dX13_decode_168 (by decide) ?_
            refine mj_sublv [(0, .ref 950)] [1] rfl ?_
            exact t_somK hk (fun hf => Hb62 r3 hf)
        · refine mj_sublv [(0, .ref 950), (2, .int ((s.1 950 125) - (1 : Int32)))] [1, 0] rfl ?_
          exact B_X13_decode_103 _ _ _ (fun y0 hx => Hb62 y0 hx) hk
noncomputable def b_X13_decode_62 (x : t_S) : Option ((t_S) ⊕ (Int32 × t_S)) := k_X13_decode_62 x
set_option maxRecDepth 4000 in
set_option maxHeartbeats 1000000 in
theorem LH_X13_decode_62 {D : va_G} {cy : Nat → ClassId} {ad : Nat → Nat} {bs : Nat} {X : State → Heap → Prop} : ∀ (n : Nat) (y0 : t_S) (Q : Int32 × t_S → Prop) (hk : t_hk (t_loop (b_X13_decode_62) n y0) Q), mj_G D cy ad bs X cX13_decode 3 yX13_decode.cls (some .int) yX13_decode.name 204 0 0 1065 (t_P (fun v s' => ∃ x, v = some (.int x) ∧ Q ((x, s')))) 62 [(0, .ref 950)] [] (t_m y0) 1065 0 0 := by
  intro n
  induction n with
  | zero => intro y0 Q hk; obtain ⟨r, hr, _⟩ := hk; cases hr
  | succ n ih =>
    intro y0 Q hk
    exact B_X13_decode_62 y0 (fun y => t_lq (b_X13_decode_62) n Q y) (fun y0' hy => ih y0' Q hy) (t_lp (b := b_X13_decode_62) (n := n) (x := y0) hk)
noncomputable def f_X13_decode (x1 : Int32) (s : t_S) : Option (Int32 × t_S) :=
 if (f_X13_noType x1 s) = (0 : Int32) then (if (s.1 950 96) = (40 : Int32) then (some ((-3 : Int32), s))
 else ((f_X13_findLight s).bind (fun r2 =>
 t_let (t_setI r2 950 125 (0 : Int32)) (fun s1 =>
 t_let (t_setI s1 950 126 (0 : Int32)) (fun s2 =>
 t_let (t_setI s2 950 127 (-1 : Int32)) (fun s3 =>
 t_let (t_setJ s3 950 128 (0 : Int64)) (fun s4 =>
 t_let (t_setI s4 950 129 (0 : Int32)) (fun s5 =>
 if t_ix x1 60 = true then
  (f_X13_openOne (0 : Int32) (s5.1 965 (x1.toNatClampNeg)) s5).bind (fun r4 =>
 t_loop (b_X13_decode_62) t_N r4)
else none))))))))
 else (some ((-1 : Int32), s))
set_option maxRecDepth 4000 in
set_option maxHeartbeats 1000000 in
theorem C_X13_decode (x1 : Int32) (s : t_S) (r : Int32 × t_S) (hr : f_X13_decode x1 s = some r) : t_C yX13_decode cX13_decode 3 (some .int) 204 [.ref 950, .int x1] s (fun v s' => v = some (.int r.1) ∧ s' = r.2) := by
  refine t_C.imp (P := fun v s' => ∃ x, v = some (.int x) ∧ (fun q => q = r) ((x, s'))) (t_C.of (by decide +kernel) (Nat.le_of_ble_eq_true rfl) ?_) (fun v s' hp => by obtain ⟨x, rfl, rfl⟩ := hp; exact ⟨rfl, rfl⟩)
  intro D cy ad bs X
  have hk : t_hk (f_X13_decode x1 s) (fun q => q = r) := ⟨r, hr, rfl⟩
  show mj_G D cy ad bs X cX13_decode 3 yX13_decode.cls (some .int) yX13_decode.name 204 0 0 1065 (t_P (fun v s' => ∃ x, v = some (.int x) ∧ (fun q => q = r) ((x, s')))) 0 [(0, .ref 950), (1, .int x1)] [] (t_m s) 1065 0 0
  refine mj_aload_n dX13_decode_0 0 rfl ?_
  refine mj_iload_n dX13_decode_1 1 rfl ?_
  refine t_callViP dX13_decode_2 M_X13_noType (C_X13_noType _ _) ML_X13_1051 IM_X13_noType SE_X13_noType qc_950 rfl (As := [.int x1]) rfl rfl (Nat.le_of_ble_eq_true rfl) (Nat.le_of_ble_eq_true rfl) (Nat.le_of_ble_eq_true rfl) (Nat.le_of_ble_eq_true rfl) ?_
  refine mj_if_eq 10 dX13_decode_5 (by decide) (fun z => t_posK hk z (fun hk => ?_)) (fun z => t_negK hk z (fun hk => ?_))
  · refine mj_aload_n dX13_decode_10 0 rfl ?_
    refine t_getI dX13_decode_11 F_X13_654 qf_950_96 ?_
    refine mj_bipush (v := 40) dX13_decode_14 (by decide) ?_
    refine mj_icmp_ne 22 dX13_decode_16 (by decide) (fun z => t_negK hk z (fun hk => ?_)) (fun z => t_posK hk z (fun hk => ?_))
    · refine mj_aload_n dX13_decode_22 0 rfl ?_
      refine t_bndK hk (fun r2 er2 hk => ?_)
      refine t_callVvE dX13_decode_23 M_X13_findLight (C_X13_findLight _ _ er2) ML_X13_1073 IM_X13_findLight SE_X13_findLight qc_950 rfl (As := []) rfl rfl (Nat.le_of_ble_eq_true rfl) (Nat.le_of_ble_eq_true rfl) (Nat.le_of_ble_eq_true rfl) (Nat.le_of_ble_eq_true rfl) ?_
      refine mj_aload_n dX13_decode_26 0 rfl ?_
      refine mj_iconst (v := 0) dX13_decode_27 (by decide) ?_
      refine t_putIK dX13_decode_28 F_X13_1167 qf_950_125 rfl (fun s1 ws1 => t_letE hk ws1 (fun hk => ?_))
      refine mj_aload_n dX13_decode_31 0 rfl ?_
      refine mj_iconst (v := 0) dX13_decode_32 (by decide) ?_
      refine t_putIK dX13_decode_33 F_X13_1158 qf_950_126 rfl (fun s2 ws2 => t_letE hk ws2 (fun hk => ?_))
      refine mj_aload_n dX13_decode_36 0 rfl ?_
      refine mj_iconst (v := (-1)) dX13_decode_37 (by decide) ?_
      refine t_putIK dX13_decode_38 F_X13_1155 qf_950_127 rfl (fun s3 ws3 => t_letE hk ws3 (fun hk => ?_))
      refine mj_aload_n dX13_decode_41 0 rfl ?_
      refine mj_lconst (v := 0) dX13_decode_42 (by decide) ?_
      refine t_putJK dX13_decode_43 F_X13_1164 qf_950_128 rfl (fun s4 ws4 => t_letE hk ws4 (fun hk => ?_))
      refine mj_aload_n dX13_decode_46 0 rfl ?_
      refine mj_iconst (v := 0) dX13_decode_47 (by decide) ?_
      refine t_putIK dX13_decode_48 F_X13_1152 qf_950_129 rfl (fun s5 ws5 => t_letE hk ws5 (fun hk => ?_))
      refine mj_aload_n dX13_decode_51 0 rfl ?_
      refine mj_iconst (v := 0) dX13_decode_52 (by decide) ?_
      refine mj_aload_n dX13_decode_53 0 rfl ?_
      refine t_getR 965 dX13_decode_54 F_X13_57 qr_950_38 ?_
      refine mj_iload_n dX13_decode_57 1 rfl ?_
      refine t_chkK hk (fun c2 hk => ?_)
      refine t_iald dX13_decode_58 qa_965 (t_ixv c2) ?_
      refine t_bndK hk (fun r4 er4 hk => ?_)
      refine t_callVvE dX13_decode_59 M_X13_openOne (C_X13_openOne _ _ _ _ er4) ML_X13_1170 IM_X13_openOne SE_X13_openOne qc_950 rfl (As := [.int 0, .int (s5.1 965 (x1.toNatClampNeg))]) rfl rfl (Nat.le_of_ble_eq_true rfl) (Nat.le_of_ble_eq_true rfl) (Nat.le_of_ble_eq_true rfl) (Nat.le_of_ble_eq_true rfl) ?_
      refine mj_sublv [(0, .ref 950)] [0] rfl ?_
      exact LH_X13_decode_62 _ r4 _ hk
    · refine mj_bipush (v := (-3)) dX13_decode_19 (by decide) ?_
      exact t_somK hk (fun hf => t_iret dX13_decode_21 rfl rfl ⟨_, rfl, hf⟩ (Nat.le_of_ble_eq_true rfl) (Nat.le_of_ble_eq_true rfl))
  · refine mj_iconst (v := (-1)) dX13_decode_8 (by decide) ?_
    exact t_somK hk (fun hf => t_iret dX13_decode_9 rfl rfl ⟨_, rfl, hf⟩ (Nat.le_of_ble_eq_true rfl) (Nat.le_of_ble_eq_true rfl))

