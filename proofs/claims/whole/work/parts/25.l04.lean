/-! Methods as functions, 4: X0_assignPart, X0_topBecomes, X0_index, X0_isOrdered, X8_extent, X8_putSign, X8_sign, X8_textCell, X0_join, X0_replaceTop, X0_reckon, X0_truth, X8_same -/
theorem dX0_assignPart_0 : decode cX0_assignPart 0 = .ok (.aload_n 0, 1) := by decide +kernel
theorem dX0_assignPart_1 : decode cX0_assignPart 1 = .ok (.iconst 0, 1) := by decide +kernel
theorem dX0_assignPart_10 : decode cX0_assignPart 10 = .ok (.aload_n 0, 1) := by decide +kernel
theorem dX0_assignPart_100 : decode cX0_assignPart 100 = .ok (.bipush 38, 2) := by decide +kernel
theorem dX0_assignPart_102 : decode cX0_assignPart 102 = .ok (.if_icmp .ne 95, 3) := by decide +kernel
theorem dX0_assignPart_105 : decode cX0_assignPart 105 = .ok (.aload_n 0, 1) := by decide +kernel
theorem dX0_assignPart_106 : decode cX0_assignPart 106 = .ok (.getfield 9, 3) := by decide +kernel
theorem dX0_assignPart_109 : decode cX0_assignPart 109 = .ok (.iload 6, 2) := by decide +kernel
theorem dX0_assignPart_11 : decode cX0_assignPart 11 = .ok (.getfield 29, 3) := by decide +kernel
theorem dX0_assignPart_111 : decode cX0_assignPart 111 = .ok (.iaload, 1) := by decide +kernel
theorem dX0_assignPart_112 : decode cX0_assignPart 112 = .ok (.bipush 37, 2) := by decide +kernel
theorem dX0_assignPart_114 : decode cX0_assignPart 114 = .ok (.if_icmp .ne 14, 3) := by decide +kernel
theorem dX0_assignPart_117 : decode cX0_assignPart 117 = .ok (.aload_n 0, 1) := by decide +kernel
theorem dX0_assignPart_118 : decode cX0_assignPart 118 = .ok (.getfield 13, 3) := by decide +kernel
theorem dX0_assignPart_121 : decode cX0_assignPart 121 = .ok (.iload 6, 2) := by decide +kernel
theorem dX0_assignPart_123 : decode cX0_assignPart 123 = .ok (.iaload, 1) := by decide +kernel
theorem dX0_assignPart_124 : decode cX0_assignPart 124 = .ok (.i2l, 1) := by decide +kernel
theorem dX0_assignPart_125 : decode cX0_assignPart 125 = .ok (.goto 12, 3) := by decide +kernel
theorem dX0_assignPart_128 : decode cX0_assignPart 128 = .ok (.aload_n 0, 1) := by decide +kernel
theorem dX0_assignPart_129 : decode cX0_assignPart 129 = .ok (.iload 5, 2) := by decide +kernel
theorem dX0_assignPart_131 : decode cX0_assignPart 131 = .ok (.invokevirtual 230, 3) := by decide +kernel
theorem dX0_assignPart_134 : decode cX0_assignPart 134 = .ok (.invokestatic 166, 3) := by decide +kernel
theorem dX0_assignPart_137 : decode cX0_assignPart 137 = .ok (.lstore 7, 2) := by decide +kernel
theorem dX0_assignPart_139 : decode cX0_assignPart 139 = .ok (.aload_n 0, 1) := by decide +kernel
theorem dX0_assignPart_14 : decode cX0_assignPart 14 = .ok (.iconst 0, 1) := by decide +kernel
theorem dX0_assignPart_140 : decode cX0_assignPart 140 = .ok (.getfield 9, 3) := by decide +kernel
theorem dX0_assignPart_143 : decode cX0_assignPart 143 = .ok (.iload 6, 2) := by decide +kernel
theorem dX0_assignPart_145 : decode cX0_assignPart 145 = .ok (.iaload, 1) := by decide +kernel
theorem dX0_assignPart_146 : decode cX0_assignPart 146 = .ok (.bipush 38, 2) := by decide +kernel
theorem dX0_assignPart_148 : decode cX0_assignPart 148 = .ok (.if_icmp .ne 6, 3) := by decide +kernel
theorem dX0_assignPart_15 : decode cX0_assignPart 15 = .ok (.ldc2_w 69, 3) := by decide +kernel
theorem dX0_assignPart_151 : decode cX0_assignPart 151 = .ok (.iinc 5 1, 3) := by decide +kernel
theorem dX0_assignPart_154 : decode cX0_assignPart 154 = .ok (.iload 6, 2) := by decide +kernel
theorem dX0_assignPart_156 : decode cX0_assignPart 156 = .ok (.iload_n 2, 1) := by decide +kernel
theorem dX0_assignPart_157 : decode cX0_assignPart 157 = .ok (.iconst 1, 1) := by decide +kernel
theorem dX0_assignPart_158 : decode cX0_assignPart 158 = .ok (.isub, 1) := by decide +kernel
theorem dX0_assignPart_159 : decode cX0_assignPart 159 = .ok (.if_icmp .ne 21, 3) := by decide +kernel
theorem dX0_assignPart_162 : decode cX0_assignPart 162 = .ok (.aload_n 0, 1) := by decide +kernel
theorem dX0_assignPart_163 : decode cX0_assignPart 163 = .ok (.aload_n 0, 1) := by decide +kernel
theorem dX0_assignPart_164 : decode cX0_assignPart 164 = .ok (.getfield 9, 3) := by decide +kernel
theorem dX0_assignPart_167 : decode cX0_assignPart 167 = .ok (.iload 6, 2) := by decide +kernel
theorem dX0_assignPart_169 : decode cX0_assignPart 169 = .ok (.iaload, 1) := by decide +kernel
theorem dX0_assignPart_170 : decode cX0_assignPart 170 = .ok (.lload 7, 2) := by decide +kernel
theorem dX0_assignPart_172 : decode cX0_assignPart 172 = .ok (.iload 4, 2) := by decide +kernel
theorem dX0_assignPart_174 : decode cX0_assignPart 174 = .ok (.invokevirtual 280, 3) := by decide +kernel
theorem dX0_assignPart_177 : decode cX0_assignPart 177 = .ok (.goto 20, 3) := by decide +kernel
theorem dX0_assignPart_18 : decode cX0_assignPart 18 = .ok (.lastore, 1) := by decide +kernel
theorem dX0_assignPart_180 : decode cX0_assignPart 180 = .ok (.aload_n 0, 1) := by decide +kernel
theorem dX0_assignPart_181 : decode cX0_assignPart 181 = .ok (.aload_n 0, 1) := by decide +kernel
theorem dX0_assignPart_182 : decode cX0_assignPart 182 = .ok (.getfield 9, 3) := by decide +kernel
theorem dX0_assignPart_185 : decode cX0_assignPart 185 = .ok (.iload 6, 2) := by decide +kernel
theorem dX0_assignPart_187 : decode cX0_assignPart 187 = .ok (.iaload, 1) := by decide +kernel
theorem dX0_assignPart_188 : decode cX0_assignPart 188 = .ok (.lload 7, 2) := by decide +kernel
theorem dX0_assignPart_19 : decode cX0_assignPart 19 = .ok (.aload_n 0, 1) := by decide +kernel
theorem dX0_assignPart_190 : decode cX0_assignPart 190 = .ok (.iload 4, 2) := by decide +kernel
theorem dX0_assignPart_192 : decode cX0_assignPart 192 = .ok (.invokevirtual 284, 3) := by decide +kernel
theorem dX0_assignPart_195 : decode cX0_assignPart 195 = .ok (.istore 4, 2) := by decide +kernel
theorem dX0_assignPart_197 : decode cX0_assignPart 197 = .ok (.iinc 6 1, 3) := by decide +kernel
theorem dX0_assignPart_2 : decode cX0_assignPart 2 = .ok (.putfield 71, 3) := by decide +kernel
theorem dX0_assignPart_20 : decode cX0_assignPart 20 = .ok (.getfield 38, 3) := by decide +kernel
theorem dX0_assignPart_200 : decode cX0_assignPart 200 = .ok (.goto (-132), 3) := by decide +kernel
theorem dX0_assignPart_203 : decode cX0_assignPart 203 = .ok (.aload_n 0, 1) := by decide +kernel
theorem dX0_assignPart_204 : decode cX0_assignPart 204 = .ok (.getfield 71, 3) := by decide +kernel
theorem dX0_assignPart_207 : decode cX0_assignPart 207 = .ok (.ireturn, 1) := by decide +kernel
theorem dX0_assignPart_23 : decode cX0_assignPart 23 = .ok (.getfield 277, 3) := by decide +kernel
theorem dX0_assignPart_26 : decode cX0_assignPart 26 = .ok (.iload_n 3, 1) := by decide +kernel
theorem dX0_assignPart_27 : decode cX0_assignPart 27 = .ok (.iaload, 1) := by decide +kernel
theorem dX0_assignPart_28 : decode cX0_assignPart 28 = .ok (.ifCond .le 31, 3) := by decide +kernel
theorem dX0_assignPart_31 : decode cX0_assignPart 31 = .ok (.aload_n 0, 1) := by decide +kernel
theorem dX0_assignPart_32 : decode cX0_assignPart 32 = .ok (.getfield 38, 3) := by decide +kernel
theorem dX0_assignPart_35 : decode cX0_assignPart 35 = .ok (.getfield 114, 3) := by decide +kernel
theorem dX0_assignPart_38 : decode cX0_assignPart 38 = .ok (.iload_n 3, 1) := by decide +kernel
theorem dX0_assignPart_39 : decode cX0_assignPart 39 = .ok (.bipush 120, 2) := by decide +kernel
theorem dX0_assignPart_41 : decode cX0_assignPart 41 = .ok (.imul, 1) := by decide +kernel
theorem dX0_assignPart_42 : decode cX0_assignPart 42 = .ok (.aload_n 0, 1) := by decide +kernel
theorem dX0_assignPart_43 : decode cX0_assignPart 43 = .ok (.getfield 29, 3) := by decide +kernel
theorem dX0_assignPart_46 : decode cX0_assignPart 46 = .ok (.iconst 0, 1) := by decide +kernel
theorem dX0_assignPart_47 : decode cX0_assignPart 47 = .ok (.aload_n 0, 1) := by decide +kernel
theorem dX0_assignPart_48 : decode cX0_assignPart 48 = .ok (.getfield 38, 3) := by decide +kernel
theorem dX0_assignPart_5 : decode cX0_assignPart 5 = .ok (.aload_n 0, 1) := by decide +kernel
theorem dX0_assignPart_51 : decode cX0_assignPart 51 = .ok (.getfield 277, 3) := by decide +kernel
theorem dX0_assignPart_54 : decode cX0_assignPart 54 = .ok (.iload_n 3, 1) := by decide +kernel
theorem dX0_assignPart_55 : decode cX0_assignPart 55 = .ok (.iaload, 1) := by decide +kernel
theorem dX0_assignPart_56 : decode cX0_assignPart 56 = .ok (.invokestatic 154, 3) := by decide +kernel
theorem dX0_assignPart_59 : decode cX0_assignPart 59 = .ok (.iconst 0, 1) := by decide +kernel
theorem dX0_assignPart_6 : decode cX0_assignPart 6 = .ok (.iconst 0, 1) := by decide +kernel
theorem dX0_assignPart_60 : decode cX0_assignPart 60 = .ok (.istore 4, 2) := by decide +kernel
theorem dX0_assignPart_62 : decode cX0_assignPart 62 = .ok (.iconst 0, 1) := by decide +kernel
theorem dX0_assignPart_63 : decode cX0_assignPart 63 = .ok (.istore 5, 2) := by decide +kernel
theorem dX0_assignPart_65 : decode cX0_assignPart 65 = .ok (.iload_n 1, 1) := by decide +kernel
theorem dX0_assignPart_66 : decode cX0_assignPart 66 = .ok (.istore 6, 2) := by decide +kernel
theorem dX0_assignPart_68 : decode cX0_assignPart 68 = .ok (.iload 6, 2) := by decide +kernel
theorem dX0_assignPart_7 : decode cX0_assignPart 7 = .ok (.putfield 274, 3) := by decide +kernel
theorem dX0_assignPart_70 : decode cX0_assignPart 70 = .ok (.iload_n 2, 1) := by decide +kernel
theorem dX0_assignPart_71 : decode cX0_assignPart 71 = .ok (.if_icmp .ge 132, 3) := by decide +kernel
theorem dX0_assignPart_74 : decode cX0_assignPart 74 = .ok (.aload_n 0, 1) := by decide +kernel
theorem dX0_assignPart_75 : decode cX0_assignPart 75 = .ok (.getfield 71, 3) := by decide +kernel
theorem dX0_assignPart_78 : decode cX0_assignPart 78 = .ok (.ifCond .ne 125, 3) := by decide +kernel
theorem dX0_assignPart_81 : decode cX0_assignPart 81 = .ok (.aload_n 0, 1) := by decide +kernel
theorem dX0_assignPart_82 : decode cX0_assignPart 82 = .ok (.getfield 9, 3) := by decide +kernel
theorem dX0_assignPart_85 : decode cX0_assignPart 85 = .ok (.iload 6, 2) := by decide +kernel
theorem dX0_assignPart_87 : decode cX0_assignPart 87 = .ok (.iaload, 1) := by decide +kernel
theorem dX0_assignPart_88 : decode cX0_assignPart 88 = .ok (.bipush 37, 2) := by decide +kernel
theorem dX0_assignPart_90 : decode cX0_assignPart 90 = .ok (.if_icmp .eq 15, 3) := by decide +kernel
theorem dX0_assignPart_93 : decode cX0_assignPart 93 = .ok (.aload_n 0, 1) := by decide +kernel
theorem dX0_assignPart_94 : decode cX0_assignPart 94 = .ok (.getfield 9, 3) := by decide +kernel
theorem dX0_assignPart_97 : decode cX0_assignPart 97 = .ok (.iload 6, 2) := by decide +kernel
theorem dX0_assignPart_99 : decode cX0_assignPart 99 = .ok (.iaload, 1) := by decide +kernel
noncomputable def k_X0_assignPart_197 (l2 : Int32) (l4 : Int32) (l5 : Int32) (l6 : Int32) (s : t_S) : Option ((Int32 × Int32 × Int32 × Int32 × t_S) ⊕ (Int32 × t_S)) :=
 some (.inl (l2, l4, l5, (l6 + 1), s))
set_option maxRecDepth 4000 in
set_option maxHeartbeats 1000000 in
theorem B_X0_assignPart_197 {D : va_G} {cy : Nat → ClassId} {ad : Nat → Nat} {bs : Nat} {X : State → Heap → Prop} (l2 : Int32) (l4 : Int32) (l5 : Int32) (l6 : Int32) (s : t_S) (Q : (Int32 × Int32 × Int32 × Int32 × t_S) ⊕ (Int32 × t_S) → Prop) (Hb68 : ∀ (y0 : Int32) (y1 : Int32) (y2 : Int32) (y3 : Int32) (y4 : t_S), Q (.inl (y0, y1, y2, y3, y4)) → mj_G D cy ad bs X cX0_assignPart 9 yX0_assignPart.cls (some .int) yX0_assignPart.name 4 0 0 1065 (t_P (fun v s' => ∃ x, v = some (.int x) ∧ Q (.inr ((x, s'))))) 68 [(0, .ref 334), (2, .int (y0)), (4, .int (y1)), (5, .int (y2)), (6, .int (y3))] [] (t_m y4) 1065 0 0) (hk : t_hk (k_X0_assignPart_197 l2 l4 l5 l6 s) Q) : mj_G D cy ad bs X cX0_assignPart 9 yX0_assignPart.cls (some .int) yX0_assignPart.name 4 0 0 1065 (t_P (fun v s' => ∃ x, v = some (.int x) ∧ Q (.inr ((x, s'))))) 197 [(0, .ref 334), (2, .int l2), (4, .int l4), (5, .int l5), (6, .int l6)] [] (t_m s) 1065 0 0 := by
  refine mj_iinc (k := 4) (v := (l6 + 1)) (lv2 := [(6, .int (l6 + 1)), (0, .ref 334), (2, .int l2), (4, .int l4), (5, .int l5)]) dX0_assignPart_197 rfl rfl (by decide) rfl ?_
  refine mj_goto 68 dX0_assignPart_200 (by decide) ?_
  refine mj_sublv [(0, .ref 334), (2, .int l2), (4, .int l4), (5, .int l5), (6, .int (l6 + 1))] [1, 2, 3, 4, 0] rfl ?_
  exact t_somK hk (fun hf => Hb68 l2 l4 l5 (l6 + 1) s hf)
noncomputable def k_X0_assignPart_154 (l2 : Int32) (l4 : Int32) (l5 : Int32) (l6 : Int32) (l7 : Int64) (s : t_S) : Option ((Int32 × Int32 × Int32 × Int32 × t_S) ⊕ (Int32 × t_S)) :=
 if l6 = (l2 - (1 : Int32)) then (if t_ix l6 16000 = true then
  (f_X0_putPart (s.1 335 (l6.toNatClampNeg)) l7 l4 s).bind (fun r4 =>
 k_X0_assignPart_197 l2 l4 l5 l6 r4)
else none)
 else (if t_ix l6 16000 = true then
  (f_X0_stepInto (s.1 335 (l6.toNatClampNeg)) l7 l4 s).bind (fun r2 =>
 k_X0_assignPart_197 l2 r2.1 l5 l6 r2.2)
else none)
set_option maxRecDepth 4000 in
set_option maxHeartbeats 1000000 in
theorem B_X0_assignPart_154 {D : va_G} {cy : Nat → ClassId} {ad : Nat → Nat} {bs : Nat} {X : State → Heap → Prop} (l2 : Int32) (l4 : Int32) (l5 : Int32) (l6 : Int32) (l7 : Int64) (s : t_S) (Q : (Int32 × Int32 × Int32 × Int32 × t_S) ⊕ (Int32 × t_S) → Prop) (Hb68 : ∀ (y0 : Int32) (y1 : Int32) (y2 : Int32) (y3 : Int32) (y4 : t_S), Q (.inl (y0, y1, y2, y3, y4)) → mj_G D cy ad bs X cX0_assignPart 9 yX0_assignPart.cls (some .int) yX0_assignPart.name 4 0 0 1065 (t_P (fun v s' => ∃ x, v = some (.int x) ∧ Q (.inr ((x, s'))))) 68 [(0, .ref 334), (2, .int (y0)), (4, .int (y1)), (5, .int (y2)), (6, .int (y3))] [] (t_m y4) 1065 0 0) (hk : t_hk (k_X0_assignPart_154 l2 l4 l5 l6 l7 s) Q) : mj_G D cy ad bs X cX0_assignPart 9 yX0_assignPart.cls (some .int) yX0_assignPart.name 4 0 0 1065 (t_P (fun v s' => ∃ x, v = some (.int x) ∧ Q (.inr ((x, s'))))) 154 [(0, .ref 334), (2, .int l2), (4, .int l4), (5, .int l5), (6, .int l6), (7, .long l7)] [] (t_m s) 1065 0 0 := by
  refine mj_iload dX0_assignPart_154 4 rfl ?_
  refine mj_iload_n dX0_assignPart_156 1 rfl ?_
  refine mj_iconst (v := 1) dX0_assignPart_157 (by decide) ?_
  refine mj_isub dX0_assignPart_158 ?_
  refine mj_icmp_ne 180 dX0_assignPart_159 (by decide) (fun z => t_negK hk z (fun hk => ?_)) (fun z => t_posK hk z (fun hk => ?_))
  · refine mj_aload_n dX0_assignPart_180 0 rfl ?_
    refine mj_aload_n dX0_assignPart_181 0 rfl ?_
    refine t_getR 335 dX0_assignPart_182 F_X0_9 qr_334_0 ?_
    refine mj_iload dX0_assignPart_185 4 rfl ?_
    refine t_chkK hk (fun c0 hk => ?_)
    refine t_iald dX0_assignPart_187 qa_335 (t_ixv c0) ?_
    refine mj_lload dX0_assignPart_188 5 rfl ?_
    refine mj_iload dX0_assignPart_190 2 rfl ?_
    refine t_bndK hk (fun r2 er2 hk => ?_)
    refine t_callViE dX0_assignPart_192 M_X0_stepInto (C_X0_stepInto _ _ _ _ _ er2) ML_X0_284 IM_X0_stepInto SE_X0_stepInto qc_334 rfl (As := [.int (s.1 335 (l6.toNatClampNeg)), .long l7, .int l4]) rfl rfl (Nat.le_of_ble_eq_true rfl) (Nat.le_of_ble_eq_true rfl) (Nat.le_of_ble_eq_true rfl) (Nat.le_of_ble_eq_true rfl) ?_
    refine mj_istore (lv2 := [(4, .int r2.1), (0, .ref 334), (2, .int l2), (5, .int l5), (6, .int l6), (7, .long l7)]) dX0_assignPart_195 (by decide) rfl ?_
    refine mj_sublv [(0, .ref 334), (2, .int l2), (4, .int r2.1), (5, .int l5), (6, .int l6)] [1, 2, 0, 3, 4] rfl ?_
    exact B_X0_assignPart_197 _ _ _ _ _ _ (fun y0 y1 y2 y3 y4 hx => Hb68 y0 y1 y2 y3 y4 hx) hk
  · refine mj_aload_n dX0_assignPart_162 0 rfl ?_
    refine mj_aload_n dX0_assignPart_163 0 rfl ?_
    refine t_getR 335 dX0_assignPart_164 F_X0_9 qr_334_0 ?_
    refine mj_iload dX0_assignPart_167 4 rfl ?_
    refine t_chkK hk (fun c2 hk => ?_)
    refine t_iald dX0_assignPart_169 qa_335 (t_ixv c2) ?_
    refine mj_lload dX0_assignPart_170 5 rfl ?_
    refine mj_iload dX0_assignPart_172 2 rfl ?_
    refine t_bndK hk (fun r4 er4 hk => ?_)
    refine t_callVvE dX0_assignPart_174 M_X0_putPart (C_X0_putPart _ _ _ _ _ er4) ML_X0_280 IM_X0_putPart SE_X0_putPart qc_334 rfl (As := [.int (s.1 335 (l6.toNatClampNeg)), .long l7, .int l4]) rfl rfl (Nat.le_of_ble_eq_true rfl) (Nat.le_of_ble_eq_true rfl) (Nat.le_of_ble_eq_true rfl) (Nat.le_of_ble_eq_true rfl) ?_
    refine mj_goto 197 dX0_assignPart_177 (by decide) ?_
    refine mj_sublv [(0, .ref 334), (2, .int l2), (4, .int l4), (5, .int l5), (6, .int l6)] [0, 1, 2, 3, 4] rfl ?_
    exact B_X0_assignPart_197 _ _ _ _ _ _ (fun y0 y1 y2 y3 y4 hx => Hb68 y0 y1 y2 y3 y4 hx) hk
noncomputable def k_X0_assignPart_137 (l2 : Int32) (l4 : Int32) (l5 : Int32) (l6 : Int32) (k0 : Int64) (s : t_S) : Option ((Int32 × Int32 × Int32 × Int32 × t_S) ⊕ (Int32 × t_S)) :=
 if t_ix l6 16000 = true then
  if (s.1 335 (l6.toNatClampNeg)) = (38 : Int32) then (k_X0_assignPart_154 l2 l4 (l5 + 1) l6 k0 s)
 else (k_X0_assignPart_154 l2 l4 l5 l6 k0 s)
else none
set_option maxRecDepth 4000 in
set_option maxHeartbeats 1000000 in
theorem B_X0_assignPart_137 {D : va_G} {cy : Nat → ClassId} {ad : Nat → Nat} {bs : Nat} {X : State → Heap → Prop} (l2 : Int32) (l4 : Int32) (l5 : Int32) (l6 : Int32) (k0 : Int64) (s : t_S) (Q : (Int32 × Int32 × Int32 × Int32 × t_S) ⊕ (Int32 × t_S) → Prop) (Hb68 : ∀ (y0 : Int32) (y1 : Int32) (y2 : Int32) (y3 : Int32) (y4 : t_S), Q (.inl (y0, y1, y2, y3, y4)) → mj_G D cy ad bs X cX0_assignPart 9 yX0_assignPart.cls (some .int) yX0_assignPart.name 4 0 0 1065 (t_P (fun v s' => ∃ x, v = some (.int x) ∧ Q (.inr ((x, s'))))) 68 [(0, .ref 334), (2, .int (y0)), (4, .int (y1)), (5, .int (y2)), (6, .int (y3))] [] (t_m y4) 1065 0 0) (hk : t_hk (k_X0_assignPart_137 l2 l4 l5 l6 k0 s) Q) : mj_G D cy ad bs X cX0_assignPart 9 yX0_assignPart.cls (some .int) yX0_assignPart.name 4 0 0 1065 (t_P (fun v s' => ∃ x, v = some (.int x) ∧ Q (.inr ((x, s'))))) 137 [(0, .ref 334), (2, .int l2), (4, .int l4), (5, .int l5), (6, .int l6)] [.long k0] (t_m s) 1065 0 0 := by
  refine mj_lstore (lv2 := [(7, .long k0), (0, .ref 334), (2, .int l2), (4, .int l4), (5, .int l5), (6, .int l6)]) dX0_assignPart_137 (by decide) rfl ?_
  refine mj_aload_n dX0_assignPart_139 1 rfl ?_
  refine t_getR 335 dX0_assignPart_140 F_X0_9 qr_334_0 ?_
  refine mj_iload dX0_assignPart_143 5 rfl ?_
  refine t_chkK hk (fun c0 hk => ?_)
  refine t_iald dX0_assignPart_145 qa_335 (t_ixv c0) ?_
  refine mj_bipush (v := 38) dX0_assignPart_146 (by decide) ?_
  refine mj_icmp_ne 154 dX0_assignPart_148 (by decide) (fun z => t_negK hk z (fun hk => ?_)) (fun z => t_posK hk z (fun hk => ?_))
  · refine mj_sublv [(0, .ref 334), (2, .int l2), (4, .int l4), (5, .int l5), (6, .int l6), (7, .long k0)] [1, 2, 3, 4, 5, 0] rfl ?_
    exact B_X0_assignPart_154 _ _ _ _ _ _ _ (fun y0 y1 y2 y3 y4 hx => Hb68 y0 y1 y2 y3 y4 hx) hk
  · refine mj_iinc (k := 4) (v := (l5 + 1)) (lv2 := [(5, .int (l5 + 1)), (7, .long k0), (0, .ref 334), (2, .int l2), (4, .int l4), (6, .int l6)]) dX0_assignPart_151 rfl rfl (by decide) rfl ?_
    refine mj_sublv [(0, .ref 334), (2, .int l2), (4, .int l4), (5, .int (l5 + 1)), (6, .int l6), (7, .long k0)] [2, 3, 4, 0, 5, 1] rfl ?_
    exact B_X0_assignPart_154 _ _ _ _ _ _ _ (fun y0 y1 y2 y3 y4 hx => Hb68 y0 y1 y2 y3 y4 hx) hk
noncomputable def k_X0_assignPart_105 (l2 : Int32) (l4 : Int32) (l5 : Int32) (l6 : Int32) (s : t_S) : Option ((Int32 × Int32 × Int32 × Int32 × t_S) ⊕ (Int32 × t_S)) :=
 if t_ix l6 16000 = true then
  if (s.1 335 (l6.toNatClampNeg)) = (37 : Int32) then (k_X0_assignPart_137 l2 l4 l5 l6 ((s.1 336 (l6.toNatClampNeg)).toInt64) s)
 else ((f_X0_cellOf l5 s).bind (fun r2 =>
 k_X0_assignPart_137 l2 l4 l5 l6 (f_X8_told r2 s) s))
else none
set_option maxRecDepth 4000 in
set_option maxHeartbeats 1000000 in
theorem B_X0_assignPart_105 {D : va_G} {cy : Nat → ClassId} {ad : Nat → Nat} {bs : Nat} {X : State → Heap → Prop} (l2 : Int32) (l4 : Int32) (l5 : Int32) (l6 : Int32) (s : t_S) (Q : (Int32 × Int32 × Int32 × Int32 × t_S) ⊕ (Int32 × t_S) → Prop) (Hb68 : ∀ (y0 : Int32) (y1 : Int32) (y2 : Int32) (y3 : Int32) (y4 : t_S), Q (.inl (y0, y1, y2, y3, y4)) → mj_G D cy ad bs X cX0_assignPart 9 yX0_assignPart.cls (some .int) yX0_assignPart.name 4 0 0 1065 (t_P (fun v s' => ∃ x, v = some (.int x) ∧ Q (.inr ((x, s'))))) 68 [(0, .ref 334), (2, .int (y0)), (4, .int (y1)), (5, .int (y2)), (6, .int (y3))] [] (t_m y4) 1065 0 0) (hk : t_hk (k_X0_assignPart_105 l2 l4 l5 l6 s) Q) : mj_G D cy ad bs X cX0_assignPart 9 yX0_assignPart.cls (some .int) yX0_assignPart.name 4 0 0 1065 (t_P (fun v s' => ∃ x, v = some (.int x) ∧ Q (.inr ((x, s'))))) 105 [(0, .ref 334), (2, .int l2), (4, .int l4), (5, .int l5), (6, .int l6)] [] (t_m s) 1065 0 0 := by
  refine mj_aload_n dX0_assignPart_105 0 rfl ?_
  refine t_getR 335 dX0_assignPart_106 F_X0_9 qr_334_0 ?_
  refine mj_iload dX0_assignPart_109 4 rfl ?_
  refine t_chkK hk (fun c0 hk => ?_)
  refine t_iald dX0_assignPart_111 qa_335 (t_ixv c0) ?_
  refine mj_bipush (v := 37) dX0_assignPart_112 (by decide) ?_
  refine mj_icmp_ne 128 dX0_assignPart_114 (by decide) (fun z => t_negK hk z (fun hk => ?_)) (fun z => t_posK hk z (fun hk => ?_))
  · refine mj_aload_n dX0_assignPart_128 0 rfl ?_
    refine mj_iload dX0_assignPart_129 3 rfl ?_
    refine t_bndK hk (fun r2 er2 hk => ?_)
    refine t_callVlP dX0_assignPart_131 M_X0_cellOf (C_X0_cellOf _ _ _ er2) ML_X0_230 IM_X0_cellOf SE_X0_cellOf qc_334 rfl (As := [.int l5]) rfl rfl (Nat.le_of_ble_eq_true rfl) (Nat.le_of_ble_eq_true rfl) (Nat.le_of_ble_eq_true rfl) (Nat.le_of_ble_eq_true rfl) ?_
    refine t_callSlP dX0_assignPart_134 M_X8_told (C_X8_told _ _) ML_X0_166 SM_X8_told (As := [.long r2]) rfl rfl (Nat.le_of_ble_eq_true rfl) (Nat.le_of_ble_eq_true rfl) (Nat.le_of_ble_eq_true rfl) (Nat.le_of_ble_eq_true rfl) ?_
    exact B_X0_assignPart_137 _ _ _ _ _ _ _ (fun y0 y1 y2 y3 y4 hx => Hb68 y0 y1 y2 y3 y4 hx) hk
  · refine mj_aload_n dX0_assignPart_117 0 rfl ?_
    refine t_getR 336 dX0_assignPart_118 F_X0_13 qr_334_1 ?_
    refine mj_iload dX0_assignPart_121 4 rfl ?_
    refine t_iald dX0_assignPart_123 qa_336 (t_ixv c0) ?_
    refine mj_i2l (v := (s.1 336 (l6.toNatClampNeg)).toInt64) dX0_assignPart_124 rfl ?_
    refine mj_goto 137 dX0_assignPart_125 (by decide) ?_
    exact B_X0_assignPart_137 _ _ _ _ _ _ _ (fun y0 y1 y2 y3 y4 hx => Hb68 y0 y1 y2 y3 y4 hx) hk
noncomputable def k_X0_assignPart_68 (l2 : Int32) (l4 : Int32) (l5 : Int32) (l6 : Int32) (s : t_S) : Option ((Int32 × Int32 × Int32 × Int32 × t_S) ⊕ (Int32 × t_S)) :=
 if l2 ≤ l6 then ((some ((s.1 334 12), s)).map Sum.inr)
 else (if (s.1 334 12) = (0 : Int32) then (if t_ix l6 16000 = true then
  if (s.1 335 (l6.toNatClampNeg)) = (37 : Int32) then (k_X0_assignPart_105 l2 l4 l5 l6 s)
 else (if (s.1 335 (l6.toNatClampNeg)) = (38 : Int32) then (k_X0_assignPart_105 l2 l4 l5 l6 s)
 else (k_X0_assignPart_197 l2 l4 l5 l6 s))
else none)
 else ((some ((s.1 334 12), s)).map Sum.inr))
set_option maxRecDepth 4000 in
set_option maxHeartbeats 1000000 in
theorem B_X0_assignPart_68 {D : va_G} {cy : Nat → ClassId} {ad : Nat → Nat} {bs : Nat} {X : State → Heap → Prop} (l2 : Int32) (l4 : Int32) (l5 : Int32) (l6 : Int32) (s : t_S) (Q : (Int32 × Int32 × Int32 × Int32 × t_S) ⊕ (Int32 × t_S) → Prop) (Hb68 : ∀ (y0 : Int32) (y1 : Int32) (y2 : Int32) (y3 : Int32) (y4 : t_S), Q (.inl (y0, y1, y2, y3, y4)) → mj_G D cy ad bs X cX0_assignPart 9 yX0_assignPart.cls (some .int) yX0_assignPart.name 4 0 0 1065 (t_P (fun v s' => ∃ x, v = some (.int x) ∧ Q (.inr ((x, s'))))) 68 [(0, .ref 334), (2, .int (y0)), (4, .int (y1)), (5, .int (y2)), (6, .int (y3))] [] (t_m y4) 1065 0 0) (hk : t_hk (k_X0_assignPart_68 l2 l4 l5 l6 s) Q) : mj_G D cy ad bs X cX0_assignPart 9 yX0_assignPart.cls (some .int) yX0_assignPart.name 4 0 0 1065 (t_P (fun v s' => ∃ x, v = some (.int x) ∧ Q (.inr ((x, s'))))) 68 [(0, .ref 334), (2, .int l2), (4, .int l4), (5, .int l5), (6, .int l6)] [] (t_m s) 1065 0 0 := by
  refine mj_iload dX0_assignPart_68 4 rfl ?_
  refine mj_iload_n dX0_assignPart_70 1 rfl ?_
  refine mj_icmp_ge 203 dX0_assignPart_71 (by decide) (fun z => t_posK hk z (fun hk => ?_)) (fun z => t_negK hk z (fun hk => ?_))
  · refine t_mapK hk (fun hk => ?_)
    refine mj_aload_n dX0_assignPart_203 0 rfl ?_
    refine t_getI dX0_assignPart_204 F_X0_71 qf_334_12 ?_
    exact t_somK hk (fun hf => t_iret dX0_assignPart_207 rfl rfl ⟨_, rfl, hf⟩ (Nat.le_of_ble_eq_true rfl) (Nat.le_of_ble_eq_true rfl))
  · refine mj_aload_n dX0_assignPart_74 0 rfl ?_
    refine t_getI dX0_assignPart_75 F_X0_71 qf_334_12 ?_
    refine mj_if_ne 203 dX0_assignPart_78 (by decide) (fun z => t_negK hk z (fun hk => ?_)) (fun z => t_posK hk z (fun hk => ?_))
    · refine t_mapK hk (fun hk => ?_)
      refine mj_aload_n dX0_assignPart_203 0 rfl ?_
      refine t_getI dX0_assignPart_204 F_X0_71 qf_334_12 ?_
      exact t_somK hk (fun hf => t_iret dX0_assignPart_207 rfl rfl ⟨_, rfl, hf⟩ (Nat.le_of_ble_eq_true rfl) (Nat.le_of_ble_eq_true rfl))
    · refine mj_aload_n dX0_assignPart_81 0 rfl ?_
      refine t_getR 335 dX0_assignPart_82 F_X0_9 qr_334_0 ?_
      refine mj_iload dX0_assignPart_85 4 rfl ?_
      refine t_chkK hk (fun c0 hk => ?_)
      refine t_iald dX0_assignPart_87 qa_335 (t_ixv c0) ?_
      refine mj_bipush (v := 37) dX0_assignPart_88 (by decide) ?_
      refine mj_icmp_eq 105 dX0_assignPart_90 (by decide) (fun z => t_posK hk z (fun hk => ?_)) (fun z => t_negK hk z (fun hk => ?_))
      · exact B_X0_assignPart_105 _ _ _ _ _ _ (fun y0 y1 y2 y3 y4 hx => Hb68 y0 y1 y2 y3 y4 hx) hk
      · refine mj_aload_n dX0_assignPart_93 0 rfl ?_
        refine t_getR 335 dX0_assignPart_94 F_X0_9 qr_334_0 ?_
        refine mj_iload dX0_assignPart_97 4 rfl ?_
        refine t_iald dX0_assignPart_99 qa_335 (t_ixv c0) ?_
        refine mj_bipush (v := 38) dX0_assignPart_100 (by decide) ?_
        refine mj_icmp_ne 197 dX0_assignPart_102 (by decide) (fun z => t_negK hk z (fun hk => ?_)) (fun z => t_posK hk z (fun hk => ?_))
        · exact B_X0_assignPart_197 _ _ _ _ _ _ (fun y0 y1 y2 y3 y4 hx => Hb68 y0 y1 y2 y3 y4 hx) hk
        · exact B_X0_assignPart_105 _ _ _ _ _ _ (fun y0 y1 y2 y3 y4 hx => Hb68 y0 y1 y2 y3 y4 hx) hk
noncomputable def b_X0_assignPart_68 (x : Int32 × Int32 × Int32 × Int32 × t_S) : Option ((Int32 × Int32 × Int32 × Int32 × t_S) ⊕ (Int32 × t_S)) := k_X0_assignPart_68 x.1 x.2.1 x.2.2.1 x.2.2.2.1 x.2.2.2.2
set_option maxRecDepth 4000 in
set_option maxHeartbeats 1000000 in
theorem LH_X0_assignPart_68 {D : va_G} {cy : Nat → ClassId} {ad : Nat → Nat} {bs : Nat} {X : State → Heap → Prop} : ∀ (n : Nat) (y0 : Int32) (y1 : Int32) (y2 : Int32) (y3 : Int32) (y4 : t_S) (Q : Int32 × t_S → Prop) (hk : t_hk (t_loop (b_X0_assignPart_68) n (y0, y1, y2, y3, y4)) Q), mj_G D cy ad bs X cX0_assignPart 9 yX0_assignPart.cls (some .int) yX0_assignPart.name 4 0 0 1065 (t_P (fun v s' => ∃ x, v = some (.int x) ∧ Q ((x, s')))) 68 [(0, .ref 334), (2, .int (y0)), (4, .int (y1)), (5, .int (y2)), (6, .int (y3))] [] (t_m y4) 1065 0 0 := by
  intro n
  induction n with
  | zero => intro y0 y1 y2 y3 y4 Q hk; obtain ⟨r, hr, _⟩ := hk; cases hr
  | succ n ih =>
    intro y0 y1 y2 y3 y4 Q hk
    exact B_X0_assignPart_68 y0 y1 y2 y3 y4 (fun y => t_lq (b_X0_assignPart_68) n Q y) (fun y0' y1' y2' y3' y4' hy => ih y0' y1' y2' y3' y4' Q hy) (t_lp hk)
noncomputable def k_X0_assignPart_59 (l1 : Int32) (l2 : Int32) (s : t_S) : Option (Int32 × t_S) :=
 t_loop (b_X0_assignPart_68) t_N (l2, 0, 0, l1, s)
set_option maxRecDepth 4000 in
set_option maxHeartbeats 1000000 in
theorem B_X0_assignPart_59 {D : va_G} {cy : Nat → ClassId} {ad : Nat → Nat} {bs : Nat} {X : State → Heap → Prop} (l1 : Int32) (l2 : Int32) (s : t_S) (Q : Int32 × t_S → Prop) (hk : t_hk (k_X0_assignPart_59 l1 l2 s) Q) : mj_G D cy ad bs X cX0_assignPart 9 yX0_assignPart.cls (some .int) yX0_assignPart.name 4 0 0 1065 (t_P (fun v s' => ∃ x, v = some (.int x) ∧ Q ((x, s')))) 59 [(0, .ref 334), (1, .int l1), (2, .int l2)] [] (t_m s) 1065 0 0 := by
  refine mj_iconst (v := 0) dX0_assignPart_59 (by decide) ?_
  refine mj_istore (lv2 := [(4, .int 0), (0, .ref 334), (1, .int l1), (2, .int l2)]) dX0_assignPart_60 (by decide) rfl ?_
  refine mj_iconst (v := 0) dX0_assignPart_62 (by decide) ?_
  refine mj_istore (lv2 := [(5, .int 0), (4, .int 0), (0, .ref 334), (1, .int l1), (2, .int l2)]) dX0_assignPart_63 (by decide) rfl ?_
  refine mj_iload_n dX0_assignPart_65 3 rfl ?_
  refine mj_istore (lv2 := [(6, .int l1), (5, .int 0), (4, .int 0), (0, .ref 334), (1, .int l1), (2, .int l2)]) dX0_assignPart_66 (by decide) rfl ?_
  refine mj_sublv [(0, .ref 334), (2, .int l2), (4, .int 0), (5, .int 0), (6, .int l1)] [3, 5, 2, 1, 0] rfl ?_
  exact LH_X0_assignPart_68 _ l2 0 0 l1 s _ hk
noncomputable def f_X0_assignPart (x1 : Int32) (x2 : Int32) (x3 : Int32) (s : t_S) : Option (Int32 × t_S) :=
 t_let (t_setI s 334 12 (0 : Int32)) (fun s1 =>
 t_let (t_setI s1 334 11 (0 : Int32)) (fun s2 =>
 t_let (t_setJ s2 340 ((0 : Int32).toNatClampNeg) (20 : Int64)) (fun s3 =>
 if t_ix x3 1589 = true then
  if (s3.1 14 (x3.toNatClampNeg)) ≤ (0 : Int32) then (k_X0_assignPart_59 x1 x2 s3)
 else (if t_cpok (x3 * (120 : Int32)) (0 : Int32) (s3.1 14 (x3.toNatClampNeg)) 190680 240 = true then
  t_let (t_cpJ s3 13 340 (x3 * (120 : Int32)) (0 : Int32) (s3.1 14 (x3.toNatClampNeg))) (fun s4 =>
 k_X0_assignPart_59 x1 x2 s4)
else none)
else none)))
set_option maxRecDepth 4000 in
set_option maxHeartbeats 1000000 in
theorem C_X0_assignPart (x1 : Int32) (x2 : Int32) (x3 : Int32) (s : t_S) (r : Int32 × t_S) (hr : f_X0_assignPart x1 x2 x3 s = some r) : t_C yX0_assignPart cX0_assignPart 9 (some .int) 4 [.ref 334, .int x1, .int x2, .int x3] s (fun v s' => v = some (.int r.1) ∧ s' = r.2) := by
  refine t_C.imp (P := fun v s' => ∃ x, v = some (.int x) ∧ (fun q => q = r) ((x, s'))) (t_C.of (by decide +kernel) (Nat.le_of_ble_eq_true rfl) ?_) (fun v s' hp => by obtain ⟨x, rfl, rfl⟩ := hp; exact ⟨rfl, rfl⟩)
  intro D cy ad bs X
  have hk : t_hk (f_X0_assignPart x1 x2 x3 s) (fun q => q = r) := ⟨r, hr, rfl⟩
  show mj_G D cy ad bs X cX0_assignPart 9 yX0_assignPart.cls (some .int) yX0_assignPart.name 4 0 0 1065 (t_P (fun v s' => ∃ x, v = some (.int x) ∧ (fun q => q = r) ((x, s')))) 0 [(0, .ref 334), (1, .int x1), (2, .int x2), (3, .int x3)] [] (t_m s) 1065 0 0
  refine mj_aload_n dX0_assignPart_0 0 rfl ?_
  refine mj_iconst (v := 0) dX0_assignPart_1 (by decide) ?_
  refine t_putIK dX0_assignPart_2 F_X0_71 qf_334_12 rfl (fun s1 ws1 => t_letE hk ws1 (fun hk => ?_))
  refine mj_aload_n dX0_assignPart_5 0 rfl ?_
  refine mj_iconst (v := 0) dX0_assignPart_6 (by decide) ?_
  refine t_putIK dX0_assignPart_7 F_X0_274 qf_334_11 rfl (fun s2 ws2 => t_letE hk ws2 (fun hk => ?_))
  refine mj_aload_n dX0_assignPart_10 0 rfl ?_
  refine t_getR 340 dX0_assignPart_11 F_X0_29 qr_334_8 ?_
  refine mj_iconst (v := 0) dX0_assignPart_14 (by decide) ?_
  refine mj_ldc2 dX0_assignPart_15 K_X0_69 ?_
  refine t_lastK dX0_assignPart_18 qa_340 (by unfold vp_in; decide) (fun s3 ws3 => t_letE hk ws3 (fun hk => ?_))
  refine mj_aload_n dX0_assignPart_19 0 rfl ?_
  refine t_getR 12 dX0_assignPart_20 F_X0_38 qr_334_19 ?_
  refine t_getR 14 dX0_assignPart_23 F_X0_277 qr_12_1 ?_
  refine mj_iload_n dX0_assignPart_26 3 rfl ?_
  refine t_chkK hk (fun c0 hk => ?_)
  refine t_iald dX0_assignPart_27 qa_14 (t_ixv c0) ?_
  refine mj_if_le 59 dX0_assignPart_28 (by decide) (fun z => t_posK hk z (fun hk => ?_)) (fun z => t_negK hk z (fun hk => ?_))
  · refine mj_sublv [(0, .ref 334), (1, .int x1), (2, .int x2)] [0, 1, 2] rfl ?_
    exact B_X0_assignPart_59 _ _ _ _ hk
  · refine mj_aload_n dX0_assignPart_31 0 rfl ?_
    refine t_getR 12 dX0_assignPart_32 F_X0_38 qr_334_19 ?_
    refine t_getR 13 dX0_assignPart_35 F_X0_114 qr_12_0 ?_
    refine mj_iload_n dX0_assignPart_38 3 rfl ?_
    refine mj_bipush (v := 120) dX0_assignPart_39 (by decide) ?_
    refine mj_imul dX0_assignPart_41 ?_
    refine mj_aload_n dX0_assignPart_42 0 rfl ?_
    refine t_getR 340 dX0_assignPart_43 F_X0_29 qr_334_8 ?_
    refine mj_iconst (v := 0) dX0_assignPart_46 (by decide) ?_
    refine mj_aload_n dX0_assignPart_47 0 rfl ?_
    refine t_getR 12 dX0_assignPart_48 F_X0_38 qr_334_19 ?_
    refine t_getR 14 dX0_assignPart_51 F_X0_277 qr_12_1 ?_
    refine mj_iload_n dX0_assignPart_54 3 rfl ?_
    refine t_iald dX0_assignPart_55 qa_14 (t_ixv c0) ?_
    refine t_chkK hk (fun c1 hk => ?_)
    refine t_copyK dX0_assignPart_56 MA_X0_154 qa_13 qa_340 c1 (Nat.le_of_ble_eq_true rfl) (Nat.le_of_ble_eq_true rfl) (fun s4 ws4 => t_letE hk ws4 (fun hk => ?_))
    refine mj_sublv [(0, .ref 334), (1, .int x1), (2, .int x2)] [0, 1, 2] rfl ?_
    exact B_X0_assignPart_59 _ _ _ _ hk

theorem dX0_topBecomes_0 : decode cX0_topBecomes 0 = .ok (.aload_n 0, 1) := by decide +kernel
theorem dX0_topBecomes_1 : decode cX0_topBecomes 1 = .ok (.getfield 24, 3) := by decide +kernel
theorem dX0_topBecomes_10 : decode cX0_topBecomes 10 = .ok (.iaload, 1) := by decide +kernel
theorem dX0_topBecomes_11 : decode cX0_topBecomes 11 = .ok (.istore_n 2, 1) := by decide +kernel
theorem dX0_topBecomes_12 : decode cX0_topBecomes 12 = .ok (.iload_n 1, 1) := by decide +kernel
theorem dX0_topBecomes_13 : decode cX0_topBecomes 13 = .ok (.ifCond .ge 7, 3) := by decide +kernel
theorem dX0_topBecomes_16 : decode cX0_topBecomes 16 = .ok (.iconst 1, 1) := by decide +kernel
theorem dX0_topBecomes_17 : decode cX0_topBecomes 17 = .ok (.goto 16, 3) := by decide +kernel
theorem dX0_topBecomes_20 : decode cX0_topBecomes 20 = .ok (.aload_n 0, 1) := by decide +kernel
theorem dX0_topBecomes_21 : decode cX0_topBecomes 21 = .ok (.getfield 21, 3) := by decide +kernel
theorem dX0_topBecomes_24 : decode cX0_topBecomes 24 = .ok (.iload_n 1, 1) := by decide +kernel
theorem dX0_topBecomes_25 : decode cX0_topBecomes 25 = .ok (.laload, 1) := by decide +kernel
theorem dX0_topBecomes_26 : decode cX0_topBecomes 26 = .ok (.l2i, 1) := by decide +kernel
theorem dX0_topBecomes_27 : decode cX0_topBecomes 27 = .ok (.iconst 4, 1) := by decide +kernel
theorem dX0_topBecomes_28 : decode cX0_topBecomes 28 = .ok (.ishr, 1) := by decide +kernel
theorem dX0_topBecomes_29 : decode cX0_topBecomes 29 = .ok (.sipush 255, 3) := by decide +kernel
theorem dX0_topBecomes_32 : decode cX0_topBecomes 32 = .ok (.iand, 1) := by decide +kernel
theorem dX0_topBecomes_33 : decode cX0_topBecomes 33 = .ok (.istore_n 3, 1) := by decide +kernel
theorem dX0_topBecomes_34 : decode cX0_topBecomes 34 = .ok (.iload_n 1, 1) := by decide +kernel
theorem dX0_topBecomes_35 : decode cX0_topBecomes 35 = .ok (.ifCond .ge 15, 3) := by decide +kernel
theorem dX0_topBecomes_38 : decode cX0_topBecomes 38 = .ok (.aload_n 0, 1) := by decide +kernel
theorem dX0_topBecomes_39 : decode cX0_topBecomes 39 = .ok (.getfield 21, 3) := by decide +kernel
theorem dX0_topBecomes_4 : decode cX0_topBecomes 4 = .ok (.aload_n 0, 1) := by decide +kernel
theorem dX0_topBecomes_42 : decode cX0_topBecomes 42 = .ok (.iload_n 2, 1) := by decide +kernel
theorem dX0_topBecomes_43 : decode cX0_topBecomes 43 = .ok (.ldc2_w 69, 3) := by decide +kernel
theorem dX0_topBecomes_46 : decode cX0_topBecomes 46 = .ok (.lastore, 1) := by decide +kernel
theorem dX0_topBecomes_47 : decode cX0_topBecomes 47 = .ok (.goto 17, 3) := by decide +kernel
theorem dX0_topBecomes_5 : decode cX0_topBecomes 5 = .ok (.getfield 62, 3) := by decide +kernel
theorem dX0_topBecomes_50 : decode cX0_topBecomes 50 = .ok (.aload_n 0, 1) := by decide +kernel
theorem dX0_topBecomes_51 : decode cX0_topBecomes 51 = .ok (.getfield 21, 3) := by decide +kernel
theorem dX0_topBecomes_54 : decode cX0_topBecomes 54 = .ok (.iload_n 1, 1) := by decide +kernel
theorem dX0_topBecomes_55 : decode cX0_topBecomes 55 = .ok (.aload_n 0, 1) := by decide +kernel
theorem dX0_topBecomes_56 : decode cX0_topBecomes 56 = .ok (.getfield 21, 3) := by decide +kernel
theorem dX0_topBecomes_59 : decode cX0_topBecomes 59 = .ok (.iload_n 2, 1) := by decide +kernel
theorem dX0_topBecomes_60 : decode cX0_topBecomes 60 = .ok (.iload_n 3, 1) := by decide +kernel
theorem dX0_topBecomes_61 : decode cX0_topBecomes 61 = .ok (.invokestatic 154, 3) := by decide +kernel
theorem dX0_topBecomes_64 : decode cX0_topBecomes 64 = .ok (.aload_n 0, 1) := by decide +kernel
theorem dX0_topBecomes_65 : decode cX0_topBecomes 65 = .ok (.getfield 24, 3) := by decide +kernel
theorem dX0_topBecomes_68 : decode cX0_topBecomes 68 = .ok (.aload_n 0, 1) := by decide +kernel
theorem dX0_topBecomes_69 : decode cX0_topBecomes 69 = .ok (.getfield 62, 3) := by decide +kernel
theorem dX0_topBecomes_72 : decode cX0_topBecomes 72 = .ok (.iload_n 2, 1) := by decide +kernel
theorem dX0_topBecomes_73 : decode cX0_topBecomes 73 = .ok (.iload_n 3, 1) := by decide +kernel
theorem dX0_topBecomes_74 : decode cX0_topBecomes 74 = .ok (.iadd, 1) := by decide +kernel
theorem dX0_topBecomes_75 : decode cX0_topBecomes 75 = .ok (.iastore, 1) := by decide +kernel
theorem dX0_topBecomes_76 : decode cX0_topBecomes 76 = .ok (.return_, 1) := by decide +kernel
theorem dX0_topBecomes_8 : decode cX0_topBecomes 8 = .ok (.iconst 1, 1) := by decide +kernel
theorem dX0_topBecomes_9 : decode cX0_topBecomes 9 = .ok (.isub, 1) := by decide +kernel
noncomputable def k_X0_topBecomes_64 (l2 : Int32) (l3 : Int32) (s : t_S) : Option (t_S) :=
 if t_ix (s.1 334 7) 3201 = true then
  t_let (t_setI s 339 ((s.1 334 7).toNatClampNeg) (l2 + l3)) (fun s1 =>
 some (s1))
else none
set_option maxRecDepth 4000 in
set_option maxHeartbeats 1000000 in
theorem B_X0_topBecomes_64 {D : va_G} {cy : Nat → ClassId} {ad : Nat → Nat} {bs : Nat} {X : State → Heap → Prop} (l2 : Int32) (l3 : Int32) (s : t_S) (Q : t_S → Prop) (hk : t_hk (k_X0_topBecomes_64 l2 l3 s) Q) : mj_G D cy ad bs X cX0_topBecomes 4 yX0_topBecomes.cls none yX0_topBecomes.name 1 0 0 1065 (t_P (fun v s' => v = none ∧ Q (s'))) 64 [(0, .ref 334), (2, .int l2), (3, .int l3)] [] (t_m s) 1065 0 0 := by
  refine mj_aload_n dX0_topBecomes_64 0 rfl ?_
  refine t_getR 339 dX0_topBecomes_65 F_X0_24 qr_334_6 ?_
  refine mj_aload_n dX0_topBecomes_68 0 rfl ?_
  refine t_getI dX0_topBecomes_69 F_X0_62 qf_334_7 ?_
  refine mj_iload_n dX0_topBecomes_72 1 rfl ?_
  refine mj_iload_n dX0_topBecomes_73 2 rfl ?_
  refine mj_iadd dX0_topBecomes_74 ?_
  refine t_chkK hk (fun c0 hk => ?_)
  refine t_iastK dX0_topBecomes_75 qa_339 (t_ixv c0) (fun s1 ws1 => t_letE hk ws1 (fun hk => ?_))
  exact t_somK hk (fun hf => t_vret dX0_topBecomes_76 rfl ⟨rfl, hf⟩ (Nat.le_of_ble_eq_true rfl) (Nat.le_of_ble_eq_true rfl))
noncomputable def k_X0_topBecomes_33 (l1 : Int32) (l2 : Int32) (k0 : Int32) (s : t_S) : Option (t_S) :=
 if (0 : Int32) ≤ l1 then (if t_cpok l1 l2 k0 48000 48000 = true then
  t_let (t_cpJ s 338 338 l1 l2 k0) (fun s1 =>
 k_X0_topBecomes_64 l2 k0 s1)
else none)
 else (if t_ix l2 48000 = true then
  t_let (t_setJ s 338 (l2.toNatClampNeg) (20 : Int64)) (fun s2 =>
 k_X0_topBecomes_64 l2 k0 s2)
else none)
set_option maxRecDepth 4000 in
set_option maxHeartbeats 1000000 in
theorem B_X0_topBecomes_33 {D : va_G} {cy : Nat → ClassId} {ad : Nat → Nat} {bs : Nat} {X : State → Heap → Prop} (l1 : Int32) (l2 : Int32) (k0 : Int32) (s : t_S) (Q : t_S → Prop) (hk : t_hk (k_X0_topBecomes_33 l1 l2 k0 s) Q) : mj_G D cy ad bs X cX0_topBecomes 4 yX0_topBecomes.cls none yX0_topBecomes.name 1 0 0 1065 (t_P (fun v s' => v = none ∧ Q (s'))) 33 [(0, .ref 334), (1, .int l1), (2, .int l2)] [.int k0] (t_m s) 1065 0 0 := by
  refine mj_istore_n 3 (lv2 := [(3, .int k0), (0, .ref 334), (1, .int l1), (2, .int l2)]) dX0_topBecomes_33 rfl (by decide) rfl ?_
  refine mj_iload_n dX0_topBecomes_34 2 rfl ?_
  refine mj_if_ge 50 dX0_topBecomes_35 (by decide) (fun z => t_posK hk z (fun hk => ?_)) (fun z => t_negK hk z (fun hk => ?_))
  · refine mj_aload_n dX0_topBecomes_50 1 rfl ?_
    refine t_getR 338 dX0_topBecomes_51 F_X0_21 qr_334_5 ?_
    refine mj_iload_n dX0_topBecomes_54 2 rfl ?_
    refine mj_aload_n dX0_topBecomes_55 1 rfl ?_
    refine t_getR 338 dX0_topBecomes_56 F_X0_21 qr_334_5 ?_
    refine mj_iload_n dX0_topBecomes_59 3 rfl ?_
    refine mj_iload_n dX0_topBecomes_60 0 rfl ?_
    refine t_chkK hk (fun c0 hk => ?_)
    refine t_copyK dX0_topBecomes_61 MA_X0_154 qa_338 qa_338 c0 (Nat.le_of_ble_eq_true rfl) (Nat.le_of_ble_eq_true rfl) (fun s1 ws1 => t_letE hk ws1 (fun hk => ?_))
    refine mj_sublv [(0, .ref 334), (2, .int l2), (3, .int k0)] [1, 3, 0] rfl ?_
    exact B_X0_topBecomes_64 _ _ _ _ hk
  · refine mj_aload_n dX0_topBecomes_38 1 rfl ?_
    refine t_getR 338 dX0_topBecomes_39 F_X0_21 qr_334_5 ?_
    refine mj_iload_n dX0_topBecomes_42 3 rfl ?_
    refine mj_ldc2 dX0_topBecomes_43 K_X0_69 ?_
    refine t_chkK hk (fun c1 hk => ?_)
    refine t_lastK dX0_topBecomes_46 qa_338 (t_ixv c1) (fun s2 ws2 => t_letE hk ws2 (fun hk => ?_))
    refine mj_goto 64 dX0_topBecomes_47 (by decide) ?_
    refine mj_sublv [(0, .ref 334), (2, .int l2), (3, .int k0)] [1, 3, 0] rfl ?_
    exact B_X0_topBecomes_64 _ _ _ _ hk
noncomputable def f_X0_topBecomes (x1 : Int32) (s : t_S) : Option (t_S) :=
 if t_ix ((s.1 334 7) - (1 : Int32)) 3201 = true then
  if (0 : Int32) ≤ x1 then (if t_ix x1 48000 = true then
  k_X0_topBecomes_33 x1 (s.1 339 (((s.1 334 7) - (1 : Int32)).toNatClampNeg)) ((((s.2.1 338 (x1.toNatClampNeg)).toInt32) >>> ((4 : Int32) &&& 31)) &&& (255 : Int32)) s
else none)
 else (k_X0_topBecomes_33 x1 (s.1 339 (((s.1 334 7) - (1 : Int32)).toNatClampNeg)) 1 s)
else none
set_option maxRecDepth 4000 in
set_option maxHeartbeats 1000000 in
theorem C_X0_topBecomes (x1 : Int32) (s : t_S) (r : t_S) (hr : f_X0_topBecomes x1 s = some r) : t_C yX0_topBecomes cX0_topBecomes 4 none 1 [.ref 334, .int x1] s (fun v s' => v = none ∧ s' = r) := by
  refine t_C.imp (P := fun v s' => v = none ∧ (fun q => q = r) (s')) (t_C.of (by decide +kernel) (Nat.le_of_ble_eq_true rfl) ?_) (fun v s' hp => hp)
  intro D cy ad bs X
  have hk : t_hk (f_X0_topBecomes x1 s) (fun q => q = r) := ⟨r, hr, rfl⟩
  show mj_G D cy ad bs X cX0_topBecomes 4 yX0_topBecomes.cls none yX0_topBecomes.name 1 0 0 1065 (t_P (fun v s' => v = none ∧ (fun q => q = r) (s'))) 0 [(0, .ref 334), (1, .int x1)] [] (t_m s) 1065 0 0
  refine mj_aload_n dX0_topBecomes_0 0 rfl ?_
  refine t_getR 339 dX0_topBecomes_1 F_X0_24 qr_334_6 ?_
  refine mj_aload_n dX0_topBecomes_4 0 rfl ?_
  refine t_getI dX0_topBecomes_5 F_X0_62 qf_334_7 ?_
  refine mj_iconst (v := 1) dX0_topBecomes_8 (by decide) ?_
  refine mj_isub dX0_topBecomes_9 ?_
  refine t_chkK hk (fun c0 hk => ?_)
  refine t_iald dX0_topBecomes_10 qa_339 (t_ixv c0) ?_
  refine mj_istore_n 2 (lv2 := [(2, .int (s.1 339 (((s.1 334 7) - (1 : Int32)).toNatClampNeg))), (0, .ref 334), (1, .int x1)]) dX0_topBecomes_11 rfl (by decide) rfl ?_
  refine mj_iload_n dX0_topBecomes_12 2 rfl ?_
  refine mj_if_ge 20 dX0_topBecomes_13 (by decide) (fun z => t_posK hk z (fun hk => ?_)) (fun z => t_negK hk z (fun hk => ?_))
  · refine mj_aload_n dX0_topBecomes_20 1 rfl ?_
    refine t_getR 338 dX0_topBecomes_21 F_X0_21 qr_334_5 ?_
    refine mj_iload_n dX0_topBecomes_24 2 rfl ?_
    refine t_chkK hk (fun c1 hk => ?_)
    refine t_lald dX0_topBecomes_25 qa_338 (t_ixv c1) ?_
    refine mj_l2i (v := (s.2.1 338 (x1.toNatClampNeg)).toInt32) dX0_topBecomes_26 rfl ?_
    refine mj_iconst (v := 4) dX0_topBecomes_27 (by decide) ?_
    refine mj_ishr dX0_topBecomes_28 ?_
    refine mj_sipush (v := 255) dX0_topBecomes_29 (by decide) ?_
    refine mj_iand dX0_topBecomes_32 ?_
    refine mj_sublv [(0, .ref 334), (1, .int x1), (2, .int (s.1 339 (((s.1 334 7) - (1 : Int32)).toNatClampNeg)))] [1, 2, 0] rfl ?_
    exact B_X0_topBecomes_33 _ _ _ _ _ hk
  · refine mj_iconst (v := 1) dX0_topBecomes_16 (by decide) ?_
    refine mj_goto 33 dX0_topBecomes_17 (by decide) ?_
    refine mj_sublv [(0, .ref 334), (1, .int x1), (2, .int (s.1 339 (((s.1 334 7) - (1 : Int32)).toNatClampNeg)))] [1, 2, 0] rfl ?_
    exact B_X0_topBecomes_33 _ _ _ _ _ hk

theorem dX0_index_0 : decode cX0_index 0 = .ok (.lload_n 1, 1) := by decide +kernel
theorem dX0_index_1 : decode cX0_index 1 = .ok (.invokestatic 160, 3) := by decide +kernel
theorem dX0_index_10 : decode cX0_index 10 = .ok (.invokestatic 160, 3) := by decide +kernel
theorem dX0_index_13 : decode cX0_index 13 = .ok (.ifCond .eq 11, 3) := by decide +kernel
theorem dX0_index_16 : decode cX0_index 16 = .ok (.aload_n 0, 1) := by decide +kernel
theorem dX0_index_17 : decode cX0_index 17 = .ok (.iconst 1, 1) := by decide +kernel
theorem dX0_index_18 : decode cX0_index 18 = .ok (.putfield 71, 3) := by decide +kernel
theorem dX0_index_21 : decode cX0_index 21 = .ok (.goto 30, 3) := by decide +kernel
theorem dX0_index_24 : decode cX0_index 24 = .ok (.lload_n 3, 1) := by decide +kernel
theorem dX0_index_25 : decode cX0_index 25 = .ok (.invokestatic 166, 3) := by decide +kernel
theorem dX0_index_28 : decode cX0_index 28 = .ok (.lconst 0, 1) := by decide +kernel
theorem dX0_index_29 : decode cX0_index 29 = .ok (.lcmp, 1) := by decide +kernel
theorem dX0_index_30 : decode cX0_index 30 = .ok (.ifCond .lt 16, 3) := by decide +kernel
theorem dX0_index_33 : decode cX0_index 33 = .ok (.lload_n 3, 1) := by decide +kernel
theorem dX0_index_34 : decode cX0_index 34 = .ok (.invokestatic 166, 3) := by decide +kernel
theorem dX0_index_37 : decode cX0_index 37 = .ok (.lload_n 1, 1) := by decide +kernel
theorem dX0_index_38 : decode cX0_index 38 = .ok (.invokestatic 217, 3) := by decide +kernel
theorem dX0_index_4 : decode cX0_index 4 = .ok (.bipush 8, 2) := by decide +kernel
theorem dX0_index_41 : decode cX0_index 41 = .ok (.i2l, 1) := by decide +kernel
theorem dX0_index_42 : decode cX0_index 42 = .ok (.lcmp, 1) := by decide +kernel
theorem dX0_index_43 : decode cX0_index 43 = .ok (.ifCond .lt 8, 3) := by decide +kernel
theorem dX0_index_46 : decode cX0_index 46 = .ok (.aload_n 0, 1) := by decide +kernel
theorem dX0_index_47 : decode cX0_index 47 = .ok (.iconst 2, 1) := by decide +kernel
theorem dX0_index_48 : decode cX0_index 48 = .ok (.putfield 71, 3) := by decide +kernel
theorem dX0_index_51 : decode cX0_index 51 = .ok (.aload_n 0, 1) := by decide +kernel
theorem dX0_index_52 : decode cX0_index 52 = .ok (.getfield 71, 3) := by decide +kernel
theorem dX0_index_55 : decode cX0_index 55 = .ok (.ifCond .eq 4, 3) := by decide +kernel
theorem dX0_index_58 : decode cX0_index 58 = .ok (.return_, 1) := by decide +kernel
theorem dX0_index_59 : decode cX0_index 59 = .ok (.aload_n 0, 1) := by decide +kernel
theorem dX0_index_6 : decode cX0_index 6 = .ok (.if_icmp .ne 10, 3) := by decide +kernel
theorem dX0_index_60 : decode cX0_index 60 = .ok (.dup, 1) := by decide +kernel
theorem dX0_index_61 : decode cX0_index 61 = .ok (.getfield 62, 3) := by decide +kernel
theorem dX0_index_64 : decode cX0_index 64 = .ok (.iconst 1, 1) := by decide +kernel
theorem dX0_index_65 : decode cX0_index 65 = .ok (.isub, 1) := by decide +kernel
theorem dX0_index_66 : decode cX0_index 66 = .ok (.putfield 62, 3) := by decide +kernel
theorem dX0_index_69 : decode cX0_index 69 = .ok (.aload_n 0, 1) := by decide +kernel
theorem dX0_index_70 : decode cX0_index 70 = .ok (.aload_n 0, 1) := by decide +kernel
theorem dX0_index_71 : decode cX0_index 71 = .ok (.getfield 21, 3) := by decide +kernel
theorem dX0_index_74 : decode cX0_index 74 = .ok (.aload_n 0, 1) := by decide +kernel
theorem dX0_index_75 : decode cX0_index 75 = .ok (.getfield 24, 3) := by decide +kernel
theorem dX0_index_78 : decode cX0_index 78 = .ok (.aload_n 0, 1) := by decide +kernel
theorem dX0_index_79 : decode cX0_index 79 = .ok (.getfield 62, 3) := by decide +kernel
theorem dX0_index_82 : decode cX0_index 82 = .ok (.iconst 1, 1) := by decide +kernel
theorem dX0_index_83 : decode cX0_index 83 = .ok (.isub, 1) := by decide +kernel
theorem dX0_index_84 : decode cX0_index 84 = .ok (.iaload, 1) := by decide +kernel
theorem dX0_index_85 : decode cX0_index 85 = .ok (.lload_n 3, 1) := by decide +kernel
theorem dX0_index_86 : decode cX0_index 86 = .ok (.invokestatic 166, 3) := by decide +kernel
theorem dX0_index_89 : decode cX0_index 89 = .ok (.l2i, 1) := by decide +kernel
theorem dX0_index_9 : decode cX0_index 9 = .ok (.lload_n 3, 1) := by decide +kernel
theorem dX0_index_90 : decode cX0_index 90 = .ok (.invokestatic 220, 3) := by decide +kernel
theorem dX0_index_93 : decode cX0_index 93 = .ok (.invokevirtual 183, 3) := by decide +kernel
theorem dX0_index_96 : decode cX0_index 96 = .ok (.return_, 1) := by decide +kernel
noncomputable def k_X0_index_51 (l3 : Int64) (s : t_S) : Option (t_S) :=
 if (s.1 334 12) = (0 : Int32) then (t_let (t_setI s 334 7 ((s.1 334 7) - (1 : Int32))) (fun s1 =>
 if t_ix ((s1.1 334 7) - (1 : Int32)) 3201 = true then
  (f_X8_elementAt 338 (s1.1 339 (((s1.1 334 7) - (1 : Int32)).toNatClampNeg)) ((f_X8_told l3 s1).toInt32) s1).bind (fun r3 =>
 (f_X0_topBecomes r3 s1).bind (fun r4 =>
 some (r4)))
else none))
 else (some (s))
set_option maxRecDepth 4000 in
set_option maxHeartbeats 1000000 in
theorem B_X0_index_51 {D : va_G} {cy : Nat → ClassId} {ad : Nat → Nat} {bs : Nat} {X : State → Heap → Prop} (l3 : Int64) (s : t_S) (Q : t_S → Prop) (hk : t_hk (k_X0_index_51 l3 s) Q) : mj_G D cy ad bs X cX0_index 5 yX0_index.cls none yX0_index.name 2 0 0 1065 (t_P (fun v s' => v = none ∧ Q (s'))) 51 [(0, .ref 334), (3, .long l3)] [] (t_m s) 1065 0 0 := by
  refine mj_aload_n dX0_index_51 0 rfl ?_
  refine t_getI dX0_index_52 F_X0_71 qf_334_12 ?_
  refine mj_if_eq 59 dX0_index_55 (by decide) (fun z => t_posK hk z (fun hk => ?_)) (fun z => t_negK hk z (fun hk => ?_))
  · refine mj_aload_n dX0_index_59 0 rfl ?_
    refine mj_dup dX0_index_60 rfl ?_
    refine t_getI dX0_index_61 F_X0_62 qf_334_7 ?_
    refine mj_iconst (v := 1) dX0_index_64 (by decide) ?_
    refine mj_isub dX0_index_65 ?_
    refine t_putIK dX0_index_66 F_X0_62 qf_334_7 rfl (fun s1 ws1 => t_letE hk ws1 (fun hk => ?_))
    refine mj_aload_n dX0_index_69 0 rfl ?_
    refine mj_aload_n dX0_index_70 0 rfl ?_
    refine t_getR 338 dX0_index_71 F_X0_21 qr_334_5 ?_
    refine mj_aload_n dX0_index_74 0 rfl ?_
    refine t_getR 339 dX0_index_75 F_X0_24 qr_334_6 ?_
    refine mj_aload_n dX0_index_78 0 rfl ?_
    refine t_getI dX0_index_79 F_X0_62 qf_334_7 ?_
    refine mj_iconst (v := 1) dX0_index_82 (by decide) ?_
    refine mj_isub dX0_index_83 ?_
    refine t_chkK hk (fun c0 hk => ?_)
    refine t_iald dX0_index_84 qa_339 (t_ixv c0) ?_
    refine mj_lload_n dX0_index_85 1 rfl ?_
    refine t_callSlP dX0_index_86 M_X8_told (C_X8_told _ _) ML_X0_166 SM_X8_told (As := [.long l3]) rfl rfl (Nat.le_of_ble_eq_true rfl) (Nat.le_of_ble_eq_true rfl) (Nat.le_of_ble_eq_true rfl) (Nat.le_of_ble_eq_true rfl) ?_
    refine mj_l2i (v := (f_X8_told l3 s1).toInt32) dX0_index_89 rfl ?_
    refine t_bndK hk (fun r3 er3 hk => ?_)
    refine t_callSiP dX0_index_90 M_X8_elementAt (C_X8_elementAt _ _ _ _ _ er3) ML_X0_220 SM_X8_elementAt (As := [.ref 338, .int (s1.1 339 (((s1.1 334 7) - (1 : Int32)).toNatClampNeg)), .int ((f_X8_told l3 s1).toInt32)]) rfl rfl (Nat.le_of_ble_eq_true rfl) (Nat.le_of_ble_eq_true rfl) (Nat.le_of_ble_eq_true rfl) (Nat.le_of_ble_eq_true rfl) ?_
    refine t_bndK hk (fun r4 er4 hk => ?_)
    refine t_callVvE dX0_index_93 M_X0_topBecomes (C_X0_topBecomes _ _ _ er4) ML_X0_183 IM_X0_topBecomes SE_X0_topBecomes qc_334 rfl (As := [.int r3]) rfl rfl (Nat.le_of_ble_eq_true rfl) (Nat.le_of_ble_eq_true rfl) (Nat.le_of_ble_eq_true rfl) (Nat.le_of_ble_eq_true rfl) ?_
    exact t_somK hk (fun hf => t_vret dX0_index_96 rfl ⟨rfl, hf⟩ (Nat.le_of_ble_eq_true rfl) (Nat.le_of_ble_eq_true rfl))
  · exact t_somK hk (fun hf => t_vret dX0_index_58 rfl ⟨rfl, hf⟩ (Nat.le_of_ble_eq_true rfl) (Nat.le_of_ble_eq_true rfl))
noncomputable def k_X0_index_16 (l3 : Int64) (s : t_S) : Option (t_S) :=
 t_let (t_setI s 334 12 (1 : Int32)) (fun s1 =>
 k_X0_index_51 l3 s1)
set_option maxRecDepth 4000 in
set_option maxHeartbeats 1000000 in
theorem B_X0_index_16 {D : va_G} {cy : Nat → ClassId} {ad : Nat → Nat} {bs : Nat} {X : State → Heap → Prop} (l3 : Int64) (s : t_S) (Q : t_S → Prop) (hk : t_hk (k_X0_index_16 l3 s) Q) : mj_G D cy ad bs X cX0_index 5 yX0_index.cls none yX0_index.name 2 0 0 1065 (t_P (fun v s' => v = none ∧ Q (s'))) 16 [(0, .ref 334), (3, .long l3)] [] (t_m s) 1065 0 0 := by
  refine mj_aload_n dX0_index_16 0 rfl ?_
  refine mj_iconst (v := 1) dX0_index_17 (by decide) ?_
  refine t_putIK dX0_index_18 F_X0_71 qf_334_12 rfl (fun s1 ws1 => t_letE hk ws1 (fun hk => ?_))
  refine mj_goto 51 dX0_index_21 (by decide) ?_
  exact B_X0_index_51 _ _ _ hk
noncomputable def k_X0_index_46 (l3 : Int64) (s : t_S) : Option (t_S) :=
 t_let (t_setI s 334 12 (2 : Int32)) (fun s1 =>
 k_X0_index_51 l3 s1)
set_option maxRecDepth 4000 in
set_option maxHeartbeats 1000000 in
theorem B_X0_index_46 {D : va_G} {cy : Nat → ClassId} {ad : Nat → Nat} {bs : Nat} {X : State → Heap → Prop} (l3 : Int64) (s : t_S) (Q : t_S → Prop) (hk : t_hk (k_X0_index_46 l3 s) Q) : mj_G D cy ad bs X cX0_index 5 yX0_index.cls none yX0_index.name 2 0 0 1065 (t_P (fun v s' => v = none ∧ Q (s'))) 46 [(0, .ref 334), (3, .long l3)] [] (t_m s) 1065 0 0 := by
  refine mj_aload_n dX0_index_46 0 rfl ?_
  refine mj_iconst (v := 2) dX0_index_47 (by decide) ?_
  refine t_putIK dX0_index_48 F_X0_71 qf_334_12 rfl (fun s1 ws1 => t_letE hk ws1 (fun hk => ?_))
  exact B_X0_index_51 _ _ _ hk
noncomputable def f_X0_index (x1 : Int64) (x2 : Int64) (s : t_S) : Option (t_S) :=
 if (f_X8_kind x1 s) = (8 : Int32) then (if (f_X8_kind x2 s) = (0 : Int32) then (if (lg_cmp (f_X8_told x2 s) (0 : Int64)) < (0 : Int32) then (k_X0_index_46 x2 s)
 else (if (lg_cmp (f_X8_told x2 s) ((f_X8_partsOf x1 s).toInt64)) < (0 : Int32) then (k_X0_index_51 x2 s)
 else (k_X0_index_46 x2 s)))
 else (k_X0_index_16 x2 s))
 else (k_X0_index_16 x2 s)
set_option maxRecDepth 4000 in
set_option maxHeartbeats 1000000 in
theorem C_X0_index (x1 : Int64) (x2 : Int64) (s : t_S) (r : t_S) (hr : f_X0_index x1 x2 s = some r) : t_C yX0_index cX0_index 5 none 2 [.ref 334, .long x1, .long x2] s (fun v s' => v = none ∧ s' = r) := by
  refine t_C.imp (P := fun v s' => v = none ∧ (fun q => q = r) (s')) (t_C.of (by decide +kernel) (Nat.le_of_ble_eq_true rfl) ?_) (fun v s' hp => hp)
  intro D cy ad bs X
  have hk : t_hk (f_X0_index x1 x2 s) (fun q => q = r) := ⟨r, hr, rfl⟩
  show mj_G D cy ad bs X cX0_index 5 yX0_index.cls none yX0_index.name 2 0 0 1065 (t_P (fun v s' => v = none ∧ (fun q => q = r) (s'))) 0 [(0, .ref 334), (1, .long x1), (3, .long x2)] [] (t_m s) 1065 0 0
  refine mj_lload_n dX0_index_0 1 rfl ?_
  refine t_callSiP dX0_index_1 M_X8_kind (C_X8_kind _ _) ML_X0_160 SM_X8_kind (As := [.long x1]) rfl rfl (Nat.le_of_ble_eq_true rfl) (Nat.le_of_ble_eq_true rfl) (Nat.le_of_ble_eq_true rfl) (Nat.le_of_ble_eq_true rfl) ?_
  refine mj_bipush (v := 8) dX0_index_4 (by decide) ?_
  refine mj_icmp_ne 16 dX0_index_6 (by decide) (fun z => t_negK hk z (fun hk => ?_)) (fun z => t_posK hk z (fun hk => ?_))
  · refine mj_sublv [(0, .ref 334), (3, .long x2)] [0, 2] rfl ?_
    exact B_X0_index_16 _ _ _ hk
  · refine mj_lload_n dX0_index_9 2 rfl ?_
    refine t_callSiP dX0_index_10 M_X8_kind (C_X8_kind _ _) ML_X0_160 SM_X8_kind (As := [.long x2]) rfl rfl (Nat.le_of_ble_eq_true rfl) (Nat.le_of_ble_eq_true rfl) (Nat.le_of_ble_eq_true rfl) (Nat.le_of_ble_eq_true rfl) ?_
    refine mj_if_eq 24 dX0_index_13 (by decide) (fun z => t_posK hk z (fun hk => ?_)) (fun z => t_negK hk z (fun hk => ?_))
    · refine mj_lload_n dX0_index_24 2 rfl ?_
      refine t_callSlP dX0_index_25 M_X8_told (C_X8_told _ _) ML_X0_166 SM_X8_told (As := [.long x2]) rfl rfl (Nat.le_of_ble_eq_true rfl) (Nat.le_of_ble_eq_true rfl) (Nat.le_of_ble_eq_true rfl) (Nat.le_of_ble_eq_true rfl) ?_
      refine mj_lconst (v := 0) dX0_index_28 (by decide) ?_
      refine mj_lcmp dX0_index_29 ?_
      refine mj_if_lt 46 dX0_index_30 (by decide) (fun z => t_posK hk z (fun hk => ?_)) (fun z => t_negK hk z (fun hk => ?_))
      · refine mj_sublv [(0, .ref 334), (3, .long x2)] [0, 2] rfl ?_
        exact B_X0_index_46 _ _ _ hk
      · refine mj_lload_n dX0_index_33 2 rfl ?_
        refine t_callSlP dX0_index_34 M_X8_told (C_X8_told _ _) ML_X0_166 SM_X8_told (As := [.long x2]) rfl rfl (Nat.le_of_ble_eq_true rfl) (Nat.le_of_ble_eq_true rfl) (Nat.le_of_ble_eq_true rfl) (Nat.le_of_ble_eq_true rfl) ?_
        refine mj_lload_n dX0_index_37 1 rfl ?_
        refine t_callSiP dX0_index_38 M_X8_partsOf (C_X8_partsOf _ _) ML_X0_217 SM_X8_partsOf (As := [.long x1]) rfl rfl (Nat.le_of_ble_eq_true rfl) (Nat.le_of_ble_eq_true rfl) (Nat.le_of_ble_eq_true rfl) (Nat.le_of_ble_eq_true rfl) ?_
        refine mj_i2l (v := (f_X8_partsOf x1 s).toInt64) dX0_index_41 rfl ?_
        refine mj_lcmp dX0_index_42 ?_
        refine mj_if_lt 51 dX0_index_43 (by decide) (fun z => t_posK hk z (fun hk => ?_)) (fun z => t_negK hk z (fun hk => ?_))
        · refine mj_sublv [(0, .ref 334), (3, .long x2)] [0, 2] rfl ?_
          exact B_X0_index_51 _ _ _ hk
        · refine mj_sublv [(0, .ref 334), (3, .long x2)] [0, 2] rfl ?_
          exact B_X0_index_46 _ _ _ hk
    · refine mj_sublv [(0, .ref 334), (3, .long x2)] [0, 2] rfl ?_
      exact B_X0_index_16 _ _ _ hk

theorem dX0_isOrdered_0 : decode cX0_isOrdered 0 = .ok (.iload_n 0, 1) := by decide +kernel
theorem dX0_isOrdered_1 : decode cX0_isOrdered 1 = .ok (.tableswitch 63 22 24 #[27, 39, 51], 27) := by decide +kernel
theorem dX0_isOrdered_28 : decode cX0_isOrdered 28 = .ok (.lload_n 1, 1) := by decide +kernel
theorem dX0_isOrdered_29 : decode cX0_isOrdered 29 = .ok (.lload_n 3, 1) := by decide +kernel
theorem dX0_isOrdered_30 : decode cX0_isOrdered 30 = .ok (.lcmp, 1) := by decide +kernel
theorem dX0_isOrdered_31 : decode cX0_isOrdered 31 = .ok (.ifCond .ge 7, 3) := by decide +kernel
theorem dX0_isOrdered_34 : decode cX0_isOrdered 34 = .ok (.iconst 1, 1) := by decide +kernel
theorem dX0_isOrdered_35 : decode cX0_isOrdered 35 = .ok (.goto 4, 3) := by decide +kernel
theorem dX0_isOrdered_38 : decode cX0_isOrdered 38 = .ok (.iconst 0, 1) := by decide +kernel
theorem dX0_isOrdered_39 : decode cX0_isOrdered 39 = .ok (.ireturn, 1) := by decide +kernel
theorem dX0_isOrdered_40 : decode cX0_isOrdered 40 = .ok (.lload_n 1, 1) := by decide +kernel
theorem dX0_isOrdered_41 : decode cX0_isOrdered 41 = .ok (.lload_n 3, 1) := by decide +kernel
theorem dX0_isOrdered_42 : decode cX0_isOrdered 42 = .ok (.lcmp, 1) := by decide +kernel
theorem dX0_isOrdered_43 : decode cX0_isOrdered 43 = .ok (.ifCond .gt 7, 3) := by decide +kernel
theorem dX0_isOrdered_46 : decode cX0_isOrdered 46 = .ok (.iconst 1, 1) := by decide +kernel
theorem dX0_isOrdered_47 : decode cX0_isOrdered 47 = .ok (.goto 4, 3) := by decide +kernel
theorem dX0_isOrdered_50 : decode cX0_isOrdered 50 = .ok (.iconst 0, 1) := by decide +kernel
theorem dX0_isOrdered_51 : decode cX0_isOrdered 51 = .ok (.ireturn, 1) := by decide +kernel
theorem dX0_isOrdered_52 : decode cX0_isOrdered 52 = .ok (.lload_n 1, 1) := by decide +kernel
theorem dX0_isOrdered_53 : decode cX0_isOrdered 53 = .ok (.lload_n 3, 1) := by decide +kernel
theorem dX0_isOrdered_54 : decode cX0_isOrdered 54 = .ok (.lcmp, 1) := by decide +kernel
theorem dX0_isOrdered_55 : decode cX0_isOrdered 55 = .ok (.ifCond .le 7, 3) := by decide +kernel
theorem dX0_isOrdered_58 : decode cX0_isOrdered 58 = .ok (.iconst 1, 1) := by decide +kernel
theorem dX0_isOrdered_59 : decode cX0_isOrdered 59 = .ok (.goto 4, 3) := by decide +kernel
theorem dX0_isOrdered_62 : decode cX0_isOrdered 62 = .ok (.iconst 0, 1) := by decide +kernel
theorem dX0_isOrdered_63 : decode cX0_isOrdered 63 = .ok (.ireturn, 1) := by decide +kernel
theorem dX0_isOrdered_64 : decode cX0_isOrdered 64 = .ok (.lload_n 1, 1) := by decide +kernel
theorem dX0_isOrdered_65 : decode cX0_isOrdered 65 = .ok (.lload_n 3, 1) := by decide +kernel
theorem dX0_isOrdered_66 : decode cX0_isOrdered 66 = .ok (.lcmp, 1) := by decide +kernel
theorem dX0_isOrdered_67 : decode cX0_isOrdered 67 = .ok (.ifCond .lt 7, 3) := by decide +kernel
theorem dX0_isOrdered_70 : decode cX0_isOrdered 70 = .ok (.iconst 1, 1) := by decide +kernel
theorem dX0_isOrdered_71 : decode cX0_isOrdered 71 = .ok (.goto 4, 3) := by decide +kernel
theorem dX0_isOrdered_74 : decode cX0_isOrdered 74 = .ok (.iconst 0, 1) := by decide +kernel
theorem dX0_isOrdered_75 : decode cX0_isOrdered 75 = .ok (.ireturn, 1) := by decide +kernel
noncomputable def f_X0_isOrdered (x1 : Int32) (x2 : Int64) (x3 : Int64) (s : t_S) : Int32 :=
 if x1.toInt < 22 ∨ 24 < x1.toInt then (if (lg_cmp x2 x3) < (0 : Int32) then ((0 : Int32))
 else ((1 : Int32)))
 else if x1.toInt = 22 then (if (0 : Int32) ≤ (lg_cmp x2 x3) then ((0 : Int32))
 else ((1 : Int32)))
 else if x1.toInt = 23 then (if (0 : Int32) < (lg_cmp x2 x3) then ((0 : Int32))
 else ((1 : Int32)))
 else (if (lg_cmp x2 x3) ≤ (0 : Int32) then ((0 : Int32))
 else ((1 : Int32)))
set_option maxRecDepth 4000 in
set_option maxHeartbeats 1000000 in
theorem C_X0_isOrdered (x1 : Int32) (x2 : Int64) (x3 : Int64) (s : t_S) : t_C yX0_isOrdered cX0_isOrdered 5 (some .boolean) 0 [.int x1, .long x2, .long x3] s (fun v s' => v = some (.int (f_X0_isOrdered x1 x2 x3 s)) ∧ s' = s) := by
  refine t_C.imp (P := fun v s' => s' = s ∧ ∃ x, v = some (.int x) ∧ (fun r => r = f_X0_isOrdered x1 x2 x3 s) (x)) (t_C.of (by decide +kernel) (Nat.le_of_ble_eq_true rfl) ?_) (fun v s' hp => by obtain ⟨rfl, x, rfl, rfl⟩ := hp; exact ⟨rfl, rfl⟩)
  intro D cy ad bs X
  have hk : t_ht (f_X0_isOrdered x1 x2 x3 s) (fun r => r = f_X0_isOrdered x1 x2 x3 s) := rfl
  show mj_G D cy ad bs X cX0_isOrdered 5 yX0_isOrdered.cls (some .boolean) yX0_isOrdered.name 0 0 0 1065 (t_P (fun v s' => s' = s ∧ ∃ x, v = some (.int x) ∧ (fun r => r = f_X0_isOrdered x1 x2 x3 s) (x))) 0 [(0, .int x1), (1, .long x2), (3, .long x3)] [] (t_m s) 1065 0 0
  refine mj_iload_n dX0_isOrdered_0 0 rfl ?_
  by_cases hout : x1.toInt < 22 ∨ 24 < x1.toInt
  · replace hk := t_posT hk hout
    refine mj_tableOut 64 dX0_isOrdered_1 hout (by decide) ?_
    refine mj_lload_n dX0_isOrdered_64 1 rfl ?_
    refine mj_lload_n dX0_isOrdered_65 2 rfl ?_
    refine mj_lcmp dX0_isOrdered_66 ?_
    refine mj_if_lt 74 dX0_isOrdered_67 (by decide) (fun z => t_posTK hk z (fun hk => ?_)) (fun z => t_negTK hk z (fun hk => ?_))
    · refine mj_iconst (v := 0) dX0_isOrdered_74 (by decide) ?_
      exact t_iret dX0_isOrdered_75 rfl (by decide) ⟨rfl, _, rfl, hk⟩ (Nat.le_of_ble_eq_true rfl) (Nat.le_of_ble_eq_true rfl)
    · refine mj_iconst (v := 1) dX0_isOrdered_70 (by decide) ?_
      refine mj_goto 75 dX0_isOrdered_71 (by decide) ?_
      exact t_iret dX0_isOrdered_75 rfl (by decide) ⟨rfl, _, rfl, hk⟩ (Nat.le_of_ble_eq_true rfl) (Nat.le_of_ble_eq_true rfl)
  · replace hk := t_negT hk hout
    have hh1 : ¬ x1.toInt < 22 := fun z => hout (Or.inl z)
    have hh2 : ¬ (24 : Int) < x1.toInt := fun z => hout (Or.inr z)
    by_cases h0 : x1.toInt = 22
    · replace hk := t_posT hk h0
      refine mj_tableIn 28 dX0_isOrdered_1 hh1 hh2 (by rw [h0]; rfl) (by decide) ?_
      refine mj_lload_n dX0_isOrdered_28 1 rfl ?_
      refine mj_lload_n dX0_isOrdered_29 2 rfl ?_
      refine mj_lcmp dX0_isOrdered_30 ?_
      refine mj_if_ge 38 dX0_isOrdered_31 (by decide) (fun z => t_posTK hk z (fun hk => ?_)) (fun z => t_negTK hk z (fun hk => ?_))
      · refine mj_iconst (v := 0) dX0_isOrdered_38 (by decide) ?_
        exact t_iret dX0_isOrdered_39 rfl (by decide) ⟨rfl, _, rfl, hk⟩ (Nat.le_of_ble_eq_true rfl) (Nat.le_of_ble_eq_true rfl)
      · refine mj_iconst (v := 1) dX0_isOrdered_34 (by decide) ?_
        refine mj_goto 39 dX0_isOrdered_35 (by decide) ?_
        exact t_iret dX0_isOrdered_39 rfl (by decide) ⟨rfl, _, rfl, hk⟩ (Nat.le_of_ble_eq_true rfl) (Nat.le_of_ble_eq_true rfl)
    replace hk := t_negT hk h0
    by_cases h1 : x1.toInt = 23
    · replace hk := t_posT hk h1
      refine mj_tableIn 40 dX0_isOrdered_1 hh1 hh2 (by rw [h1]; rfl) (by decide) ?_
      refine mj_lload_n dX0_isOrdered_40 1 rfl ?_
      refine mj_lload_n dX0_isOrdered_41 2 rfl ?_
      refine mj_lcmp dX0_isOrdered_42 ?_
      refine mj_if_gt 50 dX0_isOrdered_43 (by decide) (fun z => t_posTK hk z (fun hk => ?_)) (fun z => t_negTK hk z (fun hk => ?_))
      · refine mj_iconst (v := 0) dX0_isOrdered_50 (by decide) ?_
        exact t_iret dX0_isOrdered_51 rfl (by decide) ⟨rfl, _, rfl, hk⟩ (Nat.le_of_ble_eq_true rfl) (Nat.le_of_ble_eq_true rfl)
      · refine mj_iconst (v := 1) dX0_isOrdered_46 (by decide) ?_
        refine mj_goto 51 dX0_isOrdered_47 (by decide) ?_
        exact t_iret dX0_isOrdered_51 rfl (by decide) ⟨rfl, _, rfl, hk⟩ (Nat.le_of_ble_eq_true rfl) (Nat.le_of_ble_eq_true rfl)
    replace hk := t_negT hk h1
    have h2 : x1.toInt = 24 := by omega
    refine mj_tableIn 52 dX0_isOrdered_1 hh1 hh2 (by rw [h2]; rfl) (by decide) ?_
    refine mj_lload_n dX0_isOrdered_52 1 rfl ?_
    refine mj_lload_n dX0_isOrdered_53 2 rfl ?_
    refine mj_lcmp dX0_isOrdered_54 ?_
    refine mj_if_le 62 dX0_isOrdered_55 (by decide) (fun z => t_posTK hk z (fun hk => ?_)) (fun z => t_negTK hk z (fun hk => ?_))
    · refine mj_iconst (v := 0) dX0_isOrdered_62 (by decide) ?_
      exact t_iret dX0_isOrdered_63 rfl (by decide) ⟨rfl, _, rfl, hk⟩ (Nat.le_of_ble_eq_true rfl) (Nat.le_of_ble_eq_true rfl)
    · refine mj_iconst (v := 1) dX0_isOrdered_58 (by decide) ?_
      refine mj_goto 63 dX0_isOrdered_59 (by decide) ?_
      exact t_iret dX0_isOrdered_63 rfl (by decide) ⟨rfl, _, rfl, hk⟩ (Nat.le_of_ble_eq_true rfl) (Nat.le_of_ble_eq_true rfl)

theorem dX8_extent_0 : decode cX8_extent 0 = .ok (.lload_n 0, 1) := by decide +kernel
theorem dX8_extent_1 : decode cX8_extent 1 = .ok (.l2i, 1) := by decide +kernel
theorem dX8_extent_11 : decode cX8_extent 11 = .ok (.iload_n 2, 1) := by decide +kernel
theorem dX8_extent_12 : decode cX8_extent 12 = .ok (.bipush 8, 2) := by decide +kernel
theorem dX8_extent_14 : decode cX8_extent 14 = .ok (.if_icmp .eq 9, 3) := by decide +kernel
theorem dX8_extent_17 : decode cX8_extent 17 = .ok (.iload_n 2, 1) := by decide +kernel
theorem dX8_extent_18 : decode cX8_extent 18 = .ok (.bipush 6, 2) := by decide +kernel
theorem dX8_extent_2 : decode cX8_extent 2 = .ok (.bipush 15, 2) := by decide +kernel
theorem dX8_extent_20 : decode cX8_extent 20 = .ok (.if_icmp .ne 11, 3) := by decide +kernel
theorem dX8_extent_23 : decode cX8_extent 23 = .ok (.lload_n 0, 1) := by decide +kernel
theorem dX8_extent_24 : decode cX8_extent 24 = .ok (.bipush 12, 2) := by decide +kernel
theorem dX8_extent_26 : decode cX8_extent 26 = .ok (.lshr, 1) := by decide +kernel
theorem dX8_extent_27 : decode cX8_extent 27 = .ok (.l2i, 1) := by decide +kernel
theorem dX8_extent_28 : decode cX8_extent 28 = .ok (.goto 4, 3) := by decide +kernel
theorem dX8_extent_31 : decode cX8_extent 31 = .ok (.iconst 0, 1) := by decide +kernel
theorem dX8_extent_32 : decode cX8_extent 32 = .ok (.ireturn, 1) := by decide +kernel
theorem dX8_extent_4 : decode cX8_extent 4 = .ok (.iand, 1) := by decide +kernel
theorem dX8_extent_5 : decode cX8_extent 5 = .ok (.istore_n 2, 1) := by decide +kernel
theorem dX8_extent_6 : decode cX8_extent 6 = .ok (.iload_n 2, 1) := by decide +kernel
theorem dX8_extent_7 : decode cX8_extent 7 = .ok (.iconst 2, 1) := by decide +kernel
theorem dX8_extent_8 : decode cX8_extent 8 = .ok (.if_icmp .eq 15, 3) := by decide +kernel
noncomputable def k_X8_extent_23 (l0 : Int64) (s : t_S) : Int32 :=
 ((l0 >>> ((12 : Int32).toInt64 &&& 63)).toInt32)
set_option maxRecDepth 4000 in
set_option maxHeartbeats 1000000 in
theorem B_X8_extent_23 {D : va_G} {cy : Nat → ClassId} {ad : Nat → Nat} {bs : Nat} {X : State → Heap → Prop} (l0 : Int64) (s : t_S) (Q : Int32 → Prop) (hk : t_ht (k_X8_extent_23 l0 s) Q) : mj_G D cy ad bs X cX8_extent 3 yX8_extent.cls (some .int) yX8_extent.name 0 0 0 1065 (t_P (fun v s' => s' = s ∧ ∃ x, v = some (.int x) ∧ Q (x))) 23 [(0, .long l0)] [] (t_m s) 1065 0 0 := by
  refine mj_lload_n dX8_extent_23 0 rfl ?_
  refine mj_bipush (v := 12) dX8_extent_24 (by decide) ?_
  refine mj_lshr dX8_extent_26 rfl ?_
  refine mj_l2i (v := (l0 >>> ((12 : Int32).toInt64 &&& 63)).toInt32) dX8_extent_27 rfl ?_
  refine mj_goto 32 dX8_extent_28 (by decide) ?_
  exact t_iret dX8_extent_32 rfl rfl ⟨rfl, _, rfl, hk⟩ (Nat.le_of_ble_eq_true rfl) (Nat.le_of_ble_eq_true rfl)
noncomputable def f_X8_extent (x1 : Int64) (s : t_S) : Int32 :=
 if (x1.toInt32 &&& (15 : Int32)) = (2 : Int32) then (k_X8_extent_23 x1 s)
 else (if (x1.toInt32 &&& (15 : Int32)) = (8 : Int32) then (k_X8_extent_23 x1 s)
 else (if (x1.toInt32 &&& (15 : Int32)) = (6 : Int32) then (k_X8_extent_23 x1 s)
 else ((0 : Int32))))
set_option maxRecDepth 4000 in
set_option maxHeartbeats 1000000 in
theorem C_X8_extent (x1 : Int64) (s : t_S) : t_C yX8_extent cX8_extent 3 (some .int) 0 [.long x1] s (fun v s' => v = some (.int (f_X8_extent x1 s)) ∧ s' = s) := by
  refine t_C.imp (P := fun v s' => s' = s ∧ ∃ x, v = some (.int x) ∧ (fun r => r = f_X8_extent x1 s) (x)) (t_C.of (by decide +kernel) (Nat.le_of_ble_eq_true rfl) ?_) (fun v s' hp => by obtain ⟨rfl, x, rfl, rfl⟩ := hp; exact ⟨rfl, rfl⟩)
  intro D cy ad bs X
  have hk : t_ht (f_X8_extent x1 s) (fun r => r = f_X8_extent x1 s) := rfl
  show mj_G D cy ad bs X cX8_extent 3 yX8_extent.cls (some .int) yX8_extent.name 0 0 0 1065 (t_P (fun v s' => s' = s ∧ ∃ x, v = some (.int x) ∧ (fun r => r = f_X8_extent x1 s) (x))) 0 [(0, .long x1)] [] (t_m s) 1065 0 0
  refine mj_lload_n dX8_extent_0 0 rfl ?_
  refine mj_l2i (v := x1.toInt32) dX8_extent_1 rfl ?_
  refine mj_bipush (v := 15) dX8_extent_2 (by decide) ?_
  refine mj_iand dX8_extent_4 ?_
  refine mj_istore_n 2 (lv2 := [(2, .int (x1.toInt32 &&& (15 : Int32))), (0, .long x1)]) dX8_extent_5 rfl (by decide) rfl ?_
  refine mj_iload_n dX8_extent_6 0 rfl ?_
  refine mj_iconst (v := 2) dX8_extent_7 (by decide) ?_
  refine mj_icmp_eq 23 dX8_extent_8 (by decide) (fun z => t_posTK hk z (fun hk => ?_)) (fun z => t_negTK hk z (fun hk => ?_))
  · refine mj_sublv [(0, .long x1)] [1] rfl ?_
    exact B_X8_extent_23 _ _ _ hk
  · refine mj_iload_n dX8_extent_11 0 rfl ?_
    refine mj_bipush (v := 8) dX8_extent_12 (by decide) ?_
    refine mj_icmp_eq 23 dX8_extent_14 (by decide) (fun z => t_posTK hk z (fun hk => ?_)) (fun z => t_negTK hk z (fun hk => ?_))
    · refine mj_sublv [(0, .long x1)] [1] rfl ?_
      exact B_X8_extent_23 _ _ _ hk
    · refine mj_iload_n dX8_extent_17 0 rfl ?_
      refine mj_bipush (v := 6) dX8_extent_18 (by decide) ?_
      refine mj_icmp_ne 31 dX8_extent_20 (by decide) (fun z => t_negTK hk z (fun hk => ?_)) (fun z => t_posTK hk z (fun hk => ?_))
      · refine mj_iconst (v := 0) dX8_extent_31 (by decide) ?_
        exact t_iret dX8_extent_32 rfl rfl ⟨rfl, _, rfl, hk⟩ (Nat.le_of_ble_eq_true rfl) (Nat.le_of_ble_eq_true rfl)
      · refine mj_sublv [(0, .long x1)] [1] rfl ?_
        exact B_X8_extent_23 _ _ _ hk

theorem dX8_putSign_0 : decode cX8_putSign 0 = .ok (.iload_n 1, 1) := by decide +kernel
theorem dX8_putSign_1 : decode cX8_putSign 1 = .ok (.iconst 1, 1) := by decide +kernel
theorem dX8_putSign_10 : decode cX8_putSign 10 = .ok (.iload_n 2, 1) := by decide +kernel
theorem dX8_putSign_11 : decode cX8_putSign 11 = .ok (.bipush 8, 2) := by decide +kernel
theorem dX8_putSign_13 : decode cX8_putSign 13 = .ok (.irem, 1) := by decide +kernel
theorem dX8_putSign_14 : decode cX8_putSign 14 = .ok (.ifCond .ne 10, 3) := by decide +kernel
theorem dX8_putSign_17 : decode cX8_putSign 17 = .ok (.aload_n 0, 1) := by decide +kernel
theorem dX8_putSign_18 : decode cX8_putSign 18 = .ok (.iload 4, 2) := by decide +kernel
theorem dX8_putSign_2 : decode cX8_putSign 2 = .ok (.iadd, 1) := by decide +kernel
theorem dX8_putSign_20 : decode cX8_putSign 20 = .ok (.ldc2_w 55, 3) := by decide +kernel
theorem dX8_putSign_23 : decode cX8_putSign 23 = .ok (.lastore, 1) := by decide +kernel
theorem dX8_putSign_24 : decode cX8_putSign 24 = .ok (.aload_n 0, 1) := by decide +kernel
theorem dX8_putSign_25 : decode cX8_putSign 25 = .ok (.iload 4, 2) := by decide +kernel
theorem dX8_putSign_27 : decode cX8_putSign 27 = .ok (.dup2, 1) := by decide +kernel
theorem dX8_putSign_28 : decode cX8_putSign 28 = .ok (.laload, 1) := by decide +kernel
theorem dX8_putSign_29 : decode cX8_putSign 29 = .ok (.iload_n 3, 1) := by decide +kernel
theorem dX8_putSign_3 : decode cX8_putSign 3 = .ok (.iload_n 2, 1) := by decide +kernel
theorem dX8_putSign_30 : decode cX8_putSign 30 = .ok (.i2l, 1) := by decide +kernel
theorem dX8_putSign_31 : decode cX8_putSign 31 = .ok (.iconst 4, 1) := by decide +kernel
theorem dX8_putSign_32 : decode cX8_putSign 32 = .ok (.bipush 7, 2) := by decide +kernel
theorem dX8_putSign_34 : decode cX8_putSign 34 = .ok (.iload_n 2, 1) := by decide +kernel
theorem dX8_putSign_35 : decode cX8_putSign 35 = .ok (.bipush 8, 2) := by decide +kernel
theorem dX8_putSign_37 : decode cX8_putSign 37 = .ok (.irem, 1) := by decide +kernel
theorem dX8_putSign_38 : decode cX8_putSign 38 = .ok (.imul, 1) := by decide +kernel
theorem dX8_putSign_39 : decode cX8_putSign 39 = .ok (.iadd, 1) := by decide +kernel
theorem dX8_putSign_4 : decode cX8_putSign 4 = .ok (.bipush 8, 2) := by decide +kernel
theorem dX8_putSign_40 : decode cX8_putSign 40 = .ok (.lshl, 1) := by decide +kernel
theorem dX8_putSign_41 : decode cX8_putSign 41 = .ok (.lor, 1) := by decide +kernel
theorem dX8_putSign_42 : decode cX8_putSign 42 = .ok (.lastore, 1) := by decide +kernel
theorem dX8_putSign_43 : decode cX8_putSign 43 = .ok (.return_, 1) := by decide +kernel
theorem dX8_putSign_6 : decode cX8_putSign 6 = .ok (.idiv, 1) := by decide +kernel
theorem dX8_putSign_7 : decode cX8_putSign 7 = .ok (.iadd, 1) := by decide +kernel
theorem dX8_putSign_8 : decode cX8_putSign 8 = .ok (.istore 4, 2) := by decide +kernel
noncomputable def k_X8_putSign_24 (l0 : Nat) (l2 : Int32) (l3 : Int32) (l4 : Int32) (s : t_S) : Option (t_S) :=
 if t_oka l0 2 (t_ln l0) = true then
  if t_ix l4 (t_ln l0) = true then
  t_let (t_setJ s l0 (l4.toNatClampNeg) ((s.2.1 l0 (l4.toNatClampNeg)) ||| (l3.toInt64 <<< (((4 : Int32) + ((7 : Int32) * (l2 - l2 / (8 : Int32) * (8 : Int32)))).toInt64 &&& 63)))) (fun s1 =>
 some (s1))
else none
else none
set_option maxRecDepth 4000 in
set_option maxHeartbeats 1000000 in
theorem B_X8_putSign_24 {D : va_G} {cy : Nat → ClassId} {ad : Nat → Nat} {bs : Nat} {X : State → Heap → Prop} (l0 : Nat) (l2 : Int32) (l3 : Int32) (l4 : Int32) (s : t_S) (Q : t_S → Prop) (hk : t_hk (k_X8_putSign_24 l0 l2 l3 l4 s) Q) : mj_G D cy ad bs X cX8_putSign 5 yX8_putSign.cls none yX8_putSign.name 0 0 0 1065 (t_P (fun v s' => v = none ∧ Q (s'))) 24 [(0, .ref l0), (2, .int l2), (3, .int l3), (4, .int l4)] [] (t_m s) 1065 0 0 := by
  refine mj_aload_n dX8_putSign_24 0 rfl ?_
  refine mj_iload dX8_putSign_25 3 rfl ?_
  refine mj_dup2 dX8_putSign_27 rfl rfl ?_
  refine t_chkK hk (fun c0 hk => ?_)
  refine t_chkK hk (fun c1 hk => ?_)
  refine t_lald dX8_putSign_28 c0 (t_ixv c1) ?_
  refine mj_iload_n dX8_putSign_29 2 rfl ?_
  refine mj_i2l (v := l3.toInt64) dX8_putSign_30 rfl ?_
  refine mj_iconst (v := 4) dX8_putSign_31 (by decide) ?_
  refine mj_bipush (v := 7) dX8_putSign_32 (by decide) ?_
  refine mj_iload_n dX8_putSign_34 1 rfl ?_
  refine mj_bipush (v := 8) dX8_putSign_35 (by decide) ?_
  refine mj_irem dX8_putSign_37 (by decide) ?_
  refine mj_imul dX8_putSign_38 ?_
  refine mj_iadd dX8_putSign_39 ?_
  refine mj_lshl dX8_putSign_40 rfl ?_
  refine mj_lor dX8_putSign_41 ?_
  refine t_lastK dX8_putSign_42 c0 (t_ixv c1) (fun s1 ws1 => t_letE hk ws1 (fun hk => ?_))
  exact t_somK hk (fun hf => t_vret dX8_putSign_43 rfl ⟨rfl, hf⟩ (Nat.le_of_ble_eq_true rfl) (Nat.le_of_ble_eq_true rfl))
noncomputable def f_X8_putSign (x1 : Nat) (x2 : Int32) (x3 : Int32) (x4 : Int32) (s : t_S) : Option (t_S) :=
 if (x3 - x3 / (8 : Int32) * (8 : Int32)) = (0 : Int32) then (if t_oka x1 2 (t_ln x1) = true then
  if t_ix ((x2 + (1 : Int32)) + (x3 / (8 : Int32))) (t_ln x1) = true then
  t_let (t_setJ s x1 (((x2 + (1 : Int32)) + (x3 / (8 : Int32))).toNatClampNeg) (10 : Int64)) (fun s1 =>
 k_X8_putSign_24 x1 x3 x4 ((x2 + (1 : Int32)) + (x3 / (8 : Int32))) s1)
else none
else none)
 else (k_X8_putSign_24 x1 x3 x4 ((x2 + (1 : Int32)) + (x3 / (8 : Int32))) s)
set_option maxRecDepth 4000 in
set_option maxHeartbeats 1000000 in
theorem C_X8_putSign (x1 : Nat) (x2 : Int32) (x3 : Int32) (x4 : Int32) (s : t_S) (r : t_S) (hr : f_X8_putSign x1 x2 x3 x4 s = some r) : t_C yX8_putSign cX8_putSign 5 none 0 [.ref x1, .int x2, .int x3, .int x4] s (fun v s' => v = none ∧ s' = r) := by
  refine t_C.imp (P := fun v s' => v = none ∧ (fun q => q = r) (s')) (t_C.of (by decide +kernel) (Nat.le_of_ble_eq_true rfl) ?_) (fun v s' hp => hp)
  intro D cy ad bs X
  have hk : t_hk (f_X8_putSign x1 x2 x3 x4 s) (fun q => q = r) := ⟨r, hr, rfl⟩
  show mj_G D cy ad bs X cX8_putSign 5 yX8_putSign.cls none yX8_putSign.name 0 0 0 1065 (t_P (fun v s' => v = none ∧ (fun q => q = r) (s'))) 0 [(0, .ref x1), (1, .int x2), (2, .int x3), (3, .int x4)] [] (t_m s) 1065 0 0
  refine mj_iload_n dX8_putSign_0 1 rfl ?_
  refine mj_iconst (v := 1) dX8_putSign_1 (by decide) ?_
  refine mj_iadd dX8_putSign_2 ?_
  refine mj_iload_n dX8_putSign_3 2 rfl ?_
  refine mj_bipush (v := 8) dX8_putSign_4 (by decide) ?_
  refine mj_idiv dX8_putSign_6 (by decide) ?_
  refine mj_iadd dX8_putSign_7 ?_
  refine mj_istore (lv2 := [(4, .int ((x2 + (1 : Int32)) + (x3 / (8 : Int32)))), (0, .ref x1), (1, .int x2), (2, .int x3), (3, .int x4)]) dX8_putSign_8 (by decide) rfl ?_
  refine mj_iload_n dX8_putSign_10 3 rfl ?_
  refine mj_bipush (v := 8) dX8_putSign_11 (by decide) ?_
  refine mj_irem dX8_putSign_13 (by decide) ?_
  refine mj_if_ne 24 dX8_putSign_14 (by decide) (fun z => t_negK hk z (fun hk => ?_)) (fun z => t_posK hk z (fun hk => ?_))
  · refine mj_sublv [(0, .ref x1), (2, .int x3), (3, .int x4), (4, .int ((x2 + (1 : Int32)) + (x3 / (8 : Int32))))] [1, 3, 4, 0] rfl ?_
    exact B_X8_putSign_24 _ _ _ _ _ _ hk
  · refine mj_aload_n dX8_putSign_17 1 rfl ?_
    refine mj_iload dX8_putSign_18 0 rfl ?_
    refine mj_ldc2 dX8_putSign_20 K_X8_55 ?_
    refine t_chkK hk (fun c0 hk => ?_)
    refine t_chkK hk (fun c1 hk => ?_)
    refine t_lastK dX8_putSign_23 c0 (t_ixv c1) (fun s1 ws1 => t_letE hk ws1 (fun hk => ?_))
    refine mj_sublv [(0, .ref x1), (2, .int x3), (3, .int x4), (4, .int ((x2 + (1 : Int32)) + (x3 / (8 : Int32))))] [1, 3, 4, 0] rfl ?_
    exact B_X8_putSign_24 _ _ _ _ _ _ hk

theorem dX8_sign_0 : decode cX8_sign 0 = .ok (.aload_n 0, 1) := by decide +kernel
theorem dX8_sign_1 : decode cX8_sign 1 = .ok (.iload_n 1, 1) := by decide +kernel
theorem dX8_sign_10 : decode cX8_sign 10 = .ok (.iconst 4, 1) := by decide +kernel
theorem dX8_sign_11 : decode cX8_sign 11 = .ok (.bipush 7, 2) := by decide +kernel
theorem dX8_sign_13 : decode cX8_sign 13 = .ok (.iload_n 2, 1) := by decide +kernel
theorem dX8_sign_14 : decode cX8_sign 14 = .ok (.bipush 8, 2) := by decide +kernel
theorem dX8_sign_16 : decode cX8_sign 16 = .ok (.irem, 1) := by decide +kernel
theorem dX8_sign_17 : decode cX8_sign 17 = .ok (.imul, 1) := by decide +kernel
theorem dX8_sign_18 : decode cX8_sign 18 = .ok (.iadd, 1) := by decide +kernel
theorem dX8_sign_19 : decode cX8_sign 19 = .ok (.lshr, 1) := by decide +kernel
theorem dX8_sign_2 : decode cX8_sign 2 = .ok (.iconst 1, 1) := by decide +kernel
theorem dX8_sign_20 : decode cX8_sign 20 = .ok (.l2i, 1) := by decide +kernel
theorem dX8_sign_21 : decode cX8_sign 21 = .ok (.bipush 127, 2) := by decide +kernel
theorem dX8_sign_23 : decode cX8_sign 23 = .ok (.iand, 1) := by decide +kernel
theorem dX8_sign_24 : decode cX8_sign 24 = .ok (.ireturn, 1) := by decide +kernel
theorem dX8_sign_3 : decode cX8_sign 3 = .ok (.iadd, 1) := by decide +kernel
theorem dX8_sign_4 : decode cX8_sign 4 = .ok (.iload_n 2, 1) := by decide +kernel
theorem dX8_sign_5 : decode cX8_sign 5 = .ok (.bipush 8, 2) := by decide +kernel
theorem dX8_sign_7 : decode cX8_sign 7 = .ok (.idiv, 1) := by decide +kernel
theorem dX8_sign_8 : decode cX8_sign 8 = .ok (.iadd, 1) := by decide +kernel
theorem dX8_sign_9 : decode cX8_sign 9 = .ok (.laload, 1) := by decide +kernel
noncomputable def f_X8_sign (x1 : Nat) (x2 : Int32) (x3 : Int32) (s : t_S) : Option (Int32) :=
 if t_oka x1 2 (t_ln x1) = true then
  if t_ix ((x2 + (1 : Int32)) + (x3 / (8 : Int32))) (t_ln x1) = true then
  some ((((s.2.1 x1 (((x2 + (1 : Int32)) + (x3 / (8 : Int32))).toNatClampNeg)) >>> (((4 : Int32) + ((7 : Int32) * (x3 - x3 / (8 : Int32) * (8 : Int32)))).toInt64 &&& 63)).toInt32) &&& (127 : Int32))
else none
else none
set_option maxRecDepth 4000 in
set_option maxHeartbeats 1000000 in
theorem C_X8_sign (x1 : Nat) (x2 : Int32) (x3 : Int32) (s : t_S) (r : Int32) (hr : f_X8_sign x1 x2 x3 s = some r) : t_C yX8_sign cX8_sign 3 (some .int) 0 [.ref x1, .int x2, .int x3] s (fun v s' => v = some (.int r) ∧ s' = s) := by
  refine t_C.imp (P := fun v s' => s' = s ∧ ∃ x, v = some (.int x) ∧ (fun q => q = r) (x)) (t_C.of (by decide +kernel) (Nat.le_of_ble_eq_true rfl) ?_) (fun v s' hp => by obtain ⟨rfl, x, rfl, rfl⟩ := hp; exact ⟨rfl, rfl⟩)
  intro D cy ad bs X
  have hk : t_hk (f_X8_sign x1 x2 x3 s) (fun q => q = r) := ⟨r, hr, rfl⟩
  show mj_G D cy ad bs X cX8_sign 3 yX8_sign.cls (some .int) yX8_sign.name 0 0 0 1065 (t_P (fun v s' => s' = s ∧ ∃ x, v = some (.int x) ∧ (fun q => q = r) (x))) 0 [(0, .ref x1), (1, .int x2), (2, .int x3)] [] (t_m s) 1065 0 0
  refine mj_aload_n dX8_sign_0 0 rfl ?_
  refine mj_iload_n dX8_sign_1 1 rfl ?_
  refine mj_iconst (v := 1) dX8_sign_2 (by decide) ?_
  refine mj_iadd dX8_sign_3 ?_
  refine mj_iload_n dX8_sign_4 2 rfl ?_
  refine mj_bipush (v := 8) dX8_sign_5 (by decide) ?_
  refine mj_idiv dX8_sign_7 (by decide) ?_
  refine mj_iadd dX8_sign_8 ?_
  refine t_chkK hk (fun c0 hk => ?_)
  refine t_chkK hk (fun c1 hk => ?_)
  refine t_lald dX8_sign_9 c0 (t_ixv c1) ?_
  refine mj_iconst (v := 4) dX8_sign_10 (by decide) ?_
  refine mj_bipush (v := 7) dX8_sign_11 (by decide) ?_
  refine mj_iload_n dX8_sign_13 2 rfl ?_
  refine mj_bipush (v := 8) dX8_sign_14 (by decide) ?_
  refine mj_irem dX8_sign_16 (by decide) ?_
  refine mj_imul dX8_sign_17 ?_
  refine mj_iadd dX8_sign_18 ?_
  refine mj_lshr dX8_sign_19 rfl ?_
  refine mj_l2i (v := ((s.2.1 x1 (((x2 + (1 : Int32)) + (x3 / (8 : Int32))).toNatClampNeg)) >>> (((4 : Int32) + ((7 : Int32) * (x3 - x3 / (8 : Int32) * (8 : Int32)))).toInt64 &&& 63)).toInt32) dX8_sign_20 rfl ?_
  refine mj_bipush (v := 127) dX8_sign_21 (by decide) ?_
  refine mj_iand dX8_sign_23 ?_
  exact t_somK hk (fun hf => t_iret dX8_sign_24 rfl rfl ⟨rfl, _, rfl, hf⟩ (Nat.le_of_ble_eq_true rfl) (Nat.le_of_ble_eq_true rfl))

theorem dX8_textCell_0 : decode cX8_textCell 0 = .ok (.iload_n 0, 1) := by decide +kernel
theorem dX8_textCell_1 : decode cX8_textCell 1 = .ok (.i2l, 1) := by decide +kernel
theorem dX8_textCell_10 : decode cX8_textCell 10 = .ok (.bipush 8, 2) := by decide +kernel
theorem dX8_textCell_12 : decode cX8_textCell 12 = .ok (.idiv, 1) := by decide +kernel
theorem dX8_textCell_13 : decode cX8_textCell 13 = .ok (.iadd, 1) := by decide +kernel
theorem dX8_textCell_14 : decode cX8_textCell 14 = .ok (.i2l, 1) := by decide +kernel
theorem dX8_textCell_15 : decode cX8_textCell 15 = .ok (.iconst 4, 1) := by decide +kernel
theorem dX8_textCell_16 : decode cX8_textCell 16 = .ok (.lshl, 1) := by decide +kernel
theorem dX8_textCell_17 : decode cX8_textCell 17 = .ok (.lor, 1) := by decide +kernel
theorem dX8_textCell_18 : decode cX8_textCell 18 = .ok (.ldc2_w 30, 3) := by decide +kernel
theorem dX8_textCell_2 : decode cX8_textCell 2 = .ok (.bipush 12, 2) := by decide +kernel
theorem dX8_textCell_21 : decode cX8_textCell 21 = .ok (.lor, 1) := by decide +kernel
theorem dX8_textCell_22 : decode cX8_textCell 22 = .ok (.lreturn, 1) := by decide +kernel
theorem dX8_textCell_4 : decode cX8_textCell 4 = .ok (.lshl, 1) := by decide +kernel
theorem dX8_textCell_5 : decode cX8_textCell 5 = .ok (.iconst 1, 1) := by decide +kernel
theorem dX8_textCell_6 : decode cX8_textCell 6 = .ok (.iload_n 0, 1) := by decide +kernel
theorem dX8_textCell_7 : decode cX8_textCell 7 = .ok (.bipush 7, 2) := by decide +kernel
theorem dX8_textCell_9 : decode cX8_textCell 9 = .ok (.iadd, 1) := by decide +kernel
noncomputable def f_X8_textCell (x1 : Int32) (s : t_S) : Option (Int64) :=
 some (((x1.toInt64 <<< ((12 : Int32).toInt64 &&& 63)) ||| ((((1 : Int32) + ((x1 + (7 : Int32)) / (8 : Int32))).toInt64) <<< ((4 : Int32).toInt64 &&& 63))) ||| (2 : Int64))
set_option maxRecDepth 4000 in
set_option maxHeartbeats 1000000 in
theorem C_X8_textCell (x1 : Int32) (s : t_S) (r : Int64) (hr : f_X8_textCell x1 s = some r) : t_C yX8_textCell cX8_textCell 1 (some .long) 0 [.int x1] s (fun v s' => v = some (.long r) ∧ s' = s) := by
  refine t_C.imp (P := fun v s' => s' = s ∧ ∃ x, v = some (.long x) ∧ (fun q => q = r) (x)) (t_C.of (by decide +kernel) (Nat.le_of_ble_eq_true rfl) ?_) (fun v s' hp => by obtain ⟨rfl, x, rfl, rfl⟩ := hp; exact ⟨rfl, rfl⟩)
  intro D cy ad bs X
  have hk : t_hk (f_X8_textCell x1 s) (fun q => q = r) := ⟨r, hr, rfl⟩
  show mj_G D cy ad bs X cX8_textCell 1 yX8_textCell.cls (some .long) yX8_textCell.name 0 0 0 1065 (t_P (fun v s' => s' = s ∧ ∃ x, v = some (.long x) ∧ (fun q => q = r) (x))) 0 [(0, .int x1)] [] (t_m s) 1065 0 0
  refine mj_iload_n dX8_textCell_0 0 rfl ?_
  refine mj_i2l (v := x1.toInt64) dX8_textCell_1 rfl ?_
  refine mj_bipush (v := 12) dX8_textCell_2 (by decide) ?_
  refine mj_lshl dX8_textCell_4 rfl ?_
  refine mj_iconst (v := 1) dX8_textCell_5 (by decide) ?_
  refine mj_iload_n dX8_textCell_6 0 rfl ?_
  refine mj_bipush (v := 7) dX8_textCell_7 (by decide) ?_
  refine mj_iadd dX8_textCell_9 ?_
  refine mj_bipush (v := 8) dX8_textCell_10 (by decide) ?_
  refine mj_idiv dX8_textCell_12 (by decide) ?_
  refine mj_iadd dX8_textCell_13 ?_
  refine mj_i2l (v := ((1 : Int32) + ((x1 + (7 : Int32)) / (8 : Int32))).toInt64) dX8_textCell_14 rfl ?_
  refine mj_iconst (v := 4) dX8_textCell_15 (by decide) ?_
  refine mj_lshl dX8_textCell_16 rfl ?_
  refine mj_lor dX8_textCell_17 ?_
  refine mj_ldc2 dX8_textCell_18 K_X8_30 ?_
  refine mj_lor dX8_textCell_21 ?_
  exact t_somK hk (fun hf => t_lret dX8_textCell_22 rfl ⟨rfl, _, rfl, hf⟩ (Nat.le_of_ble_eq_true rfl) (Nat.le_of_ble_eq_true rfl))

theorem dX0_join_0 : decode cX0_join 0 = .ok (.lload_n 1, 1) := by decide +kernel
theorem dX0_join_1 : decode cX0_join 1 = .ok (.invokestatic 160, 3) := by decide +kernel
theorem dX0_join_10 : decode cX0_join 10 = .ok (.aload_n 0, 1) := by decide +kernel
theorem dX0_join_101 : decode cX0_join 101 = .ok (.if_icmp .gt 17, 3) := by decide +kernel
theorem dX0_join_104 : decode cX0_join 104 = .ok (.iload 5, 2) := by decide +kernel
theorem dX0_join_106 : decode cX0_join 106 = .ok (.bipush 8, 2) := by decide +kernel
theorem dX0_join_108 : decode cX0_join 108 = .ok (.if_icmp .ne 15, 3) := by decide +kernel
theorem dX0_join_11 : decode cX0_join 11 = .ok (.getfield 62, 3) := by decide +kernel
theorem dX0_join_111 : decode cX0_join 111 = .ok (.iload 9, 2) := by decide +kernel
theorem dX0_join_113 : decode cX0_join 113 = .ok (.bipush 120, 2) := by decide +kernel
theorem dX0_join_115 : decode cX0_join 115 = .ok (.if_icmp .le 8, 3) := by decide +kernel
theorem dX0_join_118 : decode cX0_join 118 = .ok (.aload_n 0, 1) := by decide +kernel
theorem dX0_join_119 : decode cX0_join 119 = .ok (.iconst 3, 1) := by decide +kernel
theorem dX0_join_120 : decode cX0_join 120 = .ok (.putfield 71, 3) := by decide +kernel
theorem dX0_join_123 : decode cX0_join 123 = .ok (.aload_n 0, 1) := by decide +kernel
theorem dX0_join_124 : decode cX0_join 124 = .ok (.getfield 71, 3) := by decide +kernel
theorem dX0_join_127 : decode cX0_join 127 = .ok (.ifCond .eq 4, 3) := by decide +kernel
theorem dX0_join_130 : decode cX0_join 130 = .ok (.return_, 1) := by decide +kernel
theorem dX0_join_131 : decode cX0_join 131 = .ok (.aload_n 0, 1) := by decide +kernel
theorem dX0_join_132 : decode cX0_join 132 = .ok (.dup, 1) := by decide +kernel
theorem dX0_join_133 : decode cX0_join 133 = .ok (.getfield 62, 3) := by decide +kernel
theorem dX0_join_136 : decode cX0_join 136 = .ok (.iconst 1, 1) := by decide +kernel
theorem dX0_join_137 : decode cX0_join 137 = .ok (.isub, 1) := by decide +kernel
theorem dX0_join_138 : decode cX0_join 138 = .ok (.putfield 62, 3) := by decide +kernel
theorem dX0_join_14 : decode cX0_join 14 = .ok (.iconst 2, 1) := by decide +kernel
theorem dX0_join_141 : decode cX0_join 141 = .ok (.iload 5, 2) := by decide +kernel
theorem dX0_join_143 : decode cX0_join 143 = .ok (.bipush 8, 2) := by decide +kernel
theorem dX0_join_145 : decode cX0_join 145 = .ok (.if_icmp .ne 58, 3) := by decide +kernel
theorem dX0_join_148 : decode cX0_join 148 = .ok (.aload_n 0, 1) := by decide +kernel
theorem dX0_join_149 : decode cX0_join 149 = .ok (.getfield 21, 3) := by decide +kernel
theorem dX0_join_15 : decode cX0_join 15 = .ok (.isub, 1) := by decide +kernel
theorem dX0_join_152 : decode cX0_join 152 = .ok (.iload 7, 2) := by decide +kernel
theorem dX0_join_154 : decode cX0_join 154 = .ok (.iconst 1, 1) := by decide +kernel
theorem dX0_join_155 : decode cX0_join 155 = .ok (.iadd, 1) := by decide +kernel
theorem dX0_join_156 : decode cX0_join 156 = .ok (.aload_n 0, 1) := by decide +kernel
theorem dX0_join_157 : decode cX0_join 157 = .ok (.getfield 21, 3) := by decide +kernel
theorem dX0_join_16 : decode cX0_join 16 = .ok (.iaload, 1) := by decide +kernel
theorem dX0_join_160 : decode cX0_join 160 = .ok (.iload 7, 2) := by decide +kernel
theorem dX0_join_162 : decode cX0_join 162 = .ok (.lload_n 3, 1) := by decide +kernel
theorem dX0_join_163 : decode cX0_join 163 = .ok (.invokestatic 150, 3) := by decide +kernel
theorem dX0_join_166 : decode cX0_join 166 = .ok (.iconst 1, 1) := by decide +kernel
theorem dX0_join_167 : decode cX0_join 167 = .ok (.isub, 1) := by decide +kernel
theorem dX0_join_168 : decode cX0_join 168 = .ok (.invokestatic 154, 3) := by decide +kernel
theorem dX0_join_17 : decode cX0_join 17 = .ok (.istore 6, 2) := by decide +kernel
theorem dX0_join_171 : decode cX0_join 171 = .ok (.aload_n 0, 1) := by decide +kernel
theorem dX0_join_172 : decode cX0_join 172 = .ok (.getfield 21, 3) := by decide +kernel
theorem dX0_join_175 : decode cX0_join 175 = .ok (.iload 6, 2) := by decide +kernel
theorem dX0_join_177 : decode cX0_join 177 = .ok (.bipush 8, 2) := by decide +kernel
theorem dX0_join_179 : decode cX0_join 179 = .ok (.iload 9, 2) := by decide +kernel
theorem dX0_join_181 : decode cX0_join 181 = .ok (.iload 8, 2) := by decide +kernel
theorem dX0_join_183 : decode cX0_join 183 = .ok (.i2l, 1) := by decide +kernel
theorem dX0_join_184 : decode cX0_join 184 = .ok (.invokestatic 189, 3) := by decide +kernel
theorem dX0_join_187 : decode cX0_join 187 = .ok (.lastore, 1) := by decide +kernel
theorem dX0_join_188 : decode cX0_join 188 = .ok (.aload_n 0, 1) := by decide +kernel
theorem dX0_join_189 : decode cX0_join 189 = .ok (.getfield 24, 3) := by decide +kernel
theorem dX0_join_19 : decode cX0_join 19 = .ok (.aload_n 0, 1) := by decide +kernel
theorem dX0_join_192 : decode cX0_join 192 = .ok (.aload_n 0, 1) := by decide +kernel
theorem dX0_join_193 : decode cX0_join 193 = .ok (.getfield 62, 3) := by decide +kernel
theorem dX0_join_196 : decode cX0_join 196 = .ok (.iload 6, 2) := by decide +kernel
theorem dX0_join_198 : decode cX0_join 198 = .ok (.iload 9, 2) := by decide +kernel
theorem dX0_join_20 : decode cX0_join 20 = .ok (.getfield 24, 3) := by decide +kernel
theorem dX0_join_200 : decode cX0_join 200 = .ok (.iadd, 1) := by decide +kernel
theorem dX0_join_201 : decode cX0_join 201 = .ok (.iastore, 1) := by decide +kernel
theorem dX0_join_202 : decode cX0_join 202 = .ok (.return_, 1) := by decide +kernel
theorem dX0_join_203 : decode cX0_join 203 = .ok (.aload_n 0, 1) := by decide +kernel
theorem dX0_join_204 : decode cX0_join 204 = .ok (.getfield 29, 3) := by decide +kernel
theorem dX0_join_207 : decode cX0_join 207 = .ok (.iconst 0, 1) := by decide +kernel
theorem dX0_join_208 : decode cX0_join 208 = .ok (.iload 8, 2) := by decide +kernel
theorem dX0_join_210 : decode cX0_join 210 = .ok (.invokestatic 58, 3) := by decide +kernel
theorem dX0_join_213 : decode cX0_join 213 = .ok (.lastore, 1) := by decide +kernel
theorem dX0_join_214 : decode cX0_join 214 = .ok (.iconst 0, 1) := by decide +kernel
theorem dX0_join_215 : decode cX0_join 215 = .ok (.istore 10, 2) := by decide +kernel
theorem dX0_join_217 : decode cX0_join 217 = .ok (.iload 10, 2) := by decide +kernel
theorem dX0_join_219 : decode cX0_join 219 = .ok (.iload 8, 2) := by decide +kernel
theorem dX0_join_221 : decode cX0_join 221 = .ok (.if_icmp .ge 60, 3) := by decide +kernel
theorem dX0_join_224 : decode cX0_join 224 = .ok (.lload_n 1, 1) := by decide +kernel
theorem dX0_join_225 : decode cX0_join 225 = .ok (.invokestatic 173, 3) := by decide +kernel
theorem dX0_join_228 : decode cX0_join 228 = .ok (.istore 11, 2) := by decide +kernel
theorem dX0_join_23 : decode cX0_join 23 = .ok (.aload_n 0, 1) := by decide +kernel
theorem dX0_join_230 : decode cX0_join 230 = .ok (.aload_n 0, 1) := by decide +kernel
theorem dX0_join_231 : decode cX0_join 231 = .ok (.getfield 29, 3) := by decide +kernel
theorem dX0_join_234 : decode cX0_join 234 = .ok (.iconst 0, 1) := by decide +kernel
theorem dX0_join_235 : decode cX0_join 235 = .ok (.iload 10, 2) := by decide +kernel
theorem dX0_join_237 : decode cX0_join 237 = .ok (.iload 10, 2) := by decide +kernel
theorem dX0_join_239 : decode cX0_join 239 = .ok (.iload 11, 2) := by decide +kernel
theorem dX0_join_24 : decode cX0_join 24 = .ok (.getfield 62, 3) := by decide +kernel
theorem dX0_join_241 : decode cX0_join 241 = .ok (.if_icmp .ge 17, 3) := by decide +kernel
theorem dX0_join_244 : decode cX0_join 244 = .ok (.aload_n 0, 1) := by decide +kernel
theorem dX0_join_245 : decode cX0_join 245 = .ok (.getfield 21, 3) := by decide +kernel
theorem dX0_join_248 : decode cX0_join 248 = .ok (.iload 6, 2) := by decide +kernel
theorem dX0_join_250 : decode cX0_join 250 = .ok (.iload 10, 2) := by decide +kernel
theorem dX0_join_252 : decode cX0_join 252 = .ok (.invokestatic 223, 3) := by decide +kernel
theorem dX0_join_255 : decode cX0_join 255 = .ok (.goto 17, 3) := by decide +kernel
theorem dX0_join_258 : decode cX0_join 258 = .ok (.aload_n 0, 1) := by decide +kernel
theorem dX0_join_259 : decode cX0_join 259 = .ok (.getfield 21, 3) := by decide +kernel
theorem dX0_join_262 : decode cX0_join 262 = .ok (.iload 7, 2) := by decide +kernel
theorem dX0_join_264 : decode cX0_join 264 = .ok (.iload 10, 2) := by decide +kernel
theorem dX0_join_266 : decode cX0_join 266 = .ok (.iload 11, 2) := by decide +kernel
theorem dX0_join_268 : decode cX0_join 268 = .ok (.isub, 1) := by decide +kernel
theorem dX0_join_269 : decode cX0_join 269 = .ok (.invokestatic 223, 3) := by decide +kernel
theorem dX0_join_27 : decode cX0_join 27 = .ok (.iconst 1, 1) := by decide +kernel
theorem dX0_join_272 : decode cX0_join 272 = .ok (.invokestatic 226, 3) := by decide +kernel
theorem dX0_join_275 : decode cX0_join 275 = .ok (.iinc 10 1, 3) := by decide +kernel
theorem dX0_join_278 : decode cX0_join 278 = .ok (.goto (-61), 3) := by decide +kernel
theorem dX0_join_28 : decode cX0_join 28 = .ok (.isub, 1) := by decide +kernel
theorem dX0_join_281 : decode cX0_join 281 = .ok (.aload_n 0, 1) := by decide +kernel
theorem dX0_join_282 : decode cX0_join 282 = .ok (.getfield 29, 3) := by decide +kernel
theorem dX0_join_285 : decode cX0_join 285 = .ok (.iconst 0, 1) := by decide +kernel
theorem dX0_join_286 : decode cX0_join 286 = .ok (.aload_n 0, 1) := by decide +kernel
theorem dX0_join_287 : decode cX0_join 287 = .ok (.getfield 21, 3) := by decide +kernel
theorem dX0_join_29 : decode cX0_join 29 = .ok (.iaload, 1) := by decide +kernel
theorem dX0_join_290 : decode cX0_join 290 = .ok (.iload 6, 2) := by decide +kernel
theorem dX0_join_292 : decode cX0_join 292 = .ok (.aload_n 0, 1) := by decide +kernel
theorem dX0_join_293 : decode cX0_join 293 = .ok (.getfield 29, 3) := by decide +kernel
theorem dX0_join_296 : decode cX0_join 296 = .ok (.iconst 0, 1) := by decide +kernel
theorem dX0_join_297 : decode cX0_join 297 = .ok (.laload, 1) := by decide +kernel
theorem dX0_join_298 : decode cX0_join 298 = .ok (.invokestatic 150, 3) := by decide +kernel
theorem dX0_join_30 : decode cX0_join 30 = .ok (.istore 7, 2) := by decide +kernel
theorem dX0_join_301 : decode cX0_join 301 = .ok (.invokestatic 154, 3) := by decide +kernel
theorem dX0_join_304 : decode cX0_join 304 = .ok (.aload_n 0, 1) := by decide +kernel
theorem dX0_join_305 : decode cX0_join 305 = .ok (.getfield 24, 3) := by decide +kernel
theorem dX0_join_308 : decode cX0_join 308 = .ok (.aload_n 0, 1) := by decide +kernel
theorem dX0_join_309 : decode cX0_join 309 = .ok (.getfield 62, 3) := by decide +kernel
theorem dX0_join_312 : decode cX0_join 312 = .ok (.iload 6, 2) := by decide +kernel
theorem dX0_join_314 : decode cX0_join 314 = .ok (.aload_n 0, 1) := by decide +kernel
theorem dX0_join_315 : decode cX0_join 315 = .ok (.getfield 29, 3) := by decide +kernel
theorem dX0_join_318 : decode cX0_join 318 = .ok (.iconst 0, 1) := by decide +kernel
theorem dX0_join_319 : decode cX0_join 319 = .ok (.laload, 1) := by decide +kernel
theorem dX0_join_32 : decode cX0_join 32 = .ok (.lload_n 1, 1) := by decide +kernel
theorem dX0_join_320 : decode cX0_join 320 = .ok (.invokestatic 150, 3) := by decide +kernel
theorem dX0_join_323 : decode cX0_join 323 = .ok (.iadd, 1) := by decide +kernel
theorem dX0_join_324 : decode cX0_join 324 = .ok (.iastore, 1) := by decide +kernel
theorem dX0_join_325 : decode cX0_join 325 = .ok (.return_, 1) := by decide +kernel
theorem dX0_join_33 : decode cX0_join 33 = .ok (.invokestatic 173, 3) := by decide +kernel
theorem dX0_join_36 : decode cX0_join 36 = .ok (.lload_n 3, 1) := by decide +kernel
theorem dX0_join_37 : decode cX0_join 37 = .ok (.invokestatic 173, 3) := by decide +kernel
theorem dX0_join_4 : decode cX0_join 4 = .ok (.istore 5, 2) := by decide +kernel
theorem dX0_join_40 : decode cX0_join 40 = .ok (.iadd, 1) := by decide +kernel
theorem dX0_join_41 : decode cX0_join 41 = .ok (.istore 8, 2) := by decide +kernel
theorem dX0_join_43 : decode cX0_join 43 = .ok (.lload_n 1, 1) := by decide +kernel
theorem dX0_join_44 : decode cX0_join 44 = .ok (.invokestatic 150, 3) := by decide +kernel
theorem dX0_join_47 : decode cX0_join 47 = .ok (.lload_n 3, 1) := by decide +kernel
theorem dX0_join_48 : decode cX0_join 48 = .ok (.invokestatic 150, 3) := by decide +kernel
theorem dX0_join_51 : decode cX0_join 51 = .ok (.iadd, 1) := by decide +kernel
theorem dX0_join_52 : decode cX0_join 52 = .ok (.iconst 1, 1) := by decide +kernel
theorem dX0_join_53 : decode cX0_join 53 = .ok (.isub, 1) := by decide +kernel
theorem dX0_join_54 : decode cX0_join 54 = .ok (.istore 9, 2) := by decide +kernel
theorem dX0_join_56 : decode cX0_join 56 = .ok (.iload 5, 2) := by decide +kernel
theorem dX0_join_58 : decode cX0_join 58 = .ok (.lload_n 3, 1) := by decide +kernel
theorem dX0_join_59 : decode cX0_join 59 = .ok (.invokestatic 160, 3) := by decide +kernel
theorem dX0_join_6 : decode cX0_join 6 = .ok (.aload_n 0, 1) := by decide +kernel
theorem dX0_join_62 : decode cX0_join 62 = .ok (.if_icmp .ne 16, 3) := by decide +kernel
theorem dX0_join_65 : decode cX0_join 65 = .ok (.iload 5, 2) := by decide +kernel
theorem dX0_join_67 : decode cX0_join 67 = .ok (.iconst 2, 1) := by decide +kernel
theorem dX0_join_68 : decode cX0_join 68 = .ok (.if_icmp .eq 18, 3) := by decide +kernel
theorem dX0_join_7 : decode cX0_join 7 = .ok (.getfield 24, 3) := by decide +kernel
theorem dX0_join_71 : decode cX0_join 71 = .ok (.iload 5, 2) := by decide +kernel
theorem dX0_join_73 : decode cX0_join 73 = .ok (.bipush 8, 2) := by decide +kernel
theorem dX0_join_75 : decode cX0_join 75 = .ok (.if_icmp .eq 11, 3) := by decide +kernel
theorem dX0_join_78 : decode cX0_join 78 = .ok (.aload_n 0, 1) := by decide +kernel
theorem dX0_join_79 : decode cX0_join 79 = .ok (.iconst 1, 1) := by decide +kernel
theorem dX0_join_80 : decode cX0_join 80 = .ok (.putfield 71, 3) := by decide +kernel
theorem dX0_join_83 : decode cX0_join 83 = .ok (.goto 40, 3) := by decide +kernel
theorem dX0_join_86 : decode cX0_join 86 = .ok (.iload 8, 2) := by decide +kernel
theorem dX0_join_88 : decode cX0_join 88 = .ok (.iload 5, 2) := by decide +kernel
theorem dX0_join_90 : decode cX0_join 90 = .ok (.iconst 2, 1) := by decide +kernel
theorem dX0_join_91 : decode cX0_join 91 = .ok (.if_icmp .ne 8, 3) := by decide +kernel
theorem dX0_join_94 : decode cX0_join 94 = .ok (.bipush 40, 2) := by decide +kernel
theorem dX0_join_96 : decode cX0_join 96 = .ok (.goto 5, 3) := by decide +kernel
theorem dX0_join_99 : decode cX0_join 99 = .ok (.bipush 16, 2) := by decide +kernel
noncomputable def k_X0_join_272 (l1 : Int64) (l6 : Int32) (l7 : Int32) (l8 : Int32) (l10 : Int32) (k0 : Int32) (k1 : Int32) (k2 : Int32) (s : t_S) : Option ((Int64 × Int32 × Int32 × Int32 × Int32 × t_S) ⊕ (t_S)) :=
 (f_X8_putSign 340 k2 k1 k0 s).bind (fun r1 =>
 some (.inl (l1, l6, l7, l8, (l10 + 1), r1)))
set_option maxRecDepth 4000 in
set_option maxHeartbeats 1000000 in
theorem B_X0_join_272 {D : va_G} {cy : Nat → ClassId} {ad : Nat → Nat} {bs : Nat} {X : State → Heap → Prop} (l1 : Int64) (l6 : Int32) (l7 : Int32) (l8 : Int32) (l10 : Int32) (k0 : Int32) (k1 : Int32) (k2 : Int32) (s : t_S) (Q : (Int64 × Int32 × Int32 × Int32 × Int32 × t_S) ⊕ (t_S) → Prop) (Hb217 : ∀ (y0 : Int64) (y1 : Int32) (y2 : Int32) (y3 : Int32) (y4 : Int32) (y5 : t_S), Q (.inl (y0, y1, y2, y3, y4, y5)) → mj_G D cy ad bs X cX0_join 12 yX0_join.cls none yX0_join.name 1 0 0 1065 (t_P (fun v s' => v = none ∧ Q (.inr (s')))) 217 [(0, .ref 334), (1, .long (y0)), (6, .int (y1)), (7, .int (y2)), (8, .int (y3)), (10, .int (y4))] [] (t_m y5) 1065 0 0) (hk : t_hk (k_X0_join_272 l1 l6 l7 l8 l10 k0 k1 k2 s) Q) : mj_G D cy ad bs X cX0_join 12 yX0_join.cls none yX0_join.name 1 0 0 1065 (t_P (fun v s' => v = none ∧ Q (.inr (s')))) 272 [(0, .ref 334), (1, .long l1), (6, .int l6), (7, .int l7), (8, .int l8), (10, .int l10)] [.int k0, .int k1, .int k2, .ref 340] (t_m s) 1065 0 0 := by
  refine t_bndK hk (fun r1 er1 hk => ?_)
  refine t_callSvE dX0_join_272 M_X8_putSign (C_X8_putSign _ _ _ _ _ _ er1) ML_X0_226 SM_X8_putSign (As := [.ref 340, .int k2, .int k1, .int k0]) rfl rfl (Nat.le_of_ble_eq_true rfl) (Nat.le_of_ble_eq_true rfl) (Nat.le_of_ble_eq_true rfl) (Nat.le_of_ble_eq_true rfl) ?_
  refine mj_iinc (k := 5) (v := (l10 + 1)) (lv2 := [(10, .int (l10 + 1)), (0, .ref 334), (1, .long l1), (6, .int l6), (7, .int l7), (8, .int l8)]) dX0_join_275 rfl rfl (by decide) rfl ?_
  refine mj_goto 217 dX0_join_278 (by decide) ?_
  refine mj_sublv [(0, .ref 334), (1, .long l1), (6, .int l6), (7, .int l7), (8, .int l8), (10, .int (l10 + 1))] [1, 2, 3, 4, 5, 0] rfl ?_
  exact t_somK hk (fun hf => Hb217 l1 l6 l7 l8 (l10 + 1) r1 hf)
noncomputable def k_X0_join_217 (l1 : Int64) (l6 : Int32) (l7 : Int32) (l8 : Int32) (l10 : Int32) (s : t_S) : Option ((Int64 × Int32 × Int32 × Int32 × Int32 × t_S) ⊕ (t_S)) :=
 if l8 ≤ l10 then ((if t_cpok (0 : Int32) l6 (f_X8_size (s.2.1 340 ((0 : Int32).toNatClampNeg)) s) 240 48000 = true then
  t_let (t_cpJ s 340 338 (0 : Int32) l6 (f_X8_size (s.2.1 340 ((0 : Int32).toNatClampNeg)) s)) (fun s1 =>
 if t_ix (s1.1 334 7) 3201 = true then
  t_let (t_setI s1 339 ((s1.1 334 7).toNatClampNeg) (l6 + (f_X8_size (s1.2.1 340 ((0 : Int32).toNatClampNeg)) s1))) (fun s2 =>
 some (s2))
else none)
else none).map Sum.inr)
 else (if (f_X8_extent l1 s) ≤ l10 then ((f_X8_sign 338 l7 (l10 - (f_X8_extent l1 s)) s).bind (fun r6 =>
 k_X0_join_272 l1 l6 l7 l8 l10 r6 l10 0 s))
 else ((f_X8_sign 338 l6 l10 s).bind (fun r7 =>
 k_X0_join_272 l1 l6 l7 l8 l10 r7 l10 0 s)))
set_option maxRecDepth 4000 in
set_option maxHeartbeats 1000000 in
theorem B_X0_join_217 {D : va_G} {cy : Nat → ClassId} {ad : Nat → Nat} {bs : Nat} {X : State → Heap → Prop} (l1 : Int64) (l6 : Int32) (l7 : Int32) (l8 : Int32) (l10 : Int32) (s : t_S) (Q : (Int64 × Int32 × Int32 × Int32 × Int32 × t_S) ⊕ (t_S) → Prop) (Hb217 : ∀ (y0 : Int64) (y1 : Int32) (y2 : Int32) (y3 : Int32) (y4 : Int32) (y5 : t_S), Q (.inl (y0, y1, y2, y3, y4, y5)) → mj_G D cy ad bs X cX0_join 12 yX0_join.cls none yX0_join.name 1 0 0 1065 (t_P (fun v s' => v = none ∧ Q (.inr (s')))) 217 [(0, .ref 334), (1, .long (y0)), (6, .int (y1)), (7, .int (y2)), (8, .int (y3)), (10, .int (y4))] [] (t_m y5) 1065 0 0) (hk : t_hk (k_X0_join_217 l1 l6 l7 l8 l10 s) Q) : mj_G D cy ad bs X cX0_join 12 yX0_join.cls none yX0_join.name 1 0 0 1065 (t_P (fun v s' => v = none ∧ Q (.inr (s')))) 217 [(0, .ref 334), (1, .long l1), (6, .int l6), (7, .int l7), (8, .int l8), (10, .int l10)] [] (t_m s) 1065 0 0 := by
  refine mj_iload dX0_join_217 5 rfl ?_
  refine mj_iload dX0_join_219 4 rfl ?_
  refine mj_icmp_ge 281 dX0_join_221 (by decide) (fun z => t_posK hk z (fun hk => ?_)) (fun z => t_negK hk z (fun hk => ?_))
  · refine t_mapK hk (fun hk => ?_)
    refine mj_aload_n dX0_join_281 0 rfl ?_
    refine t_getR 340 dX0_join_282 F_X0_29 qr_334_8 ?_
    refine mj_iconst (v := 0) dX0_join_285 (by decide) ?_
    refine mj_aload_n dX0_join_286 0 rfl ?_
    refine t_getR 338 dX0_join_287 F_X0_21 qr_334_5 ?_
    refine mj_iload dX0_join_290 2 rfl ?_
    refine mj_aload_n dX0_join_292 0 rfl ?_
    refine t_getR 340 dX0_join_293 F_X0_29 qr_334_8 ?_
    refine mj_iconst (v := 0) dX0_join_296 (by decide) ?_
    refine t_lald dX0_join_297 qa_340 (by unfold vp_in; decide) ?_
    refine t_callSiP dX0_join_298 M_X8_size (C_X8_size _ _) ML_X0_150 SM_X8_size (As := [.long (s.2.1 340 ((0 : Int32).toNatClampNeg))]) rfl rfl (Nat.le_of_ble_eq_true rfl) (Nat.le_of_ble_eq_true rfl) (Nat.le_of_ble_eq_true rfl) (Nat.le_of_ble_eq_true rfl) ?_
    refine t_chkK hk (fun c1 hk => ?_)
    refine t_copyK dX0_join_301 MA_X0_154 qa_340 qa_338 c1 (Nat.le_of_ble_eq_true rfl) (Nat.le_of_ble_eq_true rfl) (fun s1 ws1 => t_letE hk ws1 (fun hk => ?_))
    refine mj_aload_n dX0_join_304 0 rfl ?_
    refine t_getR 339 dX0_join_305 F_X0_24 qr_334_6 ?_
    refine mj_aload_n dX0_join_308 0 rfl ?_
    refine t_getI dX0_join_309 F_X0_62 qf_334_7 ?_
    refine mj_iload dX0_join_312 2 rfl ?_
    refine mj_aload_n dX0_join_314 0 rfl ?_
    refine t_getR 340 dX0_join_315 F_X0_29 qr_334_8 ?_
    refine mj_iconst (v := 0) dX0_join_318 (by decide) ?_
    refine t_lald dX0_join_319 qa_340 (by unfold vp_in; decide) ?_
    refine t_callSiP dX0_join_320 M_X8_size (C_X8_size _ _) ML_X0_150 SM_X8_size (As := [.long (s1.2.1 340 ((0 : Int32).toNatClampNeg))]) rfl rfl (Nat.le_of_ble_eq_true rfl) (Nat.le_of_ble_eq_true rfl) (Nat.le_of_ble_eq_true rfl) (Nat.le_of_ble_eq_true rfl) ?_
    refine mj_iadd dX0_join_323 ?_
    refine t_chkK hk (fun c3 hk => ?_)
    refine t_iastK dX0_join_324 qa_339 (t_ixv c3) (fun s2 ws2 => t_letE hk ws2 (fun hk => ?_))
    exact t_somK hk (fun hf => t_vret dX0_join_325 rfl ⟨rfl, hf⟩ (Nat.le_of_ble_eq_true rfl) (Nat.le_of_ble_eq_true rfl))
  · refine mj_lload_n dX0_join_224 1 rfl ?_
    refine t_callSiP dX0_join_225 M_X8_extent (C_X8_extent _ _) ML_X0_173 SM_X8_extent (As := [.long l1]) rfl rfl (Nat.le_of_ble_eq_true rfl) (Nat.le_of_ble_eq_true rfl) (Nat.le_of_ble_eq_true rfl) (Nat.le_of_ble_eq_true rfl) ?_
    refine mj_istore (lv2 := [(11, .int (f_X8_extent l1 s)), (0, .ref 334), (1, .long l1), (6, .int l6), (7, .int l7), (8, .int l8), (10, .int l10)]) dX0_join_228 (by decide) rfl ?_
    refine mj_aload_n dX0_join_230 1 rfl ?_
    refine t_getR 340 dX0_join_231 F_X0_29 qr_334_8 ?_
    refine mj_iconst (v := 0) dX0_join_234 (by decide) ?_
    refine mj_iload dX0_join_235 6 rfl ?_
    refine mj_iload dX0_join_237 6 rfl ?_
    refine mj_iload dX0_join_239 0 rfl ?_
    refine mj_icmp_ge 258 dX0_join_241 (by decide) (fun z => t_posK hk z (fun hk => ?_)) (fun z => t_negK hk z (fun hk => ?_))
    · refine mj_aload_n dX0_join_258 1 rfl ?_
      refine t_getR 338 dX0_join_259 F_X0_21 qr_334_5 ?_
      refine mj_iload dX0_join_262 4 rfl ?_
      refine mj_iload dX0_join_264 6 rfl ?_
      refine mj_iload dX0_join_266 0 rfl ?_
      refine mj_isub dX0_join_268 ?_
      refine t_bndK hk (fun r6 er6 hk => ?_)
      refine t_callSiP dX0_join_269 M_X8_sign (C_X8_sign _ _ _ _ _ er6) ML_X0_223 SM_X8_sign (As := [.ref 338, .int l7, .int (l10 - (f_X8_extent l1 s))]) rfl rfl (Nat.le_of_ble_eq_true rfl) (Nat.le_of_ble_eq_true rfl) (Nat.le_of_ble_eq_true rfl) (Nat.le_of_ble_eq_true rfl) ?_
      refine mj_sublv [(0, .ref 334), (1, .long l1), (6, .int l6), (7, .int l7), (8, .int l8), (10, .int l10)] [1, 2, 3, 4, 5, 6] rfl ?_
      exact B_X0_join_272 _ _ _ _ _ _ _ _ _ _ (fun y0 y1 y2 y3 y4 y5 hx => Hb217 y0 y1 y2 y3 y4 y5 hx) hk
    · refine mj_aload_n dX0_join_244 1 rfl ?_
      refine t_getR 338 dX0_join_245 F_X0_21 qr_334_5 ?_
      refine mj_iload dX0_join_248 3 rfl ?_
      refine mj_iload dX0_join_250 6 rfl ?_
      refine t_bndK hk (fun r7 er7 hk => ?_)
      refine t_callSiP dX0_join_252 M_X8_sign (C_X8_sign _ _ _ _ _ er7) ML_X0_223 SM_X8_sign (As := [.ref 338, .int l6, .int l10]) rfl rfl (Nat.le_of_ble_eq_true rfl) (Nat.le_of_ble_eq_true rfl) (Nat.le_of_ble_eq_true rfl) (Nat.le_of_ble_eq_true rfl) ?_
      refine mj_goto 272 dX0_join_255 (by decide) ?_
      refine mj_sublv [(0, .ref 334), (1, .long l1), (6, .int l6), (7, .int l7), (8, .int l8), (10, .int l10)] [1, 2, 3, 4, 5, 6] rfl ?_
      exact B_X0_join_272 _ _ _ _ _ _ _ _ _ _ (fun y0 y1 y2 y3 y4 y5 hx => Hb217 y0 y1 y2 y3 y4 y5 hx) hk
noncomputable def b_X0_join_217 (x : Int64 × Int32 × Int32 × Int32 × Int32 × t_S) : Option ((Int64 × Int32 × Int32 × Int32 × Int32 × t_S) ⊕ (t_S)) := k_X0_join_217 x.1 x.2.1 x.2.2.1 x.2.2.2.1 x.2.2.2.2.1 x.2.2.2.2.2
set_option maxRecDepth 4000 in
set_option maxHeartbeats 1000000 in
theorem LH_X0_join_217 {D : va_G} {cy : Nat → ClassId} {ad : Nat → Nat} {bs : Nat} {X : State → Heap → Prop} : ∀ (n : Nat) (y0 : Int64) (y1 : Int32) (y2 : Int32) (y3 : Int32) (y4 : Int32) (y5 : t_S) (Q : t_S → Prop) (hk : t_hk (t_loop (b_X0_join_217) n (y0, y1, y2, y3, y4, y5)) Q), mj_G D cy ad bs X cX0_join 12 yX0_join.cls none yX0_join.name 1 0 0 1065 (t_P (fun v s' => v = none ∧ Q (s'))) 217 [(0, .ref 334), (1, .long (y0)), (6, .int (y1)), (7, .int (y2)), (8, .int (y3)), (10, .int (y4))] [] (t_m y5) 1065 0 0 := by
  intro n
  induction n with
  | zero => intro y0 y1 y2 y3 y4 y5 Q hk; obtain ⟨r, hr, _⟩ := hk; cases hr
  | succ n ih =>
    intro y0 y1 y2 y3 y4 y5 Q hk
    exact B_X0_join_217 y0 y1 y2 y3 y4 y5 (fun y => t_lq (b_X0_join_217) n Q y) (fun y0' y1' y2' y3' y4' y5' hy => ih y0' y1' y2' y3' y4' y5' Q hy) (t_lp hk)
noncomputable def k_X0_join_123 (l1 : Int64) (l3 : Int64) (l5 : Int32) (l6 : Int32) (l7 : Int32) (l8 : Int32) (l9 : Int32) (s : t_S) : Option (t_S) :=
 if (s.1 334 12) = (0 : Int32) then (t_let (t_setI s 334 7 ((s.1 334 7) - (1 : Int32))) (fun s1 =>
 if l5 = (8 : Int32) then (if t_cpok (l7 + (1 : Int32)) l7 ((f_X8_size l3 s1) - (1 : Int32)) 48000 48000 = true then
  t_let (t_cpJ s1 338 338 (l7 + (1 : Int32)) l7 ((f_X8_size l3 s1) - (1 : Int32))) (fun s3 =>
 if t_ix l6 48000 = true then
  t_let (t_setJ s3 338 (l6.toNatClampNeg) (f_X8_cell (8 : Int32) l9 l8.toInt64 s3)) (fun s4 =>
 if t_ix (s4.1 334 7) 3201 = true then
  t_let (t_setI s4 339 ((s4.1 334 7).toNatClampNeg) (l6 + l9)) (fun s5 =>
 some (s5))
else none)
else none)
else none)
 else ((f_X8_textCell l8 s1).bind (fun r1 =>
 t_let (t_setJ s1 340 ((0 : Int32).toNatClampNeg) r1) (fun s2 =>
 t_loop (b_X0_join_217) t_N (l1, l6, l7, l8, 0, s2))))))
 else (some (s))
set_option maxRecDepth 4000 in
set_option maxHeartbeats 1000000 in
theorem B_X0_join_123 {D : va_G} {cy : Nat → ClassId} {ad : Nat → Nat} {bs : Nat} {X : State → Heap → Prop} (l1 : Int64) (l3 : Int64) (l5 : Int32) (l6 : Int32) (l7 : Int32) (l8 : Int32) (l9 : Int32) (s : t_S) (Q : t_S → Prop) (hk : t_hk (k_X0_join_123 l1 l3 l5 l6 l7 l8 l9 s) Q) : mj_G D cy ad bs X cX0_join 12 yX0_join.cls none yX0_join.name 1 0 0 1065 (t_P (fun v s' => v = none ∧ Q (s'))) 123 [(0, .ref 334), (1, .long l1), (3, .long l3), (5, .int l5), (6, .int l6), (7, .int l7), (8, .int l8), (9, .int l9)] [] (t_m s) 1065 0 0 := by
  refine mj_aload_n dX0_join_123 0 rfl ?_
  refine t_getI dX0_join_124 F_X0_71 qf_334_12 ?_
  refine mj_if_eq 131 dX0_join_127 (by decide) (fun z => t_posK hk z (fun hk => ?_)) (fun z => t_negK hk z (fun hk => ?_))
  · refine mj_aload_n dX0_join_131 0 rfl ?_
    refine mj_dup dX0_join_132 rfl ?_
    refine t_getI dX0_join_133 F_X0_62 qf_334_7 ?_
    refine mj_iconst (v := 1) dX0_join_136 (by decide) ?_
    refine mj_isub dX0_join_137 ?_
    refine t_putIK dX0_join_138 F_X0_62 qf_334_7 rfl (fun s1 ws1 => t_letE hk ws1 (fun hk => ?_))
    refine mj_iload dX0_join_141 3 rfl ?_
    refine mj_bipush (v := 8) dX0_join_143 (by decide) ?_
    refine mj_icmp_ne 203 dX0_join_145 (by decide) (fun z => t_negK hk z (fun hk => ?_)) (fun z => t_posK hk z (fun hk => ?_))
    · refine mj_aload_n dX0_join_203 0 rfl ?_
      refine t_getR 340 dX0_join_204 F_X0_29 qr_334_8 ?_
      refine mj_iconst (v := 0) dX0_join_207 (by decide) ?_
      refine mj_iload dX0_join_208 6 rfl ?_
      refine t_bndK hk (fun r1 er1 hk => ?_)
      refine t_callSlP dX0_join_210 M_X8_textCell (C_X8_textCell _ _ _ er1) ML_X0_58 SM_X8_textCell (As := [.int l8]) rfl rfl (Nat.le_of_ble_eq_true rfl) (Nat.le_of_ble_eq_true rfl) (Nat.le_of_ble_eq_true rfl) (Nat.le_of_ble_eq_true rfl) ?_
      refine t_lastK dX0_join_213 qa_340 (by unfold vp_in; decide) (fun s2 ws2 => t_letE hk ws2 (fun hk => ?_))
      refine mj_iconst (v := 0) dX0_join_214 (by decide) ?_
      refine mj_istore (lv2 := [(10, .int 0), (0, .ref 334), (1, .long l1), (3, .long l3), (5, .int l5), (6, .int l6), (7, .int l7), (8, .int l8), (9, .int l9)]) dX0_join_215 (by decide) rfl ?_
      refine mj_sublv [(0, .ref 334), (1, .long l1), (6, .int l6), (7, .int l7), (8, .int l8), (10, .int 0)] [1, 2, 5, 6, 7, 0] rfl ?_
      exact LH_X0_join_217 _ l1 l6 l7 l8 0 s2 _ hk
    · refine mj_aload_n dX0_join_148 0 rfl ?_
      refine t_getR 338 dX0_join_149 F_X0_21 qr_334_5 ?_
      refine mj_iload dX0_join_152 5 rfl ?_
      refine mj_iconst (v := 1) dX0_join_154 (by decide) ?_
      refine mj_iadd dX0_join_155 ?_
      refine mj_aload_n dX0_join_156 0 rfl ?_
      refine t_getR 338 dX0_join_157 F_X0_21 qr_334_5 ?_
      refine mj_iload dX0_join_160 5 rfl ?_
      refine mj_lload_n dX0_join_162 2 rfl ?_
      refine t_callSiP dX0_join_163 M_X8_size (C_X8_size _ _) ML_X0_150 SM_X8_size (As := [.long l3]) rfl rfl (Nat.le_of_ble_eq_true rfl) (Nat.le_of_ble_eq_true rfl) (Nat.le_of_ble_eq_true rfl) (Nat.le_of_ble_eq_true rfl) ?_
      refine mj_iconst (v := 1) dX0_join_166 (by decide) ?_
      refine mj_isub dX0_join_167 ?_
      refine t_chkK hk (fun c2 hk => ?_)
      refine t_copyK dX0_join_168 MA_X0_154 qa_338 qa_338 c2 (Nat.le_of_ble_eq_true rfl) (Nat.le_of_ble_eq_true rfl) (fun s3 ws3 => t_letE hk ws3 (fun hk => ?_))
      refine mj_aload_n dX0_join_171 0 rfl ?_
      refine t_getR 338 dX0_join_172 F_X0_21 qr_334_5 ?_
      refine mj_iload dX0_join_175 4 rfl ?_
      refine mj_bipush (v := 8) dX0_join_177 (by decide) ?_
      refine mj_iload dX0_join_179 7 rfl ?_
      refine mj_iload dX0_join_181 6 rfl ?_
      refine mj_i2l (v := l8.toInt64) dX0_join_183 rfl ?_
      refine t_callSlP dX0_join_184 M_X8_cell (C_X8_cell _ _ _ _) ML_X0_189 SM_X8_cell (As := [.int 8, .int l9, .long l8.toInt64]) rfl rfl (Nat.le_of_ble_eq_true rfl) (Nat.le_of_ble_eq_true rfl) (Nat.le_of_ble_eq_true rfl) (Nat.le_of_ble_eq_true rfl) ?_
      refine t_chkK hk (fun c4 hk => ?_)
      refine t_lastK dX0_join_187 qa_338 (t_ixv c4) (fun s4 ws4 => t_letE hk ws4 (fun hk => ?_))
      refine mj_aload_n dX0_join_188 0 rfl ?_
      refine t_getR 339 dX0_join_189 F_X0_24 qr_334_6 ?_
      refine mj_aload_n dX0_join_192 0 rfl ?_
      refine t_getI dX0_join_193 F_X0_62 qf_334_7 ?_
      refine mj_iload dX0_join_196 4 rfl ?_
      refine mj_iload dX0_join_198 7 rfl ?_
      refine mj_iadd dX0_join_200 ?_
      refine t_chkK hk (fun c5 hk => ?_)
      refine t_iastK dX0_join_201 qa_339 (t_ixv c5) (fun s5 ws5 => t_letE hk ws5 (fun hk => ?_))
      exact t_somK hk (fun hf => t_vret dX0_join_202 rfl ⟨rfl, hf⟩ (Nat.le_of_ble_eq_true rfl) (Nat.le_of_ble_eq_true rfl))
  · exact t_somK hk (fun hf => t_vret dX0_join_130 rfl ⟨rfl, hf⟩ (Nat.le_of_ble_eq_true rfl) (Nat.le_of_ble_eq_true rfl))
noncomputable def k_X0_join_118 (l1 : Int64) (l3 : Int64) (l5 : Int32) (l6 : Int32) (l7 : Int32) (l8 : Int32) (l9 : Int32) (s : t_S) : Option (t_S) :=
 t_let (t_setI s 334 12 (3 : Int32)) (fun s1 =>
 k_X0_join_123 l1 l3 l5 l6 l7 l8 l9 s1)
set_option maxRecDepth 4000 in
set_option maxHeartbeats 1000000 in
theorem B_X0_join_118 {D : va_G} {cy : Nat → ClassId} {ad : Nat → Nat} {bs : Nat} {X : State → Heap → Prop} (l1 : Int64) (l3 : Int64) (l5 : Int32) (l6 : Int32) (l7 : Int32) (l8 : Int32) (l9 : Int32) (s : t_S) (Q : t_S → Prop) (hk : t_hk (k_X0_join_118 l1 l3 l5 l6 l7 l8 l9 s) Q) : mj_G D cy ad bs X cX0_join 12 yX0_join.cls none yX0_join.name 1 0 0 1065 (t_P (fun v s' => v = none ∧ Q (s'))) 118 [(0, .ref 334), (1, .long l1), (3, .long l3), (5, .int l5), (6, .int l6), (7, .int l7), (8, .int l8), (9, .int l9)] [] (t_m s) 1065 0 0 := by
  refine mj_aload_n dX0_join_118 0 rfl ?_
  refine mj_iconst (v := 3) dX0_join_119 (by decide) ?_
  refine t_putIK dX0_join_120 F_X0_71 qf_334_12 rfl (fun s1 ws1 => t_letE hk ws1 (fun hk => ?_))
  exact B_X0_join_123 _ _ _ _ _ _ _ _ _ hk
noncomputable def k_X0_join_101 (l1 : Int64) (l3 : Int64) (l5 : Int32) (l6 : Int32) (l7 : Int32) (l8 : Int32) (l9 : Int32) (k0 : Int32) (k1 : Int32) (s : t_S) : Option (t_S) :=
 if k0 < k1 then (k_X0_join_118 l1 l3 l5 l6 l7 l8 l9 s)
 else (if l5 = (8 : Int32) then (if l9 ≤ (120 : Int32) then (k_X0_join_123 l1 l3 l5 l6 l7 l8 l9 s)
 else (k_X0_join_118 l1 l3 l5 l6 l7 l8 l9 s))
 else (k_X0_join_123 l1 l3 l5 l6 l7 l8 l9 s))
set_option maxRecDepth 4000 in
set_option maxHeartbeats 1000000 in
theorem B_X0_join_101 {D : va_G} {cy : Nat → ClassId} {ad : Nat → Nat} {bs : Nat} {X : State → Heap → Prop} (l1 : Int64) (l3 : Int64) (l5 : Int32) (l6 : Int32) (l7 : Int32) (l8 : Int32) (l9 : Int32) (k0 : Int32) (k1 : Int32) (s : t_S) (Q : t_S → Prop) (hk : t_hk (k_X0_join_101 l1 l3 l5 l6 l7 l8 l9 k0 k1 s) Q) : mj_G D cy ad bs X cX0_join 12 yX0_join.cls none yX0_join.name 1 0 0 1065 (t_P (fun v s' => v = none ∧ Q (s'))) 101 [(0, .ref 334), (1, .long l1), (3, .long l3), (5, .int l5), (6, .int l6), (7, .int l7), (8, .int l8), (9, .int l9)] [.int k0, .int k1] (t_m s) 1065 0 0 := by
  refine mj_icmp_gt 118 dX0_join_101 (by decide) (fun z => t_posK hk z (fun hk => ?_)) (fun z => t_negK hk z (fun hk => ?_))
  · exact B_X0_join_118 _ _ _ _ _ _ _ _ _ hk
  · refine mj_iload dX0_join_104 3 rfl ?_
    refine mj_bipush (v := 8) dX0_join_106 (by decide) ?_
    refine mj_icmp_ne 123 dX0_join_108 (by decide) (fun z => t_negK hk z (fun hk => ?_)) (fun z => t_posK hk z (fun hk => ?_))
    · exact B_X0_join_123 _ _ _ _ _ _ _ _ _ hk
    · refine mj_iload dX0_join_111 7 rfl ?_
      refine mj_bipush (v := 120) dX0_join_113 (by decide) ?_
      refine mj_icmp_le 123 dX0_join_115 (by decide) (fun z => t_posK hk z (fun hk => ?_)) (fun z => t_negK hk z (fun hk => ?_))
      · exact B_X0_join_123 _ _ _ _ _ _ _ _ _ hk
      · exact B_X0_join_118 _ _ _ _ _ _ _ _ _ hk
noncomputable def k_X0_join_86 (l1 : Int64) (l3 : Int64) (l5 : Int32) (l6 : Int32) (l7 : Int32) (l8 : Int32) (l9 : Int32) (s : t_S) : Option (t_S) :=
 if l5 = (2 : Int32) then (k_X0_join_101 l1 l3 l5 l6 l7 l8 l9 40 l8 s)
 else (k_X0_join_101 l1 l3 l5 l6 l7 l8 l9 16 l8 s)
set_option maxRecDepth 4000 in
set_option maxHeartbeats 1000000 in
theorem B_X0_join_86 {D : va_G} {cy : Nat → ClassId} {ad : Nat → Nat} {bs : Nat} {X : State → Heap → Prop} (l1 : Int64) (l3 : Int64) (l5 : Int32) (l6 : Int32) (l7 : Int32) (l8 : Int32) (l9 : Int32) (s : t_S) (Q : t_S → Prop) (hk : t_hk (k_X0_join_86 l1 l3 l5 l6 l7 l8 l9 s) Q) : mj_G D cy ad bs X cX0_join 12 yX0_join.cls none yX0_join.name 1 0 0 1065 (t_P (fun v s' => v = none ∧ Q (s'))) 86 [(0, .ref 334), (1, .long l1), (3, .long l3), (5, .int l5), (6, .int l6), (7, .int l7), (8, .int l8), (9, .int l9)] [] (t_m s) 1065 0 0 := by
  refine mj_iload dX0_join_86 6 rfl ?_
  refine mj_iload dX0_join_88 3 rfl ?_
  refine mj_iconst (v := 2) dX0_join_90 (by decide) ?_
  refine mj_icmp_ne 99 dX0_join_91 (by decide) (fun z => t_negK hk z (fun hk => ?_)) (fun z => t_posK hk z (fun hk => ?_))
  · refine mj_bipush (v := 16) dX0_join_99 (by decide) ?_
    exact B_X0_join_101 _ _ _ _ _ _ _ _ _ _ _ hk
  · refine mj_bipush (v := 40) dX0_join_94 (by decide) ?_
    refine mj_goto 101 dX0_join_96 (by decide) ?_
    exact B_X0_join_101 _ _ _ _ _ _ _ _ _ _ _ hk
noncomputable def k_X0_join_78 (l1 : Int64) (l3 : Int64) (l5 : Int32) (l6 : Int32) (l7 : Int32) (l8 : Int32) (l9 : Int32) (s : t_S) : Option (t_S) :=
 t_let (t_setI s 334 12 (1 : Int32)) (fun s1 =>
 k_X0_join_123 l1 l3 l5 l6 l7 l8 l9 s1)
set_option maxRecDepth 4000 in
set_option maxHeartbeats 1000000 in
theorem B_X0_join_78 {D : va_G} {cy : Nat → ClassId} {ad : Nat → Nat} {bs : Nat} {X : State → Heap → Prop} (l1 : Int64) (l3 : Int64) (l5 : Int32) (l6 : Int32) (l7 : Int32) (l8 : Int32) (l9 : Int32) (s : t_S) (Q : t_S → Prop) (hk : t_hk (k_X0_join_78 l1 l3 l5 l6 l7 l8 l9 s) Q) : mj_G D cy ad bs X cX0_join 12 yX0_join.cls none yX0_join.name 1 0 0 1065 (t_P (fun v s' => v = none ∧ Q (s'))) 78 [(0, .ref 334), (1, .long l1), (3, .long l3), (5, .int l5), (6, .int l6), (7, .int l7), (8, .int l8), (9, .int l9)] [] (t_m s) 1065 0 0 := by
  refine mj_aload_n dX0_join_78 0 rfl ?_
  refine mj_iconst (v := 1) dX0_join_79 (by decide) ?_
  refine t_putIK dX0_join_80 F_X0_71 qf_334_12 rfl (fun s1 ws1 => t_letE hk ws1 (fun hk => ?_))
  refine mj_goto 123 dX0_join_83 (by decide) ?_
  exact B_X0_join_123 _ _ _ _ _ _ _ _ _ hk
noncomputable def f_X0_join (x1 : Int64) (x2 : Int64) (s : t_S) : Option (t_S) :=
 if t_ix ((s.1 334 7) - (2 : Int32)) 3201 = true then
  if t_ix ((s.1 334 7) - (1 : Int32)) 3201 = true then
  if (f_X8_kind x1 s) = (f_X8_kind x2 s) then (if (f_X8_kind x1 s) = (2 : Int32) then (k_X0_join_86 x1 x2 (f_X8_kind x1 s) (s.1 339 (((s.1 334 7) - (2 : Int32)).toNatClampNeg)) (s.1 339 (((s.1 334 7) - (1 : Int32)).toNatClampNeg)) ((f_X8_extent x1 s) + (f_X8_extent x2 s)) (((f_X8_size x1 s) + (f_X8_size x2 s)) - (1 : Int32)) s)
 else (if (f_X8_kind x1 s) = (8 : Int32) then (k_X0_join_86 x1 x2 (f_X8_kind x1 s) (s.1 339 (((s.1 334 7) - (2 : Int32)).toNatClampNeg)) (s.1 339 (((s.1 334 7) - (1 : Int32)).toNatClampNeg)) ((f_X8_extent x1 s) + (f_X8_extent x2 s)) (((f_X8_size x1 s) + (f_X8_size x2 s)) - (1 : Int32)) s)
 else (k_X0_join_78 x1 x2 (f_X8_kind x1 s) (s.1 339 (((s.1 334 7) - (2 : Int32)).toNatClampNeg)) (s.1 339 (((s.1 334 7) - (1 : Int32)).toNatClampNeg)) ((f_X8_extent x1 s) + (f_X8_extent x2 s)) (((f_X8_size x1 s) + (f_X8_size x2 s)) - (1 : Int32)) s)))
 else (k_X0_join_78 x1 x2 (f_X8_kind x1 s) (s.1 339 (((s.1 334 7) - (2 : Int32)).toNatClampNeg)) (s.1 339 (((s.1 334 7) - (1 : Int32)).toNatClampNeg)) ((f_X8_extent x1 s) + (f_X8_extent x2 s)) (((f_X8_size x1 s) + (f_X8_size x2 s)) - (1 : Int32)) s)
else none
else none
set_option maxRecDepth 4000 in
set_option maxHeartbeats 1000000 in
theorem C_X0_join (x1 : Int64) (x2 : Int64) (s : t_S) (r : t_S) (hr : f_X0_join x1 x2 s = some r) : t_C yX0_join cX0_join 12 none 1 [.ref 334, .long x1, .long x2] s (fun v s' => v = none ∧ s' = r) := by
  refine t_C.imp (P := fun v s' => v = none ∧ (fun q => q = r) (s')) (t_C.of (by decide +kernel) (Nat.le_of_ble_eq_true rfl) ?_) (fun v s' hp => hp)
  intro D cy ad bs X
  have hk : t_hk (f_X0_join x1 x2 s) (fun q => q = r) := ⟨r, hr, rfl⟩
  show mj_G D cy ad bs X cX0_join 12 yX0_join.cls none yX0_join.name 1 0 0 1065 (t_P (fun v s' => v = none ∧ (fun q => q = r) (s'))) 0 [(0, .ref 334), (1, .long x1), (3, .long x2)] [] (t_m s) 1065 0 0
  refine mj_lload_n dX0_join_0 1 rfl ?_
  refine t_callSiP dX0_join_1 M_X8_kind (C_X8_kind _ _) ML_X0_160 SM_X8_kind (As := [.long x1]) rfl rfl (Nat.le_of_ble_eq_true rfl) (Nat.le_of_ble_eq_true rfl) (Nat.le_of_ble_eq_true rfl) (Nat.le_of_ble_eq_true rfl) ?_
  refine mj_istore (lv2 := [(5, .int (f_X8_kind x1 s)), (0, .ref 334), (1, .long x1), (3, .long x2)]) dX0_join_4 (by decide) rfl ?_
  refine mj_aload_n dX0_join_6 1 rfl ?_
  refine t_getR 339 dX0_join_7 F_X0_24 qr_334_6 ?_
  refine mj_aload_n dX0_join_10 1 rfl ?_
  refine t_getI dX0_join_11 F_X0_62 qf_334_7 ?_
  refine mj_iconst (v := 2) dX0_join_14 (by decide) ?_
  refine mj_isub dX0_join_15 ?_
  refine t_chkK hk (fun c1 hk => ?_)
  refine t_iald dX0_join_16 qa_339 (t_ixv c1) ?_
  refine mj_istore (lv2 := [(6, .int (s.1 339 (((s.1 334 7) - (2 : Int32)).toNatClampNeg))), (5, .int (f_X8_kind x1 s)), (0, .ref 334), (1, .long x1), (3, .long x2)]) dX0_join_17 (by decide) rfl ?_
  refine mj_aload_n dX0_join_19 2 rfl ?_
  refine t_getR 339 dX0_join_20 F_X0_24 qr_334_6 ?_
  refine mj_aload_n dX0_join_23 2 rfl ?_
  refine t_getI dX0_join_24 F_X0_62 qf_334_7 ?_
  refine mj_iconst (v := 1) dX0_join_27 (by decide) ?_
  refine mj_isub dX0_join_28 ?_
  refine t_chkK hk (fun c2 hk => ?_)
  refine t_iald dX0_join_29 qa_339 (t_ixv c2) ?_
  refine mj_istore (lv2 := [(7, .int (s.1 339 (((s.1 334 7) - (1 : Int32)).toNatClampNeg))), (6, .int (s.1 339 (((s.1 334 7) - (2 : Int32)).toNatClampNeg))), (5, .int (f_X8_kind x1 s)), (0, .ref 334), (1, .long x1), (3, .long x2)]) dX0_join_30 (by decide) rfl ?_
  refine mj_lload_n dX0_join_32 4 rfl ?_
  refine t_callSiP dX0_join_33 M_X8_extent (C_X8_extent _ _) ML_X0_173 SM_X8_extent (As := [.long x1]) rfl rfl (Nat.le_of_ble_eq_true rfl) (Nat.le_of_ble_eq_true rfl) (Nat.le_of_ble_eq_true rfl) (Nat.le_of_ble_eq_true rfl) ?_
  refine mj_lload_n dX0_join_36 5 rfl ?_
  refine t_callSiP dX0_join_37 M_X8_extent (C_X8_extent _ _) ML_X0_173 SM_X8_extent (As := [.long x2]) rfl rfl (Nat.le_of_ble_eq_true rfl) (Nat.le_of_ble_eq_true rfl) (Nat.le_of_ble_eq_true rfl) (Nat.le_of_ble_eq_true rfl) ?_
  refine mj_iadd dX0_join_40 ?_
  refine mj_istore (lv2 := [(8, .int ((f_X8_extent x1 s) + (f_X8_extent x2 s))), (7, .int (s.1 339 (((s.1 334 7) - (1 : Int32)).toNatClampNeg))), (6, .int (s.1 339 (((s.1 334 7) - (2 : Int32)).toNatClampNeg))), (5, .int (f_X8_kind x1 s)), (0, .ref 334), (1, .long x1), (3, .long x2)]) dX0_join_41 (by decide) rfl ?_
  refine mj_lload_n dX0_join_43 5 rfl ?_
  refine t_callSiP dX0_join_44 M_X8_size (C_X8_size _ _) ML_X0_150 SM_X8_size (As := [.long x1]) rfl rfl (Nat.le_of_ble_eq_true rfl) (Nat.le_of_ble_eq_true rfl) (Nat.le_of_ble_eq_true rfl) (Nat.le_of_ble_eq_true rfl) ?_
  refine mj_lload_n dX0_join_47 6 rfl ?_
  refine t_callSiP dX0_join_48 M_X8_size (C_X8_size _ _) ML_X0_150 SM_X8_size (As := [.long x2]) rfl rfl (Nat.le_of_ble_eq_true rfl) (Nat.le_of_ble_eq_true rfl) (Nat.le_of_ble_eq_true rfl) (Nat.le_of_ble_eq_true rfl) ?_
  refine mj_iadd dX0_join_51 ?_
  refine mj_iconst (v := 1) dX0_join_52 (by decide) ?_
  refine mj_isub dX0_join_53 ?_
  refine mj_istore (lv2 := [(9, .int (((f_X8_size x1 s) + (f_X8_size x2 s)) - (1 : Int32))), (8, .int ((f_X8_extent x1 s) + (f_X8_extent x2 s))), (7, .int (s.1 339 (((s.1 334 7) - (1 : Int32)).toNatClampNeg))), (6, .int (s.1 339 (((s.1 334 7) - (2 : Int32)).toNatClampNeg))), (5, .int (f_X8_kind x1 s)), (0, .ref 334), (1, .long x1), (3, .long x2)]) dX0_join_54 (by decide) rfl ?_
  refine mj_iload dX0_join_56 4 rfl ?_
  refine mj_lload_n dX0_join_58 7 rfl ?_
  refine t_callSiP dX0_join_59 M_X8_kind (C_X8_kind _ _) ML_X0_160 SM_X8_kind (As := [.long x2]) rfl rfl (Nat.le_of_ble_eq_true rfl) (Nat.le_of_ble_eq_true rfl) (Nat.le_of_ble_eq_true rfl) (Nat.le_of_ble_eq_true rfl) ?_
  refine mj_icmp_ne 78 dX0_join_62 (by decide) (fun z => t_negK hk z (fun hk => ?_)) (fun z => t_posK hk z (fun hk => ?_))
  · refine mj_sublv [(0, .ref 334), (1, .long x1), (3, .long x2), (5, .int (f_X8_kind x1 s)), (6, .int (s.1 339 (((s.1 334 7) - (2 : Int32)).toNatClampNeg))), (7, .int (s.1 339 (((s.1 334 7) - (1 : Int32)).toNatClampNeg))), (8, .int ((f_X8_extent x1 s) + (f_X8_extent x2 s))), (9, .int (((f_X8_size x1 s) + (f_X8_size x2 s)) - (1 : Int32)))] [5, 6, 7, 4, 3, 2, 1, 0] rfl ?_
    exact B_X0_join_78 _ _ _ _ _ _ _ _ _ hk
  · refine mj_iload dX0_join_65 4 rfl ?_
    refine mj_iconst (v := 2) dX0_join_67 (by decide) ?_
    refine mj_icmp_eq 86 dX0_join_68 (by decide) (fun z => t_posK hk z (fun hk => ?_)) (fun z => t_negK hk z (fun hk => ?_))
    · refine mj_sublv [(0, .ref 334), (1, .long x1), (3, .long x2), (5, .int (f_X8_kind x1 s)), (6, .int (s.1 339 (((s.1 334 7) - (2 : Int32)).toNatClampNeg))), (7, .int (s.1 339 (((s.1 334 7) - (1 : Int32)).toNatClampNeg))), (8, .int ((f_X8_extent x1 s) + (f_X8_extent x2 s))), (9, .int (((f_X8_size x1 s) + (f_X8_size x2 s)) - (1 : Int32)))] [5, 6, 7, 4, 3, 2, 1, 0] rfl ?_
      exact B_X0_join_86 _ _ _ _ _ _ _ _ _ hk
    · refine mj_iload dX0_join_71 4 rfl ?_
      refine mj_bipush (v := 8) dX0_join_73 (by decide) ?_
      refine mj_icmp_eq 86 dX0_join_75 (by decide) (fun z => t_posK hk z (fun hk => ?_)) (fun z => t_negK hk z (fun hk => ?_))
      · refine mj_sublv [(0, .ref 334), (1, .long x1), (3, .long x2), (5, .int (f_X8_kind x1 s)), (6, .int (s.1 339 (((s.1 334 7) - (2 : Int32)).toNatClampNeg))), (7, .int (s.1 339 (((s.1 334 7) - (1 : Int32)).toNatClampNeg))), (8, .int ((f_X8_extent x1 s) + (f_X8_extent x2 s))), (9, .int (((f_X8_size x1 s) + (f_X8_size x2 s)) - (1 : Int32)))] [5, 6, 7, 4, 3, 2, 1, 0] rfl ?_
        exact B_X0_join_86 _ _ _ _ _ _ _ _ _ hk
      · refine mj_sublv [(0, .ref 334), (1, .long x1), (3, .long x2), (5, .int (f_X8_kind x1 s)), (6, .int (s.1 339 (((s.1 334 7) - (2 : Int32)).toNatClampNeg))), (7, .int (s.1 339 (((s.1 334 7) - (1 : Int32)).toNatClampNeg))), (8, .int ((f_X8_extent x1 s) + (f_X8_extent x2 s))), (9, .int (((f_X8_size x1 s) + (f_X8_size x2 s)) - (1 : Int32)))] [5, 6, 7, 4, 3, 2, 1, 0] rfl ?_
        exact B_X0_join_78 _ _ _ _ _ _ _ _ _ hk

theorem dX0_replaceTop_0 : decode cX0_replaceTop 0 = .ok (.aload_n 0, 1) := by decide +kernel
theorem dX0_replaceTop_1 : decode cX0_replaceTop 1 = .ok (.getfield 21, 3) := by decide +kernel
theorem dX0_replaceTop_12 : decode cX0_replaceTop 12 = .ok (.iconst 1, 1) := by decide +kernel
theorem dX0_replaceTop_13 : decode cX0_replaceTop 13 = .ok (.isub, 1) := by decide +kernel
theorem dX0_replaceTop_14 : decode cX0_replaceTop 14 = .ok (.iaload, 1) := by decide +kernel
theorem dX0_replaceTop_15 : decode cX0_replaceTop 15 = .ok (.lload_n 1, 1) := by decide +kernel
theorem dX0_replaceTop_16 : decode cX0_replaceTop 16 = .ok (.lastore, 1) := by decide +kernel
theorem dX0_replaceTop_17 : decode cX0_replaceTop 17 = .ok (.aload_n 0, 1) := by decide +kernel
theorem dX0_replaceTop_18 : decode cX0_replaceTop 18 = .ok (.getfield 24, 3) := by decide +kernel
theorem dX0_replaceTop_21 : decode cX0_replaceTop 21 = .ok (.aload_n 0, 1) := by decide +kernel
theorem dX0_replaceTop_22 : decode cX0_replaceTop 22 = .ok (.getfield 62, 3) := by decide +kernel
theorem dX0_replaceTop_25 : decode cX0_replaceTop 25 = .ok (.aload_n 0, 1) := by decide +kernel
theorem dX0_replaceTop_26 : decode cX0_replaceTop 26 = .ok (.getfield 24, 3) := by decide +kernel
theorem dX0_replaceTop_29 : decode cX0_replaceTop 29 = .ok (.aload_n 0, 1) := by decide +kernel
theorem dX0_replaceTop_30 : decode cX0_replaceTop 30 = .ok (.getfield 62, 3) := by decide +kernel
theorem dX0_replaceTop_33 : decode cX0_replaceTop 33 = .ok (.iconst 1, 1) := by decide +kernel
theorem dX0_replaceTop_34 : decode cX0_replaceTop 34 = .ok (.isub, 1) := by decide +kernel
theorem dX0_replaceTop_35 : decode cX0_replaceTop 35 = .ok (.iaload, 1) := by decide +kernel
theorem dX0_replaceTop_36 : decode cX0_replaceTop 36 = .ok (.iconst 1, 1) := by decide +kernel
theorem dX0_replaceTop_37 : decode cX0_replaceTop 37 = .ok (.iadd, 1) := by decide +kernel
theorem dX0_replaceTop_38 : decode cX0_replaceTop 38 = .ok (.iastore, 1) := by decide +kernel
theorem dX0_replaceTop_39 : decode cX0_replaceTop 39 = .ok (.return_, 1) := by decide +kernel
theorem dX0_replaceTop_4 : decode cX0_replaceTop 4 = .ok (.aload_n 0, 1) := by decide +kernel
theorem dX0_replaceTop_5 : decode cX0_replaceTop 5 = .ok (.getfield 24, 3) := by decide +kernel
theorem dX0_replaceTop_8 : decode cX0_replaceTop 8 = .ok (.aload_n 0, 1) := by decide +kernel
theorem dX0_replaceTop_9 : decode cX0_replaceTop 9 = .ok (.getfield 62, 3) := by decide +kernel
noncomputable def f_X0_replaceTop (x1 : Int64) (s : t_S) : Option (t_S) :=
 if t_ix ((s.1 334 7) - (1 : Int32)) 3201 = true then
  if t_ix (s.1 339 (((s.1 334 7) - (1 : Int32)).toNatClampNeg)) 48000 = true then
  t_let (t_setJ s 338 ((s.1 339 (((s.1 334 7) - (1 : Int32)).toNatClampNeg)).toNatClampNeg) x1) (fun s1 =>
 if t_ix ((s1.1 334 7) - (1 : Int32)) 3201 = true then
  if t_ix (s1.1 334 7) 3201 = true then
  t_let (t_setI s1 339 ((s1.1 334 7).toNatClampNeg) ((s1.1 339 (((s1.1 334 7) - (1 : Int32)).toNatClampNeg)) + (1 : Int32))) (fun s2 =>
 some (s2))
else none
else none)
else none
else none
set_option maxRecDepth 4000 in
set_option maxHeartbeats 1000000 in
theorem C_X0_replaceTop (x1 : Int64) (s : t_S) (r : t_S) (hr : f_X0_replaceTop x1 s = some r) : t_C yX0_replaceTop cX0_replaceTop 3 none 0 [.ref 334, .long x1] s (fun v s' => v = none ∧ s' = r) := by
  refine t_C.imp (P := fun v s' => v = none ∧ (fun q => q = r) (s')) (t_C.of (by decide +kernel) (Nat.le_of_ble_eq_true rfl) ?_) (fun v s' hp => hp)
  intro D cy ad bs X
  have hk : t_hk (f_X0_replaceTop x1 s) (fun q => q = r) := ⟨r, hr, rfl⟩
  show mj_G D cy ad bs X cX0_replaceTop 3 yX0_replaceTop.cls none yX0_replaceTop.name 0 0 0 1065 (t_P (fun v s' => v = none ∧ (fun q => q = r) (s'))) 0 [(0, .ref 334), (1, .long x1)] [] (t_m s) 1065 0 0
  refine mj_aload_n dX0_replaceTop_0 0 rfl ?_
  refine t_getR 338 dX0_replaceTop_1 F_X0_21 qr_334_5 ?_
  refine mj_aload_n dX0_replaceTop_4 0 rfl ?_
  refine t_getR 339 dX0_replaceTop_5 F_X0_24 qr_334_6 ?_
  refine mj_aload_n dX0_replaceTop_8 0 rfl ?_
  refine t_getI dX0_replaceTop_9 F_X0_62 qf_334_7 ?_
  refine mj_iconst (v := 1) dX0_replaceTop_12 (by decide) ?_
  refine mj_isub dX0_replaceTop_13 ?_
  refine t_chkK hk (fun c0 hk => ?_)
  refine t_iald dX0_replaceTop_14 qa_339 (t_ixv c0) ?_
  refine mj_lload_n dX0_replaceTop_15 1 rfl ?_
  refine t_chkK hk (fun c1 hk => ?_)
  refine t_lastK dX0_replaceTop_16 qa_338 (t_ixv c1) (fun s1 ws1 => t_letE hk ws1 (fun hk => ?_))
  refine mj_aload_n dX0_replaceTop_17 0 rfl ?_
  refine t_getR 339 dX0_replaceTop_18 F_X0_24 qr_334_6 ?_
  refine mj_aload_n dX0_replaceTop_21 0 rfl ?_
  refine t_getI dX0_replaceTop_22 F_X0_62 qf_334_7 ?_
  refine mj_aload_n dX0_replaceTop_25 0 rfl ?_
  refine t_getR 339 dX0_replaceTop_26 F_X0_24 qr_334_6 ?_
  refine mj_aload_n dX0_replaceTop_29 0 rfl ?_
  refine t_getI dX0_replaceTop_30 F_X0_62 qf_334_7 ?_
  refine mj_iconst (v := 1) dX0_replaceTop_33 (by decide) ?_
  refine mj_isub dX0_replaceTop_34 ?_
  refine t_chkK hk (fun c2 hk => ?_)
  refine t_iald dX0_replaceTop_35 qa_339 (t_ixv c2) ?_
  refine mj_iconst (v := 1) dX0_replaceTop_36 (by decide) ?_
  refine mj_iadd dX0_replaceTop_37 ?_
  refine t_chkK hk (fun c3 hk => ?_)
  refine t_iastK dX0_replaceTop_38 qa_339 (t_ixv c3) (fun s2 ws2 => t_letE hk ws2 (fun hk => ?_))
  exact t_somK hk (fun hf => t_vret dX0_replaceTop_39 rfl ⟨rfl, hf⟩ (Nat.le_of_ble_eq_true rfl) (Nat.le_of_ble_eq_true rfl))

theorem dX0_reckon_0 : decode cX0_reckon 0 = .ok (.lconst 0, 1) := by decide +kernel
theorem dX0_reckon_1 : decode cX0_reckon 1 = .ok (.lstore 6, 2) := by decide +kernel
theorem dX0_reckon_102 : decode cX0_reckon 102 = .ok (.goto 22, 3) := by decide +kernel
theorem dX0_reckon_105 : decode cX0_reckon 105 = .ok (.iload_n 1, 1) := by decide +kernel
theorem dX0_reckon_106 : decode cX0_reckon 106 = .ok (.bipush 19, 2) := by decide +kernel
theorem dX0_reckon_108 : decode cX0_reckon 108 = .ok (.if_icmp .ne 10, 3) := by decide +kernel
theorem dX0_reckon_111 : decode cX0_reckon 111 = .ok (.lload_n 2, 1) := by decide +kernel
theorem dX0_reckon_112 : decode cX0_reckon 112 = .ok (.lload 4, 2) := by decide +kernel
theorem dX0_reckon_114 : decode cX0_reckon 114 = .ok (.ldiv, 1) := by decide +kernel
theorem dX0_reckon_115 : decode cX0_reckon 115 = .ok (.goto 7, 3) := by decide +kernel
theorem dX0_reckon_118 : decode cX0_reckon 118 = .ok (.lload_n 2, 1) := by decide +kernel
theorem dX0_reckon_119 : decode cX0_reckon 119 = .ok (.lload 4, 2) := by decide +kernel
theorem dX0_reckon_121 : decode cX0_reckon 121 = .ok (.lrem, 1) := by decide +kernel
theorem dX0_reckon_122 : decode cX0_reckon 122 = .ok (.lstore 6, 2) := by decide +kernel
theorem dX0_reckon_124 : decode cX0_reckon 124 = .ok (.lload 6, 2) := by decide +kernel
theorem dX0_reckon_126 : decode cX0_reckon 126 = .ok (.invokestatic 212, 3) := by decide +kernel
theorem dX0_reckon_129 : decode cX0_reckon 129 = .ok (.ldc2_w 215, 3) := by decide +kernel
theorem dX0_reckon_132 : decode cX0_reckon 132 = .ok (.lcmp, 1) := by decide +kernel
theorem dX0_reckon_133 : decode cX0_reckon 133 = .ok (.ifCond .le 8, 3) := by decide +kernel
theorem dX0_reckon_136 : decode cX0_reckon 136 = .ok (.aload_n 0, 1) := by decide +kernel
theorem dX0_reckon_137 : decode cX0_reckon 137 = .ok (.iconst 3, 1) := by decide +kernel
theorem dX0_reckon_138 : decode cX0_reckon 138 = .ok (.putfield 71, 3) := by decide +kernel
theorem dX0_reckon_141 : decode cX0_reckon 141 = .ok (.aload_n 0, 1) := by decide +kernel
theorem dX0_reckon_142 : decode cX0_reckon 142 = .ok (.getfield 71, 3) := by decide +kernel
theorem dX0_reckon_145 : decode cX0_reckon 145 = .ok (.ifCond .eq 4, 3) := by decide +kernel
theorem dX0_reckon_148 : decode cX0_reckon 148 = .ok (.return_, 1) := by decide +kernel
theorem dX0_reckon_149 : decode cX0_reckon 149 = .ok (.aload_n 0, 1) := by decide +kernel
theorem dX0_reckon_150 : decode cX0_reckon 150 = .ok (.dup, 1) := by decide +kernel
theorem dX0_reckon_151 : decode cX0_reckon 151 = .ok (.getfield 62, 3) := by decide +kernel
theorem dX0_reckon_154 : decode cX0_reckon 154 = .ok (.iconst 1, 1) := by decide +kernel
theorem dX0_reckon_155 : decode cX0_reckon 155 = .ok (.isub, 1) := by decide +kernel
theorem dX0_reckon_156 : decode cX0_reckon 156 = .ok (.putfield 62, 3) := by decide +kernel
theorem dX0_reckon_159 : decode cX0_reckon 159 = .ok (.aload_n 0, 1) := by decide +kernel
theorem dX0_reckon_160 : decode cX0_reckon 160 = .ok (.iconst 0, 1) := by decide +kernel
theorem dX0_reckon_161 : decode cX0_reckon 161 = .ok (.lload 6, 2) := by decide +kernel
theorem dX0_reckon_163 : decode cX0_reckon 163 = .ok (.invokestatic 106, 3) := by decide +kernel
theorem dX0_reckon_166 : decode cX0_reckon 166 = .ok (.invokevirtual 170, 3) := by decide +kernel
theorem dX0_reckon_169 : decode cX0_reckon 169 = .ok (.return_, 1) := by decide +kernel
theorem dX0_reckon_3 : decode cX0_reckon 3 = .ok (.iload_n 1, 1) := by decide +kernel
theorem dX0_reckon_32 : decode cX0_reckon 32 = .ok (.lload_n 2, 1) := by decide +kernel
theorem dX0_reckon_33 : decode cX0_reckon 33 = .ok (.lload 4, 2) := by decide +kernel
theorem dX0_reckon_35 : decode cX0_reckon 35 = .ok (.ladd, 1) := by decide +kernel
theorem dX0_reckon_36 : decode cX0_reckon 36 = .ok (.lstore 6, 2) := by decide +kernel
theorem dX0_reckon_38 : decode cX0_reckon 38 = .ok (.goto 86, 3) := by decide +kernel
theorem dX0_reckon_4 : decode cX0_reckon 4 = .ok (.tableswitch 86 16 18 #[28, 37, 46], 28) := by decide +kernel
theorem dX0_reckon_41 : decode cX0_reckon 41 = .ok (.lload_n 2, 1) := by decide +kernel
theorem dX0_reckon_42 : decode cX0_reckon 42 = .ok (.lload 4, 2) := by decide +kernel
theorem dX0_reckon_44 : decode cX0_reckon 44 = .ok (.lsub, 1) := by decide +kernel
theorem dX0_reckon_45 : decode cX0_reckon 45 = .ok (.lstore 6, 2) := by decide +kernel
theorem dX0_reckon_47 : decode cX0_reckon 47 = .ok (.goto 77, 3) := by decide +kernel
theorem dX0_reckon_50 : decode cX0_reckon 50 = .ok (.lload_n 2, 1) := by decide +kernel
theorem dX0_reckon_51 : decode cX0_reckon 51 = .ok (.lconst 0, 1) := by decide +kernel
theorem dX0_reckon_52 : decode cX0_reckon 52 = .ok (.lcmp, 1) := by decide +kernel
theorem dX0_reckon_53 : decode cX0_reckon 53 = .ok (.ifCond .eq 28, 3) := by decide +kernel
theorem dX0_reckon_56 : decode cX0_reckon 56 = .ok (.lload 4, 2) := by decide +kernel
theorem dX0_reckon_58 : decode cX0_reckon 58 = .ok (.invokestatic 212, 3) := by decide +kernel
theorem dX0_reckon_61 : decode cX0_reckon 61 = .ok (.ldc2_w 215, 3) := by decide +kernel
theorem dX0_reckon_64 : decode cX0_reckon 64 = .ok (.lload_n 2, 1) := by decide +kernel
theorem dX0_reckon_65 : decode cX0_reckon 65 = .ok (.invokestatic 212, 3) := by decide +kernel
theorem dX0_reckon_68 : decode cX0_reckon 68 = .ok (.ldiv, 1) := by decide +kernel
theorem dX0_reckon_69 : decode cX0_reckon 69 = .ok (.lcmp, 1) := by decide +kernel
theorem dX0_reckon_70 : decode cX0_reckon 70 = .ok (.ifCond .le 11, 3) := by decide +kernel
theorem dX0_reckon_73 : decode cX0_reckon 73 = .ok (.aload_n 0, 1) := by decide +kernel
theorem dX0_reckon_74 : decode cX0_reckon 74 = .ok (.iconst 3, 1) := by decide +kernel
theorem dX0_reckon_75 : decode cX0_reckon 75 = .ok (.putfield 71, 3) := by decide +kernel
theorem dX0_reckon_78 : decode cX0_reckon 78 = .ok (.goto 46, 3) := by decide +kernel
theorem dX0_reckon_81 : decode cX0_reckon 81 = .ok (.lload_n 2, 1) := by decide +kernel
theorem dX0_reckon_82 : decode cX0_reckon 82 = .ok (.lload 4, 2) := by decide +kernel
theorem dX0_reckon_84 : decode cX0_reckon 84 = .ok (.lmul, 1) := by decide +kernel
theorem dX0_reckon_85 : decode cX0_reckon 85 = .ok (.lstore 6, 2) := by decide +kernel
theorem dX0_reckon_87 : decode cX0_reckon 87 = .ok (.goto 37, 3) := by decide +kernel
theorem dX0_reckon_90 : decode cX0_reckon 90 = .ok (.lload 4, 2) := by decide +kernel
theorem dX0_reckon_92 : decode cX0_reckon 92 = .ok (.lconst 0, 1) := by decide +kernel
theorem dX0_reckon_93 : decode cX0_reckon 93 = .ok (.lcmp, 1) := by decide +kernel
theorem dX0_reckon_94 : decode cX0_reckon 94 = .ok (.ifCond .ne 11, 3) := by decide +kernel
theorem dX0_reckon_97 : decode cX0_reckon 97 = .ok (.aload_n 0, 1) := by decide +kernel
theorem dX0_reckon_98 : decode cX0_reckon 98 = .ok (.iconst 3, 1) := by decide +kernel
theorem dX0_reckon_99 : decode cX0_reckon 99 = .ok (.putfield 71, 3) := by decide +kernel
noncomputable def k_X0_reckon_141 (l6 : Int64) (s : t_S) : Option (t_S) :=
 if (s.1 334 12) = (0 : Int32) then (t_let (t_setI s 334 7 ((s.1 334 7) - (1 : Int32))) (fun s1 =>
 (f_X0_replaceTop (f_X8_plainCell (0 : Int32) l6 s1) s1).bind (fun r2 =>
 some (r2))))
 else (some (s))
set_option maxRecDepth 4000 in
set_option maxHeartbeats 1000000 in
theorem B_X0_reckon_141 {D : va_G} {cy : Nat → ClassId} {ad : Nat → Nat} {bs : Nat} {X : State → Heap → Prop} (l6 : Int64) (s : t_S) (Q : t_S → Prop) (hk : t_hk (k_X0_reckon_141 l6 s) Q) : mj_G D cy ad bs X cX0_reckon 8 yX0_reckon.cls none yX0_reckon.name 1 0 0 1065 (t_P (fun v s' => v = none ∧ Q (s'))) 141 [(0, .ref 334), (6, .long l6)] [] (t_m s) 1065 0 0 := by
  refine mj_aload_n dX0_reckon_141 0 rfl ?_
  refine t_getI dX0_reckon_142 F_X0_71 qf_334_12 ?_
  refine mj_if_eq 149 dX0_reckon_145 (by decide) (fun z => t_posK hk z (fun hk => ?_)) (fun z => t_negK hk z (fun hk => ?_))
  · refine mj_aload_n dX0_reckon_149 0 rfl ?_
    refine mj_dup dX0_reckon_150 rfl ?_
    refine t_getI dX0_reckon_151 F_X0_62 qf_334_7 ?_
    refine mj_iconst (v := 1) dX0_reckon_154 (by decide) ?_
    refine mj_isub dX0_reckon_155 ?_
    refine t_putIK dX0_reckon_156 F_X0_62 qf_334_7 rfl (fun s1 ws1 => t_letE hk ws1 (fun hk => ?_))
    refine mj_aload_n dX0_reckon_159 0 rfl ?_
    refine mj_iconst (v := 0) dX0_reckon_160 (by decide) ?_
    refine mj_lload dX0_reckon_161 1 rfl ?_
    refine t_callSlP dX0_reckon_163 M_X8_plainCell (C_X8_plainCell _ _ _) ML_X0_106 SM_X8_plainCell (As := [.int 0, .long l6]) rfl rfl (Nat.le_of_ble_eq_true rfl) (Nat.le_of_ble_eq_true rfl) (Nat.le_of_ble_eq_true rfl) (Nat.le_of_ble_eq_true rfl) ?_
    refine t_bndK hk (fun r2 er2 hk => ?_)
    refine t_callVvE dX0_reckon_166 M_X0_replaceTop (C_X0_replaceTop _ _ _ er2) ML_X0_170 IM_X0_replaceTop SE_X0_replaceTop qc_334 rfl (As := [.long (f_X8_plainCell (0 : Int32) l6 s1)]) rfl rfl (Nat.le_of_ble_eq_true rfl) (Nat.le_of_ble_eq_true rfl) (Nat.le_of_ble_eq_true rfl) (Nat.le_of_ble_eq_true rfl) ?_
    exact t_somK hk (fun hf => t_vret dX0_reckon_169 rfl ⟨rfl, hf⟩ (Nat.le_of_ble_eq_true rfl) (Nat.le_of_ble_eq_true rfl))
  · exact t_somK hk (fun hf => t_vret dX0_reckon_148 rfl ⟨rfl, hf⟩ (Nat.le_of_ble_eq_true rfl) (Nat.le_of_ble_eq_true rfl))
noncomputable def k_X0_reckon_124 (l6 : Int64) (s : t_S) : Option (t_S) :=
 if (lg_cmp (if 0 < l6 then l6 else -l6) (1000000000000000 : Int64)) ≤ (0 : Int32) then (k_X0_reckon_141 l6 s)
 else (t_let (t_setI s 334 12 (3 : Int32)) (fun s1 =>
 k_X0_reckon_141 l6 s1))
set_option maxRecDepth 4000 in
set_option maxHeartbeats 1000000 in
theorem B_X0_reckon_124 {D : va_G} {cy : Nat → ClassId} {ad : Nat → Nat} {bs : Nat} {X : State → Heap → Prop} (l6 : Int64) (s : t_S) (Q : t_S → Prop) (hk : t_hk (k_X0_reckon_124 l6 s) Q) : mj_G D cy ad bs X cX0_reckon 8 yX0_reckon.cls none yX0_reckon.name 1 0 0 1065 (t_P (fun v s' => v = none ∧ Q (s'))) 124 [(0, .ref 334), (6, .long l6)] [] (t_m s) 1065 0 0 := by
  refine mj_lload dX0_reckon_124 1 rfl ?_
  refine mj_labs dX0_reckon_126 MJ_abs_X0_212 (Nat.le_of_ble_eq_true rfl) (Nat.le_of_ble_eq_true rfl) (Nat.le_of_ble_eq_true rfl) (Nat.le_of_ble_eq_true rfl) ?_
  refine mj_ldc2 dX0_reckon_129 K_X0_215 ?_
  refine mj_lcmp dX0_reckon_132 ?_
  refine mj_if_le 141 dX0_reckon_133 (by decide) (fun z => t_posK hk z (fun hk => ?_)) (fun z => t_negK hk z (fun hk => ?_))
  · exact B_X0_reckon_141 _ _ _ hk
  · refine mj_aload_n dX0_reckon_136 0 rfl ?_
    refine mj_iconst (v := 3) dX0_reckon_137 (by decide) ?_
    refine t_putIK dX0_reckon_138 F_X0_71 qf_334_12 rfl (fun s1 ws1 => t_letE hk ws1 (fun hk => ?_))
    exact B_X0_reckon_141 _ _ _ hk
noncomputable def k_X0_reckon_81 (l2 : Int64) (l4 : Int64) (s : t_S) : Option (t_S) :=
 k_X0_reckon_124 (l2 * l4) s
set_option maxRecDepth 4000 in
set_option maxHeartbeats 1000000 in
theorem B_X0_reckon_81 {D : va_G} {cy : Nat → ClassId} {ad : Nat → Nat} {bs : Nat} {X : State → Heap → Prop} (l2 : Int64) (l4 : Int64) (s : t_S) (Q : t_S → Prop) (hk : t_hk (k_X0_reckon_81 l2 l4 s) Q) : mj_G D cy ad bs X cX0_reckon 8 yX0_reckon.cls none yX0_reckon.name 1 0 0 1065 (t_P (fun v s' => v = none ∧ Q (s'))) 81 [(0, .ref 334), (2, .long l2), (4, .long l4)] [] (t_m s) 1065 0 0 := by
  refine mj_lload_n dX0_reckon_81 1 rfl ?_
  refine mj_lload dX0_reckon_82 2 rfl ?_
  refine mj_lmul dX0_reckon_84 ?_
  refine mj_lstore (lv2 := [(6, .long (l2 * l4)), (0, .ref 334), (2, .long l2), (4, .long l4)]) dX0_reckon_85 (by decide) rfl ?_
  refine mj_goto 124 dX0_reckon_87 (by decide) ?_
  refine mj_sublv [(0, .ref 334), (6, .long (l2 * l4))] [1, 0] rfl ?_
  exact B_X0_reckon_124 _ _ _ hk
noncomputable def k_X0_reckon_122 (k0 : Int64) (s : t_S) : Option (t_S) :=
 k_X0_reckon_124 k0 s
set_option maxRecDepth 4000 in
set_option maxHeartbeats 1000000 in
theorem B_X0_reckon_122 {D : va_G} {cy : Nat → ClassId} {ad : Nat → Nat} {bs : Nat} {X : State → Heap → Prop} (k0 : Int64) (s : t_S) (Q : t_S → Prop) (hk : t_hk (k_X0_reckon_122 k0 s) Q) : mj_G D cy ad bs X cX0_reckon 8 yX0_reckon.cls none yX0_reckon.name 1 0 0 1065 (t_P (fun v s' => v = none ∧ Q (s'))) 122 [(0, .ref 334)] [.long k0] (t_m s) 1065 0 0 := by
  refine mj_lstore (lv2 := [(6, .long k0), (0, .ref 334)]) dX0_reckon_122 (by decide) rfl ?_
  refine mj_sublv [(0, .ref 334), (6, .long k0)] [1, 0] rfl ?_
  exact B_X0_reckon_124 _ _ _ hk
noncomputable def f_X0_reckon (x1 : Int32) (x2 : Int64) (x3 : Int64) (s : t_S) : Option (t_S) :=
 if x1.toInt < 16 ∨ 18 < x1.toInt then (if (lg_cmp x3 (0 : Int64)) = (0 : Int32) then (t_let (t_setI s 334 12 (3 : Int32)) (fun s1 =>
 k_X0_reckon_124 0 s1))
 else (if x1 = (19 : Int32) then (if ¬ x3 = 0 then
  k_X0_reckon_122 (x2 / x3) s
else none)
 else (if ¬ x3 = 0 then
  k_X0_reckon_122 (x2 - x2 / x3 * x3) s
else none)))
 else if x1.toInt = 16 then (k_X0_reckon_124 (x2 + x3) s)
 else if x1.toInt = 17 then (k_X0_reckon_124 (x2 - x3) s)
 else (if (lg_cmp x2 (0 : Int64)) = (0 : Int32) then (k_X0_reckon_81 x2 x3 s)
 else (if ¬ (if 0 < x2 then x2 else -x2) = 0 then
  if (lg_cmp (if 0 < x3 then x3 else -x3) ((1000000000000000 : Int64) / (if 0 < x2 then x2 else -x2))) ≤ (0 : Int32) then (k_X0_reckon_81 x2 x3 s)
 else (t_let (t_setI s 334 12 (3 : Int32)) (fun s2 =>
 k_X0_reckon_124 0 s2))
else none))
set_option maxRecDepth 4000 in
set_option maxHeartbeats 1000000 in
theorem C_X0_reckon (x1 : Int32) (x2 : Int64) (x3 : Int64) (s : t_S) (r : t_S) (hr : f_X0_reckon x1 x2 x3 s = some r) : t_C yX0_reckon cX0_reckon 8 none 1 [.ref 334, .int x1, .long x2, .long x3] s (fun v s' => v = none ∧ s' = r) := by
  refine t_C.imp (P := fun v s' => v = none ∧ (fun q => q = r) (s')) (t_C.of (by decide +kernel) (Nat.le_of_ble_eq_true rfl) ?_) (fun v s' hp => hp)
  intro D cy ad bs X
  have hk : t_hk (f_X0_reckon x1 x2 x3 s) (fun q => q = r) := ⟨r, hr, rfl⟩
  show mj_G D cy ad bs X cX0_reckon 8 yX0_reckon.cls none yX0_reckon.name 1 0 0 1065 (t_P (fun v s' => v = none ∧ (fun q => q = r) (s'))) 0 [(0, .ref 334), (1, .int x1), (2, .long x2), (4, .long x3)] [] (t_m s) 1065 0 0
  refine mj_lconst (v := 0) dX0_reckon_0 (by decide) ?_
  refine mj_lstore (lv2 := [(6, .long 0), (0, .ref 334), (1, .int x1), (2, .long x2), (4, .long x3)]) dX0_reckon_1 (by decide) rfl ?_
  refine mj_iload_n dX0_reckon_3 2 rfl ?_
  by_cases hout : x1.toInt < 16 ∨ 18 < x1.toInt
  · replace hk := t_pos hk hout
    refine mj_tableOut 90 dX0_reckon_4 hout (by decide) ?_
    refine mj_lload dX0_reckon_90 4 rfl ?_
    refine mj_lconst (v := 0) dX0_reckon_92 (by decide) ?_
    refine mj_lcmp dX0_reckon_93 ?_
    refine mj_if_ne 105 dX0_reckon_94 (by decide) (fun z => t_negK hk z (fun hk => ?_)) (fun z => t_posK hk z (fun hk => ?_))
    · refine mj_iload_n dX0_reckon_105 2 rfl ?_
      refine mj_bipush (v := 19) dX0_reckon_106 (by decide) ?_
      refine mj_icmp_ne 118 dX0_reckon_108 (by decide) (fun z => t_negK hk z (fun hk => ?_)) (fun z => t_posK hk z (fun hk => ?_))
      · refine mj_lload_n dX0_reckon_118 3 rfl ?_
        refine mj_lload dX0_reckon_119 4 rfl ?_
        refine t_chkK hk (fun c0 hk => ?_)
        refine mj_lrem dX0_reckon_121 c0 ?_
        refine mj_sublv [(0, .ref 334)] [1] rfl ?_
        exact B_X0_reckon_122 _ _ _ hk
      · refine mj_lload_n dX0_reckon_111 3 rfl ?_
        refine mj_lload dX0_reckon_112 4 rfl ?_
        refine t_chkK hk (fun c1 hk => ?_)
        refine mj_ldiv dX0_reckon_114 c1 ?_
        refine mj_goto 122 dX0_reckon_115 (by decide) ?_
        refine mj_sublv [(0, .ref 334)] [1] rfl ?_
        exact B_X0_reckon_122 _ _ _ hk
    · refine mj_aload_n dX0_reckon_97 1 rfl ?_
      refine mj_iconst (v := 3) dX0_reckon_98 (by decide) ?_
      refine t_putIK dX0_reckon_99 F_X0_71 qf_334_12 rfl (fun s1 ws1 => t_letE hk ws1 (fun hk => ?_))
      refine mj_goto 124 dX0_reckon_102 (by decide) ?_
      refine mj_sublv [(0, .ref 334), (6, .long 0)] [1, 0] rfl ?_
      exact B_X0_reckon_124 _ _ _ hk
  · replace hk := t_neg hk hout
    have hh1 : ¬ x1.toInt < 16 := fun z => hout (Or.inl z)
    have hh2 : ¬ (18 : Int) < x1.toInt := fun z => hout (Or.inr z)
    by_cases h0 : x1.toInt = 16
    · replace hk := t_pos hk h0
      refine mj_tableIn 32 dX0_reckon_4 hh1 hh2 (by rw [h0]; rfl) (by decide) ?_
      refine mj_lload_n dX0_reckon_32 3 rfl ?_
      refine mj_lload dX0_reckon_33 4 rfl ?_
      refine mj_ladd dX0_reckon_35 ?_
      refine mj_lstore (lv2 := [(6, .long (x2 + x3)), (0, .ref 334), (1, .int x1), (2, .long x2), (4, .long x3)]) dX0_reckon_36 (by decide) rfl ?_
      refine mj_goto 124 dX0_reckon_38 (by decide) ?_
      refine mj_sublv [(0, .ref 334), (6, .long (x2 + x3))] [1, 0] rfl ?_
      exact B_X0_reckon_124 _ _ _ hk
    replace hk := t_neg hk h0
    by_cases h1 : x1.toInt = 17
    · replace hk := t_pos hk h1
      refine mj_tableIn 41 dX0_reckon_4 hh1 hh2 (by rw [h1]; rfl) (by decide) ?_
      refine mj_lload_n dX0_reckon_41 3 rfl ?_
      refine mj_lload dX0_reckon_42 4 rfl ?_
      refine mj_lsub dX0_reckon_44 ?_
      refine mj_lstore (lv2 := [(6, .long (x2 - x3)), (0, .ref 334), (1, .int x1), (2, .long x2), (4, .long x3)]) dX0_reckon_45 (by decide) rfl ?_
      refine mj_goto 124 dX0_reckon_47 (by decide) ?_
      refine mj_sublv [(0, .ref 334), (6, .long (x2 - x3))] [1, 0] rfl ?_
      exact B_X0_reckon_124 _ _ _ hk
    replace hk := t_neg hk h1
    have h2 : x1.toInt = 18 := by omega
    refine mj_tableIn 50 dX0_reckon_4 hh1 hh2 (by rw [h2]; rfl) (by decide) ?_
    refine mj_lload_n dX0_reckon_50 3 rfl ?_
    refine mj_lconst (v := 0) dX0_reckon_51 (by decide) ?_
    refine mj_lcmp dX0_reckon_52 ?_
    refine mj_if_eq 81 dX0_reckon_53 (by decide) (fun z => t_posK hk z (fun hk => ?_)) (fun z => t_negK hk z (fun hk => ?_))
    · refine mj_sublv [(0, .ref 334), (2, .long x2), (4, .long x3)] [1, 3, 4] rfl ?_
      exact B_X0_reckon_81 _ _ _ _ hk
    · refine mj_lload dX0_reckon_56 4 rfl ?_
      refine mj_labs dX0_reckon_58 MJ_abs_X0_212 (Nat.le_of_ble_eq_true rfl) (Nat.le_of_ble_eq_true rfl) (Nat.le_of_ble_eq_true rfl) (Nat.le_of_ble_eq_true rfl) ?_
      refine mj_ldc2 dX0_reckon_61 K_X0_215 ?_
      refine mj_lload_n dX0_reckon_64 3 rfl ?_
      refine mj_labs dX0_reckon_65 MJ_abs_X0_212 (Nat.le_of_ble_eq_true rfl) (Nat.le_of_ble_eq_true rfl) (Nat.le_of_ble_eq_true rfl) (Nat.le_of_ble_eq_true rfl) ?_
      refine t_chkK hk (fun c2 hk => ?_)
      refine mj_ldiv dX0_reckon_68 c2 ?_
      refine mj_lcmp dX0_reckon_69 ?_
      refine mj_if_le 81 dX0_reckon_70 (by decide) (fun z => t_posK hk z (fun hk => ?_)) (fun z => t_negK hk z (fun hk => ?_))
      · refine mj_sublv [(0, .ref 334), (2, .long x2), (4, .long x3)] [1, 3, 4] rfl ?_
        exact B_X0_reckon_81 _ _ _ _ hk
      · refine mj_aload_n dX0_reckon_73 1 rfl ?_
        refine mj_iconst (v := 3) dX0_reckon_74 (by decide) ?_
        refine t_putIK dX0_reckon_75 F_X0_71 qf_334_12 rfl (fun s2 ws2 => t_letE hk ws2 (fun hk => ?_))
        refine mj_goto 124 dX0_reckon_78 (by decide) ?_
        refine mj_sublv [(0, .ref 334), (6, .long 0)] [1, 0] rfl ?_
        exact B_X0_reckon_124 _ _ _ hk

theorem dX0_truth_0 : decode cX0_truth 0 = .ok (.iconst 1, 1) := by decide +kernel
theorem dX0_truth_1 : decode cX0_truth 1 = .ok (.iload_n 0, 1) := by decide +kernel
theorem dX0_truth_10 : decode cX0_truth 10 = .ok (.invokestatic 106, 3) := by decide +kernel
theorem dX0_truth_13 : decode cX0_truth 13 = .ok (.lreturn, 1) := by decide +kernel
theorem dX0_truth_2 : decode cX0_truth 2 = .ok (.ifCond .eq 7, 3) := by decide +kernel
theorem dX0_truth_5 : decode cX0_truth 5 = .ok (.lconst 1, 1) := by decide +kernel
theorem dX0_truth_6 : decode cX0_truth 6 = .ok (.goto 4, 3) := by decide +kernel
theorem dX0_truth_9 : decode cX0_truth 9 = .ok (.lconst 0, 1) := by decide +kernel
noncomputable def k_X0_truth_10 (k0 : Int64) (k1 : Int32) (s : t_S) : Int64 :=
 (f_X8_plainCell k1 k0 s)
set_option maxRecDepth 4000 in
set_option maxHeartbeats 1000000 in
theorem B_X0_truth_10 {D : va_G} {cy : Nat → ClassId} {ad : Nat → Nat} {bs : Nat} {X : State → Heap → Prop} (k0 : Int64) (k1 : Int32) (s : t_S) (Q : Int64 → Prop) (hk : t_ht (k_X0_truth_10 k0 k1 s) Q) : mj_G D cy ad bs X cX0_truth 1 yX0_truth.cls (some .long) yX0_truth.name 1 0 0 1065 (t_P (fun v s' => s' = s ∧ ∃ x, v = some (.long x) ∧ Q (x))) 10 [] [.long k0, .int k1] (t_m s) 1065 0 0 := by
  refine t_callSlP dX0_truth_10 M_X8_plainCell (C_X8_plainCell _ _ _) ML_X0_106 SM_X8_plainCell (As := [.int k1, .long k0]) rfl rfl (Nat.le_of_ble_eq_true rfl) (Nat.le_of_ble_eq_true rfl) (Nat.le_of_ble_eq_true rfl) (Nat.le_of_ble_eq_true rfl) ?_
  exact t_lret dX0_truth_13 rfl ⟨rfl, _, rfl, hk⟩ (Nat.le_of_ble_eq_true rfl) (Nat.le_of_ble_eq_true rfl)
noncomputable def f_X0_truth (x1 : Int32) (s : t_S) : Int64 :=
 if x1 = (0 : Int32) then (k_X0_truth_10 0 1 s)
 else (k_X0_truth_10 1 1 s)
set_option maxRecDepth 4000 in
set_option maxHeartbeats 1000000 in
theorem C_X0_truth (x1 : Int32) (s : t_S) : t_C yX0_truth cX0_truth 1 (some .long) 1 [.int x1] s (fun v s' => v = some (.long (f_X0_truth x1 s)) ∧ s' = s) := by
  refine t_C.imp (P := fun v s' => s' = s ∧ ∃ x, v = some (.long x) ∧ (fun r => r = f_X0_truth x1 s) (x)) (t_C.of (by decide +kernel) (Nat.le_of_ble_eq_true rfl) ?_) (fun v s' hp => by obtain ⟨rfl, x, rfl, rfl⟩ := hp; exact ⟨rfl, rfl⟩)
  intro D cy ad bs X
  have hk : t_ht (f_X0_truth x1 s) (fun r => r = f_X0_truth x1 s) := rfl
  show mj_G D cy ad bs X cX0_truth 1 yX0_truth.cls (some .long) yX0_truth.name 1 0 0 1065 (t_P (fun v s' => s' = s ∧ ∃ x, v = some (.long x) ∧ (fun r => r = f_X0_truth x1 s) (x))) 0 [(0, .int x1)] [] (t_m s) 1065 0 0
  refine mj_iconst (v := 1) dX0_truth_0 (by decide) ?_
  refine mj_iload_n dX0_truth_1 0 rfl ?_
  refine mj_if_eq 9 dX0_truth_2 (by decide) (fun z => t_posTK hk z (fun hk => ?_)) (fun z => t_negTK hk z (fun hk => ?_))
  · refine mj_lconst (v := 0) dX0_truth_9 (by decide) ?_
    refine mj_sublv [] [] rfl ?_
    exact B_X0_truth_10 _ _ _ _ hk
  · refine mj_lconst (v := 1) dX0_truth_5 (by decide) ?_
    refine mj_goto 10 dX0_truth_6 (by decide) ?_
    refine mj_sublv [] [] rfl ?_
    exact B_X0_truth_10 _ _ _ _ hk

theorem dX8_same_0 : decode cX8_same 0 = .ok (.aload_n 0, 1) := by decide +kernel
theorem dX8_same_1 : decode cX8_same 1 = .ok (.iload_n 1, 1) := by decide +kernel
theorem dX8_same_10 : decode cX8_same 10 = .ok (.istore 4, 2) := by decide +kernel
theorem dX8_same_12 : decode cX8_same 12 = .ok (.aload_n 0, 1) := by decide +kernel
theorem dX8_same_13 : decode cX8_same 13 = .ok (.iload_n 1, 1) := by decide +kernel
theorem dX8_same_14 : decode cX8_same 14 = .ok (.laload, 1) := by decide +kernel
theorem dX8_same_15 : decode cX8_same 15 = .ok (.aload_n 2, 1) := by decide +kernel
theorem dX8_same_16 : decode cX8_same 16 = .ok (.iload_n 3, 1) := by decide +kernel
theorem dX8_same_17 : decode cX8_same 17 = .ok (.laload, 1) := by decide +kernel
theorem dX8_same_18 : decode cX8_same 18 = .ok (.lcmp, 1) := by decide +kernel
theorem dX8_same_19 : decode cX8_same 19 = .ok (.ifCond .ne 21, 3) := by decide +kernel
theorem dX8_same_2 : decode cX8_same 2 = .ok (.laload, 1) := by decide +kernel
theorem dX8_same_22 : decode cX8_same 22 = .ok (.iload_n 1, 1) := by decide +kernel
theorem dX8_same_23 : decode cX8_same 23 = .ok (.iload 4, 2) := by decide +kernel
theorem dX8_same_25 : decode cX8_same 25 = .ok (.iadd, 1) := by decide +kernel
theorem dX8_same_26 : decode cX8_same 26 = .ok (.aload_n 0, 1) := by decide +kernel
theorem dX8_same_27 : decode cX8_same 27 = .ok (.arraylength, 1) := by decide +kernel
theorem dX8_same_28 : decode cX8_same 28 = .ok (.if_icmp .gt 12, 3) := by decide +kernel
theorem dX8_same_3 : decode cX8_same 3 = .ok (.l2i, 1) := by decide +kernel
theorem dX8_same_31 : decode cX8_same 31 = .ok (.iload_n 3, 1) := by decide +kernel
theorem dX8_same_32 : decode cX8_same 32 = .ok (.iload 4, 2) := by decide +kernel
theorem dX8_same_34 : decode cX8_same 34 = .ok (.iadd, 1) := by decide +kernel
theorem dX8_same_35 : decode cX8_same 35 = .ok (.aload_n 2, 1) := by decide +kernel
theorem dX8_same_36 : decode cX8_same 36 = .ok (.arraylength, 1) := by decide +kernel
theorem dX8_same_37 : decode cX8_same 37 = .ok (.if_icmp .le 5, 3) := by decide +kernel
theorem dX8_same_4 : decode cX8_same 4 = .ok (.iconst 4, 1) := by decide +kernel
theorem dX8_same_40 : decode cX8_same 40 = .ok (.iconst 0, 1) := by decide +kernel
theorem dX8_same_41 : decode cX8_same 41 = .ok (.ireturn, 1) := by decide +kernel
theorem dX8_same_42 : decode cX8_same 42 = .ok (.iconst 1, 1) := by decide +kernel
theorem dX8_same_43 : decode cX8_same 43 = .ok (.istore 5, 2) := by decide +kernel
theorem dX8_same_45 : decode cX8_same 45 = .ok (.iload 5, 2) := by decide +kernel
theorem dX8_same_47 : decode cX8_same 47 = .ok (.iload 4, 2) := by decide +kernel
theorem dX8_same_49 : decode cX8_same 49 = .ok (.if_icmp .ge 27, 3) := by decide +kernel
theorem dX8_same_5 : decode cX8_same 5 = .ok (.ishr, 1) := by decide +kernel
theorem dX8_same_52 : decode cX8_same 52 = .ok (.aload_n 0, 1) := by decide +kernel
theorem dX8_same_53 : decode cX8_same 53 = .ok (.iload_n 1, 1) := by decide +kernel
theorem dX8_same_54 : decode cX8_same 54 = .ok (.iload 5, 2) := by decide +kernel
theorem dX8_same_56 : decode cX8_same 56 = .ok (.iadd, 1) := by decide +kernel
theorem dX8_same_57 : decode cX8_same 57 = .ok (.laload, 1) := by decide +kernel
theorem dX8_same_58 : decode cX8_same 58 = .ok (.aload_n 2, 1) := by decide +kernel
theorem dX8_same_59 : decode cX8_same 59 = .ok (.iload_n 3, 1) := by decide +kernel
theorem dX8_same_6 : decode cX8_same 6 = .ok (.sipush 255, 3) := by decide +kernel
theorem dX8_same_60 : decode cX8_same 60 = .ok (.iload 5, 2) := by decide +kernel
theorem dX8_same_62 : decode cX8_same 62 = .ok (.iadd, 1) := by decide +kernel
theorem dX8_same_63 : decode cX8_same 63 = .ok (.laload, 1) := by decide +kernel
theorem dX8_same_64 : decode cX8_same 64 = .ok (.lcmp, 1) := by decide +kernel
theorem dX8_same_65 : decode cX8_same 65 = .ok (.ifCond .eq 5, 3) := by decide +kernel
theorem dX8_same_68 : decode cX8_same 68 = .ok (.iconst 0, 1) := by decide +kernel
theorem dX8_same_69 : decode cX8_same 69 = .ok (.ireturn, 1) := by decide +kernel
theorem dX8_same_70 : decode cX8_same 70 = .ok (.iinc 5 1, 3) := by decide +kernel
theorem dX8_same_73 : decode cX8_same 73 = .ok (.goto (-28), 3) := by decide +kernel
theorem dX8_same_76 : decode cX8_same 76 = .ok (.iconst 1, 1) := by decide +kernel
theorem dX8_same_77 : decode cX8_same 77 = .ok (.ireturn, 1) := by decide +kernel
theorem dX8_same_9 : decode cX8_same 9 = .ok (.iand, 1) := by decide +kernel
noncomputable def k_X8_same_45 (l0 : Nat) (l1 : Int32) (l2 : Nat) (l3 : Int32) (l4 : Int32) (l5 : Int32) (s : t_S) : Option ((Nat × Int32 × Nat × Int32 × Int32 × Int32) ⊕ (Int32)) :=
 if l4 ≤ l5 then ((some (1 : Int32)).map Sum.inr)
 else (if t_oka l0 2 (t_ln l0) = true then
  if t_ix (l1 + l5) (t_ln l0) = true then
  if t_oka l2 2 (t_ln l2) = true then
  if t_ix (l3 + l5) (t_ln l2) = true then
  if (lg_cmp (s.2.1 l0 ((l1 + l5).toNatClampNeg)) (s.2.1 l2 ((l3 + l5).toNatClampNeg))) = (0 : Int32) then (some (.inl (l0, l1, l2, l3, l4, (l5 + 1))))
 else ((some (0 : Int32)).map Sum.inr)
else none
else none
else none
else none)
set_option maxRecDepth 4000 in
set_option maxHeartbeats 1000000 in
theorem B_X8_same_45 {D : va_G} {cy : Nat → ClassId} {ad : Nat → Nat} {bs : Nat} {X : State → Heap → Prop} (l0 : Nat) (l1 : Int32) (l2 : Nat) (l3 : Int32) (l4 : Int32) (l5 : Int32) (s : t_S) (Q : (Nat × Int32 × Nat × Int32 × Int32 × Int32) ⊕ (Int32) → Prop) (Hb45 : ∀ (y0 : Nat) (y1 : Int32) (y2 : Nat) (y3 : Int32) (y4 : Int32) (y5 : Int32), Q (.inl (y0, y1, y2, y3, y4, y5)) → mj_G D cy ad bs X cX8_same 6 yX8_same.cls (some .boolean) yX8_same.name 0 0 0 1065 (t_P (fun v s' => s' = s ∧ ∃ x, v = some (.int x) ∧ Q (.inr (x)))) 45 [(0, .ref (y0)), (1, .int (y1)), (2, .ref (y2)), (3, .int (y3)), (4, .int (y4)), (5, .int (y5))] [] (t_m s) 1065 0 0) (hk : t_hk (k_X8_same_45 l0 l1 l2 l3 l4 l5 s) Q) : mj_G D cy ad bs X cX8_same 6 yX8_same.cls (some .boolean) yX8_same.name 0 0 0 1065 (t_P (fun v s' => s' = s ∧ ∃ x, v = some (.int x) ∧ Q (.inr (x)))) 45 [(0, .ref l0), (1, .int l1), (2, .ref l2), (3, .int l3), (4, .int l4), (5, .int l5)] [] (t_m s) 1065 0 0 := by
  refine mj_iload dX8_same_45 5 rfl ?_
  refine mj_iload dX8_same_47 4 rfl ?_
  refine mj_icmp_ge 76 dX8_same_49 (by decide) (fun z => t_posK hk z (fun hk => ?_)) (fun z => t_negK hk z (fun hk => ?_))
  · refine t_mapK hk (fun hk => ?_)
    refine mj_iconst (v := 1) dX8_same_76 (by decide) ?_
    exact t_somK hk (fun hf => t_iret dX8_same_77 rfl (by decide) ⟨rfl, _, rfl, hf⟩ (Nat.le_of_ble_eq_true rfl) (Nat.le_of_ble_eq_true rfl))
  · refine mj_aload_n dX8_same_52 0 rfl ?_
    refine mj_iload_n dX8_same_53 1 rfl ?_
    refine mj_iload dX8_same_54 5 rfl ?_
    refine mj_iadd dX8_same_56 ?_
    refine t_chkK hk (fun c0 hk => ?_)
    refine t_chkK hk (fun c1 hk => ?_)
    refine t_lald dX8_same_57 c0 (t_ixv c1) ?_
    refine mj_aload_n dX8_same_58 2 rfl ?_
    refine mj_iload_n dX8_same_59 3 rfl ?_
    refine mj_iload dX8_same_60 5 rfl ?_
    refine mj_iadd dX8_same_62 ?_
    refine t_chkK hk (fun c2 hk => ?_)
    refine t_chkK hk (fun c3 hk => ?_)
    refine t_lald dX8_same_63 c2 (t_ixv c3) ?_
    refine mj_lcmp dX8_same_64 ?_
    refine mj_if_eq 70 dX8_same_65 (by decide) (fun z => t_posK hk z (fun hk => ?_)) (fun z => t_negK hk z (fun hk => ?_))
    · refine mj_iinc (k := 5) (v := (l5 + 1)) (lv2 := [(5, .int (l5 + 1)), (0, .ref l0), (1, .int l1), (2, .ref l2), (3, .int l3), (4, .int l4)]) dX8_same_70 rfl rfl (by decide) rfl ?_
      refine mj_goto 45 dX8_same_73 (by decide) ?_
      refine mj_sublv [(0, .ref l0), (1, .int l1), (2, .ref l2), (3, .int l3), (4, .int l4), (5, .int (l5 + 1))] [1, 2, 3, 4, 5, 0] rfl ?_
      exact t_somK hk (fun hf => Hb45 l0 l1 l2 l3 l4 (l5 + 1) hf)
    · refine t_mapK hk (fun hk => ?_)
      refine mj_iconst (v := 0) dX8_same_68 (by decide) ?_
      exact t_somK hk (fun hf => t_iret dX8_same_69 rfl (by decide) ⟨rfl, _, rfl, hf⟩ (Nat.le_of_ble_eq_true rfl) (Nat.le_of_ble_eq_true rfl))
noncomputable def b_X8_same_45 (s : t_S) (x : Nat × Int32 × Nat × Int32 × Int32 × Int32) : Option ((Nat × Int32 × Nat × Int32 × Int32 × Int32) ⊕ (Int32)) := k_X8_same_45 x.1 x.2.1 x.2.2.1 x.2.2.2.1 x.2.2.2.2.1 x.2.2.2.2.2 s
set_option maxRecDepth 4000 in
set_option maxHeartbeats 1000000 in
theorem LH_X8_same_45 {D : va_G} {cy : Nat → ClassId} {ad : Nat → Nat} {bs : Nat} {X : State → Heap → Prop} (s : t_S) : ∀ (n : Nat) (y0 : Nat) (y1 : Int32) (y2 : Nat) (y3 : Int32) (y4 : Int32) (y5 : Int32) (Q : Int32 → Prop) (hk : t_hk (t_loop (b_X8_same_45 s) n (y0, y1, y2, y3, y4, y5)) Q), mj_G D cy ad bs X cX8_same 6 yX8_same.cls (some .boolean) yX8_same.name 0 0 0 1065 (t_P (fun v s' => s' = s ∧ ∃ x, v = some (.int x) ∧ Q (x))) 45 [(0, .ref (y0)), (1, .int (y1)), (2, .ref (y2)), (3, .int (y3)), (4, .int (y4)), (5, .int (y5))] [] (t_m s) 1065 0 0 := by
  intro n
  induction n with
  | zero => intro y0 y1 y2 y3 y4 y5 Q hk; obtain ⟨r, hr, _⟩ := hk; cases hr
  | succ n ih =>
    intro y0 y1 y2 y3 y4 y5 Q hk
    exact B_X8_same_45 y0 y1 y2 y3 y4 y5 s (fun y => t_lq (b_X8_same_45 s) n Q y) (fun y0' y1' y2' y3' y4' y5' hy => ih y0' y1' y2' y3' y4' y5' Q hy) (t_lp hk)
noncomputable def f_X8_same (x1 : Nat) (x2 : Int32) (x3 : Nat) (x4 : Int32) (s : t_S) : Option (Int32) :=
 if t_oka x1 2 (t_ln x1) = true then
  if t_ix x2 (t_ln x1) = true then
  if t_oka x3 2 (t_ln x3) = true then
  if t_ix x4 (t_ln x3) = true then
  if (lg_cmp (s.2.1 x1 (x2.toNatClampNeg)) (s.2.1 x3 (x4.toNatClampNeg))) = (0 : Int32) then (if (Int32.ofNat (t_ln x1)) < (x2 + ((((s.2.1 x1 (x2.toNatClampNeg)).toInt32) >>> ((4 : Int32) &&& 31)) &&& (255 : Int32))) then (some (0 : Int32))
 else (if (x4 + ((((s.2.1 x1 (x2.toNatClampNeg)).toInt32) >>> ((4 : Int32) &&& 31)) &&& (255 : Int32))) ≤ (Int32.ofNat (t_ln x3)) then (t_loop (b_X8_same_45 s) t_N (x1, x2, x3, x4, ((((s.2.1 x1 (x2.toNatClampNeg)).toInt32) >>> ((4 : Int32) &&& 31)) &&& (255 : Int32)), 1))
 else (some (0 : Int32))))
 else (some (0 : Int32))
else none
else none
else none
else none
set_option maxRecDepth 4000 in
set_option maxHeartbeats 1000000 in
theorem C_X8_same (x1 : Nat) (x2 : Int32) (x3 : Nat) (x4 : Int32) (s : t_S) (r : Int32) (hr : f_X8_same x1 x2 x3 x4 s = some r) : t_C yX8_same cX8_same 6 (some .boolean) 0 [.ref x1, .int x2, .ref x3, .int x4] s (fun v s' => v = some (.int r) ∧ s' = s) := by
  refine t_C.imp (P := fun v s' => s' = s ∧ ∃ x, v = some (.int x) ∧ (fun q => q = r) (x)) (t_C.of (by decide +kernel) (Nat.le_of_ble_eq_true rfl) ?_) (fun v s' hp => by obtain ⟨rfl, x, rfl, rfl⟩ := hp; exact ⟨rfl, rfl⟩)
  intro D cy ad bs X
  have hk : t_hk (f_X8_same x1 x2 x3 x4 s) (fun q => q = r) := ⟨r, hr, rfl⟩
  show mj_G D cy ad bs X cX8_same 6 yX8_same.cls (some .boolean) yX8_same.name 0 0 0 1065 (t_P (fun v s' => s' = s ∧ ∃ x, v = some (.int x) ∧ (fun q => q = r) (x))) 0 [(0, .ref x1), (1, .int x2), (2, .ref x3), (3, .int x4)] [] (t_m s) 1065 0 0
  refine mj_aload_n dX8_same_0 0 rfl ?_
  refine mj_iload_n dX8_same_1 1 rfl ?_
  refine t_chkK hk (fun c0 hk => ?_)
  refine t_chkK hk (fun c1 hk => ?_)
  refine t_lald dX8_same_2 c0 (t_ixv c1) ?_
  refine mj_l2i (v := (s.2.1 x1 (x2.toNatClampNeg)).toInt32) dX8_same_3 rfl ?_
  refine mj_iconst (v := 4) dX8_same_4 (by decide) ?_
  refine mj_ishr dX8_same_5 ?_
  refine mj_sipush (v := 255) dX8_same_6 (by decide) ?_
  refine mj_iand dX8_same_9 ?_
  refine mj_istore (lv2 := [(4, .int ((((s.2.1 x1 (x2.toNatClampNeg)).toInt32) >>> ((4 : Int32) &&& 31)) &&& (255 : Int32))), (0, .ref x1), (1, .int x2), (2, .ref x3), (3, .int x4)]) dX8_same_10 (by decide) rfl ?_
  refine mj_aload_n dX8_same_12 1 rfl ?_
  refine mj_iload_n dX8_same_13 2 rfl ?_
  refine t_lald dX8_same_14 c0 (t_ixv c1) ?_
  refine mj_aload_n dX8_same_15 3 rfl ?_
  refine mj_iload_n dX8_same_16 4 rfl ?_
  refine t_chkK hk (fun c2 hk => ?_)
  refine t_chkK hk (fun c3 hk => ?_)
  refine t_lald dX8_same_17 c2 (t_ixv c3) ?_
  refine mj_lcmp dX8_same_18 ?_
  refine mj_if_ne 40 dX8_same_19 (by decide) (fun z => t_negK hk z (fun hk => ?_)) (fun z => t_posK hk z (fun hk => ?_))
  · refine mj_iconst (v := 0) dX8_same_40 (by decide) ?_
    exact t_somK hk (fun hf => t_iret dX8_same_41 rfl (by decide) ⟨rfl, _, rfl, hf⟩ (Nat.le_of_ble_eq_true rfl) (Nat.le_of_ble_eq_true rfl))
  · refine mj_iload_n dX8_same_22 2 rfl ?_
    refine mj_iload dX8_same_23 0 rfl ?_
    refine mj_iadd dX8_same_25 ?_
    refine mj_aload_n dX8_same_26 1 rfl ?_
    refine t_alen2 (v := (Int32.ofNat (t_ln x1))) dX8_same_27 c0 rfl ?_
    refine mj_icmp_gt 40 dX8_same_28 (by decide) (fun z => t_posK hk z (fun hk => ?_)) (fun z => t_negK hk z (fun hk => ?_))
    · refine mj_iconst (v := 0) dX8_same_40 (by decide) ?_
      exact t_somK hk (fun hf => t_iret dX8_same_41 rfl (by decide) ⟨rfl, _, rfl, hf⟩ (Nat.le_of_ble_eq_true rfl) (Nat.le_of_ble_eq_true rfl))
    · refine mj_iload_n dX8_same_31 4 rfl ?_
      refine mj_iload dX8_same_32 0 rfl ?_
      refine mj_iadd dX8_same_34 ?_
      refine mj_aload_n dX8_same_35 3 rfl ?_
      refine t_alen2 (v := (Int32.ofNat (t_ln x3))) dX8_same_36 c2 rfl ?_
      refine mj_icmp_le 42 dX8_same_37 (by decide) (fun z => t_posK hk z (fun hk => ?_)) (fun z => t_negK hk z (fun hk => ?_))
      · refine mj_iconst (v := 1) dX8_same_42 (by decide) ?_
        refine mj_istore (lv2 := [(5, .int 1), (4, .int ((((s.2.1 x1 (x2.toNatClampNeg)).toInt32) >>> ((4 : Int32) &&& 31)) &&& (255 : Int32))), (0, .ref x1), (1, .int x2), (2, .ref x3), (3, .int x4)]) dX8_same_43 (by decide) rfl ?_
        refine mj_sublv [(0, .ref x1), (1, .int x2), (2, .ref x3), (3, .int x4), (4, .int ((((s.2.1 x1 (x2.toNatClampNeg)).toInt32) >>> ((4 : Int32) &&& 31)) &&& (255 : Int32))), (5, .int 1)] [2, 3, 4, 5, 1, 0] rfl ?_
        exact LH_X8_same_45 _ _ x1 x2 x3 x4 ((((s.2.1 x1 (x2.toNatClampNeg)).toInt32) >>> ((4 : Int32) &&& 31)) &&& (255 : Int32)) 1 _ hk
      · refine mj_iconst (v := 0) dX8_same_40 (by decide) ?_
        exact t_somK hk (fun hf => t_iret dX8_same_41 rfl (by decide) ⟨rfl, _, rfl, hf⟩ (Nat.le_of_ble_eq_true rfl) (Nat.le_of_ble_eq_true rfl))

