/-! Methods as functions, 33: X6_readAssignment, X6_takePort, X6_readOfComponents, X6_takePlace, X6_readVar -/
theorem qa_442 : t_oka 442 1 320 = true := by decide +kernel
theorem qf_845_14 : t_okf 845 6 14 0 = true := by decide +kernel
theorem dX6_readAssignment_0 : decode cX6_readAssignment 0 = .ok (.aload_n 0, 1) := by decide +kernel
theorem dX6_readAssignment_1 : decode cX6_readAssignment 1 = .ok (.getfield 48, 3) := by decide +kernel
theorem dX6_readAssignment_10 : decode cX6_readAssignment 10 = .ok (.aload_n 0, 1) := by decide +kernel
theorem dX6_readAssignment_101 : decode cX6_readAssignment 101 = .ok (.invokevirtual 202, 3) := by decide +kernel
theorem dX6_readAssignment_104 : decode cX6_readAssignment 104 = .ok (.pop, 1) := by decide +kernel
theorem dX6_readAssignment_105 : decode cX6_readAssignment 105 = .ok (.goto 41, 3) := by decide +kernel
theorem dX6_readAssignment_108 : decode cX6_readAssignment 108 = .ok (.aload_n 0, 1) := by decide +kernel
theorem dX6_readAssignment_109 : decode cX6_readAssignment 109 = .ok (.getfield 28, 3) := by decide +kernel
theorem dX6_readAssignment_11 : decode cX6_readAssignment 11 = .ok (.iload_n 1, 1) := by decide +kernel
theorem dX6_readAssignment_112 : decode cX6_readAssignment 112 = .ok (.bipush 91, 2) := by decide +kernel
theorem dX6_readAssignment_114 : decode cX6_readAssignment 114 = .ok (.invokevirtual 246, 3) := by decide +kernel
theorem dX6_readAssignment_117 : decode cX6_readAssignment 117 = .ok (.ifCond .eq 29, 3) := by decide +kernel
theorem dX6_readAssignment_12 : decode cX6_readAssignment 12 = .ok (.invokevirtual 570, 3) := by decide +kernel
theorem dX6_readAssignment_120 : decode cX6_readAssignment 120 = .ok (.aload_n 0, 1) := by decide +kernel
theorem dX6_readAssignment_121 : decode cX6_readAssignment 121 = .ok (.iconst 0, 1) := by decide +kernel
theorem dX6_readAssignment_122 : decode cX6_readAssignment 122 = .ok (.invokevirtual 120, 3) := by decide +kernel
theorem dX6_readAssignment_125 : decode cX6_readAssignment 125 = .ok (.pop, 1) := by decide +kernel
theorem dX6_readAssignment_126 : decode cX6_readAssignment 126 = .ok (.aload_n 0, 1) := by decide +kernel
theorem dX6_readAssignment_127 : decode cX6_readAssignment 127 = .ok (.getfield 28, 3) := by decide +kernel
theorem dX6_readAssignment_130 : decode cX6_readAssignment 130 = .ok (.bipush 93, 2) := by decide +kernel
theorem dX6_readAssignment_132 : decode cX6_readAssignment 132 = .ok (.invokevirtual 184, 3) := by decide +kernel
theorem dX6_readAssignment_135 : decode cX6_readAssignment 135 = .ok (.aload_n 0, 1) := by decide +kernel
theorem dX6_readAssignment_136 : decode cX6_readAssignment 136 = .ok (.getfield 43, 3) := by decide +kernel
theorem dX6_readAssignment_139 : decode cX6_readAssignment 139 = .ok (.bipush 38, 2) := by decide +kernel
theorem dX6_readAssignment_141 : decode cX6_readAssignment 141 = .ok (.iconst 0, 1) := by decide +kernel
theorem dX6_readAssignment_142 : decode cX6_readAssignment 142 = .ok (.invokevirtual 202, 3) := by decide +kernel
theorem dX6_readAssignment_145 : decode cX6_readAssignment 145 = .ok (.pop, 1) := by decide +kernel
theorem dX6_readAssignment_146 : decode cX6_readAssignment 146 = .ok (.iinc 3 1, 3) := by decide +kernel
theorem dX6_readAssignment_149 : decode cX6_readAssignment 149 = .ok (.goto (-122), 3) := by decide +kernel
theorem dX6_readAssignment_15 : decode cX6_readAssignment 15 = .ok (.aload_n 2, 1) := by decide +kernel
theorem dX6_readAssignment_152 : decode cX6_readAssignment 152 = .ok (.aload_n 0, 1) := by decide +kernel
theorem dX6_readAssignment_153 : decode cX6_readAssignment 153 = .ok (.getfield 28, 3) := by decide +kernel
theorem dX6_readAssignment_156 : decode cX6_readAssignment 156 = .ok (.bipush 11, 2) := by decide +kernel
theorem dX6_readAssignment_158 : decode cX6_readAssignment 158 = .ok (.invokevirtual 184, 3) := by decide +kernel
theorem dX6_readAssignment_16 : decode cX6_readAssignment 16 = .ok (.iconst 5, 1) := by decide +kernel
theorem dX6_readAssignment_161 : decode cX6_readAssignment 161 = .ok (.aload_n 2, 1) := by decide +kernel
theorem dX6_readAssignment_162 : decode cX6_readAssignment 162 = .ok (.bipush 9, 2) := by decide +kernel
theorem dX6_readAssignment_164 : decode cX6_readAssignment 164 = .ok (.aload_n 0, 1) := by decide +kernel
theorem dX6_readAssignment_165 : decode cX6_readAssignment 165 = .ok (.getfield 43, 3) := by decide +kernel
theorem dX6_readAssignment_168 : decode cX6_readAssignment 168 = .ok (.getfield 64, 3) := by decide +kernel
theorem dX6_readAssignment_17 : decode cX6_readAssignment 17 = .ok (.aload_n 0, 1) := by decide +kernel
theorem dX6_readAssignment_171 : decode cX6_readAssignment 171 = .ok (.iastore, 1) := by decide +kernel
theorem dX6_readAssignment_172 : decode cX6_readAssignment 172 = .ok (.aload_n 0, 1) := by decide +kernel
theorem dX6_readAssignment_173 : decode cX6_readAssignment 173 = .ok (.iconst 0, 1) := by decide +kernel
theorem dX6_readAssignment_174 : decode cX6_readAssignment 174 = .ok (.invokevirtual 120, 3) := by decide +kernel
theorem dX6_readAssignment_177 : decode cX6_readAssignment 177 = .ok (.pop, 1) := by decide +kernel
theorem dX6_readAssignment_178 : decode cX6_readAssignment 178 = .ok (.aload_n 0, 1) := by decide +kernel
theorem dX6_readAssignment_179 : decode cX6_readAssignment 179 = .ok (.getfield 43, 3) := by decide +kernel
theorem dX6_readAssignment_18 : decode cX6_readAssignment 18 = .ok (.getfield 43, 3) := by decide +kernel
theorem dX6_readAssignment_182 : decode cX6_readAssignment 182 = .ok (.iconst 0, 1) := by decide +kernel
theorem dX6_readAssignment_183 : decode cX6_readAssignment 183 = .ok (.iconst 0, 1) := by decide +kernel
theorem dX6_readAssignment_184 : decode cX6_readAssignment 184 = .ok (.invokevirtual 202, 3) := by decide +kernel
theorem dX6_readAssignment_187 : decode cX6_readAssignment 187 = .ok (.pop, 1) := by decide +kernel
theorem dX6_readAssignment_188 : decode cX6_readAssignment 188 = .ok (.aload_n 0, 1) := by decide +kernel
theorem dX6_readAssignment_189 : decode cX6_readAssignment 189 = .ok (.getfield 28, 3) := by decide +kernel
theorem dX6_readAssignment_192 : decode cX6_readAssignment 192 = .ok (.bipush 59, 2) := by decide +kernel
theorem dX6_readAssignment_194 : decode cX6_readAssignment 194 = .ok (.invokevirtual 184, 3) := by decide +kernel
theorem dX6_readAssignment_197 : decode cX6_readAssignment 197 = .ok (.return_, 1) := by decide +kernel
theorem dX6_readAssignment_21 : decode cX6_readAssignment 21 = .ok (.getfield 64, 3) := by decide +kernel
theorem dX6_readAssignment_24 : decode cX6_readAssignment 24 = .ok (.iastore, 1) := by decide +kernel
theorem dX6_readAssignment_25 : decode cX6_readAssignment 25 = .ok (.iconst 0, 1) := by decide +kernel
theorem dX6_readAssignment_26 : decode cX6_readAssignment 26 = .ok (.istore_n 3, 1) := by decide +kernel
theorem dX6_readAssignment_27 : decode cX6_readAssignment 27 = .ok (.iload_n 3, 1) := by decide +kernel
theorem dX6_readAssignment_28 : decode cX6_readAssignment 28 = .ok (.sipush 3000, 3) := by decide +kernel
theorem dX6_readAssignment_31 : decode cX6_readAssignment 31 = .ok (.if_icmp .gt 121, 3) := by decide +kernel
theorem dX6_readAssignment_34 : decode cX6_readAssignment 34 = .ok (.aload_n 0, 1) := by decide +kernel
theorem dX6_readAssignment_35 : decode cX6_readAssignment 35 = .ok (.getfield 28, 3) := by decide +kernel
theorem dX6_readAssignment_38 : decode cX6_readAssignment 38 = .ok (.getfield 82, 3) := by decide +kernel
theorem dX6_readAssignment_4 : decode cX6_readAssignment 4 = .ok (.getfield 531, 3) := by decide +kernel
theorem dX6_readAssignment_41 : decode cX6_readAssignment 41 = .ok (.ifCond .ne 111, 3) := by decide +kernel
theorem dX6_readAssignment_44 : decode cX6_readAssignment 44 = .ok (.aload_n 0, 1) := by decide +kernel
theorem dX6_readAssignment_45 : decode cX6_readAssignment 45 = .ok (.getfield 28, 3) := by decide +kernel
theorem dX6_readAssignment_48 : decode cX6_readAssignment 48 = .ok (.getfield 85, 3) := by decide +kernel
theorem dX6_readAssignment_51 : decode cX6_readAssignment 51 = .ok (.bipush 46, 2) := by decide +kernel
theorem dX6_readAssignment_53 : decode cX6_readAssignment 53 = .ok (.if_icmp .eq 18, 3) := by decide +kernel
theorem dX6_readAssignment_56 : decode cX6_readAssignment 56 = .ok (.aload_n 0, 1) := by decide +kernel
theorem dX6_readAssignment_57 : decode cX6_readAssignment 57 = .ok (.getfield 28, 3) := by decide +kernel
theorem dX6_readAssignment_60 : decode cX6_readAssignment 60 = .ok (.getfield 85, 3) := by decide +kernel
theorem dX6_readAssignment_63 : decode cX6_readAssignment 63 = .ok (.bipush 91, 2) := by decide +kernel
theorem dX6_readAssignment_65 : decode cX6_readAssignment 65 = .ok (.if_icmp .eq 6, 3) := by decide +kernel
theorem dX6_readAssignment_68 : decode cX6_readAssignment 68 = .ok (.goto 84, 3) := by decide +kernel
theorem dX6_readAssignment_7 : decode cX6_readAssignment 7 = .ok (.iload_n 1, 1) := by decide +kernel
theorem dX6_readAssignment_71 : decode cX6_readAssignment 71 = .ok (.aload_n 0, 1) := by decide +kernel
theorem dX6_readAssignment_72 : decode cX6_readAssignment 72 = .ok (.invokevirtual 298, 3) := by decide +kernel
theorem dX6_readAssignment_75 : decode cX6_readAssignment 75 = .ok (.aload_n 0, 1) := by decide +kernel
theorem dX6_readAssignment_76 : decode cX6_readAssignment 76 = .ok (.getfield 28, 3) := by decide +kernel
theorem dX6_readAssignment_79 : decode cX6_readAssignment 79 = .ok (.bipush 46, 2) := by decide +kernel
theorem dX6_readAssignment_8 : decode cX6_readAssignment 8 = .ok (.aaload, 1) := by decide +kernel
theorem dX6_readAssignment_81 : decode cX6_readAssignment 81 = .ok (.invokevirtual 246, 3) := by decide +kernel
theorem dX6_readAssignment_84 : decode cX6_readAssignment 84 = .ok (.ifCond .eq 24, 3) := by decide +kernel
theorem dX6_readAssignment_87 : decode cX6_readAssignment 87 = .ok (.aload_n 0, 1) := by decide +kernel
theorem dX6_readAssignment_88 : decode cX6_readAssignment 88 = .ok (.invokevirtual 485, 3) := by decide +kernel
theorem dX6_readAssignment_9 : decode cX6_readAssignment 9 = .ok (.astore_n 2, 1) := by decide +kernel
theorem dX6_readAssignment_91 : decode cX6_readAssignment 91 = .ok (.istore 4, 2) := by decide +kernel
theorem dX6_readAssignment_93 : decode cX6_readAssignment 93 = .ok (.aload_n 0, 1) := by decide +kernel
theorem dX6_readAssignment_94 : decode cX6_readAssignment 94 = .ok (.getfield 43, 3) := by decide +kernel
theorem dX6_readAssignment_97 : decode cX6_readAssignment 97 = .ok (.bipush 37, 2) := by decide +kernel
theorem dX6_readAssignment_99 : decode cX6_readAssignment 99 = .ok (.iload 4, 2) := by decide +kernel
noncomputable def k_X6_readAssignment_152 (l2 : Nat) (s : t_S) : Option (t_S) :=
 (f_X2_need (11 : Int32) s).bind (fun r1 =>
 if t_oka l2 1 (t_ln l2) = true then
  if t_ix (9 : Int32) (t_ln l2) = true then
  t_let (t_setI r1 l2 ((9 : Int32).toNatClampNeg) (r1.1 334 2)) (fun s1 =>
 (f_X6_readExp (0 : Int32) s1).bind (fun r4 =>
 (f_X0_emit (0 : Int32) (0 : Int32) r4.2).bind (fun r5 =>
 (f_X2_need (59 : Int32) r5.2).bind (fun r6 =>
 some (r6)))))
else none
else none)
set_option maxRecDepth 4000 in
set_option maxHeartbeats 1000000 in
theorem B_X6_readAssignment_152 {D : va_G} {cy : Nat → ClassId} {ad : Nat → Nat} {bs : Nat} {X : State → Heap → Prop} (l2 : Nat) (s : t_S) (Q : t_S → Prop) (hk : t_hk (k_X6_readAssignment_152 l2 s) Q) : mj_G D cy ad bs X cX6_readAssignment 5 yX6_readAssignment.cls none yX6_readAssignment.name 254 0 0 1065 (t_P (fun v s' => v = none ∧ Q (s'))) 152 [(0, .ref 845), (2, .ref l2)] [] (t_m s) 1065 0 0 := by
  refine mj_aload_n dX6_readAssignment_152 0 rfl ?_
  refine t_getR 1 dX6_readAssignment_153 F_X6_28 qr_845_0 ?_
  refine mj_bipush (v := 11) dX6_readAssignment_156 (by decide) ?_
  refine t_bndK hk (fun r1 er1 hk => ?_)
  refine t_callVvE dX6_readAssignment_158 M_X2_need (C_X2_need _ _ _ er1) ML_X6_184 IM_X2_need SE_X2_need qc_1 rfl (As := [.int 11]) rfl rfl (Nat.le_of_ble_eq_true rfl) (Nat.le_of_ble_eq_true rfl) (Nat.le_of_ble_eq_true rfl) (Nat.le_of_ble_eq_true rfl) ?_
  refine mj_aload_n dX6_readAssignment_161 1 rfl ?_
  refine mj_bipush (v := 9) dX6_readAssignment_162 (by decide) ?_
  refine mj_aload_n dX6_readAssignment_164 0 rfl ?_
  refine t_getR 334 dX6_readAssignment_165 F_X6_43 qr_845_3 ?_
  refine t_getI dX6_readAssignment_168 F_X6_64 qf_334_2 ?_
  refine t_chkK hk (fun c1 hk => ?_)
  refine t_chkK hk (fun c2 hk => ?_)
  refine t_iastK dX6_readAssignment_171 c1 (t_ixv c2) (fun s1 ws1 => t_letE hk ws1 (fun hk => ?_))
  refine mj_aload_n dX6_readAssignment_172 0 rfl ?_
  refine mj_iconst (v := 0) dX6_readAssignment_173 (by decide) ?_
  refine t_bndK hk (fun r4 er4 hk => ?_)
  refine t_callViE dX6_readAssignment_174 M_X6_readExp (C_X6_readExp _ _ _ er4) ML_X6_120 IM_X6_readExp SE_X6_readExp qc_845 rfl (As := [.int 0]) rfl rfl (Nat.le_of_ble_eq_true rfl) (Nat.le_of_ble_eq_true rfl) (Nat.le_of_ble_eq_true rfl) (Nat.le_of_ble_eq_true rfl) ?_
  refine mj_pop dX6_readAssignment_177 rfl ?_
  refine mj_aload_n dX6_readAssignment_178 0 rfl ?_
  refine t_getR 334 dX6_readAssignment_179 F_X6_43 qr_845_3 ?_
  refine mj_iconst (v := 0) dX6_readAssignment_182 (by decide) ?_
  refine mj_iconst (v := 0) dX6_readAssignment_183 (by decide) ?_
  refine t_bndK hk (fun r5 er5 hk => ?_)
  refine t_callViE dX6_readAssignment_184 M_X0_emit (C_X0_emit _ _ _ _ er5) ML_X6_202 IM_X0_emit SE_X0_emit qc_334 rfl (As := [.int 0, .int 0]) rfl rfl (Nat.le_of_ble_eq_true rfl) (Nat.le_of_ble_eq_true rfl) (Nat.le_of_ble_eq_true rfl) (Nat.le_of_ble_eq_true rfl) ?_
  refine mj_pop dX6_readAssignment_187 rfl ?_
  refine mj_aload_n dX6_readAssignment_188 0 rfl ?_
  refine t_getR 1 dX6_readAssignment_189 F_X6_28 qr_845_0 ?_
  refine mj_bipush (v := 59) dX6_readAssignment_192 (by decide) ?_
  refine t_bndK hk (fun r6 er6 hk => ?_)
  refine t_callVvE dX6_readAssignment_194 M_X2_need (C_X2_need _ _ _ er6) ML_X6_184 IM_X2_need SE_X2_need qc_1 rfl (As := [.int 59]) rfl rfl (Nat.le_of_ble_eq_true rfl) (Nat.le_of_ble_eq_true rfl) (Nat.le_of_ble_eq_true rfl) (Nat.le_of_ble_eq_true rfl) ?_
  exact t_somK hk (fun hf => t_vret dX6_readAssignment_197 rfl ⟨rfl, hf⟩ (Nat.le_of_ble_eq_true rfl) (Nat.le_of_ble_eq_true rfl))
noncomputable def k_X6_readAssignment_146 (l2 : Nat) (l3 : Int32) (s : t_S) : Option ((Nat × Int32 × t_S) ⊕ (t_S)) :=
 some (.inl (l2, (l3 + 1), s))
set_option maxRecDepth 4000 in
set_option maxHeartbeats 1000000 in
theorem B_X6_readAssignment_146 {D : va_G} {cy : Nat → ClassId} {ad : Nat → Nat} {bs : Nat} {X : State → Heap → Prop} (l2 : Nat) (l3 : Int32) (s : t_S) (Q : (Nat × Int32 × t_S) ⊕ (t_S) → Prop) (Hb27 : ∀ (y0 : Nat) (y1 : Int32) (y2 : t_S), Q (.inl (y0, y1, y2)) → mj_G D cy ad bs X cX6_readAssignment 5 yX6_readAssignment.cls none yX6_readAssignment.name 254 0 0 1065 (t_P (fun v s' => v = none ∧ Q (.inr (s')))) 27 [(0, .ref 845), (2, .ref (y0)), (3, .int (y1))] [] (t_m y2) 1065 0 0) (hk : t_hk (k_X6_readAssignment_146 l2 l3 s) Q) : mj_G D cy ad bs X cX6_readAssignment 5 yX6_readAssignment.cls none yX6_readAssignment.name 254 0 0 1065 (t_P (fun v s' => v = none ∧ Q (.inr (s')))) 146 [(0, .ref 845), (2, .ref l2), (3, .int l3)] [] (t_m s) 1065 0 0 := by
  refine mj_iinc (k := 2) (v := (l3 + 1)) (lv2 := [(3, .int (l3 + 1)), (0, .ref 845), (2, .ref l2)]) dX6_readAssignment_146 rfl rfl (by decide) rfl ?_
  refine mj_goto 27 dX6_readAssignment_149 (by decide) ?_
  refine mj_sublv [(0, .ref 845), (2, .ref l2), (3, .int (l3 + 1))] [1, 2, 0] rfl ?_
  exact t_somK hk (fun hf => Hb27 l2 (l3 + 1) s hf)
noncomputable def k_X6_readAssignment_71 (l2 : Nat) (l3 : Int32) (s : t_S) : Option ((Nat × Int32 × t_S) ⊕ (t_S)) :=
 (f_X6_node s).bind (fun r1 =>
 (f_X2_take (46 : Int32) r1).bind (fun r2 =>
 if r2.1 = (0 : Int32) then ((f_X2_take (91 : Int32) r2.2).bind (fun r3 =>
 if r3.1 = (0 : Int32) then (k_X6_readAssignment_146 l2 l3 r3.2)
 else ((f_X6_readExp (0 : Int32) r3.2).bind (fun r4 =>
 (f_X2_need (93 : Int32) r4.2).bind (fun r5 =>
 (f_X0_emit (38 : Int32) (0 : Int32) r5).bind (fun r6 =>
 k_X6_readAssignment_146 l2 l3 r6.2))))))
 else ((f_X6_takeFieldName r2.2).bind (fun r7 =>
 (f_X0_emit (37 : Int32) r7.1 r7.2).bind (fun r8 =>
 k_X6_readAssignment_146 l2 l3 r8.2)))))
set_option maxRecDepth 4000 in
set_option maxHeartbeats 1000000 in
theorem B_X6_readAssignment_71 {D : va_G} {cy : Nat → ClassId} {ad : Nat → Nat} {bs : Nat} {X : State → Heap → Prop} (l2 : Nat) (l3 : Int32) (s : t_S) (Q : (Nat × Int32 × t_S) ⊕ (t_S) → Prop) (Hb27 : ∀ (y0 : Nat) (y1 : Int32) (y2 : t_S), Q (.inl (y0, y1, y2)) → mj_G D cy ad bs X cX6_readAssignment 5 yX6_readAssignment.cls none yX6_readAssignment.name 254 0 0 1065 (t_P (fun v s' => v = none ∧ Q (.inr (s')))) 27 [(0, .ref 845), (2, .ref (y0)), (3, .int (y1))] [] (t_m y2) 1065 0 0) (hk : t_hk (k_X6_readAssignment_71 l2 l3 s) Q) : mj_G D cy ad bs X cX6_readAssignment 5 yX6_readAssignment.cls none yX6_readAssignment.name 254 0 0 1065 (t_P (fun v s' => v = none ∧ Q (.inr (s')))) 71 [(0, .ref 845), (2, .ref l2), (3, .int l3)] [] (t_m s) 1065 0 0 := by
  refine mj_aload_n dX6_readAssignment_71 0 rfl ?_
  refine t_bndK hk (fun r1 er1 hk => ?_)
  refine t_callVvE dX6_readAssignment_72 M_X6_node (C_X6_node _ _ er1) ML_X6_298 IM_X6_node SE_X6_node qc_845 rfl (As := []) rfl rfl (Nat.le_of_ble_eq_true rfl) (Nat.le_of_ble_eq_true rfl) (Nat.le_of_ble_eq_true rfl) (Nat.le_of_ble_eq_true rfl) ?_
  refine mj_aload_n dX6_readAssignment_75 0 rfl ?_
  refine t_getR 1 dX6_readAssignment_76 F_X6_28 qr_845_0 ?_
  refine mj_bipush (v := 46) dX6_readAssignment_79 (by decide) ?_
  refine t_bndK hk (fun r2 er2 hk => ?_)
  refine t_callViE dX6_readAssignment_81 M_X2_take (C_X2_take _ _ _ er2) ML_X6_246 IM_X2_take SE_X2_take qc_1 rfl (As := [.int 46]) rfl rfl (Nat.le_of_ble_eq_true rfl) (Nat.le_of_ble_eq_true rfl) (Nat.le_of_ble_eq_true rfl) (Nat.le_of_ble_eq_true rfl) ?_
  refine mj_if_eq 108 dX6_readAssignment_84 (by decide) (fun z => t_posK hk z (fun hk => ?_)) (fun z => t_negK hk z (fun hk => ?_))
  · refine mj_aload_n dX6_readAssignment_108 0 rfl ?_
    refine t_getR 1 dX6_readAssignment_109 F_X6_28 qr_845_0 ?_
    refine mj_bipush (v := 91) dX6_readAssignment_112 (by decide) ?_
    refine t_bndK hk (fun r3 er3 hk => ?_)
    refine t_callViE dX6_readAssignment_114 M_X2_take (C_X2_take _ _ _ er3) ML_X6_246 IM_X2_take SE_X2_take qc_1 rfl (As := [.int 91]) rfl rfl (Nat.le_of_ble_eq_true rfl) (Nat.le_of_ble_eq_true rfl) (Nat.le_of_ble_eq_true rfl) (Nat.le_of_ble_eq_true rfl) ?_
    refine mj_if_eq 146 dX6_readAssignment_117 (by decide) (fun z => t_posK hk z (fun hk => ?_)) (fun z => t_negK hk z (fun hk => ?_))
    · exact B_X6_readAssignment_146 _ _ _ _ (fun y0 y1 y2 hx => Hb27 y0 y1 y2 hx) hk
    · refine mj_aload_n dX6_readAssignment_120 0 rfl ?_
      refine mj_iconst (v := 0) dX6_readAssignment_121 (by decide) ?_
      refine t_bndK hk (fun r4 er4 hk => ?_)
      refine t_callViE dX6_readAssignment_122 M_X6_readExp (C_X6_readExp _ _ _ er4) ML_X6_120 IM_X6_readExp SE_X6_readExp qc_845 rfl (As := [.int 0]) rfl rfl (Nat.le_of_ble_eq_true rfl) (Nat.le_of_ble_eq_true rfl) (Nat.le_of_ble_eq_true rfl) (Nat.le_of_ble_eq_true rfl) ?_
      refine mj_pop dX6_readAssignment_125 rfl ?_
      refine mj_aload_n dX6_readAssignment_126 0 rfl ?_
      refine t_getR 1 dX6_readAssignment_127 F_X6_28 qr_845_0 ?_
      refine mj_bipush (v := 93) dX6_readAssignment_130 (by decide) ?_
      refine t_bndK hk (fun r5 er5 hk => ?_)
      refine t_callVvE dX6_readAssignment_132 M_X2_need (C_X2_need _ _ _ er5) ML_X6_184 IM_X2_need SE_X2_need qc_1 rfl (As := [.int 93]) rfl rfl (Nat.le_of_ble_eq_true rfl) (Nat.le_of_ble_eq_true rfl) (Nat.le_of_ble_eq_true rfl) (Nat.le_of_ble_eq_true rfl) ?_
      refine mj_aload_n dX6_readAssignment_135 0 rfl ?_
      refine t_getR 334 dX6_readAssignment_136 F_X6_43 qr_845_3 ?_
      refine mj_bipush (v := 38) dX6_readAssignment_139 (by decide) ?_
      refine mj_iconst (v := 0) dX6_readAssignment_141 (by decide) ?_
      refine t_bndK hk (fun r6 er6 hk => ?_)
      refine t_callViE dX6_readAssignment_142 M_X0_emit (C_X0_emit _ _ _ _ er6) ML_X6_202 IM_X0_emit SE_X0_emit qc_334 rfl (As := [.int 38, .int 0]) rfl rfl (Nat.le_of_ble_eq_true rfl) (Nat.le_of_ble_eq_true rfl) (Nat.le_of_ble_eq_true rfl) (Nat.le_of_ble_eq_true rfl) ?_
      refine mj_pop dX6_readAssignment_145 rfl ?_
      exact B_X6_readAssignment_146 _ _ _ _ (fun y0 y1 y2 hx => Hb27 y0 y1 y2 hx) hk
  · refine mj_aload_n dX6_readAssignment_87 0 rfl ?_
    refine t_bndK hk (fun r7 er7 hk => ?_)
    refine t_callViE dX6_readAssignment_88 M_X6_takeFieldName (C_X6_takeFieldName _ _ er7) ML_X6_485 IM_X6_takeFieldName SE_X6_takeFieldName qc_845 rfl (As := []) rfl rfl (Nat.le_of_ble_eq_true rfl) (Nat.le_of_ble_eq_true rfl) (Nat.le_of_ble_eq_true rfl) (Nat.le_of_ble_eq_true rfl) ?_
    refine mj_istore (lv2 := [(4, .int r7.1), (0, .ref 845), (2, .ref l2), (3, .int l3)]) dX6_readAssignment_91 (by decide) rfl ?_
    refine mj_aload_n dX6_readAssignment_93 1 rfl ?_
    refine t_getR 334 dX6_readAssignment_94 F_X6_43 qr_845_3 ?_
    refine mj_bipush (v := 37) dX6_readAssignment_97 (by decide) ?_
    refine mj_iload dX6_readAssignment_99 0 rfl ?_
    refine t_bndK hk (fun r8 er8 hk => ?_)
    refine t_callViE dX6_readAssignment_101 M_X0_emit (C_X0_emit _ _ _ _ er8) ML_X6_202 IM_X0_emit SE_X0_emit qc_334 rfl (As := [.int 37, .int r7.1]) rfl rfl (Nat.le_of_ble_eq_true rfl) (Nat.le_of_ble_eq_true rfl) (Nat.le_of_ble_eq_true rfl) (Nat.le_of_ble_eq_true rfl) ?_
    refine mj_pop dX6_readAssignment_104 rfl ?_
    refine mj_goto 146 dX6_readAssignment_105 (by decide) ?_
    refine mj_sublv [(0, .ref 845), (2, .ref l2), (3, .int l3)] [1, 2, 3] rfl ?_
    exact B_X6_readAssignment_146 _ _ _ _ (fun y0 y1 y2 hx => Hb27 y0 y1 y2 hx) hk
noncomputable def k_X6_readAssignment_27 (l2 : Nat) (l3 : Int32) (s : t_S) : Option ((Nat × Int32 × t_S) ⊕ (t_S)) :=
 if (3000 : Int32) < l3 then ((k_X6_readAssignment_152 l2 s).map Sum.inr)
 else (if (s.1 1 11) = (0 : Int32) then (if (s.1 1 8) = (46 : Int32) then (k_X6_readAssignment_71 l2 l3 s)
 else (if (s.1 1 8) = (91 : Int32) then (k_X6_readAssignment_71 l2 l3 s)
 else ((k_X6_readAssignment_152 l2 s).map Sum.inr)))
 else ((k_X6_readAssignment_152 l2 s).map Sum.inr))
set_option maxRecDepth 4000 in
set_option maxHeartbeats 1000000 in
theorem B_X6_readAssignment_27 {D : va_G} {cy : Nat → ClassId} {ad : Nat → Nat} {bs : Nat} {X : State → Heap → Prop} (l2 : Nat) (l3 : Int32) (s : t_S) (Q : (Nat × Int32 × t_S) ⊕ (t_S) → Prop) (Hb27 : ∀ (y0 : Nat) (y1 : Int32) (y2 : t_S), Q (.inl (y0, y1, y2)) → mj_G D cy ad bs X cX6_readAssignment 5 yX6_readAssignment.cls none yX6_readAssignment.name 254 0 0 1065 (t_P (fun v s' => v = none ∧ Q (.inr (s')))) 27 [(0, .ref 845), (2, .ref (y0)), (3, .int (y1))] [] (t_m y2) 1065 0 0) (hk : t_hk (k_X6_readAssignment_27 l2 l3 s) Q) : mj_G D cy ad bs X cX6_readAssignment 5 yX6_readAssignment.cls none yX6_readAssignment.name 254 0 0 1065 (t_P (fun v s' => v = none ∧ Q (.inr (s')))) 27 [(0, .ref 845), (2, .ref l2), (3, .int l3)] [] (t_m s) 1065 0 0 := by
  refine mj_iload_n dX6_readAssignment_27 2 rfl ?_
  refine mj_sipush (v := 3000) dX6_readAssignment_28 (by decide) ?_
  refine mj_icmp_gt 152 dX6_readAssignment_31 (by decide) (fun z => t_posK hk z (fun hk => ?_)) (fun z => t_negK hk z (fun hk => ?_))
  · refine mj_sublv [(0, .ref 845), (2, .ref l2)] [0, 1] rfl ?_
    refine t_mapK hk (fun hk => ?_)
    exact B_X6_readAssignment_152 _ _ _ hk
  · refine mj_aload_n dX6_readAssignment_34 0 rfl ?_
    refine t_getR 1 dX6_readAssignment_35 F_X6_28 qr_845_0 ?_
    refine t_getI dX6_readAssignment_38 F_X6_82 qf_1_11 ?_
    refine mj_if_ne 152 dX6_readAssignment_41 (by decide) (fun z => t_negK hk z (fun hk => ?_)) (fun z => t_posK hk z (fun hk => ?_))
    · refine mj_sublv [(0, .ref 845), (2, .ref l2)] [0, 1] rfl ?_
      refine t_mapK hk (fun hk => ?_)
      exact B_X6_readAssignment_152 _ _ _ hk
    · refine mj_aload_n dX6_readAssignment_44 0 rfl ?_
      refine t_getR 1 dX6_readAssignment_45 F_X6_28 qr_845_0 ?_
      refine t_getI dX6_readAssignment_48 F_X6_85 qf_1_8 ?_
      refine mj_bipush (v := 46) dX6_readAssignment_51 (by decide) ?_
      refine mj_icmp_eq 71 dX6_readAssignment_53 (by decide) (fun z => t_posK hk z (fun hk => ?_)) (fun z => t_negK hk z (fun hk => ?_))
      · exact B_X6_readAssignment_71 _ _ _ _ (fun y0 y1 y2 hx => Hb27 y0 y1 y2 hx) hk
      · refine mj_aload_n dX6_readAssignment_56 0 rfl ?_
        refine t_getR 1 dX6_readAssignment_57 F_X6_28 qr_845_0 ?_
        refine t_getI dX6_readAssignment_60 F_X6_85 qf_1_8 ?_
        refine mj_bipush (v := 91) dX6_readAssignment_63 (by decide) ?_
        refine mj_icmp_eq 71 dX6_readAssignment_65 (by decide) (fun z => t_posK hk z (fun hk => ?_)) (fun z => t_negK hk z (fun hk => ?_))
        · exact B_X6_readAssignment_71 _ _ _ _ (fun y0 y1 y2 hx => Hb27 y0 y1 y2 hx) hk
        · refine t_mapK hk (fun hk => ?_)
          refine mj_goto 152 dX6_readAssignment_68 (by decide) ?_
          refine mj_sublv [(0, .ref 845), (2, .ref l2)] [0, 1] rfl ?_
          exact B_X6_readAssignment_152 _ _ _ hk
noncomputable def b_X6_readAssignment_27 (x : Nat × Int32 × t_S) : Option ((Nat × Int32 × t_S) ⊕ (t_S)) := k_X6_readAssignment_27 x.1 x.2.1 x.2.2
set_option maxRecDepth 4000 in
set_option maxHeartbeats 1000000 in
theorem LH_X6_readAssignment_27 {D : va_G} {cy : Nat → ClassId} {ad : Nat → Nat} {bs : Nat} {X : State → Heap → Prop} : ∀ (n : Nat) (y0 : Nat) (y1 : Int32) (y2 : t_S) (Q : t_S → Prop) (hk : t_hk (t_loop (b_X6_readAssignment_27) n (y0, y1, y2)) Q), mj_G D cy ad bs X cX6_readAssignment 5 yX6_readAssignment.cls none yX6_readAssignment.name 254 0 0 1065 (t_P (fun v s' => v = none ∧ Q (s'))) 27 [(0, .ref 845), (2, .ref (y0)), (3, .int (y1))] [] (t_m y2) 1065 0 0 := by
  intro n
  induction n with
  | zero => intro y0 y1 y2 Q hk; obtain ⟨r, hr, _⟩ := hk; cases hr
  | succ n ih =>
    intro y0 y1 y2 Q hk
    exact B_X6_readAssignment_27 y0 y1 y2 (fun y => t_lq (b_X6_readAssignment_27) n Q y) (fun y0' y1' y2' hy => ih y0' y1' y2' Q hy) (t_lp hk)
noncomputable def f_X6_readAssignment (x1 : Int32) (s : t_S) : Option (t_S) :=
 if t_ix x1 400 = true then
  (f_X6_takeVar x1 s).bind (fun r2 =>
 t_let (t_setI r2 (445 + 1 * (x1.toNatClampNeg)) ((5 : Int32).toNatClampNeg) (r2.1 334 2)) (fun s1 =>
 t_loop (b_X6_readAssignment_27) t_N ((445 + 1 * (x1.toNatClampNeg)), 0, s1)))
else none
set_option maxRecDepth 4000 in
set_option maxHeartbeats 1000000 in
theorem C_X6_readAssignment (x1 : Int32) (s : t_S) (r : t_S) (hr : f_X6_readAssignment x1 s = some r) : t_C yX6_readAssignment cX6_readAssignment 5 none 254 [.ref 845, .int x1] s (fun v s' => v = none ∧ s' = r) := by
  refine t_C.imp (P := fun v s' => v = none ∧ (fun q => q = r) (s')) (t_C.of (by decide +kernel) (Nat.le_of_ble_eq_true rfl) ?_) (fun v s' hp => hp)
  intro D cy ad bs X
  have hk : t_hk (f_X6_readAssignment x1 s) (fun q => q = r) := ⟨r, hr, rfl⟩
  show mj_G D cy ad bs X cX6_readAssignment 5 yX6_readAssignment.cls none yX6_readAssignment.name 254 0 0 1065 (t_P (fun v s' => v = none ∧ (fun q => q = r) (s'))) 0 [(0, .ref 845), (1, .int x1)] [] (t_m s) 1065 0 0
  refine mj_aload_n dX6_readAssignment_0 0 rfl ?_
  refine t_getR 428 dX6_readAssignment_1 F_X6_48 qr_845_4 ?_
  refine t_getR 444 dX6_readAssignment_4 F_X6_531 qr_428_17 ?_
  refine mj_iload_n dX6_readAssignment_7 1 rfl ?_
  refine t_chkK hk (fun c0 hk => ?_)
  refine t_aaldI dX6_readAssignment_8 qq_444 (t_ixv c0) ?_
  refine mj_astore_n 2 (lv2 := [(2, .ref (445 + 1 * (x1.toNatClampNeg))), (0, .ref 845), (1, .int x1)]) dX6_readAssignment_9 rfl (by decide) rfl ?_
  refine mj_aload_n dX6_readAssignment_10 1 rfl ?_
  refine mj_iload_n dX6_readAssignment_11 2 rfl ?_
  refine t_bndK hk (fun r2 er2 hk => ?_)
  refine t_callVvE dX6_readAssignment_12 M_X6_takeVar (C_X6_takeVar _ _ _ er2) ML_X6_570 IM_X6_takeVar SE_X6_takeVar qc_845 rfl (As := [.int x1]) rfl rfl (Nat.le_of_ble_eq_true rfl) (Nat.le_of_ble_eq_true rfl) (Nat.le_of_ble_eq_true rfl) (Nat.le_of_ble_eq_true rfl) ?_
  refine mj_aload_n dX6_readAssignment_15 0 rfl ?_
  refine mj_iconst (v := 5) dX6_readAssignment_16 (by decide) ?_
  refine mj_aload_n dX6_readAssignment_17 1 rfl ?_
  refine t_getR 334 dX6_readAssignment_18 F_X6_43 qr_845_3 ?_
  refine t_getI dX6_readAssignment_21 F_X6_64 qf_334_2 ?_
  refine t_iastK dX6_readAssignment_24 (t_row445 (t_ixn c0)) (by unfold vp_in; decide) (fun s1 ws1 => t_letE hk ws1 (fun hk => ?_))
  refine mj_iconst (v := 0) dX6_readAssignment_25 (by decide) ?_
  refine mj_istore_n 3 (lv2 := [(3, .int 0), (2, .ref (445 + 1 * (x1.toNatClampNeg))), (0, .ref 845), (1, .int x1)]) dX6_readAssignment_26 rfl (by decide) rfl ?_
  refine mj_sublv [(0, .ref 845), (2, .ref (445 + 1 * (x1.toNatClampNeg))), (3, .int 0)] [2, 1, 0] rfl ?_
  exact LH_X6_readAssignment_27 _ (445 + 1 * (x1.toNatClampNeg)) 0 s1 _ hk

theorem dX6_takePort_0 : decode cX6_takePort 0 = .ok (.aload_n 0, 1) := by decide +kernel
theorem dX6_takePort_1 : decode cX6_takePort 1 = .ok (.getfield 28, 3) := by decide +kernel
theorem dX6_takePort_11 : decode cX6_takePort 11 = .ok (.iload_n 1, 1) := by decide +kernel
theorem dX6_takePort_12 : decode cX6_takePort 12 = .ok (.iconst 0, 1) := by decide +kernel
theorem dX6_takePort_13 : decode cX6_takePort 13 = .ok (.invokevirtual 250, 3) := by decide +kernel
theorem dX6_takePort_16 : decode cX6_takePort 16 = .ok (.iload_n 2, 1) := by decide +kernel
theorem dX6_takePort_17 : decode cX6_takePort 17 = .ok (.ireturn, 1) := by decide +kernel
theorem dX6_takePort_4 : decode cX6_takePort 4 = .ok (.invokevirtual 166, 3) := by decide +kernel
theorem dX6_takePort_7 : decode cX6_takePort 7 = .ok (.istore_n 2, 1) := by decide +kernel
theorem dX6_takePort_8 : decode cX6_takePort 8 = .ok (.aload_n 0, 1) := by decide +kernel
theorem dX6_takePort_9 : decode cX6_takePort 9 = .ok (.bipush 8, 2) := by decide +kernel
noncomputable def f_X6_takePort (x1 : Int32) (s : t_S) : Option (Int32 × t_S) :=
 (f_X6_link (8 : Int32) x1 (0 : Int32) s).bind (fun r2 =>
 some ((f_X2_word s), r2))
set_option maxRecDepth 4000 in
set_option maxHeartbeats 1000000 in
theorem C_X6_takePort (x1 : Int32) (s : t_S) (r : Int32 × t_S) (hr : f_X6_takePort x1 s = some r) : t_C yX6_takePort cX6_takePort 3 (some .int) 2 [.ref 845, .int x1] s (fun v s' => v = some (.int r.1) ∧ s' = r.2) := by
  refine t_C.imp (P := fun v s' => ∃ x, v = some (.int x) ∧ (fun q => q = r) ((x, s'))) (t_C.of (by decide +kernel) (Nat.le_of_ble_eq_true rfl) ?_) (fun v s' hp => by obtain ⟨x, rfl, rfl⟩ := hp; exact ⟨rfl, rfl⟩)
  intro D cy ad bs X
  have hk : t_hk (f_X6_takePort x1 s) (fun q => q = r) := ⟨r, hr, rfl⟩
  show mj_G D cy ad bs X cX6_takePort 3 yX6_takePort.cls (some .int) yX6_takePort.name 2 0 0 1065 (t_P (fun v s' => ∃ x, v = some (.int x) ∧ (fun q => q = r) ((x, s')))) 0 [(0, .ref 845), (1, .int x1)] [] (t_m s) 1065 0 0
  refine mj_aload_n dX6_takePort_0 0 rfl ?_
  refine t_getR 1 dX6_takePort_1 F_X6_28 qr_845_0 ?_
  refine t_callViP dX6_takePort_4 M_X2_word (C_X2_word _) ML_X6_166 IM_X2_word SE_X2_word qc_1 rfl (As := []) rfl rfl (Nat.le_of_ble_eq_true rfl) (Nat.le_of_ble_eq_true rfl) (Nat.le_of_ble_eq_true rfl) (Nat.le_of_ble_eq_true rfl) ?_
  refine mj_istore_n 2 (lv2 := [(2, .int (f_X2_word s)), (0, .ref 845), (1, .int x1)]) dX6_takePort_7 rfl (by decide) rfl ?_
  refine mj_aload_n dX6_takePort_8 1 rfl ?_
  refine mj_bipush (v := 8) dX6_takePort_9 (by decide) ?_
  refine mj_iload_n dX6_takePort_11 2 rfl ?_
  refine mj_iconst (v := 0) dX6_takePort_12 (by decide) ?_
  refine t_bndK hk (fun r2 er2 hk => ?_)
  refine t_callVvE dX6_takePort_13 M_X6_link (C_X6_link _ _ _ _ _ er2) ML_X6_250 IM_X6_link SE_X6_link qc_845 rfl (As := [.int 8, .int x1, .int 0]) rfl rfl (Nat.le_of_ble_eq_true rfl) (Nat.le_of_ble_eq_true rfl) (Nat.le_of_ble_eq_true rfl) (Nat.le_of_ble_eq_true rfl) ?_
  refine mj_iload_n dX6_takePort_16 0 rfl ?_
  exact t_somK hk (fun hf => t_iret dX6_takePort_17 rfl rfl ⟨_, rfl, hf⟩ (Nat.le_of_ble_eq_true rfl) (Nat.le_of_ble_eq_true rfl))

theorem dX6_readOfComponents_0 : decode cX6_readOfComponents 0 = .ok (.aload_n 0, 1) := by decide +kernel
theorem dX6_readOfComponents_1 : decode cX6_readOfComponents 1 = .ok (.getfield 48, 3) := by decide +kernel
theorem dX6_readOfComponents_10 : decode cX6_readOfComponents 10 = .ok (.iload_n 2, 1) := by decide +kernel
theorem dX6_readOfComponents_100 : decode cX6_readOfComponents 100 = .ok (.bipush 11, 2) := by decide +kernel
theorem dX6_readOfComponents_102 : decode cX6_readOfComponents 102 = .ok (.invokevirtual 561, 3) := by decide +kernel
theorem dX6_readOfComponents_105 : decode cX6_readOfComponents 105 = .ok (.goto 93, 3) := by decide +kernel
theorem dX6_readOfComponents_108 : decode cX6_readOfComponents 108 = .ok (.aload_n 3, 1) := by decide +kernel
theorem dX6_readOfComponents_109 : decode cX6_readOfComponents 109 = .ok (.iconst 5, 1) := by decide +kernel
theorem dX6_readOfComponents_11 : decode cX6_readOfComponents 11 = .ok (.tableswitch 180 16 18 #[25, 61, 97], 25) := by decide +kernel
theorem dX6_readOfComponents_110 : decode cX6_readOfComponents 110 = .ok (.aload_n 0, 1) := by decide +kernel
theorem dX6_readOfComponents_111 : decode cX6_readOfComponents 111 = .ok (.getfield 43, 3) := by decide +kernel
theorem dX6_readOfComponents_114 : decode cX6_readOfComponents 114 = .ok (.getfield 64, 3) := by decide +kernel
theorem dX6_readOfComponents_117 : decode cX6_readOfComponents 117 = .ok (.iastore, 1) := by decide +kernel
theorem dX6_readOfComponents_118 : decode cX6_readOfComponents 118 = .ok (.aload_n 0, 1) := by decide +kernel
theorem dX6_readOfComponents_119 : decode cX6_readOfComponents 119 = .ok (.iconst 0, 1) := by decide +kernel
theorem dX6_readOfComponents_120 : decode cX6_readOfComponents 120 = .ok (.invokevirtual 120, 3) := by decide +kernel
theorem dX6_readOfComponents_123 : decode cX6_readOfComponents 123 = .ok (.pop, 1) := by decide +kernel
theorem dX6_readOfComponents_124 : decode cX6_readOfComponents 124 = .ok (.aload_n 0, 1) := by decide +kernel
theorem dX6_readOfComponents_125 : decode cX6_readOfComponents 125 = .ok (.getfield 28, 3) := by decide +kernel
theorem dX6_readOfComponents_128 : decode cX6_readOfComponents 128 = .ok (.sipush 256, 3) := by decide +kernel
theorem dX6_readOfComponents_131 : decode cX6_readOfComponents 131 = .ok (.invokevirtual 184, 3) := by decide +kernel
theorem dX6_readOfComponents_134 : decode cX6_readOfComponents 134 = .ok (.aload_n 3, 1) := by decide +kernel
theorem dX6_readOfComponents_135 : decode cX6_readOfComponents 135 = .ok (.bipush 6, 2) := by decide +kernel
theorem dX6_readOfComponents_137 : decode cX6_readOfComponents 137 = .ok (.aload_n 0, 1) := by decide +kernel
theorem dX6_readOfComponents_138 : decode cX6_readOfComponents 138 = .ok (.iload_n 1, 1) := by decide +kernel
theorem dX6_readOfComponents_139 : decode cX6_readOfComponents 139 = .ok (.invokevirtual 567, 3) := by decide +kernel
theorem dX6_readOfComponents_142 : decode cX6_readOfComponents 142 = .ok (.iastore, 1) := by decide +kernel
theorem dX6_readOfComponents_143 : decode cX6_readOfComponents 143 = .ok (.aload_n 0, 1) := by decide +kernel
theorem dX6_readOfComponents_144 : decode cX6_readOfComponents 144 = .ok (.getfield 28, 3) := by decide +kernel
theorem dX6_readOfComponents_147 : decode cX6_readOfComponents 147 = .ok (.sipush 257, 3) := by decide +kernel
theorem dX6_readOfComponents_150 : decode cX6_readOfComponents 150 = .ok (.invokevirtual 184, 3) := by decide +kernel
theorem dX6_readOfComponents_153 : decode cX6_readOfComponents 153 = .ok (.aload_n 0, 1) := by decide +kernel
theorem dX6_readOfComponents_154 : decode cX6_readOfComponents 154 = .ok (.iconst 0, 1) := by decide +kernel
theorem dX6_readOfComponents_155 : decode cX6_readOfComponents 155 = .ok (.invokevirtual 120, 3) := by decide +kernel
theorem dX6_readOfComponents_158 : decode cX6_readOfComponents 158 = .ok (.pop, 1) := by decide +kernel
theorem dX6_readOfComponents_159 : decode cX6_readOfComponents 159 = .ok (.aload_n 0, 1) := by decide +kernel
theorem dX6_readOfComponents_160 : decode cX6_readOfComponents 160 = .ok (.getfield 28, 3) := by decide +kernel
theorem dX6_readOfComponents_163 : decode cX6_readOfComponents 163 = .ok (.sipush 256, 3) := by decide +kernel
theorem dX6_readOfComponents_166 : decode cX6_readOfComponents 166 = .ok (.invokevirtual 184, 3) := by decide +kernel
theorem dX6_readOfComponents_169 : decode cX6_readOfComponents 169 = .ok (.aload_n 3, 1) := by decide +kernel
theorem dX6_readOfComponents_170 : decode cX6_readOfComponents 170 = .ok (.bipush 8, 2) := by decide +kernel
theorem dX6_readOfComponents_172 : decode cX6_readOfComponents 172 = .ok (.aload_n 0, 1) := by decide +kernel
theorem dX6_readOfComponents_173 : decode cX6_readOfComponents 173 = .ok (.iload_n 1, 1) := by decide +kernel
theorem dX6_readOfComponents_174 : decode cX6_readOfComponents 174 = .ok (.invokevirtual 567, 3) := by decide +kernel
theorem dX6_readOfComponents_177 : decode cX6_readOfComponents 177 = .ok (.iastore, 1) := by decide +kernel
theorem dX6_readOfComponents_178 : decode cX6_readOfComponents 178 = .ok (.aload_n 0, 1) := by decide +kernel
theorem dX6_readOfComponents_179 : decode cX6_readOfComponents 179 = .ok (.getfield 43, 3) := by decide +kernel
theorem dX6_readOfComponents_182 : decode cX6_readOfComponents 182 = .ok (.iconst 0, 1) := by decide +kernel
theorem dX6_readOfComponents_183 : decode cX6_readOfComponents 183 = .ok (.iconst 0, 1) := by decide +kernel
theorem dX6_readOfComponents_184 : decode cX6_readOfComponents 184 = .ok (.invokevirtual 202, 3) := by decide +kernel
theorem dX6_readOfComponents_187 : decode cX6_readOfComponents 187 = .ok (.pop, 1) := by decide +kernel
theorem dX6_readOfComponents_188 : decode cX6_readOfComponents 188 = .ok (.goto 10, 3) := by decide +kernel
theorem dX6_readOfComponents_191 : decode cX6_readOfComponents 191 = .ok (.aload_n 0, 1) := by decide +kernel
theorem dX6_readOfComponents_192 : decode cX6_readOfComponents 192 = .ok (.iload_n 1, 1) := by decide +kernel
theorem dX6_readOfComponents_193 : decode cX6_readOfComponents 193 = .ok (.bipush 10, 2) := by decide +kernel
theorem dX6_readOfComponents_195 : decode cX6_readOfComponents 195 = .ok (.invokevirtual 561, 3) := by decide +kernel
theorem dX6_readOfComponents_198 : decode cX6_readOfComponents 198 = .ok (.return_, 1) := by decide +kernel
theorem dX6_readOfComponents_36 : decode cX6_readOfComponents 36 = .ok (.aload_n 0, 1) := by decide +kernel
theorem dX6_readOfComponents_37 : decode cX6_readOfComponents 37 = .ok (.iconst 4, 1) := by decide +kernel
theorem dX6_readOfComponents_38 : decode cX6_readOfComponents 38 = .ok (.iload_n 1, 1) := by decide +kernel
theorem dX6_readOfComponents_39 : decode cX6_readOfComponents 39 = .ok (.iconst 0, 1) := by decide +kernel
theorem dX6_readOfComponents_4 : decode cX6_readOfComponents 4 = .ok (.getfield 531, 3) := by decide +kernel
theorem dX6_readOfComponents_40 : decode cX6_readOfComponents 40 = .ok (.invokevirtual 250, 3) := by decide +kernel
theorem dX6_readOfComponents_43 : decode cX6_readOfComponents 43 = .ok (.aload_n 0, 1) := by decide +kernel
theorem dX6_readOfComponents_44 : decode cX6_readOfComponents 44 = .ok (.getfield 28, 3) := by decide +kernel
theorem dX6_readOfComponents_47 : decode cX6_readOfComponents 47 = .ok (.getfield 85, 3) := by decide +kernel
theorem dX6_readOfComponents_50 : decode cX6_readOfComponents 50 = .ok (.sipush 242, 3) := by decide +kernel
theorem dX6_readOfComponents_53 : decode cX6_readOfComponents 53 = .ok (.if_icmp .eq 11, 3) := by decide +kernel
theorem dX6_readOfComponents_56 : decode cX6_readOfComponents 56 = .ok (.aload_n 0, 1) := by decide +kernel
theorem dX6_readOfComponents_57 : decode cX6_readOfComponents 57 = .ok (.getfield 28, 3) := by decide +kernel
theorem dX6_readOfComponents_60 : decode cX6_readOfComponents 60 = .ok (.iconst 2, 1) := by decide +kernel
theorem dX6_readOfComponents_61 : decode cX6_readOfComponents 61 = .ok (.invokevirtual 100, 3) := by decide +kernel
theorem dX6_readOfComponents_64 : decode cX6_readOfComponents 64 = .ok (.aload_n 0, 1) := by decide +kernel
theorem dX6_readOfComponents_65 : decode cX6_readOfComponents 65 = .ok (.iload_n 1, 1) := by decide +kernel
theorem dX6_readOfComponents_66 : decode cX6_readOfComponents 66 = .ok (.invokevirtual 564, 3) := by decide +kernel
theorem dX6_readOfComponents_69 : decode cX6_readOfComponents 69 = .ok (.goto 129, 3) := by decide +kernel
theorem dX6_readOfComponents_7 : decode cX6_readOfComponents 7 = .ok (.iload_n 1, 1) := by decide +kernel
theorem dX6_readOfComponents_72 : decode cX6_readOfComponents 72 = .ok (.aload_n 3, 1) := by decide +kernel
theorem dX6_readOfComponents_73 : decode cX6_readOfComponents 73 = .ok (.iconst 5, 1) := by decide +kernel
theorem dX6_readOfComponents_74 : decode cX6_readOfComponents 74 = .ok (.aload_n 0, 1) := by decide +kernel
theorem dX6_readOfComponents_75 : decode cX6_readOfComponents 75 = .ok (.getfield 43, 3) := by decide +kernel
theorem dX6_readOfComponents_78 : decode cX6_readOfComponents 78 = .ok (.getfield 64, 3) := by decide +kernel
theorem dX6_readOfComponents_8 : decode cX6_readOfComponents 8 = .ok (.aaload, 1) := by decide +kernel
theorem dX6_readOfComponents_81 : decode cX6_readOfComponents 81 = .ok (.iastore, 1) := by decide +kernel
theorem dX6_readOfComponents_82 : decode cX6_readOfComponents 82 = .ok (.aload_n 0, 1) := by decide +kernel
theorem dX6_readOfComponents_83 : decode cX6_readOfComponents 83 = .ok (.iconst 0, 1) := by decide +kernel
theorem dX6_readOfComponents_84 : decode cX6_readOfComponents 84 = .ok (.invokevirtual 120, 3) := by decide +kernel
theorem dX6_readOfComponents_87 : decode cX6_readOfComponents 87 = .ok (.pop, 1) := by decide +kernel
theorem dX6_readOfComponents_88 : decode cX6_readOfComponents 88 = .ok (.aload_n 0, 1) := by decide +kernel
theorem dX6_readOfComponents_89 : decode cX6_readOfComponents 89 = .ok (.getfield 28, 3) := by decide +kernel
theorem dX6_readOfComponents_9 : decode cX6_readOfComponents 9 = .ok (.astore_n 3, 1) := by decide +kernel
theorem dX6_readOfComponents_92 : decode cX6_readOfComponents 92 = .ok (.sipush 254, 3) := by decide +kernel
theorem dX6_readOfComponents_95 : decode cX6_readOfComponents 95 = .ok (.invokevirtual 184, 3) := by decide +kernel
theorem dX6_readOfComponents_98 : decode cX6_readOfComponents 98 = .ok (.aload_n 0, 1) := by decide +kernel
theorem dX6_readOfComponents_99 : decode cX6_readOfComponents 99 = .ok (.iload_n 1, 1) := by decide +kernel
noncomputable def k_X6_readOfComponents_64 (l1 : Int32) (s : t_S) : Option (t_S) :=
 (f_X6_readInto l1 s).bind (fun r1 =>
 some (r1))
set_option maxRecDepth 4000 in
set_option maxHeartbeats 1000000 in
theorem B_X6_readOfComponents_64 {D : va_G} {cy : Nat → ClassId} {ad : Nat → Nat} {bs : Nat} {X : State → Heap → Prop} (l1 : Int32) (s : t_S) (Q : t_S → Prop) (hk : t_hk (k_X6_readOfComponents_64 l1 s) Q) : mj_G D cy ad bs X cX6_readOfComponents 4 yX6_readOfComponents.cls none yX6_readOfComponents.name 255 0 0 1065 (t_P (fun v s' => v = none ∧ Q (s'))) 64 [(0, .ref 845), (1, .int l1)] [] (t_m s) 1065 0 0 := by
  refine mj_aload_n dX6_readOfComponents_64 0 rfl ?_
  refine mj_iload_n dX6_readOfComponents_65 1 rfl ?_
  refine t_bndK hk (fun r1 er1 hk => ?_)
  refine t_callVvE dX6_readOfComponents_66 M_X6_readInto (C_X6_readInto _ _ _ er1) ML_X6_564 IM_X6_readInto SE_X6_readInto qc_845 rfl (As := [.int l1]) rfl rfl (Nat.le_of_ble_eq_true rfl) (Nat.le_of_ble_eq_true rfl) (Nat.le_of_ble_eq_true rfl) (Nat.le_of_ble_eq_true rfl) ?_
  refine mj_goto 198 dX6_readOfComponents_69 (by decide) ?_
  exact t_somK hk (fun hf => t_vret dX6_readOfComponents_198 rfl ⟨rfl, hf⟩ (Nat.le_of_ble_eq_true rfl) (Nat.le_of_ble_eq_true rfl))
noncomputable def f_X6_readOfComponents (x1 : Int32) (x2 : Int32) (s : t_S) : Option (t_S) :=
 if t_ix x1 400 = true then
  if x2.toInt < 16 ∨ 18 < x2.toInt then ((f_X6_readCall x1 (10 : Int32) s).bind (fun r2 =>
 some (r2)))
 else if x2.toInt = 16 then ((f_X6_link (4 : Int32) x1 (0 : Int32) s).bind (fun r3 =>
 if (r3.1 1 8) = (242 : Int32) then (k_X6_readOfComponents_64 x1 r3)
 else ((f_X2_fail (2 : Int32) r3).bind (fun r4 =>
 k_X6_readOfComponents_64 x1 r4))))
 else if x2.toInt = 17 then (t_let (t_setI s (445 + 1 * (x1.toNatClampNeg)) ((5 : Int32).toNatClampNeg) (s.1 334 2)) (fun s1 =>
 (f_X6_readExp (0 : Int32) s1).bind (fun r5 =>
 (f_X2_need (254 : Int32) r5.2).bind (fun r6 =>
 (f_X6_readCall x1 (11 : Int32) r6).bind (fun r7 =>
 some (r7))))))
 else (t_let (t_setI s (445 + 1 * (x1.toNatClampNeg)) ((5 : Int32).toNatClampNeg) (s.1 334 2)) (fun s2 =>
 (f_X6_readExp (0 : Int32) s2).bind (fun r8 =>
 (f_X2_need (256 : Int32) r8.2).bind (fun r9 =>
 (f_X6_takePort x1 r9).bind (fun r10 =>
 t_let (t_setI r10.2 (445 + 1 * (x1.toNatClampNeg)) ((6 : Int32).toNatClampNeg) r10.1) (fun s3 =>
 (f_X2_need (257 : Int32) s3).bind (fun r11 =>
 (f_X6_readExp (0 : Int32) r11).bind (fun r12 =>
 (f_X2_need (256 : Int32) r12.2).bind (fun r13 =>
 (f_X6_takePort x1 r13).bind (fun r14 =>
 t_let (t_setI r14.2 (445 + 1 * (x1.toNatClampNeg)) ((8 : Int32).toNatClampNeg) r14.1) (fun s4 =>
 (f_X0_emit (0 : Int32) (0 : Int32) s4).bind (fun r15 =>
 some (r15.2)))))))))))))
else none
set_option maxRecDepth 4000 in
set_option maxHeartbeats 1000000 in
theorem C_X6_readOfComponents (x1 : Int32) (x2 : Int32) (s : t_S) (r : t_S) (hr : f_X6_readOfComponents x1 x2 s = some r) : t_C yX6_readOfComponents cX6_readOfComponents 4 none 255 [.ref 845, .int x1, .int x2] s (fun v s' => v = none ∧ s' = r) := by
  refine t_C.imp (P := fun v s' => v = none ∧ (fun q => q = r) (s')) (t_C.of (by decide +kernel) (Nat.le_of_ble_eq_true rfl) ?_) (fun v s' hp => hp)
  intro D cy ad bs X
  have hk : t_hk (f_X6_readOfComponents x1 x2 s) (fun q => q = r) := ⟨r, hr, rfl⟩
  show mj_G D cy ad bs X cX6_readOfComponents 4 yX6_readOfComponents.cls none yX6_readOfComponents.name 255 0 0 1065 (t_P (fun v s' => v = none ∧ (fun q => q = r) (s'))) 0 [(0, .ref 845), (1, .int x1), (2, .int x2)] [] (t_m s) 1065 0 0
  refine mj_aload_n dX6_readOfComponents_0 0 rfl ?_
  refine t_getR 428 dX6_readOfComponents_1 F_X6_48 qr_845_4 ?_
  refine t_getR 444 dX6_readOfComponents_4 F_X6_531 qr_428_17 ?_
  refine mj_iload_n dX6_readOfComponents_7 1 rfl ?_
  refine t_chkK hk (fun c0 hk => ?_)
  refine t_aaldI dX6_readOfComponents_8 qq_444 (t_ixv c0) ?_
  refine mj_astore_n 3 (lv2 := [(3, .ref (445 + 1 * (x1.toNatClampNeg))), (0, .ref 845), (1, .int x1), (2, .int x2)]) dX6_readOfComponents_9 rfl (by decide) rfl ?_
  refine mj_iload_n dX6_readOfComponents_10 3 rfl ?_
  by_cases hout : x2.toInt < 16 ∨ 18 < x2.toInt
  · replace hk := t_pos hk hout
    refine mj_tableOut 191 dX6_readOfComponents_11 hout (by decide) ?_
    refine mj_aload_n dX6_readOfComponents_191 1 rfl ?_
    refine mj_iload_n dX6_readOfComponents_192 2 rfl ?_
    refine mj_bipush (v := 10) dX6_readOfComponents_193 (by decide) ?_
    refine t_bndK hk (fun r2 er2 hk => ?_)
    refine t_callVvE dX6_readOfComponents_195 M_X6_readCall (C_X6_readCall _ _ _ _ er2) ML_X6_561 IM_X6_readCall SE_X6_readCall qc_845 rfl (As := [.int x1, .int 10]) rfl rfl (Nat.le_of_ble_eq_true rfl) (Nat.le_of_ble_eq_true rfl) (Nat.le_of_ble_eq_true rfl) (Nat.le_of_ble_eq_true rfl) ?_
    exact t_somK hk (fun hf => t_vret dX6_readOfComponents_198 rfl ⟨rfl, hf⟩ (Nat.le_of_ble_eq_true rfl) (Nat.le_of_ble_eq_true rfl))
  · replace hk := t_neg hk hout
    have hh1 : ¬ x2.toInt < 16 := fun z => hout (Or.inl z)
    have hh2 : ¬ (18 : Int) < x2.toInt := fun z => hout (Or.inr z)
    by_cases h0 : x2.toInt = 16
    · replace hk := t_pos hk h0
      refine mj_tableIn 36 dX6_readOfComponents_11 hh1 hh2 (by rw [h0]; rfl) (by decide) ?_
      refine mj_aload_n dX6_readOfComponents_36 1 rfl ?_
      refine mj_iconst (v := 4) dX6_readOfComponents_37 (by decide) ?_
      refine mj_iload_n dX6_readOfComponents_38 2 rfl ?_
      refine mj_iconst (v := 0) dX6_readOfComponents_39 (by decide) ?_
      refine t_bndK hk (fun r3 er3 hk => ?_)
      refine t_callVvE dX6_readOfComponents_40 M_X6_link (C_X6_link _ _ _ _ _ er3) ML_X6_250 IM_X6_link SE_X6_link qc_845 rfl (As := [.int 4, .int x1, .int 0]) rfl rfl (Nat.le_of_ble_eq_true rfl) (Nat.le_of_ble_eq_true rfl) (Nat.le_of_ble_eq_true rfl) (Nat.le_of_ble_eq_true rfl) ?_
      refine mj_aload_n dX6_readOfComponents_43 1 rfl ?_
      refine t_getR 1 dX6_readOfComponents_44 F_X6_28 qr_845_0 ?_
      refine t_getI dX6_readOfComponents_47 F_X6_85 qf_1_8 ?_
      refine mj_sipush (v := 242) dX6_readOfComponents_50 (by decide) ?_
      refine mj_icmp_eq 64 dX6_readOfComponents_53 (by decide) (fun z => t_posK hk z (fun hk => ?_)) (fun z => t_negK hk z (fun hk => ?_))
      · refine mj_sublv [(0, .ref 845), (1, .int x1)] [1, 2] rfl ?_
        exact B_X6_readOfComponents_64 _ _ _ hk
      · refine mj_aload_n dX6_readOfComponents_56 1 rfl ?_
        refine t_getR 1 dX6_readOfComponents_57 F_X6_28 qr_845_0 ?_
        refine mj_iconst (v := 2) dX6_readOfComponents_60 (by decide) ?_
        refine t_bndK hk (fun r4 er4 hk => ?_)
        refine t_callVvE dX6_readOfComponents_61 M_X2_fail (C_X2_fail _ _ _ er4) ML_X6_100 IM_X2_fail SE_X2_fail qc_1 rfl (As := [.int 2]) rfl rfl (Nat.le_of_ble_eq_true rfl) (Nat.le_of_ble_eq_true rfl) (Nat.le_of_ble_eq_true rfl) (Nat.le_of_ble_eq_true rfl) ?_
        refine mj_sublv [(0, .ref 845), (1, .int x1)] [1, 2] rfl ?_
        exact B_X6_readOfComponents_64 _ _ _ hk
    replace hk := t_neg hk h0
    by_cases h1 : x2.toInt = 17
    · replace hk := t_pos hk h1
      refine mj_tableIn 72 dX6_readOfComponents_11 hh1 hh2 (by rw [h1]; rfl) (by decide) ?_
      refine mj_aload_n dX6_readOfComponents_72 0 rfl ?_
      refine mj_iconst (v := 5) dX6_readOfComponents_73 (by decide) ?_
      refine mj_aload_n dX6_readOfComponents_74 1 rfl ?_
      refine t_getR 334 dX6_readOfComponents_75 F_X6_43 qr_845_3 ?_
      refine t_getI dX6_readOfComponents_78 F_X6_64 qf_334_2 ?_
      refine t_iastK dX6_readOfComponents_81 (t_row445 (t_ixn c0)) (by unfold vp_in; decide) (fun s1 ws1 => t_letE hk ws1 (fun hk => ?_))
      refine mj_aload_n dX6_readOfComponents_82 1 rfl ?_
      refine mj_iconst (v := 0) dX6_readOfComponents_83 (by decide) ?_
      refine t_bndK hk (fun r5 er5 hk => ?_)
      refine t_callViE dX6_readOfComponents_84 M_X6_readExp (C_X6_readExp _ _ _ er5) ML_X6_120 IM_X6_readExp SE_X6_readExp qc_845 rfl (As := [.int 0]) rfl rfl (Nat.le_of_ble_eq_true rfl) (Nat.le_of_ble_eq_true rfl) (Nat.le_of_ble_eq_true rfl) (Nat.le_of_ble_eq_true rfl) ?_
      refine mj_pop dX6_readOfComponents_87 rfl ?_
      refine mj_aload_n dX6_readOfComponents_88 1 rfl ?_
      refine t_getR 1 dX6_readOfComponents_89 F_X6_28 qr_845_0 ?_
      refine mj_sipush (v := 254) dX6_readOfComponents_92 (by decide) ?_
      refine t_bndK hk (fun r6 er6 hk => ?_)
      refine t_callVvE dX6_readOfComponents_95 M_X2_need (C_X2_need _ _ _ er6) ML_X6_184 IM_X2_need SE_X2_need qc_1 rfl (As := [.int 254]) rfl rfl (Nat.le_of_ble_eq_true rfl) (Nat.le_of_ble_eq_true rfl) (Nat.le_of_ble_eq_true rfl) (Nat.le_of_ble_eq_true rfl) ?_
      refine mj_aload_n dX6_readOfComponents_98 1 rfl ?_
      refine mj_iload_n dX6_readOfComponents_99 2 rfl ?_
      refine mj_bipush (v := 11) dX6_readOfComponents_100 (by decide) ?_
      refine t_bndK hk (fun r7 er7 hk => ?_)
      refine t_callVvE dX6_readOfComponents_102 M_X6_readCall (C_X6_readCall _ _ _ _ er7) ML_X6_561 IM_X6_readCall SE_X6_readCall qc_845 rfl (As := [.int x1, .int 11]) rfl rfl (Nat.le_of_ble_eq_true rfl) (Nat.le_of_ble_eq_true rfl) (Nat.le_of_ble_eq_true rfl) (Nat.le_of_ble_eq_true rfl) ?_
      refine mj_goto 198 dX6_readOfComponents_105 (by decide) ?_
      exact t_somK hk (fun hf => t_vret dX6_readOfComponents_198 rfl ⟨rfl, hf⟩ (Nat.le_of_ble_eq_true rfl) (Nat.le_of_ble_eq_true rfl))
    replace hk := t_neg hk h1
    have h2 : x2.toInt = 18 := by omega
    refine mj_tableIn 108 dX6_readOfComponents_11 hh1 hh2 (by rw [h2]; rfl) (by decide) ?_
    refine mj_aload_n dX6_readOfComponents_108 0 rfl ?_
    refine mj_iconst (v := 5) dX6_readOfComponents_109 (by decide) ?_
    refine mj_aload_n dX6_readOfComponents_110 1 rfl ?_
    refine t_getR 334 dX6_readOfComponents_111 F_X6_43 qr_845_3 ?_
    refine t_getI dX6_readOfComponents_114 F_X6_64 qf_334_2 ?_
    refine t_iastK dX6_readOfComponents_117 (t_row445 (t_ixn c0)) (by unfold vp_in; decide) (fun s2 ws2 => t_letE hk ws2 (fun hk => ?_))
    refine mj_aload_n dX6_readOfComponents_118 1 rfl ?_
    refine mj_iconst (v := 0) dX6_readOfComponents_119 (by decide) ?_
    refine t_bndK hk (fun r8 er8 hk => ?_)
    refine t_callViE dX6_readOfComponents_120 M_X6_readExp (C_X6_readExp _ _ _ er8) ML_X6_120 IM_X6_readExp SE_X6_readExp qc_845 rfl (As := [.int 0]) rfl rfl (Nat.le_of_ble_eq_true rfl) (Nat.le_of_ble_eq_true rfl) (Nat.le_of_ble_eq_true rfl) (Nat.le_of_ble_eq_true rfl) ?_
    refine mj_pop dX6_readOfComponents_123 rfl ?_
    refine mj_aload_n dX6_readOfComponents_124 1 rfl ?_
    refine t_getR 1 dX6_readOfComponents_125 F_X6_28 qr_845_0 ?_
    refine mj_sipush (v := 256) dX6_readOfComponents_128 (by decide) ?_
    refine t_bndK hk (fun r9 er9 hk => ?_)
    refine t_callVvE dX6_readOfComponents_131 M_X2_need (C_X2_need _ _ _ er9) ML_X6_184 IM_X2_need SE_X2_need qc_1 rfl (As := [.int 256]) rfl rfl (Nat.le_of_ble_eq_true rfl) (Nat.le_of_ble_eq_true rfl) (Nat.le_of_ble_eq_true rfl) (Nat.le_of_ble_eq_true rfl) ?_
    refine mj_aload_n dX6_readOfComponents_134 0 rfl ?_
    refine mj_bipush (v := 6) dX6_readOfComponents_135 (by decide) ?_
    refine mj_aload_n dX6_readOfComponents_137 1 rfl ?_
    refine mj_iload_n dX6_readOfComponents_138 2 rfl ?_
    refine t_bndK hk (fun r10 er10 hk => ?_)
    refine t_callViE dX6_readOfComponents_139 M_X6_takePort (C_X6_takePort _ _ _ er10) ML_X6_567 IM_X6_takePort SE_X6_takePort qc_845 rfl (As := [.int x1]) rfl rfl (Nat.le_of_ble_eq_true rfl) (Nat.le_of_ble_eq_true rfl) (Nat.le_of_ble_eq_true rfl) (Nat.le_of_ble_eq_true rfl) ?_
    refine t_iastK dX6_readOfComponents_142 (t_row445 (t_ixn c0)) (by unfold vp_in; decide) (fun s3 ws3 => t_letE hk ws3 (fun hk => ?_))
    refine mj_aload_n dX6_readOfComponents_143 1 rfl ?_
    refine t_getR 1 dX6_readOfComponents_144 F_X6_28 qr_845_0 ?_
    refine mj_sipush (v := 257) dX6_readOfComponents_147 (by decide) ?_
    refine t_bndK hk (fun r11 er11 hk => ?_)
    refine t_callVvE dX6_readOfComponents_150 M_X2_need (C_X2_need _ _ _ er11) ML_X6_184 IM_X2_need SE_X2_need qc_1 rfl (As := [.int 257]) rfl rfl (Nat.le_of_ble_eq_true rfl) (Nat.le_of_ble_eq_true rfl) (Nat.le_of_ble_eq_true rfl) (Nat.le_of_ble_eq_true rfl) ?_
    refine mj_aload_n dX6_readOfComponents_153 1 rfl ?_
    refine mj_iconst (v := 0) dX6_readOfComponents_154 (by decide) ?_
    refine t_bndK hk (fun r12 er12 hk => ?_)
    refine t_callViE dX6_readOfComponents_155 M_X6_readExp (C_X6_readExp _ _ _ er12) ML_X6_120 IM_X6_readExp SE_X6_readExp qc_845 rfl (As := [.int 0]) rfl rfl (Nat.le_of_ble_eq_true rfl) (Nat.le_of_ble_eq_true rfl) (Nat.le_of_ble_eq_true rfl) (Nat.le_of_ble_eq_true rfl) ?_
    refine mj_pop dX6_readOfComponents_158 rfl ?_
    refine mj_aload_n dX6_readOfComponents_159 1 rfl ?_
    refine t_getR 1 dX6_readOfComponents_160 F_X6_28 qr_845_0 ?_
    refine mj_sipush (v := 256) dX6_readOfComponents_163 (by decide) ?_
    refine t_bndK hk (fun r13 er13 hk => ?_)
    refine t_callVvE dX6_readOfComponents_166 M_X2_need (C_X2_need _ _ _ er13) ML_X6_184 IM_X2_need SE_X2_need qc_1 rfl (As := [.int 256]) rfl rfl (Nat.le_of_ble_eq_true rfl) (Nat.le_of_ble_eq_true rfl) (Nat.le_of_ble_eq_true rfl) (Nat.le_of_ble_eq_true rfl) ?_
    refine mj_aload_n dX6_readOfComponents_169 0 rfl ?_
    refine mj_bipush (v := 8) dX6_readOfComponents_170 (by decide) ?_
    refine mj_aload_n dX6_readOfComponents_172 1 rfl ?_
    refine mj_iload_n dX6_readOfComponents_173 2 rfl ?_
    refine t_bndK hk (fun r14 er14 hk => ?_)
    refine t_callViE dX6_readOfComponents_174 M_X6_takePort (C_X6_takePort _ _ _ er14) ML_X6_567 IM_X6_takePort SE_X6_takePort qc_845 rfl (As := [.int x1]) rfl rfl (Nat.le_of_ble_eq_true rfl) (Nat.le_of_ble_eq_true rfl) (Nat.le_of_ble_eq_true rfl) (Nat.le_of_ble_eq_true rfl) ?_
    refine t_iastK dX6_readOfComponents_177 (t_row445 (t_ixn c0)) (by unfold vp_in; decide) (fun s4 ws4 => t_letE hk ws4 (fun hk => ?_))
    refine mj_aload_n dX6_readOfComponents_178 1 rfl ?_
    refine t_getR 334 dX6_readOfComponents_179 F_X6_43 qr_845_3 ?_
    refine mj_iconst (v := 0) dX6_readOfComponents_182 (by decide) ?_
    refine mj_iconst (v := 0) dX6_readOfComponents_183 (by decide) ?_
    refine t_bndK hk (fun r15 er15 hk => ?_)
    refine t_callViE dX6_readOfComponents_184 M_X0_emit (C_X0_emit _ _ _ _ er15) ML_X6_202 IM_X0_emit SE_X0_emit qc_334 rfl (As := [.int 0, .int 0]) rfl rfl (Nat.le_of_ble_eq_true rfl) (Nat.le_of_ble_eq_true rfl) (Nat.le_of_ble_eq_true rfl) (Nat.le_of_ble_eq_true rfl) ?_
    refine mj_pop dX6_readOfComponents_187 rfl ?_
    refine mj_goto 198 dX6_readOfComponents_188 (by decide) ?_
    exact t_somK hk (fun hf => t_vret dX6_readOfComponents_198 rfl ⟨rfl, hf⟩ (Nat.le_of_ble_eq_true rfl) (Nat.le_of_ble_eq_true rfl))

theorem dX6_takePlace_0 : decode cX6_takePlace 0 = .ok (.aload_n 0, 1) := by decide +kernel
theorem dX6_takePlace_1 : decode cX6_takePlace 1 = .ok (.getfield 28, 3) := by decide +kernel
theorem dX6_takePlace_100 : decode cX6_takePlace 100 = .ok (.aload_n 0, 1) := by decide +kernel
theorem dX6_takePlace_101 : decode cX6_takePlace 101 = .ok (.getfield 28, 3) := by decide +kernel
theorem dX6_takePlace_104 : decode cX6_takePlace 104 = .ok (.getfield 82, 3) := by decide +kernel
theorem dX6_takePlace_107 : decode cX6_takePlace 107 = .ok (.ifCond .eq 5, 3) := by decide +kernel
theorem dX6_takePlace_11 : decode cX6_takePlace 11 = .ok (.aload_n 0, 1) := by decide +kernel
theorem dX6_takePlace_110 : decode cX6_takePlace 110 = .ok (.iconst (-1), 1) := by decide +kernel
theorem dX6_takePlace_111 : decode cX6_takePlace 111 = .ok (.ireturn, 1) := by decide +kernel
theorem dX6_takePlace_112 : decode cX6_takePlace 112 = .ok (.aload_n 0, 1) := by decide +kernel
theorem dX6_takePlace_113 : decode cX6_takePlace 113 = .ok (.getfield 134, 3) := by decide +kernel
theorem dX6_takePlace_116 : decode cX6_takePlace 116 = .ok (.bipush 8, 2) := by decide +kernel
theorem dX6_takePlace_118 : decode cX6_takePlace 118 = .ok (.imul, 1) := by decide +kernel
theorem dX6_takePlace_119 : decode cX6_takePlace 119 = .ok (.aload_n 0, 1) := by decide +kernel
theorem dX6_takePlace_12 : decode cX6_takePlace 12 = .ok (.getfield 28, 3) := by decide +kernel
theorem dX6_takePlace_120 : decode cX6_takePlace 120 = .ok (.getfield 48, 3) := by decide +kernel
theorem dX6_takePlace_123 : decode cX6_takePlace 123 = .ok (.getfield 285, 3) := by decide +kernel
theorem dX6_takePlace_126 : decode cX6_takePlace 126 = .ok (.aload_n 0, 1) := by decide +kernel
theorem dX6_takePlace_127 : decode cX6_takePlace 127 = .ok (.getfield 134, 3) := by decide +kernel
theorem dX6_takePlace_130 : decode cX6_takePlace 130 = .ok (.iaload, 1) := by decide +kernel
theorem dX6_takePlace_131 : decode cX6_takePlace 131 = .ok (.iadd, 1) := by decide +kernel
theorem dX6_takePlace_132 : decode cX6_takePlace 132 = .ok (.istore_n 1, 1) := by decide +kernel
theorem dX6_takePlace_133 : decode cX6_takePlace 133 = .ok (.aload_n 0, 1) := by decide +kernel
theorem dX6_takePlace_134 : decode cX6_takePlace 134 = .ok (.getfield 48, 3) := by decide +kernel
theorem dX6_takePlace_137 : decode cX6_takePlace 137 = .ok (.getfield 289, 3) := by decide +kernel
theorem dX6_takePlace_140 : decode cX6_takePlace 140 = .ok (.iload_n 1, 1) := by decide +kernel
theorem dX6_takePlace_141 : decode cX6_takePlace 141 = .ok (.aload_n 0, 1) := by decide +kernel
theorem dX6_takePlace_142 : decode cX6_takePlace 142 = .ok (.getfield 28, 3) := by decide +kernel
theorem dX6_takePlace_145 : decode cX6_takePlace 145 = .ok (.invokevirtual 166, 3) := by decide +kernel
theorem dX6_takePlace_148 : decode cX6_takePlace 148 = .ok (.iastore, 1) := by decide +kernel
theorem dX6_takePlace_149 : decode cX6_takePlace 149 = .ok (.aload_n 0, 1) := by decide +kernel
theorem dX6_takePlace_15 : decode cX6_takePlace 15 = .ok (.iconst 2, 1) := by decide +kernel
theorem dX6_takePlace_150 : decode cX6_takePlace 150 = .ok (.getfield 48, 3) := by decide +kernel
theorem dX6_takePlace_153 : decode cX6_takePlace 153 = .ok (.getfield 292, 3) := by decide +kernel
theorem dX6_takePlace_156 : decode cX6_takePlace 156 = .ok (.iload_n 1, 1) := by decide +kernel
theorem dX6_takePlace_157 : decode cX6_takePlace 157 = .ok (.iconst (-1), 1) := by decide +kernel
theorem dX6_takePlace_158 : decode cX6_takePlace 158 = .ok (.iastore, 1) := by decide +kernel
theorem dX6_takePlace_159 : decode cX6_takePlace 159 = .ok (.aload_n 0, 1) := by decide +kernel
theorem dX6_takePlace_16 : decode cX6_takePlace 16 = .ok (.invokevirtual 100, 3) := by decide +kernel
theorem dX6_takePlace_160 : decode cX6_takePlace 160 = .ok (.getfield 28, 3) := by decide +kernel
theorem dX6_takePlace_163 : decode cX6_takePlace 163 = .ok (.invokevirtual 170, 3) := by decide +kernel
theorem dX6_takePlace_166 : decode cX6_takePlace 166 = .ok (.aload_n 0, 1) := by decide +kernel
theorem dX6_takePlace_167 : decode cX6_takePlace 167 = .ok (.getfield 48, 3) := by decide +kernel
theorem dX6_takePlace_170 : decode cX6_takePlace 170 = .ok (.getfield 285, 3) := by decide +kernel
theorem dX6_takePlace_173 : decode cX6_takePlace 173 = .ok (.aload_n 0, 1) := by decide +kernel
theorem dX6_takePlace_174 : decode cX6_takePlace 174 = .ok (.getfield 134, 3) := by decide +kernel
theorem dX6_takePlace_177 : decode cX6_takePlace 177 = .ok (.iaload, 1) := by decide +kernel
theorem dX6_takePlace_178 : decode cX6_takePlace 178 = .ok (.ireturn, 1) := by decide +kernel
theorem dX6_takePlace_19 : decode cX6_takePlace 19 = .ok (.goto 81, 3) := by decide +kernel
theorem dX6_takePlace_22 : decode cX6_takePlace 22 = .ok (.aload_n 0, 1) := by decide +kernel
theorem dX6_takePlace_23 : decode cX6_takePlace 23 = .ok (.getfield 48, 3) := by decide +kernel
theorem dX6_takePlace_26 : decode cX6_takePlace 26 = .ok (.aload_n 0, 1) := by decide +kernel
theorem dX6_takePlace_27 : decode cX6_takePlace 27 = .ok (.getfield 134, 3) := by decide +kernel
theorem dX6_takePlace_30 : decode cX6_takePlace 30 = .ok (.aload_n 0, 1) := by decide +kernel
theorem dX6_takePlace_31 : decode cX6_takePlace 31 = .ok (.getfield 28, 3) := by decide +kernel
theorem dX6_takePlace_34 : decode cX6_takePlace 34 = .ok (.invokevirtual 166, 3) := by decide +kernel
theorem dX6_takePlace_37 : decode cX6_takePlace 37 = .ok (.invokevirtual 286, 3) := by decide +kernel
theorem dX6_takePlace_4 : decode cX6_takePlace 4 = .ok (.getfield 85, 3) := by decide +kernel
theorem dX6_takePlace_40 : decode cX6_takePlace 40 = .ok (.ifCond .ge 24, 3) := by decide +kernel
theorem dX6_takePlace_43 : decode cX6_takePlace 43 = .ok (.aload_n 0, 1) := by decide +kernel
theorem dX6_takePlace_44 : decode cX6_takePlace 44 = .ok (.getfield 48, 3) := by decide +kernel
theorem dX6_takePlace_47 : decode cX6_takePlace 47 = .ok (.aload_n 0, 1) := by decide +kernel
theorem dX6_takePlace_48 : decode cX6_takePlace 48 = .ok (.getfield 140, 3) := by decide +kernel
theorem dX6_takePlace_51 : decode cX6_takePlace 51 = .ok (.aload_n 0, 1) := by decide +kernel
theorem dX6_takePlace_52 : decode cX6_takePlace 52 = .ok (.getfield 28, 3) := by decide +kernel
theorem dX6_takePlace_55 : decode cX6_takePlace 55 = .ok (.invokevirtual 166, 3) := by decide +kernel
theorem dX6_takePlace_58 : decode cX6_takePlace 58 = .ok (.invokevirtual 232, 3) := by decide +kernel
theorem dX6_takePlace_61 : decode cX6_takePlace 61 = .ok (.ifCond .eq 14, 3) := by decide +kernel
theorem dX6_takePlace_64 : decode cX6_takePlace 64 = .ok (.aload_n 0, 1) := by decide +kernel
theorem dX6_takePlace_65 : decode cX6_takePlace 65 = .ok (.getfield 28, 3) := by decide +kernel
theorem dX6_takePlace_68 : decode cX6_takePlace 68 = .ok (.iconst 3, 1) := by decide +kernel
theorem dX6_takePlace_69 : decode cX6_takePlace 69 = .ok (.invokevirtual 100, 3) := by decide +kernel
theorem dX6_takePlace_7 : decode cX6_takePlace 7 = .ok (.iconst 1, 1) := by decide +kernel
theorem dX6_takePlace_72 : decode cX6_takePlace 72 = .ok (.goto 28, 3) := by decide +kernel
theorem dX6_takePlace_75 : decode cX6_takePlace 75 = .ok (.aload_n 0, 1) := by decide +kernel
theorem dX6_takePlace_76 : decode cX6_takePlace 76 = .ok (.getfield 48, 3) := by decide +kernel
theorem dX6_takePlace_79 : decode cX6_takePlace 79 = .ok (.getfield 285, 3) := by decide +kernel
theorem dX6_takePlace_8 : decode cX6_takePlace 8 = .ok (.if_icmp .eq 14, 3) := by decide +kernel
theorem dX6_takePlace_82 : decode cX6_takePlace 82 = .ok (.aload_n 0, 1) := by decide +kernel
theorem dX6_takePlace_83 : decode cX6_takePlace 83 = .ok (.getfield 134, 3) := by decide +kernel
theorem dX6_takePlace_86 : decode cX6_takePlace 86 = .ok (.iaload, 1) := by decide +kernel
theorem dX6_takePlace_87 : decode cX6_takePlace 87 = .ok (.bipush 8, 2) := by decide +kernel
theorem dX6_takePlace_89 : decode cX6_takePlace 89 = .ok (.if_icmp .lt 11, 3) := by decide +kernel
theorem dX6_takePlace_92 : decode cX6_takePlace 92 = .ok (.aload_n 0, 1) := by decide +kernel
theorem dX6_takePlace_93 : decode cX6_takePlace 93 = .ok (.getfield 28, 3) := by decide +kernel
theorem dX6_takePlace_96 : decode cX6_takePlace 96 = .ok (.iconst 5, 1) := by decide +kernel
theorem dX6_takePlace_97 : decode cX6_takePlace 97 = .ok (.invokevirtual 100, 3) := by decide +kernel
noncomputable def k_X6_takePlace_100 (s : t_S) : Option (Int32 × t_S) :=
 if (s.1 1 11) = (0 : Int32) then (if t_ix (s.1 845 12) 40 = true then
  if t_ix (((s.1 845 12) * (8 : Int32)) + (s.1 440 ((s.1 845 12).toNatClampNeg))) 320 = true then
  t_let (t_setI s 442 ((((s.1 845 12) * (8 : Int32)) + (s.1 440 ((s.1 845 12).toNatClampNeg))).toNatClampNeg) (f_X2_word s)) (fun s1 =>
 t_let (t_setI s1 443 ((((s.1 845 12) * (8 : Int32)) + (s.1 440 ((s.1 845 12).toNatClampNeg))).toNatClampNeg) (-1 : Int32)) (fun s2 =>
 (f_X2_advance s2).bind (fun r4 =>
 if t_ix (r4.1 845 12) 40 = true then
  some ((r4.1 440 ((r4.1 845 12).toNatClampNeg)), r4)
else none)))
else none
else none)
 else (some ((-1 : Int32), s))
set_option maxRecDepth 4000 in
set_option maxHeartbeats 1000000 in
theorem B_X6_takePlace_100 {D : va_G} {cy : Nat → ClassId} {ad : Nat → Nat} {bs : Nat} {X : State → Heap → Prop} (s : t_S) (Q : Int32 × t_S → Prop) (hk : t_hk (k_X6_takePlace_100 s) Q) : mj_G D cy ad bs X cX6_takePlace 2 yX6_takePlace.cls (some .int) yX6_takePlace.name 2 0 0 1065 (t_P (fun v s' => ∃ x, v = some (.int x) ∧ Q ((x, s')))) 100 [(0, .ref 845)] [] (t_m s) 1065 0 0 := by
  refine mj_aload_n dX6_takePlace_100 0 rfl ?_
  refine t_getR 1 dX6_takePlace_101 F_X6_28 qr_845_0 ?_
  refine t_getI dX6_takePlace_104 F_X6_82 qf_1_11 ?_
  refine mj_if_eq 112 dX6_takePlace_107 (by decide) (fun z => t_posK hk z (fun hk => ?_)) (fun z => t_negK hk z (fun hk => ?_))
  · refine mj_aload_n dX6_takePlace_112 0 rfl ?_
    refine t_getI dX6_takePlace_113 F_X6_134 qf_845_12 ?_
    refine mj_bipush (v := 8) dX6_takePlace_116 (by decide) ?_
    refine mj_imul dX6_takePlace_118 ?_
    refine mj_aload_n dX6_takePlace_119 0 rfl ?_
    refine t_getR 428 dX6_takePlace_120 F_X6_48 qr_845_4 ?_
    refine t_getR 440 dX6_takePlace_123 F_X6_285 qr_428_13 ?_
    refine mj_aload_n dX6_takePlace_126 0 rfl ?_
    refine t_getI dX6_takePlace_127 F_X6_134 qf_845_12 ?_
    refine t_chkK hk (fun c0 hk => ?_)
    refine t_iald dX6_takePlace_130 qa_440 (t_ixv c0) ?_
    refine mj_iadd dX6_takePlace_131 ?_
    refine mj_istore_n 1 (lv2 := [(1, .int (((s.1 845 12) * (8 : Int32)) + (s.1 440 ((s.1 845 12).toNatClampNeg)))), (0, .ref 845)]) dX6_takePlace_132 rfl (by decide) rfl ?_
    refine mj_aload_n dX6_takePlace_133 1 rfl ?_
    refine t_getR 428 dX6_takePlace_134 F_X6_48 qr_845_4 ?_
    refine t_getR 442 dX6_takePlace_137 F_X6_289 qr_428_15 ?_
    refine mj_iload_n dX6_takePlace_140 0 rfl ?_
    refine mj_aload_n dX6_takePlace_141 1 rfl ?_
    refine t_getR 1 dX6_takePlace_142 F_X6_28 qr_845_0 ?_
    refine t_callViP dX6_takePlace_145 M_X2_word (C_X2_word _) ML_X6_166 IM_X2_word SE_X2_word qc_1 rfl (As := []) rfl rfl (Nat.le_of_ble_eq_true rfl) (Nat.le_of_ble_eq_true rfl) (Nat.le_of_ble_eq_true rfl) (Nat.le_of_ble_eq_true rfl) ?_
    refine t_chkK hk (fun c2 hk => ?_)
    refine t_iastK dX6_takePlace_148 qa_442 (t_ixv c2) (fun s1 ws1 => t_letE hk ws1 (fun hk => ?_))
    refine mj_aload_n dX6_takePlace_149 1 rfl ?_
    refine t_getR 428 dX6_takePlace_150 F_X6_48 qr_845_4 ?_
    refine t_getR 443 dX6_takePlace_153 F_X6_292 qr_428_16 ?_
    refine mj_iload_n dX6_takePlace_156 0 rfl ?_
    refine mj_iconst (v := (-1)) dX6_takePlace_157 (by decide) ?_
    refine t_iastK dX6_takePlace_158 qa_443 (t_ixv c2) (fun s2 ws2 => t_letE hk ws2 (fun hk => ?_))
    refine mj_aload_n dX6_takePlace_159 1 rfl ?_
    refine t_getR 1 dX6_takePlace_160 F_X6_28 qr_845_0 ?_
    refine t_bndK hk (fun r4 er4 hk => ?_)
    refine t_callVvE dX6_takePlace_163 M_X2_advance (C_X2_advance _ _ er4) ML_X6_170 IM_X2_advance SE_X2_advance qc_1 rfl (As := []) rfl rfl (Nat.le_of_ble_eq_true rfl) (Nat.le_of_ble_eq_true rfl) (Nat.le_of_ble_eq_true rfl) (Nat.le_of_ble_eq_true rfl) ?_
    refine mj_aload_n dX6_takePlace_166 1 rfl ?_
    refine t_getR 428 dX6_takePlace_167 F_X6_48 qr_845_4 ?_
    refine t_getR 440 dX6_takePlace_170 F_X6_285 qr_428_13 ?_
    refine mj_aload_n dX6_takePlace_173 1 rfl ?_
    refine t_getI dX6_takePlace_174 F_X6_134 qf_845_12 ?_
    refine t_chkK hk (fun c4 hk => ?_)
    refine t_iald dX6_takePlace_177 qa_440 (t_ixv c4) ?_
    exact t_somK hk (fun hf => t_iret dX6_takePlace_178 rfl rfl ⟨_, rfl, hf⟩ (Nat.le_of_ble_eq_true rfl) (Nat.le_of_ble_eq_true rfl))
  · refine mj_iconst (v := (-1)) dX6_takePlace_110 (by decide) ?_
    exact t_somK hk (fun hf => t_iret dX6_takePlace_111 rfl rfl ⟨_, rfl, hf⟩ (Nat.le_of_ble_eq_true rfl) (Nat.le_of_ble_eq_true rfl))
noncomputable def k_X6_takePlace_64 (s : t_S) : Option (Int32 × t_S) :=
 (f_X2_fail (3 : Int32) s).bind (fun r1 =>
 k_X6_takePlace_100 r1)
set_option maxRecDepth 4000 in
set_option maxHeartbeats 1000000 in
theorem B_X6_takePlace_64 {D : va_G} {cy : Nat → ClassId} {ad : Nat → Nat} {bs : Nat} {X : State → Heap → Prop} (s : t_S) (Q : Int32 × t_S → Prop) (hk : t_hk (k_X6_takePlace_64 s) Q) : mj_G D cy ad bs X cX6_takePlace 2 yX6_takePlace.cls (some .int) yX6_takePlace.name 2 0 0 1065 (t_P (fun v s' => ∃ x, v = some (.int x) ∧ Q ((x, s')))) 64 [(0, .ref 845)] [] (t_m s) 1065 0 0 := by
  refine mj_aload_n dX6_takePlace_64 0 rfl ?_
  refine t_getR 1 dX6_takePlace_65 F_X6_28 qr_845_0 ?_
  refine mj_iconst (v := 3) dX6_takePlace_68 (by decide) ?_
  refine t_bndK hk (fun r1 er1 hk => ?_)
  refine t_callVvE dX6_takePlace_69 M_X2_fail (C_X2_fail _ _ _ er1) ML_X6_100 IM_X2_fail SE_X2_fail qc_1 rfl (As := [.int 3]) rfl rfl (Nat.le_of_ble_eq_true rfl) (Nat.le_of_ble_eq_true rfl) (Nat.le_of_ble_eq_true rfl) (Nat.le_of_ble_eq_true rfl) ?_
  refine mj_goto 100 dX6_takePlace_72 (by decide) ?_
  exact B_X6_takePlace_100 _ _ hk
noncomputable def f_X6_takePlace (s : t_S) : Option (Int32 × t_S) :=
 if (s.1 1 8) = (1 : Int32) then ((f_X5_placeOf (s.1 845 12) (f_X2_word s) s).bind (fun r2 =>
 if (0 : Int32) ≤ r2 then (k_X6_takePlace_64 s)
 else ((f_X5_hasOwn (s.1 845 14) (f_X2_word s) s).bind (fun r4 =>
 if r4 = (0 : Int32) then (if t_ix (s.1 845 12) 40 = true then
  if (s.1 440 ((s.1 845 12).toNatClampNeg)) < (8 : Int32) then (k_X6_takePlace_100 s)
 else ((f_X2_fail (5 : Int32) s).bind (fun r6 =>
 k_X6_takePlace_100 r6))
else none)
 else (k_X6_takePlace_64 s)))))
 else ((f_X2_fail (2 : Int32) s).bind (fun r7 =>
 k_X6_takePlace_100 r7))
set_option maxRecDepth 4000 in
set_option maxHeartbeats 1000000 in
theorem C_X6_takePlace (s : t_S) (r : Int32 × t_S) (hr : f_X6_takePlace s = some r) : t_C yX6_takePlace cX6_takePlace 2 (some .int) 2 [.ref 845] s (fun v s' => v = some (.int r.1) ∧ s' = r.2) := by
  refine t_C.imp (P := fun v s' => ∃ x, v = some (.int x) ∧ (fun q => q = r) ((x, s'))) (t_C.of (by decide +kernel) (Nat.le_of_ble_eq_true rfl) ?_) (fun v s' hp => by obtain ⟨x, rfl, rfl⟩ := hp; exact ⟨rfl, rfl⟩)
  intro D cy ad bs X
  have hk : t_hk (f_X6_takePlace s) (fun q => q = r) := ⟨r, hr, rfl⟩
  show mj_G D cy ad bs X cX6_takePlace 2 yX6_takePlace.cls (some .int) yX6_takePlace.name 2 0 0 1065 (t_P (fun v s' => ∃ x, v = some (.int x) ∧ (fun q => q = r) ((x, s')))) 0 [(0, .ref 845)] [] (t_m s) 1065 0 0
  refine mj_aload_n dX6_takePlace_0 0 rfl ?_
  refine t_getR 1 dX6_takePlace_1 F_X6_28 qr_845_0 ?_
  refine t_getI dX6_takePlace_4 F_X6_85 qf_1_8 ?_
  refine mj_iconst (v := 1) dX6_takePlace_7 (by decide) ?_
  refine mj_icmp_eq 22 dX6_takePlace_8 (by decide) (fun z => t_posK hk z (fun hk => ?_)) (fun z => t_negK hk z (fun hk => ?_))
  · refine mj_aload_n dX6_takePlace_22 0 rfl ?_
    refine t_getR 428 dX6_takePlace_23 F_X6_48 qr_845_4 ?_
    refine mj_aload_n dX6_takePlace_26 0 rfl ?_
    refine t_getI dX6_takePlace_27 F_X6_134 qf_845_12 ?_
    refine mj_aload_n dX6_takePlace_30 0 rfl ?_
    refine t_getR 1 dX6_takePlace_31 F_X6_28 qr_845_0 ?_
    refine t_callViP dX6_takePlace_34 M_X2_word (C_X2_word _) ML_X6_166 IM_X2_word SE_X2_word qc_1 rfl (As := []) rfl rfl (Nat.le_of_ble_eq_true rfl) (Nat.le_of_ble_eq_true rfl) (Nat.le_of_ble_eq_true rfl) (Nat.le_of_ble_eq_true rfl) ?_
    refine t_bndK hk (fun r2 er2 hk => ?_)
    refine t_callViP dX6_takePlace_37 M_X5_placeOf (C_X5_placeOf _ _ _ _ er2) ML_X6_286 IM_X5_placeOf SE_X5_placeOf qc_428 rfl (As := [.int (s.1 845 12), .int (f_X2_word s)]) rfl rfl (Nat.le_of_ble_eq_true rfl) (Nat.le_of_ble_eq_true rfl) (Nat.le_of_ble_eq_true rfl) (Nat.le_of_ble_eq_true rfl) ?_
    refine mj_if_ge 64 dX6_takePlace_40 (by decide) (fun z => t_posK hk z (fun hk => ?_)) (fun z => t_negK hk z (fun hk => ?_))
    · exact B_X6_takePlace_64 _ _ hk
    · refine mj_aload_n dX6_takePlace_43 0 rfl ?_
      refine t_getR 428 dX6_takePlace_44 F_X6_48 qr_845_4 ?_
      refine mj_aload_n dX6_takePlace_47 0 rfl ?_
      refine t_getI dX6_takePlace_48 F_X6_140 qf_845_14 ?_
      refine mj_aload_n dX6_takePlace_51 0 rfl ?_
      refine t_getR 1 dX6_takePlace_52 F_X6_28 qr_845_0 ?_
      refine t_callViP dX6_takePlace_55 M_X2_word (C_X2_word _) ML_X6_166 IM_X2_word SE_X2_word qc_1 rfl (As := []) rfl rfl (Nat.le_of_ble_eq_true rfl) (Nat.le_of_ble_eq_true rfl) (Nat.le_of_ble_eq_true rfl) (Nat.le_of_ble_eq_true rfl) ?_
      refine t_bndK hk (fun r4 er4 hk => ?_)
      refine t_callViP dX6_takePlace_58 M_X5_hasOwn (C_X5_hasOwn _ _ _ _ er4) ML_X6_232 IM_X5_hasOwn SE_X5_hasOwn qc_428 rfl (As := [.int (s.1 845 14), .int (f_X2_word s)]) rfl rfl (Nat.le_of_ble_eq_true rfl) (Nat.le_of_ble_eq_true rfl) (Nat.le_of_ble_eq_true rfl) (Nat.le_of_ble_eq_true rfl) ?_
      refine mj_if_eq 75 dX6_takePlace_61 (by decide) (fun z => t_posK hk z (fun hk => ?_)) (fun z => t_negK hk z (fun hk => ?_))
      · refine mj_aload_n dX6_takePlace_75 0 rfl ?_
        refine t_getR 428 dX6_takePlace_76 F_X6_48 qr_845_4 ?_
        refine t_getR 440 dX6_takePlace_79 F_X6_285 qr_428_13 ?_
        refine mj_aload_n dX6_takePlace_82 0 rfl ?_
        refine t_getI dX6_takePlace_83 F_X6_134 qf_845_12 ?_
        refine t_chkK hk (fun c4 hk => ?_)
        refine t_iald dX6_takePlace_86 qa_440 (t_ixv c4) ?_
        refine mj_bipush (v := 8) dX6_takePlace_87 (by decide) ?_
        refine mj_icmp_lt 100 dX6_takePlace_89 (by decide) (fun z => t_posK hk z (fun hk => ?_)) (fun z => t_negK hk z (fun hk => ?_))
        · exact B_X6_takePlace_100 _ _ hk
        · refine mj_aload_n dX6_takePlace_92 0 rfl ?_
          refine t_getR 1 dX6_takePlace_93 F_X6_28 qr_845_0 ?_
          refine mj_iconst (v := 5) dX6_takePlace_96 (by decide) ?_
          refine t_bndK hk (fun r6 er6 hk => ?_)
          refine t_callVvE dX6_takePlace_97 M_X2_fail (C_X2_fail _ _ _ er6) ML_X6_100 IM_X2_fail SE_X2_fail qc_1 rfl (As := [.int 5]) rfl rfl (Nat.le_of_ble_eq_true rfl) (Nat.le_of_ble_eq_true rfl) (Nat.le_of_ble_eq_true rfl) (Nat.le_of_ble_eq_true rfl) ?_
          exact B_X6_takePlace_100 _ _ hk
      · exact B_X6_takePlace_64 _ _ hk
  · refine mj_aload_n dX6_takePlace_11 0 rfl ?_
    refine t_getR 1 dX6_takePlace_12 F_X6_28 qr_845_0 ?_
    refine mj_iconst (v := 2) dX6_takePlace_15 (by decide) ?_
    refine t_bndK hk (fun r7 er7 hk => ?_)
    refine t_callVvE dX6_takePlace_16 M_X2_fail (C_X2_fail _ _ _ er7) ML_X6_100 IM_X2_fail SE_X2_fail qc_1 rfl (As := [.int 2]) rfl rfl (Nat.le_of_ble_eq_true rfl) (Nat.le_of_ble_eq_true rfl) (Nat.le_of_ble_eq_true rfl) (Nat.le_of_ble_eq_true rfl) ?_
    refine mj_goto 100 dX6_takePlace_19 (by decide) ?_
    exact B_X6_takePlace_100 _ _ hk

theorem dX6_readVar_0 : decode cX6_readVar 0 = .ok (.aload_n 0, 1) := by decide +kernel
theorem dX6_readVar_1 : decode cX6_readVar 1 = .ok (.getfield 48, 3) := by decide +kernel
theorem dX6_readVar_10 : decode cX6_readVar 10 = .ok (.aload_n 0, 1) := by decide +kernel
theorem dX6_readVar_11 : decode cX6_readVar 11 = .ok (.invokevirtual 279, 3) := by decide +kernel
theorem dX6_readVar_14 : decode cX6_readVar 14 = .ok (.istore_n 3, 1) := by decide +kernel
theorem dX6_readVar_15 : decode cX6_readVar 15 = .ok (.iload_n 3, 1) := by decide +kernel
theorem dX6_readVar_16 : decode cX6_readVar 16 = .ok (.ifCond .ge 4, 3) := by decide +kernel
theorem dX6_readVar_19 : decode cX6_readVar 19 = .ok (.return_, 1) := by decide +kernel
theorem dX6_readVar_20 : decode cX6_readVar 20 = .ok (.aload_n 0, 1) := by decide +kernel
theorem dX6_readVar_21 : decode cX6_readVar 21 = .ok (.iconst 1, 1) := by decide +kernel
theorem dX6_readVar_22 : decode cX6_readVar 22 = .ok (.aload_n 0, 1) := by decide +kernel
theorem dX6_readVar_23 : decode cX6_readVar 23 = .ok (.getfield 134, 3) := by decide +kernel
theorem dX6_readVar_26 : decode cX6_readVar 26 = .ok (.bipush 8, 2) := by decide +kernel
theorem dX6_readVar_28 : decode cX6_readVar 28 = .ok (.imul, 1) := by decide +kernel
theorem dX6_readVar_29 : decode cX6_readVar 29 = .ok (.iload_n 3, 1) := by decide +kernel
theorem dX6_readVar_30 : decode cX6_readVar 30 = .ok (.iadd, 1) := by decide +kernel
theorem dX6_readVar_31 : decode cX6_readVar 31 = .ok (.invokevirtual 239, 3) := by decide +kernel
theorem dX6_readVar_34 : decode cX6_readVar 34 = .ok (.aload_n 0, 1) := by decide +kernel
theorem dX6_readVar_35 : decode cX6_readVar 35 = .ok (.getfield 28, 3) := by decide +kernel
theorem dX6_readVar_38 : decode cX6_readVar 38 = .ok (.bipush 11, 2) := by decide +kernel
theorem dX6_readVar_4 : decode cX6_readVar 4 = .ok (.getfield 531, 3) := by decide +kernel
theorem dX6_readVar_40 : decode cX6_readVar 40 = .ok (.invokevirtual 184, 3) := by decide +kernel
theorem dX6_readVar_43 : decode cX6_readVar 43 = .ok (.aload_n 2, 1) := by decide +kernel
theorem dX6_readVar_44 : decode cX6_readVar 44 = .ok (.iconst 5, 1) := by decide +kernel
theorem dX6_readVar_45 : decode cX6_readVar 45 = .ok (.aload_n 0, 1) := by decide +kernel
theorem dX6_readVar_46 : decode cX6_readVar 46 = .ok (.iconst (-1), 1) := by decide +kernel
theorem dX6_readVar_47 : decode cX6_readVar 47 = .ok (.invokevirtual 120, 3) := by decide +kernel
theorem dX6_readVar_50 : decode cX6_readVar 50 = .ok (.iastore, 1) := by decide +kernel
theorem dX6_readVar_51 : decode cX6_readVar 51 = .ok (.aload_n 2, 1) := by decide +kernel
theorem dX6_readVar_52 : decode cX6_readVar 52 = .ok (.bipush 7, 2) := by decide +kernel
theorem dX6_readVar_54 : decode cX6_readVar 54 = .ok (.iload_n 3, 1) := by decide +kernel
theorem dX6_readVar_55 : decode cX6_readVar 55 = .ok (.iastore, 1) := by decide +kernel
theorem dX6_readVar_56 : decode cX6_readVar 56 = .ok (.aload_n 0, 1) := by decide +kernel
theorem dX6_readVar_57 : decode cX6_readVar 57 = .ok (.getfield 48, 3) := by decide +kernel
theorem dX6_readVar_60 : decode cX6_readVar 60 = .ok (.getfield 285, 3) := by decide +kernel
theorem dX6_readVar_63 : decode cX6_readVar 63 = .ok (.aload_n 0, 1) := by decide +kernel
theorem dX6_readVar_64 : decode cX6_readVar 64 = .ok (.getfield 134, 3) := by decide +kernel
theorem dX6_readVar_67 : decode cX6_readVar 67 = .ok (.dup2, 1) := by decide +kernel
theorem dX6_readVar_68 : decode cX6_readVar 68 = .ok (.iaload, 1) := by decide +kernel
theorem dX6_readVar_69 : decode cX6_readVar 69 = .ok (.iconst 1, 1) := by decide +kernel
theorem dX6_readVar_7 : decode cX6_readVar 7 = .ok (.iload_n 1, 1) := by decide +kernel
theorem dX6_readVar_70 : decode cX6_readVar 70 = .ok (.iadd, 1) := by decide +kernel
theorem dX6_readVar_71 : decode cX6_readVar 71 = .ok (.iastore, 1) := by decide +kernel
theorem dX6_readVar_72 : decode cX6_readVar 72 = .ok (.return_, 1) := by decide +kernel
theorem dX6_readVar_8 : decode cX6_readVar 8 = .ok (.aaload, 1) := by decide +kernel
theorem dX6_readVar_9 : decode cX6_readVar 9 = .ok (.astore_n 2, 1) := by decide +kernel
noncomputable def f_X6_readVar (x1 : Int32) (s : t_S) : Option (t_S) :=
 if t_ix x1 400 = true then
  (f_X6_takePlace s).bind (fun r2 =>
 if (0 : Int32) ≤ r2.1 then ((f_X6_readVarType (1 : Int32) (((r2.2.1 845 12) * (8 : Int32)) + r2.1) r2.2).bind (fun r3 =>
 (f_X2_need (11 : Int32) r3).bind (fun r4 =>
 (f_X6_readExp (-1 : Int32) r4).bind (fun r5 =>
 t_let (t_setI r5.2 (445 + 1 * (x1.toNatClampNeg)) ((5 : Int32).toNatClampNeg) r5.1) (fun s1 =>
 t_let (t_setI s1 (445 + 1 * (x1.toNatClampNeg)) ((7 : Int32).toNatClampNeg) r2.1) (fun s2 =>
 if t_ix (s2.1 845 12) 40 = true then
  t_let (t_setI s2 440 ((s2.1 845 12).toNatClampNeg) ((s2.1 440 ((s2.1 845 12).toNatClampNeg)) + (1 : Int32))) (fun s3 =>
 some (s3))
else none))))))
 else (some (r2.2)))
else none
set_option maxRecDepth 4000 in
set_option maxHeartbeats 1000000 in
theorem C_X6_readVar (x1 : Int32) (s : t_S) (r : t_S) (hr : f_X6_readVar x1 s = some r) : t_C yX6_readVar cX6_readVar 4 none 254 [.ref 845, .int x1] s (fun v s' => v = none ∧ s' = r) := by
  refine t_C.imp (P := fun v s' => v = none ∧ (fun q => q = r) (s')) (t_C.of (by decide +kernel) (Nat.le_of_ble_eq_true rfl) ?_) (fun v s' hp => hp)
  intro D cy ad bs X
  have hk : t_hk (f_X6_readVar x1 s) (fun q => q = r) := ⟨r, hr, rfl⟩
  show mj_G D cy ad bs X cX6_readVar 4 yX6_readVar.cls none yX6_readVar.name 254 0 0 1065 (t_P (fun v s' => v = none ∧ (fun q => q = r) (s'))) 0 [(0, .ref 845), (1, .int x1)] [] (t_m s) 1065 0 0
  refine mj_aload_n dX6_readVar_0 0 rfl ?_
  refine t_getR 428 dX6_readVar_1 F_X6_48 qr_845_4 ?_
  refine t_getR 444 dX6_readVar_4 F_X6_531 qr_428_17 ?_
  refine mj_iload_n dX6_readVar_7 1 rfl ?_
  refine t_chkK hk (fun c0 hk => ?_)
  refine t_aaldI dX6_readVar_8 qq_444 (t_ixv c0) ?_
  refine mj_astore_n 2 (lv2 := [(2, .ref (445 + 1 * (x1.toNatClampNeg))), (0, .ref 845), (1, .int x1)]) dX6_readVar_9 rfl (by decide) rfl ?_
  refine mj_aload_n dX6_readVar_10 1 rfl ?_
  refine t_bndK hk (fun r2 er2 hk => ?_)
  refine t_callViE dX6_readVar_11 M_X6_takePlace (C_X6_takePlace _ _ er2) ML_X6_279 IM_X6_takePlace SE_X6_takePlace qc_845 rfl (As := []) rfl rfl (Nat.le_of_ble_eq_true rfl) (Nat.le_of_ble_eq_true rfl) (Nat.le_of_ble_eq_true rfl) (Nat.le_of_ble_eq_true rfl) ?_
  refine mj_istore_n 3 (lv2 := [(3, .int r2.1), (2, .ref (445 + 1 * (x1.toNatClampNeg))), (0, .ref 845), (1, .int x1)]) dX6_readVar_14 rfl (by decide) rfl ?_
  refine mj_iload_n dX6_readVar_15 0 rfl ?_
  refine mj_if_ge 20 dX6_readVar_16 (by decide) (fun z => t_posK hk z (fun hk => ?_)) (fun z => t_negK hk z (fun hk => ?_))
  · refine mj_aload_n dX6_readVar_20 2 rfl ?_
    refine mj_iconst (v := 1) dX6_readVar_21 (by decide) ?_
    refine mj_aload_n dX6_readVar_22 2 rfl ?_
    refine t_getI dX6_readVar_23 F_X6_134 qf_845_12 ?_
    refine mj_bipush (v := 8) dX6_readVar_26 (by decide) ?_
    refine mj_imul dX6_readVar_28 ?_
    refine mj_iload_n dX6_readVar_29 0 rfl ?_
    refine mj_iadd dX6_readVar_30 ?_
    refine t_bndK hk (fun r3 er3 hk => ?_)
    refine t_callVvE dX6_readVar_31 M_X6_readVarType (C_X6_readVarType _ _ _ _ er3) ML_X6_239 IM_X6_readVarType SE_X6_readVarType qc_845 rfl (As := [.int 1, .int (((r2.2.1 845 12) * (8 : Int32)) + r2.1)]) rfl rfl (Nat.le_of_ble_eq_true rfl) (Nat.le_of_ble_eq_true rfl) (Nat.le_of_ble_eq_true rfl) (Nat.le_of_ble_eq_true rfl) ?_
    refine mj_aload_n dX6_readVar_34 2 rfl ?_
    refine t_getR 1 dX6_readVar_35 F_X6_28 qr_845_0 ?_
    refine mj_bipush (v := 11) dX6_readVar_38 (by decide) ?_
    refine t_bndK hk (fun r4 er4 hk => ?_)
    refine t_callVvE dX6_readVar_40 M_X2_need (C_X2_need _ _ _ er4) ML_X6_184 IM_X2_need SE_X2_need qc_1 rfl (As := [.int 11]) rfl rfl (Nat.le_of_ble_eq_true rfl) (Nat.le_of_ble_eq_true rfl) (Nat.le_of_ble_eq_true rfl) (Nat.le_of_ble_eq_true rfl) ?_
    refine mj_aload_n dX6_readVar_43 1 rfl ?_
    refine mj_iconst (v := 5) dX6_readVar_44 (by decide) ?_
    refine mj_aload_n dX6_readVar_45 2 rfl ?_
    refine mj_iconst (v := (-1)) dX6_readVar_46 (by decide) ?_
    refine t_bndK hk (fun r5 er5 hk => ?_)
    refine t_callViE dX6_readVar_47 M_X6_readExp (C_X6_readExp _ _ _ er5) ML_X6_120 IM_X6_readExp SE_X6_readExp qc_845 rfl (As := [.int (-1)]) rfl rfl (Nat.le_of_ble_eq_true rfl) (Nat.le_of_ble_eq_true rfl) (Nat.le_of_ble_eq_true rfl) (Nat.le_of_ble_eq_true rfl) ?_
    refine t_iastK dX6_readVar_50 (t_row445 (t_ixn c0)) (by unfold vp_in; decide) (fun s1 ws1 => t_letE hk ws1 (fun hk => ?_))
    refine mj_aload_n dX6_readVar_51 1 rfl ?_
    refine mj_bipush (v := 7) dX6_readVar_52 (by decide) ?_
    refine mj_iload_n dX6_readVar_54 0 rfl ?_
    refine t_iastK dX6_readVar_55 (t_row445 (t_ixn c0)) (by unfold vp_in; decide) (fun s2 ws2 => t_letE hk ws2 (fun hk => ?_))
    refine mj_aload_n dX6_readVar_56 2 rfl ?_
    refine t_getR 428 dX6_readVar_57 F_X6_48 qr_845_4 ?_
    refine t_getR 440 dX6_readVar_60 F_X6_285 qr_428_13 ?_
    refine mj_aload_n dX6_readVar_63 2 rfl ?_
    refine t_getI dX6_readVar_64 F_X6_134 qf_845_12 ?_
    refine mj_dup2 dX6_readVar_67 rfl rfl ?_
    refine t_chkK hk (fun c5 hk => ?_)
    refine t_iald dX6_readVar_68 qa_440 (t_ixv c5) ?_
    refine mj_iconst (v := 1) dX6_readVar_69 (by decide) ?_
    refine mj_iadd dX6_readVar_70 ?_
    refine t_iastK dX6_readVar_71 qa_440 (t_ixv c5) (fun s3 ws3 => t_letE hk ws3 (fun hk => ?_))
    exact t_somK hk (fun hf => t_vret dX6_readVar_72 rfl ⟨rfl, hf⟩ (Nat.le_of_ble_eq_true rfl) (Nat.le_of_ble_eq_true rfl))
  · exact t_somK hk (fun hf => t_vret dX6_readVar_19 rfl ⟨rfl, hf⟩ (Nat.le_of_ble_eq_true rfl) (Nat.le_of_ble_eq_true rfl))

