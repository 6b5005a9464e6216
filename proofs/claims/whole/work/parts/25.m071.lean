/-! Methods as functions, 71: X13_assignment, X13_finish, X13_judge, X13_goWrong -/
theorem qa_1044 : t_oka 1044 1 8 = true := by decide +kernel
theorem qa_1045 : t_oka 1045 1 8 = true := by decide +kernel
theorem qa_1049 : t_oka 1049 1 48 = true := by decide +kernel
theorem qa_1056 : t_oka 1056 3 64 = true := by decide +kernel
theorem qa_978 : t_oka 978 1 64 = true := by decide +kernel
theorem qr_950_159 : t_okr 950 13 159 1044 = true := by decide +kernel
theorem qr_950_160 : t_okr 950 13 160 1045 = true := by decide +kernel
theorem qr_950_164 : t_okr 950 13 164 1049 = true := by decide +kernel
theorem qr_950_173 : t_okr 950 13 173 1056 = true := by decide +kernel
theorem qr_950_53 : t_okr 950 13 53 978 = true := by decide +kernel
theorem dX13_assignment_0 : decode cX13_assignment 0 = .ok (.aload_n 0, 1) := by decide +kernel
theorem dX13_assignment_1 : decode cX13_assignment 1 = .ok (.getfield 126, 3) := by decide +kernel
theorem dX13_assignment_100 : decode cX13_assignment 100 = .ok (.invokevirtual 507, 3) := by decide +kernel
theorem dX13_assignment_103 : decode cX13_assignment 103 = .ok (.iload_n 3, 1) := by decide +kernel
theorem dX13_assignment_104 : decode cX13_assignment 104 = .ok (.ifCond .eq 22, 3) := by decide +kernel
theorem dX13_assignment_107 : decode cX13_assignment 107 = .ok (.aload_n 0, 1) := by decide +kernel
theorem dX13_assignment_108 : decode cX13_assignment 108 = .ok (.getfield 32, 3) := by decide +kernel
theorem dX13_assignment_11 : decode cX13_assignment 11 = .ok (.iload_n 1, 1) := by decide +kernel
theorem dX13_assignment_111 : decode cX13_assignment 111 = .ok (.iload 4, 2) := by decide +kernel
theorem dX13_assignment_113 : decode cX13_assignment 113 = .ok (.aload_n 0, 1) := by decide +kernel
theorem dX13_assignment_114 : decode cX13_assignment 114 = .ok (.invokevirtual 535, 3) := by decide +kernel
theorem dX13_assignment_117 : decode cX13_assignment 117 = .ok (.i2l, 1) := by decide +kernel
theorem dX13_assignment_118 : decode cX13_assignment 118 = .ok (.lastore, 1) := by decide +kernel
theorem dX13_assignment_119 : decode cX13_assignment 119 = .ok (.aload_n 0, 1) := by decide +kernel
theorem dX13_assignment_12 : decode cX13_assignment 12 = .ok (.aload_n 0, 1) := by decide +kernel
theorem dX13_assignment_120 : decode cX13_assignment 120 = .ok (.invokevirtual 452, 3) := by decide +kernel
theorem dX13_assignment_123 : decode cX13_assignment 123 = .ok (.goto 20, 3) := by decide +kernel
theorem dX13_assignment_126 : decode cX13_assignment 126 = .ok (.aload_n 0, 1) := by decide +kernel
theorem dX13_assignment_127 : decode cX13_assignment 127 = .ok (.getfield 39, 3) := by decide +kernel
theorem dX13_assignment_13 : decode cX13_assignment 13 = .ok (.invokevirtual 468, 3) := by decide +kernel
theorem dX13_assignment_130 : decode cX13_assignment 130 = .ok (.iload 4, 2) := by decide +kernel
theorem dX13_assignment_132 : decode cX13_assignment 132 = .ok (.aload_n 0, 1) := by decide +kernel
theorem dX13_assignment_133 : decode cX13_assignment 133 = .ok (.invokestatic 581, 3) := by decide +kernel
theorem dX13_assignment_136 : decode cX13_assignment 136 = .ok (.iastore, 1) := by decide +kernel
theorem dX13_assignment_137 : decode cX13_assignment 137 = .ok (.aload_n 0, 1) := by decide +kernel
theorem dX13_assignment_138 : decode cX13_assignment 138 = .ok (.bipush 93, 2) := by decide +kernel
theorem dX13_assignment_140 : decode cX13_assignment 140 = .ok (.invokevirtual 528, 3) := by decide +kernel
theorem dX13_assignment_143 : decode cX13_assignment 143 = .ok (.goto (-101), 3) := by decide +kernel
theorem dX13_assignment_146 : decode cX13_assignment 146 = .ok (.aload_n 0, 1) := by decide +kernel
theorem dX13_assignment_147 : decode cX13_assignment 147 = .ok (.getfield 150, 3) := by decide +kernel
theorem dX13_assignment_150 : decode cX13_assignment 150 = .ok (.iload_n 1, 1) := by decide +kernel
theorem dX13_assignment_151 : decode cX13_assignment 151 = .ok (.iload_n 2, 1) := by decide +kernel
theorem dX13_assignment_152 : decode cX13_assignment 152 = .ok (.iastore, 1) := by decide +kernel
theorem dX13_assignment_153 : decode cX13_assignment 153 = .ok (.aload_n 0, 1) := by decide +kernel
theorem dX13_assignment_154 : decode cX13_assignment 154 = .ok (.sipush 14909, 3) := by decide +kernel
theorem dX13_assignment_157 : decode cX13_assignment 157 = .ok (.invokevirtual 528, 3) := by decide +kernel
theorem dX13_assignment_16 : decode cX13_assignment 16 = .ok (.iastore, 1) := by decide +kernel
theorem dX13_assignment_160 : decode cX13_assignment 160 = .ok (.aload_n 0, 1) := by decide +kernel
theorem dX13_assignment_161 : decode cX13_assignment 161 = .ok (.getfield 147, 3) := by decide +kernel
theorem dX13_assignment_164 : decode cX13_assignment 164 = .ok (.iload_n 1, 1) := by decide +kernel
theorem dX13_assignment_165 : decode cX13_assignment 165 = .ok (.aload_n 0, 1) := by decide +kernel
theorem dX13_assignment_166 : decode cX13_assignment 166 = .ok (.invokestatic 581, 3) := by decide +kernel
theorem dX13_assignment_169 : decode cX13_assignment 169 = .ok (.iastore, 1) := by decide +kernel
theorem dX13_assignment_17 : decode cX13_assignment 17 = .ok (.aload_n 0, 1) := by decide +kernel
theorem dX13_assignment_170 : decode cX13_assignment 170 = .ok (.aload_n 0, 1) := by decide +kernel
theorem dX13_assignment_171 : decode cX13_assignment 171 = .ok (.bipush 59, 2) := by decide +kernel
theorem dX13_assignment_173 : decode cX13_assignment 173 = .ok (.invokevirtual 528, 3) := by decide +kernel
theorem dX13_assignment_176 : decode cX13_assignment 176 = .ok (.return_, 1) := by decide +kernel
theorem dX13_assignment_18 : decode cX13_assignment 18 = .ok (.invokevirtual 452, 3) := by decide +kernel
theorem dX13_assignment_21 : decode cX13_assignment 21 = .ok (.aload_n 0, 1) := by decide +kernel
theorem dX13_assignment_22 : decode cX13_assignment 22 = .ok (.bipush 58, 2) := by decide +kernel
theorem dX13_assignment_24 : decode cX13_assignment 24 = .ok (.iconst 0, 1) := by decide +kernel
theorem dX13_assignment_25 : decode cX13_assignment 25 = .ok (.invokevirtual 510, 3) := by decide +kernel
theorem dX13_assignment_28 : decode cX13_assignment 28 = .ok (.istore_n 2, 1) := by decide +kernel
theorem dX13_assignment_29 : decode cX13_assignment 29 = .ok (.aload_n 0, 1) := by decide +kernel
theorem dX13_assignment_30 : decode cX13_assignment 30 = .ok (.getfield 32, 3) := by decide +kernel
theorem dX13_assignment_33 : decode cX13_assignment 33 = .ok (.iload_n 2, 1) := by decide +kernel
theorem dX13_assignment_34 : decode cX13_assignment 34 = .ok (.aload_n 0, 1) := by decide +kernel
theorem dX13_assignment_35 : decode cX13_assignment 35 = .ok (.getfield 135, 3) := by decide +kernel
theorem dX13_assignment_38 : decode cX13_assignment 38 = .ok (.iload_n 1, 1) := by decide +kernel
theorem dX13_assignment_39 : decode cX13_assignment 39 = .ok (.iaload, 1) := by decide +kernel
theorem dX13_assignment_4 : decode cX13_assignment 4 = .ok (.iload_n 1, 1) := by decide +kernel
theorem dX13_assignment_40 : decode cX13_assignment 40 = .ok (.i2l, 1) := by decide +kernel
theorem dX13_assignment_41 : decode cX13_assignment 41 = .ok (.lastore, 1) := by decide +kernel
theorem dX13_assignment_42 : decode cX13_assignment 42 = .ok (.aload_n 0, 1) := by decide +kernel
theorem dX13_assignment_43 : decode cX13_assignment 43 = .ok (.getfield 375, 3) := by decide +kernel
theorem dX13_assignment_46 : decode cX13_assignment 46 = .ok (.ifCond .ne 100, 3) := by decide +kernel
theorem dX13_assignment_49 : decode cX13_assignment 49 = .ok (.aload_n 0, 1) := by decide +kernel
theorem dX13_assignment_5 : decode cX13_assignment 5 = .ok (.iconst 2, 1) := by decide +kernel
theorem dX13_assignment_50 : decode cX13_assignment 50 = .ok (.bipush 46, 2) := by decide +kernel
theorem dX13_assignment_52 : decode cX13_assignment 52 = .ok (.invokevirtual 449, 3) := by decide +kernel
theorem dX13_assignment_55 : decode cX13_assignment 55 = .ok (.ifCond .ne 12, 3) := by decide +kernel
theorem dX13_assignment_58 : decode cX13_assignment 58 = .ok (.aload_n 0, 1) := by decide +kernel
theorem dX13_assignment_59 : decode cX13_assignment 59 = .ok (.bipush 91, 2) := by decide +kernel
theorem dX13_assignment_6 : decode cX13_assignment 6 = .ok (.iastore, 1) := by decide +kernel
theorem dX13_assignment_61 : decode cX13_assignment 61 = .ok (.invokevirtual 449, 3) := by decide +kernel
theorem dX13_assignment_64 : decode cX13_assignment 64 = .ok (.ifCond .eq 82, 3) := by decide +kernel
theorem dX13_assignment_67 : decode cX13_assignment 67 = .ok (.aload_n 0, 1) := by decide +kernel
theorem dX13_assignment_68 : decode cX13_assignment 68 = .ok (.bipush 46, 2) := by decide +kernel
theorem dX13_assignment_7 : decode cX13_assignment 7 = .ok (.aload_n 0, 1) := by decide +kernel
theorem dX13_assignment_70 : decode cX13_assignment 70 = .ok (.invokevirtual 449, 3) := by decide +kernel
theorem dX13_assignment_73 : decode cX13_assignment 73 = .ok (.istore_n 3, 1) := by decide +kernel
theorem dX13_assignment_74 : decode cX13_assignment 74 = .ok (.aload_n 0, 1) := by decide +kernel
theorem dX13_assignment_75 : decode cX13_assignment 75 = .ok (.iload_n 3, 1) := by decide +kernel
theorem dX13_assignment_76 : decode cX13_assignment 76 = .ok (.ifCond .eq 8, 3) := by decide +kernel
theorem dX13_assignment_79 : decode cX13_assignment 79 = .ok (.bipush 68, 2) := by decide +kernel
theorem dX13_assignment_8 : decode cX13_assignment 8 = .ok (.getfield 135, 3) := by decide +kernel
theorem dX13_assignment_81 : decode cX13_assignment 81 = .ok (.goto 5, 3) := by decide +kernel
theorem dX13_assignment_84 : decode cX13_assignment 84 = .ok (.bipush 69, 2) := by decide +kernel
theorem dX13_assignment_86 : decode cX13_assignment 86 = .ok (.iconst 1, 1) := by decide +kernel
theorem dX13_assignment_87 : decode cX13_assignment 87 = .ok (.invokevirtual 510, 3) := by decide +kernel
theorem dX13_assignment_90 : decode cX13_assignment 90 = .ok (.istore 4, 2) := by decide +kernel
theorem dX13_assignment_92 : decode cX13_assignment 92 = .ok (.aload_n 0, 1) := by decide +kernel
theorem dX13_assignment_93 : decode cX13_assignment 93 = .ok (.invokevirtual 452, 3) := by decide +kernel
theorem dX13_assignment_96 : decode cX13_assignment 96 = .ok (.aload_n 0, 1) := by decide +kernel
theorem dX13_assignment_97 : decode cX13_assignment 97 = .ok (.iload_n 2, 1) := by decide +kernel
theorem dX13_assignment_98 : decode cX13_assignment 98 = .ok (.iload 4, 2) := by decide +kernel
noncomputable def k_X13_assignment_146 (l1 : Int32) (l2 : Int32) (s : t_S) : Option (t_S) :=
 if t_ix l1 401 = true then
  t_let (t_setI s 996 (l1.toNatClampNeg) l2) (fun s1 =>
 (f_X13_mustBe (14909 : Int32) s1).bind (fun r2 =>
 (f_X13_exp r2).bind (fun r3 =>
 t_let (t_setI r3.2 995 (l1.toNatClampNeg) r3.1) (fun s2 =>
 (f_X13_mustBe (59 : Int32) s2).bind (fun r4 =>
 some (r4))))))
else none
set_option maxRecDepth 4000 in
set_option maxHeartbeats 1000000 in
theorem B_X13_assignment_146 {D : va_G} {cy : Nat → ClassId} {ad : Nat → Nat} {bs : Nat} {X : State → Heap → Prop} (l1 : Int32) (l2 : Int32) (s : t_S) (Q : t_S → Prop) (hk : t_hk (k_X13_assignment_146 l1 l2 s) Q) : mj_G D cy ad bs X cX13_assignment 5 yX13_assignment.cls none yX13_assignment.name 309 0 0 1065 (t_P (fun v s' => v = none ∧ Q (s'))) 146 [(0, .ref 950), (1, .int l1), (2, .int l2)] [] (t_m s) 1065 0 0 := by
  refine mj_aload_n dX13_assignment_146 0 rfl ?_
  refine t_getR 996 dX13_assignment_147 F_X13_150 qr_950_74 ?_
  refine mj_iload_n dX13_assignment_150 1 rfl ?_
  refine mj_iload_n dX13_assignment_151 2 rfl ?_
  refine t_chkK hk (fun c0 hk => ?_)
  refine t_iastK dX13_assignment_152 qa_996 (t_ixv c0) (fun s1 ws1 => t_letE hk ws1 (fun hk => ?_))
  refine mj_aload_n dX13_assignment_153 0 rfl ?_
  refine mj_sipush (v := 14909) dX13_assignment_154 (by decide) ?_
  refine t_bndK hk (fun r2 er2 hk => ?_)
  refine t_callVvE dX13_assignment_157 M_X13_mustBe (C_X13_mustBe _ _ _ er2) ML_X13_528 IM_X13_mustBe SE_X13_mustBe qc_950 rfl (As := [.int 14909]) rfl rfl (Nat.le_of_ble_eq_true rfl) (Nat.le_of_ble_eq_true rfl) (Nat.le_of_ble_eq_true rfl) (Nat.le_of_ble_eq_true rfl) ?_
  refine mj_aload_n dX13_assignment_160 0 rfl ?_
  refine t_getR 995 dX13_assignment_161 F_X13_147 qr_950_73 ?_
  refine mj_iload_n dX13_assignment_164 1 rfl ?_
  refine mj_aload_n dX13_assignment_165 0 rfl ?_
  refine t_bndK hk (fun r3 er3 hk => ?_)
  refine t_callSiE dX13_assignment_166 M_X13_exp (C_X13_exp _ _ er3) ML_X13_581 SM_X13_exp (As := [.ref 950]) rfl rfl (Nat.le_of_ble_eq_true rfl) (Nat.le_of_ble_eq_true rfl) (Nat.le_of_ble_eq_true rfl) (Nat.le_of_ble_eq_true rfl) ?_
  refine t_iastK dX13_assignment_169 qa_995 (t_ixv c0) (fun s2 ws2 => t_letE hk ws2 (fun hk => ?_))
  refine mj_aload_n dX13_assignment_170 0 rfl ?_
  refine mj_bipush (v := 59) dX13_assignment_171 (by decide) ?_
  refine t_bndK hk (fun r4 er4 hk => ?_)
  refine t_callVvE dX13_assignment_173 M_X13_mustBe (C_X13_mustBe _ _ _ er4) ML_X13_528 IM_X13_mustBe SE_X13_mustBe qc_950 rfl (As := [.int 59]) rfl rfl (Nat.le_of_ble_eq_true rfl) (Nat.le_of_ble_eq_true rfl) (Nat.le_of_ble_eq_true rfl) (Nat.le_of_ble_eq_true rfl) ?_
  exact t_somK hk (fun hf => t_vret dX13_assignment_176 rfl ⟨rfl, hf⟩ (Nat.le_of_ble_eq_true rfl) (Nat.le_of_ble_eq_true rfl))
noncomputable def k_X13_assignment_86 (l1 : Int32) (l2 : Int32) (l3 : Int32) (k0 : Int32) (s : t_S) : Option ((Int32 × Int32 × t_S) ⊕ (t_S)) :=
 (f_X13_node k0 (1 : Int32) s).bind (fun r1 =>
 (f_X13_next r1.2).bind (fun r2 =>
 (f_X13_hang l2 r1.1 r2).bind (fun r3 =>
 if l3 = (0 : Int32) then ((f_X13_exp r3).bind (fun r4 =>
 if t_ix r1.1 13000 = true then
  t_let (t_setI r4.2 959 (r1.1.toNatClampNeg) r4.1) (fun s1 =>
 (f_X13_mustBe (93 : Int32) s1).bind (fun r6 =>
 some (.inl (l1, l2, r6))))
else none))
 else ((f_X13_freeName r3).bind (fun r7 =>
 if t_ix r1.1 13000 = true then
  t_let (t_setJ r7.2 957 (r1.1.toNatClampNeg) r7.1.toInt64) (fun s2 =>
 (f_X13_next s2).bind (fun r9 =>
 some (.inl (l1, l2, r9))))
else none)))))
set_option maxRecDepth 4000 in
set_option maxHeartbeats 1000000 in
theorem B_X13_assignment_86 {D : va_G} {cy : Nat → ClassId} {ad : Nat → Nat} {bs : Nat} {X : State → Heap → Prop} (l1 : Int32) (l2 : Int32) (l3 : Int32) (k0 : Int32) (s : t_S) (Q : (Int32 × Int32 × t_S) ⊕ (t_S) → Prop) (Hb42 : ∀ (y0 : Int32) (y1 : Int32) (y2 : t_S), Q (.inl (y0, y1, y2)) → mj_G D cy ad bs X cX13_assignment 5 yX13_assignment.cls none yX13_assignment.name 309 0 0 1065 (t_P (fun v s' => v = none ∧ Q (.inr (s')))) 42 [(0, .ref 950), (1, .int (y0)), (2, .int (y1))] [] (t_m y2) 1065 0 0) (hk : t_hk (k_X13_assignment_86 l1 l2 l3 k0 s) Q) : mj_G D cy ad bs X cX13_assignment 5 yX13_assignment.cls none yX13_assignment.name 309 0 0 1065 (t_P (fun v s' => v = none ∧ Q (.inr (s')))) 86 [(0, .ref 950), (1, .int l1), (2, .int l2), (3, .int l3)] [.int k0, .ref 950] (t_m s) 1065 0 0 := by
  refine mj_iconst (v := 1) dX13_assignment_86 (by decide) ?_
  refine t_bndK hk (fun r1 er1 hk => ?_)
  refine t_callViE dX13_assignment_87 M_X13_node (C_X13_node _ _ _ _ er1) ML_X13_510 IM_X13_node SE_X13_node qc_950 rfl (As := [.int k0, .int 1]) rfl rfl (Nat.le_of_ble_eq_true rfl) (Nat.le_of_ble_eq_true rfl) (Nat.le_of_ble_eq_true rfl) (Nat.le_of_ble_eq_true rfl) ?_
  refine mj_istore (lv2 := [(4, .int r1.1), (0, .ref 950), (1, .int l1), (2, .int l2), (3, .int l3)]) dX13_assignment_90 (by decide) rfl ?_
  refine mj_aload_n dX13_assignment_92 1 rfl ?_
  refine t_bndK hk (fun r2 er2 hk => ?_)
  refine t_callVvE dX13_assignment_93 M_X13_next (C_X13_next _ _ er2) ML_X13_452 IM_X13_next SE_X13_next qc_950 rfl (As := []) rfl rfl (Nat.le_of_ble_eq_true rfl) (Nat.le_of_ble_eq_true rfl) (Nat.le_of_ble_eq_true rfl) (Nat.le_of_ble_eq_true rfl) ?_
  refine mj_aload_n dX13_assignment_96 1 rfl ?_
  refine mj_iload_n dX13_assignment_97 3 rfl ?_
  refine mj_iload dX13_assignment_98 0 rfl ?_
  refine t_bndK hk (fun r3 er3 hk => ?_)
  refine t_callVvE dX13_assignment_100 M_X13_hang (C_X13_hang _ _ _ _ er3) ML_X13_507 IM_X13_hang SE_X13_hang qc_950 rfl (As := [.int l2, .int r1.1]) rfl rfl (Nat.le_of_ble_eq_true rfl) (Nat.le_of_ble_eq_true rfl) (Nat.le_of_ble_eq_true rfl) (Nat.le_of_ble_eq_true rfl) ?_
  refine mj_iload_n dX13_assignment_103 4 rfl ?_
  refine mj_if_eq 126 dX13_assignment_104 (by decide) (fun z => t_posK hk z (fun hk => ?_)) (fun z => t_negK hk z (fun hk => ?_))
  · refine mj_aload_n dX13_assignment_126 1 rfl ?_
    refine t_getR 959 dX13_assignment_127 F_X13_39 qr_950_21 ?_
    refine mj_iload dX13_assignment_130 0 rfl ?_
    refine mj_aload_n dX13_assignment_132 1 rfl ?_
    refine t_bndK hk (fun r4 er4 hk => ?_)
    refine t_callSiE dX13_assignment_133 M_X13_exp (C_X13_exp _ _ er4) ML_X13_581 SM_X13_exp (As := [.ref 950]) rfl rfl (Nat.le_of_ble_eq_true rfl) (Nat.le_of_ble_eq_true rfl) (Nat.le_of_ble_eq_true rfl) (Nat.le_of_ble_eq_true rfl) ?_
    refine t_chkK hk (fun c4 hk => ?_)
    refine t_iastK dX13_assignment_136 qa_959 (t_ixv c4) (fun s1 ws1 => t_letE hk ws1 (fun hk => ?_))
    refine mj_aload_n dX13_assignment_137 1 rfl ?_
    refine mj_bipush (v := 93) dX13_assignment_138 (by decide) ?_
    refine t_bndK hk (fun r6 er6 hk => ?_)
    refine t_callVvE dX13_assignment_140 M_X13_mustBe (C_X13_mustBe _ _ _ er6) ML_X13_528 IM_X13_mustBe SE_X13_mustBe qc_950 rfl (As := [.int 93]) rfl rfl (Nat.le_of_ble_eq_true rfl) (Nat.le_of_ble_eq_true rfl) (Nat.le_of_ble_eq_true rfl) (Nat.le_of_ble_eq_true rfl) ?_
    refine mj_goto 42 dX13_assignment_143 (by decide) ?_
    refine mj_sublv [(0, .ref 950), (1, .int l1), (2, .int l2)] [1, 2, 3] rfl ?_
    exact t_somK hk (fun hf => Hb42 l1 l2 r6 hf)
  · refine mj_aload_n dX13_assignment_107 1 rfl ?_
    refine t_getR 957 dX13_assignment_108 F_X13_32 qr_950_19 ?_
    refine mj_iload dX13_assignment_111 0 rfl ?_
    refine mj_aload_n dX13_assignment_113 1 rfl ?_
    refine t_bndK hk (fun r7 er7 hk => ?_)
    refine t_callViE dX13_assignment_114 M_X13_freeName (C_X13_freeName _ _ er7) ML_X13_535 IM_X13_freeName SE_X13_freeName qc_950 rfl (As := []) rfl rfl (Nat.le_of_ble_eq_true rfl) (Nat.le_of_ble_eq_true rfl) (Nat.le_of_ble_eq_true rfl) (Nat.le_of_ble_eq_true rfl) ?_
    refine mj_i2l (v := r7.1.toInt64) dX13_assignment_117 rfl ?_
    refine t_chkK hk (fun c7 hk => ?_)
    refine t_lastK dX13_assignment_118 qa_957 (t_ixv c7) (fun s2 ws2 => t_letE hk ws2 (fun hk => ?_))
    refine mj_aload_n dX13_assignment_119 1 rfl ?_
    refine t_bndK hk (fun r9 er9 hk => ?_)
    refine t_callVvE dX13_assignment_120 M_X13_next (C_X13_next _ _ er9) ML_X13_452 IM_X13_next SE_X13_next qc_950 rfl (As := []) rfl rfl (Nat.le_of_ble_eq_true rfl) (Nat.le_of_ble_eq_true rfl) (Nat.le_of_ble_eq_true rfl) (Nat.le_of_ble_eq_true rfl) ?_
    refine mj_goto 143 dX13_assignment_123 (by decide) ?_
    refine mj_goto 42 dX13_assignment_143 (by decide) ?_
    refine mj_sublv [(0, .ref 950), (1, .int l1), (2, .int l2)] [1, 2, 3] rfl ?_
    exact t_somK hk (fun hf => Hb42 l1 l2 r9 hf)
noncomputable def k_X13_assignment_67 (l1 : Int32) (l2 : Int32) (s : t_S) : Option ((Int32 × Int32 × t_S) ⊕ (t_S)) :=
 if (f_X13_is (46 : Int32) s) = (0 : Int32) then (k_X13_assignment_86 l1 l2 (f_X13_is (46 : Int32) s) 69 s)
 else (k_X13_assignment_86 l1 l2 (f_X13_is (46 : Int32) s) 68 s)
set_option maxRecDepth 4000 in
set_option maxHeartbeats 1000000 in
theorem B_X13_assignment_67 {D : va_G} {cy : Nat → ClassId} {ad : Nat → Nat} {bs : Nat} {X : State → Heap → Prop} (l1 : Int32) (l2 : Int32) (s : t_S) (Q : (Int32 × Int32 × t_S) ⊕ (t_S) → Prop) (Hb42 : ∀ (y0 : Int32) (y1 : Int32) (y2 : t_S), Q (.inl (y0, y1, y2)) → mj_G D cy ad bs X cX13_assignment 5 yX13_assignment.cls none yX13_assignment.name 309 0 0 1065 (t_P (fun v s' => v = none ∧ Q (.inr (s')))) 42 [(0, .ref 950), (1, .int (y0)), (2, .int (y1))] [] (t_m y2) 1065 0 0) (hk : t_hk (k_X13_assignment_67 l1 l2 s) Q) : mj_G D cy ad bs X cX13_assignment 5 yX13_assignment.cls none yX13_assignment.name 309 0 0 1065 (t_P (fun v s' => v = none ∧ Q (.inr (s')))) 67 [(0, .ref 950), (1, .int l1), (2, .int l2)] [] (t_m s) 1065 0 0 := by
  refine mj_aload_n dX13_assignment_67 0 rfl ?_
  refine mj_bipush (v := 46) dX13_assignment_68 (by decide) ?_
  refine t_callViP dX13_assignment_70 M_X13_is (C_X13_is _ _) ML_X13_449 IM_X13_is SE_X13_is qc_950 rfl (As := [.int 46]) rfl rfl (Nat.le_of_ble_eq_true rfl) (Nat.le_of_ble_eq_true rfl) (Nat.le_of_ble_eq_true rfl) (Nat.le_of_ble_eq_true rfl) ?_
  refine mj_istore_n 3 (lv2 := [(3, .int (f_X13_is (46 : Int32) s)), (0, .ref 950), (1, .int l1), (2, .int l2)]) dX13_assignment_73 rfl (by decide) rfl ?_
  refine mj_aload_n dX13_assignment_74 1 rfl ?_
  refine mj_iload_n dX13_assignment_75 0 rfl ?_
  refine mj_if_eq 84 dX13_assignment_76 (by decide) (fun z => t_posK hk z (fun hk => ?_)) (fun z => t_negK hk z (fun hk => ?_))
  · refine mj_bipush (v := 69) dX13_assignment_84 (by decide) ?_
    refine mj_sublv [(0, .ref 950), (1, .int l1), (2, .int l2), (3, .int (f_X13_is (46 : Int32) s))] [1, 2, 3, 0] rfl ?_
    exact B_X13_assignment_86 _ _ _ _ _ _ (fun y0 y1 y2 hx => Hb42 y0 y1 y2 hx) hk
  · refine mj_bipush (v := 68) dX13_assignment_79 (by decide) ?_
    refine mj_goto 86 dX13_assignment_81 (by decide) ?_
    refine mj_sublv [(0, .ref 950), (1, .int l1), (2, .int l2), (3, .int (f_X13_is (46 : Int32) s))] [1, 2, 3, 0] rfl ?_
    exact B_X13_assignment_86 _ _ _ _ _ _ (fun y0 y1 y2 hx => Hb42 y0 y1 y2 hx) hk
noncomputable def k_X13_assignment_42 (l1 : Int32) (l2 : Int32) (s : t_S) : Option ((Int32 × Int32 × t_S) ⊕ (t_S)) :=
 if (s.1 950 2) = (0 : Int32) then (if (f_X13_is (46 : Int32) s) = (0 : Int32) then (if (f_X13_is (91 : Int32) s) = (0 : Int32) then ((k_X13_assignment_146 l1 l2 s).map Sum.inr)
 else (k_X13_assignment_67 l1 l2 s))
 else (k_X13_assignment_67 l1 l2 s))
 else ((k_X13_assignment_146 l1 l2 s).map Sum.inr)
set_option maxRecDepth 4000 in
set_option maxHeartbeats 1000000 in
theorem B_X13_assignment_42 {D : va_G} {cy : Nat → ClassId} {ad : Nat → Nat} {bs : Nat} {X : State → Heap → Prop} (l1 : Int32) (l2 : Int32) (s : t_S) (Q : (Int32 × Int32 × t_S) ⊕ (t_S) → Prop) (Hb42 : ∀ (y0 : Int32) (y1 : Int32) (y2 : t_S), Q (.inl (y0, y1, y2)) → mj_G D cy ad bs X cX13_assignment 5 yX13_assignment.cls none yX13_assignment.name 309 0 0 1065 (t_P (fun v s' => v = none ∧ Q (.inr (s')))) 42 [(0, .ref 950), (1, .int (y0)), (2, .int (y1))] [] (t_m y2) 1065 0 0) (hk : t_hk (k_X13_assignment_42 l1 l2 s) Q) : mj_G D cy ad bs X cX13_assignment 5 yX13_assignment.cls none yX13_assignment.name 309 0 0 1065 (t_P (fun v s' => v = none ∧ Q (.inr (s')))) 42 [(0, .ref 950), (1, .int l1), (2, .int l2)] [] (t_m s) 1065 0 0 := by
  refine mj_aload_n dX13_assignment_42 0 rfl ?_
  refine t_getI dX13_assignment_43 F_X13_375 qf_950_2 ?_
  refine mj_if_ne 146 dX13_assignment_46 (by decide) (fun z => t_negK hk z (fun hk => ?_)) (fun z => t_posK hk z (fun hk => ?_))
  · refine t_mapK hk (fun hk => ?_)
    exact B_X13_assignment_146 _ _ _ _ hk
  · refine mj_aload_n dX13_assignment_49 0 rfl ?_
    refine mj_bipush (v := 46) dX13_assignment_50 (by decide) ?_
    refine t_callViP dX13_assignment_52 M_X13_is (C_X13_is _ _) ML_X13_449 IM_X13_is SE_X13_is qc_950 rfl (As := [.int 46]) rfl rfl (Nat.le_of_ble_eq_true rfl) (Nat.le_of_ble_eq_true rfl) (Nat.le_of_ble_eq_true rfl) (Nat.le_of_ble_eq_true rfl) ?_
    refine mj_if_ne 67 dX13_assignment_55 (by decide) (fun z => t_negK hk z (fun hk => ?_)) (fun z => t_posK hk z (fun hk => ?_))
    · exact B_X13_assignment_67 _ _ _ _ (fun y0 y1 y2 hx => Hb42 y0 y1 y2 hx) hk
    · refine mj_aload_n dX13_assignment_58 0 rfl ?_
      refine mj_bipush (v := 91) dX13_assignment_59 (by decide) ?_
      refine t_callViP dX13_assignment_61 M_X13_is (C_X13_is _ _) ML_X13_449 IM_X13_is SE_X13_is qc_950 rfl (As := [.int 91]) rfl rfl (Nat.le_of_ble_eq_true rfl) (Nat.le_of_ble_eq_true rfl) (Nat.le_of_ble_eq_true rfl) (Nat.le_of_ble_eq_true rfl) ?_
      refine mj_if_eq 146 dX13_assignment_64 (by decide) (fun z => t_posK hk z (fun hk => ?_)) (fun z => t_negK hk z (fun hk => ?_))
      · refine t_mapK hk (fun hk => ?_)
        exact B_X13_assignment_146 _ _ _ _ hk
      · exact B_X13_assignment_67 _ _ _ _ (fun y0 y1 y2 hx => Hb42 y0 y1 y2 hx) hk
noncomputable def b_X13_assignment_42 (x : Int32 × Int32 × t_S) : Option ((Int32 × Int32 × t_S) ⊕ (t_S)) := k_X13_assignment_42 x.1 x.2.1 x.2.2
set_option maxRecDepth 4000 in
set_option maxHeartbeats 1000000 in
theorem LH_X13_assignment_42 {D : va_G} {cy : Nat → ClassId} {ad : Nat → Nat} {bs : Nat} {X : State → Heap → Prop} : ∀ (n : Nat) (y0 : Int32) (y1 : Int32) (y2 : t_S) (Q : t_S → Prop) (hk : t_hk (t_loop (b_X13_assignment_42) n (y0, y1, y2)) Q), mj_G D cy ad bs X cX13_assignment 5 yX13_assignment.cls none yX13_assignment.name 309 0 0 1065 (t_P (fun v s' => v = none ∧ Q (s'))) 42 [(0, .ref 950), (1, .int (y0)), (2, .int (y1))] [] (t_m y2) 1065 0 0 := by
  intro n
  induction n with
  | zero => intro y0 y1 y2 Q hk; obtain ⟨r, hr, _⟩ := hk; cases hr
  | succ n ih =>
    intro y0 y1 y2 Q hk
    exact B_X13_assignment_42 y0 y1 y2 (fun y => t_lq (b_X13_assignment_42) n Q y) (fun y0' y1' y2' hy => ih y0' y1' y2' Q hy) (t_lp (b := b_X13_assignment_42) (n := n) (x := (y0, y1, y2)) hk)
noncomputable def f_X13_assignment (x1 : Int32) (s : t_S) : Option (t_S) :=
 if t_ix x1 401 = true then
  t_let (t_setI s 988 (x1.toNatClampNeg) (2 : Int32)) (fun s1 =>
 (f_X13_name s1).bind (fun r2 =>
 t_let (t_setI r2.2 991 (x1.toNatClampNeg) r2.1) (fun s2 =>
 (f_X13_next s2).bind (fun r3 =>
 (f_X13_node (58 : Int32) (0 : Int32) r3).bind (fun r4 =>
 if t_ix r4.1 13000 = true then
  t_let (t_setJ r4.2 957 (r4.1.toNatClampNeg) ((r4.2.1 991 (x1.toNatClampNeg)).toInt64)) (fun s3 =>
 t_loop (b_X13_assignment_42) t_N (x1, r4.1, s3))
else none)))))
else none
set_option maxRecDepth 4000 in
set_option maxHeartbeats 1000000 in
theorem C_X13_assignment (x1 : Int32) (s : t_S) (r : t_S) (hr : f_X13_assignment x1 s = some r) : t_C yX13_assignment cX13_assignment 5 none 309 [.ref 950, .int x1] s (fun v s' => v = none ∧ s' = r) := by
  refine t_C.imp (P := fun v s' => v = none ∧ (fun q => q = r) (s')) (t_C.of (by decide +kernel) (Nat.le_of_ble_eq_true rfl) ?_) (fun v s' hp => hp)
  intro D cy ad bs X
  have hk : t_hk (f_X13_assignment x1 s) (fun q => q = r) := ⟨r, hr, rfl⟩
  show mj_G D cy ad bs X cX13_assignment 5 yX13_assignment.cls none yX13_assignment.name 309 0 0 1065 (t_P (fun v s' => v = none ∧ (fun q => q = r) (s'))) 0 [(0, .ref 950), (1, .int x1)] [] (t_m s) 1065 0 0
  refine mj_aload_n dX13_assignment_0 0 rfl ?_
  refine t_getR 988 dX13_assignment_1 F_X13_126 qr_950_66 ?_
  refine mj_iload_n dX13_assignment_4 1 rfl ?_
  refine mj_iconst (v := 2) dX13_assignment_5 (by decide) ?_
  refine t_chkK hk (fun c0 hk => ?_)
  refine t_iastK dX13_assignment_6 qa_988 (t_ixv c0) (fun s1 ws1 => t_letE hk ws1 (fun hk => ?_))
  refine mj_aload_n dX13_assignment_7 0 rfl ?_
  refine t_getR 991 dX13_assignment_8 F_X13_135 qr_950_69 ?_
  refine mj_iload_n dX13_assignment_11 1 rfl ?_
  refine mj_aload_n dX13_assignment_12 0 rfl ?_
  refine t_bndK hk (fun r2 er2 hk => ?_)
  refine t_callViE dX13_assignment_13 M_X13_name (C_X13_name _ _ er2) ML_X13_468 IM_X13_name SE_X13_name qc_950 rfl (As := []) rfl rfl (Nat.le_of_ble_eq_true rfl) (Nat.le_of_ble_eq_true rfl) (Nat.le_of_ble_eq_true rfl) (Nat.le_of_ble_eq_true rfl) ?_
  refine t_iastK dX13_assignment_16 qa_991 (t_ixv c0) (fun s2 ws2 => t_letE hk ws2 (fun hk => ?_))
  refine mj_aload_n dX13_assignment_17 0 rfl ?_
  refine t_bndK hk (fun r3 er3 hk => ?_)
  refine t_callVvE dX13_assignment_18 M_X13_next (C_X13_next _ _ er3) ML_X13_452 IM_X13_next SE_X13_next qc_950 rfl (As := []) rfl rfl (Nat.le_of_ble_eq_true rfl) (Nat.le_of_ble_eq_true rfl) (Nat.le_of_ble_eq_true rfl) (Nat.le_of_ble_eq_true rfl) ?_
  refine mj_aload_n dX13_assignment_21 0 rfl ?_
  refine mj_bipush (v := 58) dX13_assignment_22 (by decide) ?_
  refine mj_iconst (v := 0) dX13_assignment_24 (by decide) ?_
  refine t_bndK hk (fun r4 er4 hk => ?_)
  refine t_callViE dX13_assignment_25 M_X13_node (C_X13_node _ _ _ _ er4) ML_X13_510 IM_X13_node SE_X13_node qc_950 rfl (As := [.int 58, .int 0]) rfl rfl (Nat.le_of_ble_eq_true rfl) (Nat.le_of_ble_eq_true rfl) (Nat.le_of_ble_eq_true rfl) (Nat.le_of_ble_eq_true rfl) ?_
  refine mj_istore_n 2 (lv2 := [(2, .int r4.1), (0, .ref 950), (1, .int x1)]) dX13_assignment_28 rfl (by decide) rfl ?_
  refine mj_aload_n dX13_assignment_29 1 rfl ?_
  refine t_getR 957 dX13_assignment_30 F_X13_32 qr_950_19 ?_
  refine mj_iload_n dX13_assignment_33 0 rfl ?_
  refine mj_aload_n dX13_assignment_34 1 rfl ?_
  refine t_getR 991 dX13_assignment_35 F_X13_135 qr_950_69 ?_
  refine mj_iload_n dX13_assignment_38 2 rfl ?_
  refine t_iald dX13_assignment_39 qa_991 (t_ixv c0) ?_
  refine mj_i2l (v := (r4.2.1 991 (x1.toNatClampNeg)).toInt64) dX13_assignment_40 rfl ?_
  refine t_chkK hk (fun c4 hk => ?_)
  refine t_lastK dX13_assignment_41 qa_957 (t_ixv c4) (fun s3 ws3 => t_letE hk ws3 (fun hk => ?_))
  refine mj_sublv [(0, .ref 950), (1, .int x1), (2, .int r4.1)] [1, 2, 0] rfl ?_
  exact LH_X13_assignment_42 _ x1 r4.1 s3 _ hk

theorem dX13_finish_0 : decode cX13_finish 0 = .ok (.aload_n 0, 1) := by decide +kernel
theorem dX13_finish_1 : decode cX13_finish 1 = .ok (.getfield 276, 3) := by decide +kernel
theorem dX13_finish_10 : decode cX13_finish 10 = .ok (.aload_n 0, 1) := by decide +kernel
theorem dX13_finish_11 : decode cX13_finish 11 = .ok (.getfield 276, 3) := by decide +kernel
theorem dX13_finish_14 : decode cX13_finish 14 = .ok (.iload_n 1, 1) := by decide +kernel
theorem dX13_finish_15 : decode cX13_finish 15 = .ok (.iconst 2, 1) := by decide +kernel
theorem dX13_finish_16 : decode cX13_finish 16 = .ok (.iastore, 1) := by decide +kernel
theorem dX13_finish_17 : decode cX13_finish 17 = .ok (.aload_n 0, 1) := by decide +kernel
theorem dX13_finish_18 : decode cX13_finish 18 = .ok (.getfield 282, 3) := by decide +kernel
theorem dX13_finish_21 : decode cX13_finish 21 = .ok (.iload_n 1, 1) := by decide +kernel
theorem dX13_finish_22 : decode cX13_finish 22 = .ok (.iconst 0, 1) := by decide +kernel
theorem dX13_finish_23 : decode cX13_finish 23 = .ok (.iastore, 1) := by decide +kernel
theorem dX13_finish_24 : decode cX13_finish 24 = .ok (.aload_n 0, 1) := by decide +kernel
theorem dX13_finish_25 : decode cX13_finish 25 = .ok (.getfield 294, 3) := by decide +kernel
theorem dX13_finish_28 : decode cX13_finish 28 = .ok (.iload_n 1, 1) := by decide +kernel
theorem dX13_finish_29 : decode cX13_finish 29 = .ok (.iconst 0, 1) := by decide +kernel
theorem dX13_finish_30 : decode cX13_finish 30 = .ok (.iastore, 1) := by decide +kernel
theorem dX13_finish_31 : decode cX13_finish 31 = .ok (.iconst 0, 1) := by decide +kernel
theorem dX13_finish_32 : decode cX13_finish 32 = .ok (.istore_n 2, 1) := by decide +kernel
theorem dX13_finish_33 : decode cX13_finish 33 = .ok (.iload_n 2, 1) := by decide +kernel
theorem dX13_finish_34 : decode cX13_finish 34 = .ok (.iconst 4, 1) := by decide +kernel
theorem dX13_finish_35 : decode cX13_finish 35 = .ok (.if_icmp .ge 22, 3) := by decide +kernel
theorem dX13_finish_38 : decode cX13_finish 38 = .ok (.aload_n 0, 1) := by decide +kernel
theorem dX13_finish_39 : decode cX13_finish 39 = .ok (.getfield 321, 3) := by decide +kernel
theorem dX13_finish_4 : decode cX13_finish 4 = .ok (.iload_n 1, 1) := by decide +kernel
theorem dX13_finish_42 : decode cX13_finish 42 = .ok (.iconst 4, 1) := by decide +kernel
theorem dX13_finish_43 : decode cX13_finish 43 = .ok (.iload_n 1, 1) := by decide +kernel
theorem dX13_finish_44 : decode cX13_finish 44 = .ok (.imul, 1) := by decide +kernel
theorem dX13_finish_45 : decode cX13_finish 45 = .ok (.iload_n 2, 1) := by decide +kernel
theorem dX13_finish_46 : decode cX13_finish 46 = .ok (.iadd, 1) := by decide +kernel
theorem dX13_finish_47 : decode cX13_finish 47 = .ok (.ldc2_w 1087, 3) := by decide +kernel
theorem dX13_finish_5 : decode cX13_finish 5 = .ok (.iaload, 1) := by decide +kernel
theorem dX13_finish_50 : decode cX13_finish 50 = .ok (.lastore, 1) := by decide +kernel
theorem dX13_finish_51 : decode cX13_finish 51 = .ok (.iinc 2 1, 3) := by decide +kernel
theorem dX13_finish_54 : decode cX13_finish 54 = .ok (.goto (-21), 3) := by decide +kernel
theorem dX13_finish_57 : decode cX13_finish 57 = .ok (.aload_n 0, 1) := by decide +kernel
theorem dX13_finish_58 : decode cX13_finish 58 = .ok (.bipush 6, 2) := by decide +kernel
theorem dX13_finish_6 : decode cX13_finish 6 = .ok (.iconst 2, 1) := by decide +kernel
theorem dX13_finish_60 : decode cX13_finish 60 = .ok (.iload_n 1, 1) := by decide +kernel
theorem dX13_finish_61 : decode cX13_finish 61 = .ok (.iconst 0, 1) := by decide +kernel
theorem dX13_finish_62 : decode cX13_finish 62 = .ok (.iconst (-1), 1) := by decide +kernel
theorem dX13_finish_63 : decode cX13_finish 63 = .ok (.invokevirtual 1305, 3) := by decide +kernel
theorem dX13_finish_66 : decode cX13_finish 66 = .ok (.return_, 1) := by decide +kernel
theorem dX13_finish_7 : decode cX13_finish 7 = .ok (.if_icmp .eq 59, 3) := by decide +kernel
noncomputable def k_X13_finish_33 (l1 : Int32) (l2 : Int32) (s : t_S) : Option ((Int32 × Int32 × t_S) ⊕ (t_S)) :=
 if (4 : Int32) ≤ l2 then (((f_X13_note (6 : Int32) l1 (0 : Int32) (-1 : Int32) s).bind (fun r1 =>
 some (r1))).map Sum.inr)
 else (if t_ix (((4 : Int32) * l1) + l2) 32 = true then
  t_let (t_setJ s 1051 ((((4 : Int32) * l1) + l2).toNatClampNeg) (-1 : Int64)) (fun s1 =>
 some (.inl (l1, (l2 + 1), s1)))
else none)
set_option maxRecDepth 4000 in
set_option maxHeartbeats 1000000 in
theorem B_X13_finish_33 {D : va_G} {cy : Nat → ClassId} {ad : Nat → Nat} {bs : Nat} {X : State → Heap → Prop} (l1 : Int32) (l2 : Int32) (s : t_S) (Q : (Int32 × Int32 × t_S) ⊕ (t_S) → Prop) (Hb33 : ∀ (y0 : Int32) (y1 : Int32) (y2 : t_S), Q (.inl (y0, y1, y2)) → mj_G D cy ad bs X cX13_finish 3 yX13_finish.cls none yX13_finish.name 4 0 0 1065 (t_P (fun v s' => v = none ∧ Q (.inr (s')))) 33 [(0, .ref 950), (1, .int (y0)), (2, .int (y1))] [] (t_m y2) 1065 0 0) (hk : t_hk (k_X13_finish_33 l1 l2 s) Q) : mj_G D cy ad bs X cX13_finish 3 yX13_finish.cls none yX13_finish.name 4 0 0 1065 (t_P (fun v s' => v = none ∧ Q (.inr (s')))) 33 [(0, .ref 950), (1, .int l1), (2, .int l2)] [] (t_m s) 1065 0 0 := by
  refine mj_iload_n dX13_finish_33 2 rfl ?_
  refine mj_iconst (v := 4) dX13_finish_34 (by decide) ?_
  refine mj_icmp_ge 57 dX13_finish_35 (by decide) (fun z => t_posK hk z (fun hk => ?_)) (fun z => t_negK hk z (fun hk => ?_))
  · refine t_mapK hk (fun hk => ?_)
    refine mj_aload_n dX13_finish_57 0 rfl ?_
    refine mj_bipush (v := 6) dX13_finish_58 (by decide) ?_
    refine mj_iload_n dX13_finish_60 1 rfl ?_
    refine mj_iconst (v := 0) dX13_finish_61 (by decide) ?_
    refine mj_iconst (v := (-1)) dX13_finish_62 (by decide) ?_
    refine t_bndK hk (fun r1 er1 hk => ?_)
    refine t_callVvE dX13_finish_63 M_X13_note (C_X13_note _ _ _ _ _ _ er1) ML_X13_1305 IM_X13_note SE_X13_note qc_950 rfl (As := [.int 6, .int l1, .int 0, .int (-1)]) rfl rfl (Nat.le_of_ble_eq_true rfl) (Nat.le_of_ble_eq_true rfl) (Nat.le_of_ble_eq_true rfl) (Nat.le_of_ble_eq_true rfl) ?_
    exact t_somK hk (fun hf => t_vret dX13_finish_66 rfl ⟨rfl, hf⟩ (Nat.le_of_ble_eq_true rfl) (Nat.le_of_ble_eq_true rfl))
  · refine mj_aload_n dX13_finish_38 0 rfl ?_
    refine t_getR 1051 dX13_finish_39 F_X13_321 qr_950_166 ?_
    refine mj_iconst (v := 4) dX13_finish_42 (by decide) ?_
    refine mj_iload_n dX13_finish_43 1 rfl ?_
    refine mj_imul dX13_finish_44 ?_
    refine mj_iload_n dX13_finish_45 2 rfl ?_
    refine mj_iadd dX13_finish_46 ?_
    refine mj_ldc2 dX13_finish_47 K_X13_1087 ?_
    refine t_chkK hk (fun c1 hk => ?_)
    refine t_lastK dX13_finish_50 qa_1051 (t_ixv c1) (fun s1 ws1 => t_letE hk ws1 (fun hk => ?_))
    refine mj_iinc (k := 2) (v := (l2 + 1)) (lv2 := [(2, .int (l2 + 1)), (0, .ref 950), (1, .int l1)]) dX13_finish_51 rfl rfl (by decide) rfl ?_
    refine mj_goto 33 dX13_finish_54 (by decide) ?_
    refine mj_sublv [(0, .ref 950), (1, .int l1), (2, .int (l2 + 1))] [1, 2, 0] rfl ?_
    exact t_somK hk (fun hf => Hb33 l1 (l2 + 1) s1 hf)
noncomputable def b_X13_finish_33 (x : Int32 × Int32 × t_S) : Option ((Int32 × Int32 × t_S) ⊕ (t_S)) := k_X13_finish_33 x.1 x.2.1 x.2.2
set_option maxRecDepth 4000 in
set_option maxHeartbeats 1000000 in
theorem LH_X13_finish_33 {D : va_G} {cy : Nat → ClassId} {ad : Nat → Nat} {bs : Nat} {X : State → Heap → Prop} : ∀ (n : Nat) (y0 : Int32) (y1 : Int32) (y2 : t_S) (Q : t_S → Prop) (hk : t_hk (t_loop (b_X13_finish_33) n (y0, y1, y2)) Q), mj_G D cy ad bs X cX13_finish 3 yX13_finish.cls none yX13_finish.name 4 0 0 1065 (t_P (fun v s' => v = none ∧ Q (s'))) 33 [(0, .ref 950), (1, .int (y0)), (2, .int (y1))] [] (t_m y2) 1065 0 0 := by
  intro n
  induction n with
  | zero => intro y0 y1 y2 Q hk; obtain ⟨r, hr, _⟩ := hk; cases hr
  | succ n ih =>
    intro y0 y1 y2 Q hk
    exact B_X13_finish_33 y0 y1 y2 (fun y => t_lq (b_X13_finish_33) n Q y) (fun y0' y1' y2' hy => ih y0' y1' y2' Q hy) (t_lp (b := b_X13_finish_33) (n := n) (x := (y0, y1, y2)) hk)
noncomputable def f_X13_finish (x1 : Int32) (s : t_S) : Option (t_S) :=
 if t_ix x1 8 = true then
  if (s.1 1036 (x1.toNatClampNeg)) = (2 : Int32) then (some (s))
 else (t_let (t_setI s 1036 (x1.toNatClampNeg) (2 : Int32)) (fun s1 =>
 t_let (t_setI s1 1038 (x1.toNatClampNeg) (0 : Int32)) (fun s2 =>
 t_let (t_setI s2 1042 (x1.toNatClampNeg) (0 : Int32)) (fun s3 =>
 t_loop (b_X13_finish_33) t_N (x1, 0, s3)))))
else none
set_option maxRecDepth 4000 in
set_option maxHeartbeats 1000000 in
theorem C_X13_finish (x1 : Int32) (s : t_S) (r : t_S) (hr : f_X13_finish x1 s = some r) : t_C yX13_finish cX13_finish 3 none 4 [.ref 950, .int x1] s (fun v s' => v = none ∧ s' = r) := by
  refine t_C.imp (P := fun v s' => v = none ∧ (fun q => q = r) (s')) (t_C.of (by decide +kernel) (Nat.le_of_ble_eq_true rfl) ?_) (fun v s' hp => hp)
  intro D cy ad bs X
  have hk : t_hk (f_X13_finish x1 s) (fun q => q = r) := ⟨r, hr, rfl⟩
  show mj_G D cy ad bs X cX13_finish 3 yX13_finish.cls none yX13_finish.name 4 0 0 1065 (t_P (fun v s' => v = none ∧ (fun q => q = r) (s'))) 0 [(0, .ref 950), (1, .int x1)] [] (t_m s) 1065 0 0
  refine mj_aload_n dX13_finish_0 0 rfl ?_
  refine t_getR 1036 dX13_finish_1 F_X13_276 qr_950_151 ?_
  refine mj_iload_n dX13_finish_4 1 rfl ?_
  refine t_chkK hk (fun c0 hk => ?_)
  refine t_iald dX13_finish_5 qa_1036 (t_ixv c0) ?_
  refine mj_iconst (v := 2) dX13_finish_6 (by decide) ?_
  refine mj_icmp_eq 66 dX13_finish_7 (by decide) (fun z => t_posK hk z (fun hk => ?_)) (fun z => t_negK hk z (fun hk => ?_))
  · exact t_somK hk (fun hf => t_vret dX13_finish_66 rfl ⟨rfl, hf⟩ (Nat.le_of_ble_eq_true rfl) (Nat.le_of_ble_eq_true rfl))
  · refine mj_aload_n dX13_finish_10 0 rfl ?_
    refine t_getR 1036 dX13_finish_11 F_X13_276 qr_950_151 ?_
    refine mj_iload_n dX13_finish_14 1 rfl ?_
    refine mj_iconst (v := 2) dX13_finish_15 (by decide) ?_
    refine t_iastK dX13_finish_16 qa_1036 (t_ixv c0) (fun s1 ws1 => t_letE hk ws1 (fun hk => ?_))
    refine mj_aload_n dX13_finish_17 0 rfl ?_
    refine t_getR 1038 dX13_finish_18 F_X13_282 qr_950_153 ?_
    refine mj_iload_n dX13_finish_21 1 rfl ?_
    refine mj_iconst (v := 0) dX13_finish_22 (by decide) ?_
    refine t_iastK dX13_finish_23 qa_1038 (t_ixv c0) (fun s2 ws2 => t_letE hk ws2 (fun hk => ?_))
    refine mj_aload_n dX13_finish_24 0 rfl ?_
    refine t_getR 1042 dX13_finish_25 F_X13_294 qr_950_157 ?_
    refine mj_iload_n dX13_finish_28 1 rfl ?_
    refine mj_iconst (v := 0) dX13_finish_29 (by decide) ?_
    refine t_iastK dX13_finish_30 qa_1042 (t_ixv c0) (fun s3 ws3 => t_letE hk ws3 (fun hk => ?_))
    refine mj_iconst (v := 0) dX13_finish_31 (by decide) ?_
    refine mj_istore_n 2 (lv2 := [(2, .int 0), (0, .ref 950), (1, .int x1)]) dX13_finish_32 rfl (by decide) rfl ?_
    refine mj_sublv [(0, .ref 950), (1, .int x1), (2, .int 0)] [1, 2, 0] rfl ?_
    exact LH_X13_finish_33 _ x1 0 s3 _ hk

theorem dX13_judge_0 : decode cX13_judge 0 = .ok (.iload_n 2, 1) := by decide +kernel
theorem dX13_judge_1 : decode cX13_judge 1 = .ok (.aload_n 0, 1) := by decide +kernel
theorem dX13_judge_10 : decode cX13_judge 10 = .ok (.aload_n 0, 1) := by decide +kernel
theorem dX13_judge_11 : decode cX13_judge 11 = .ok (.getfield 279, 3) := by decide +kernel
theorem dX13_judge_14 : decode cX13_judge 14 = .ok (.iload_n 1, 1) := by decide +kernel
theorem dX13_judge_15 : decode cX13_judge 15 = .ok (.iload_n 2, 1) := by decide +kernel
theorem dX13_judge_16 : decode cX13_judge 16 = .ok (.iastore, 1) := by decide +kernel
theorem dX13_judge_17 : decode cX13_judge 17 = .ok (.aload_n 0, 1) := by decide +kernel
theorem dX13_judge_18 : decode cX13_judge 18 = .ok (.iconst 4, 1) := by decide +kernel
theorem dX13_judge_19 : decode cX13_judge 19 = .ok (.iload_n 1, 1) := by decide +kernel
theorem dX13_judge_2 : decode cX13_judge 2 = .ok (.getfield 279, 3) := by decide +kernel
theorem dX13_judge_20 : decode cX13_judge 20 = .ok (.iload_n 2, 1) := by decide +kernel
theorem dX13_judge_21 : decode cX13_judge 21 = .ok (.iconst (-1), 1) := by decide +kernel
theorem dX13_judge_22 : decode cX13_judge 22 = .ok (.invokevirtual 1305, 3) := by decide +kernel
theorem dX13_judge_25 : decode cX13_judge 25 = .ok (.return_, 1) := by decide +kernel
theorem dX13_judge_5 : decode cX13_judge 5 = .ok (.iload_n 1, 1) := by decide +kernel
theorem dX13_judge_6 : decode cX13_judge 6 = .ok (.iaload, 1) := by decide +kernel
theorem dX13_judge_7 : decode cX13_judge 7 = .ok (.if_icmp .le 18, 3) := by decide +kernel
noncomputable def f_X13_judge (x1 : Int32) (x2 : Int32) (s : t_S) : Option (t_S) :=
 if t_ix x1 8 = true then
  if x2 ≤ (s.1 1037 (x1.toNatClampNeg)) then (some (s))
 else (t_let (t_setI s 1037 (x1.toNatClampNeg) x2) (fun s1 =>
 (f_X13_note (4 : Int32) x1 x2 (-1 : Int32) s1).bind (fun r2 =>
 some (r2))))
else none
set_option maxRecDepth 4000 in
set_option maxHeartbeats 1000000 in
theorem C_X13_judge (x1 : Int32) (x2 : Int32) (s : t_S) (r : t_S) (hr : f_X13_judge x1 x2 s = some r) : t_C yX13_judge cX13_judge 3 none 4 [.ref 950, .int x1, .int x2] s (fun v s' => v = none ∧ s' = r) := by
  refine t_C.imp (P := fun v s' => v = none ∧ (fun q => q = r) (s')) (t_C.of (by decide +kernel) (Nat.le_of_ble_eq_true rfl) ?_) (fun v s' hp => hp)
  intro D cy ad bs X
  have hk : t_hk (f_X13_judge x1 x2 s) (fun q => q = r) := ⟨r, hr, rfl⟩
  show mj_G D cy ad bs X cX13_judge 3 yX13_judge.cls none yX13_judge.name 4 0 0 1065 (t_P (fun v s' => v = none ∧ (fun q => q = r) (s'))) 0 [(0, .ref 950), (1, .int x1), (2, .int x2)] [] (t_m s) 1065 0 0
  refine mj_iload_n dX13_judge_0 2 rfl ?_
  refine mj_aload_n dX13_judge_1 0 rfl ?_
  refine t_getR 1037 dX13_judge_2 F_X13_279 qr_950_152 ?_
  refine mj_iload_n dX13_judge_5 1 rfl ?_
  refine t_chkK hk (fun c0 hk => ?_)
  refine t_iald dX13_judge_6 qa_1037 (t_ixv c0) ?_
  refine mj_icmp_le 25 dX13_judge_7 (by decide) (fun z => t_posK hk z (fun hk => ?_)) (fun z => t_negK hk z (fun hk => ?_))
  · exact t_somK hk (fun hf => t_vret dX13_judge_25 rfl ⟨rfl, hf⟩ (Nat.le_of_ble_eq_true rfl) (Nat.le_of_ble_eq_true rfl))
  · refine mj_aload_n dX13_judge_10 0 rfl ?_
    refine t_getR 1037 dX13_judge_11 F_X13_279 qr_950_152 ?_
    refine mj_iload_n dX13_judge_14 1 rfl ?_
    refine mj_iload_n dX13_judge_15 2 rfl ?_
    refine t_iastK dX13_judge_16 qa_1037 (t_ixv c0) (fun s1 ws1 => t_letE hk ws1 (fun hk => ?_))
    refine mj_aload_n dX13_judge_17 0 rfl ?_
    refine mj_iconst (v := 4) dX13_judge_18 (by decide) ?_
    refine mj_iload_n dX13_judge_19 1 rfl ?_
    refine mj_iload_n dX13_judge_20 2 rfl ?_
    refine mj_iconst (v := (-1)) dX13_judge_21 (by decide) ?_
    refine t_bndK hk (fun r2 er2 hk => ?_)
    refine t_callVvE dX13_judge_22 M_X13_note (C_X13_note _ _ _ _ _ _ er2) ML_X13_1305 IM_X13_note SE_X13_note qc_950 rfl (As := [.int 4, .int x1, .int x2, .int (-1)]) rfl rfl (Nat.le_of_ble_eq_true rfl) (Nat.le_of_ble_eq_true rfl) (Nat.le_of_ble_eq_true rfl) (Nat.le_of_ble_eq_true rfl) ?_
    exact t_somK hk (fun hf => t_vret dX13_judge_25 rfl ⟨rfl, hf⟩ (Nat.le_of_ble_eq_true rfl) (Nat.le_of_ble_eq_true rfl))

theorem dX13_goWrong_0 : decode cX13_goWrong 0 = .ok (.aload_n 0, 1) := by decide +kernel
theorem dX13_goWrong_1 : decode cX13_goWrong 1 = .ok (.getfield 303, 3) := by decide +kernel
theorem dX13_goWrong_10 : decode cX13_goWrong 10 = .ok (.aload_n 0, 1) := by decide +kernel
theorem dX13_goWrong_11 : decode cX13_goWrong 11 = .ok (.bipush 7, 2) := by decide +kernel
theorem dX13_goWrong_13 : decode cX13_goWrong 13 = .ok (.iload_n 1, 1) := by decide +kernel
theorem dX13_goWrong_14 : decode cX13_goWrong 14 = .ok (.aload_n 0, 1) := by decide +kernel
theorem dX13_goWrong_15 : decode cX13_goWrong 15 = .ok (.getfield 842, 3) := by decide +kernel
theorem dX13_goWrong_18 : decode cX13_goWrong 18 = .ok (.iconst (-1), 1) := by decide +kernel
theorem dX13_goWrong_19 : decode cX13_goWrong 19 = .ok (.invokevirtual 1305, 3) := by decide +kernel
theorem dX13_goWrong_22 : decode cX13_goWrong 22 = .ok (.aload_n 0, 1) := by decide +kernel
theorem dX13_goWrong_23 : decode cX13_goWrong 23 = .ok (.iload_n 1, 1) := by decide +kernel
theorem dX13_goWrong_24 : decode cX13_goWrong 24 = .ok (.iconst 4, 1) := by decide +kernel
theorem dX13_goWrong_25 : decode cX13_goWrong 25 = .ok (.invokevirtual 1309, 3) := by decide +kernel
theorem dX13_goWrong_28 : decode cX13_goWrong 28 = .ok (.aload_n 0, 1) := by decide +kernel
theorem dX13_goWrong_29 : decode cX13_goWrong 29 = .ok (.iload_n 1, 1) := by decide +kernel
theorem dX13_goWrong_30 : decode cX13_goWrong 30 = .ok (.invokevirtual 1312, 3) := by decide +kernel
theorem dX13_goWrong_33 : decode cX13_goWrong 33 = .ok (.aload_n 0, 1) := by decide +kernel
theorem dX13_goWrong_34 : decode cX13_goWrong 34 = .ok (.iconst 0, 1) := by decide +kernel
theorem dX13_goWrong_35 : decode cX13_goWrong 35 = .ok (.putfield 842, 3) := by decide +kernel
theorem dX13_goWrong_38 : decode cX13_goWrong 38 = .ok (.return_, 1) := by decide +kernel
theorem dX13_goWrong_4 : decode cX13_goWrong 4 = .ok (.iload_n 1, 1) := by decide +kernel
theorem dX13_goWrong_5 : decode cX13_goWrong 5 = .ok (.aload_n 0, 1) := by decide +kernel
theorem dX13_goWrong_6 : decode cX13_goWrong 6 = .ok (.getfield 842, 3) := by decide +kernel
theorem dX13_goWrong_9 : decode cX13_goWrong 9 = .ok (.iastore, 1) := by decide +kernel
noncomputable def f_X13_goWrong (x1 : Int32) (s : t_S) : Option (t_S) :=
 if t_ix x1 8 = true then
  t_let (t_setI s 1045 (x1.toNatClampNeg) (s.1 950 97)) (fun s1 =>
 (f_X13_note (7 : Int32) x1 (s1.1 950 97) (-1 : Int32) s1).bind (fun r2 =>
 (f_X13_judge x1 (4 : Int32) r2).bind (fun r3 =>
 (f_X13_finish x1 r3).bind (fun r4 =>
 t_let (t_setI r4 950 97 (0 : Int32)) (fun s2 =>
 some (s2))))))
else none
set_option maxRecDepth 4000 in
set_option maxHeartbeats 1000000 in
theorem C_X13_goWrong (x1 : Int32) (s : t_S) (r : t_S) (hr : f_X13_goWrong x1 s = some r) : t_C yX13_goWrong cX13_goWrong 2 none 5 [.ref 950, .int x1] s (fun v s' => v = none ∧ s' = r) := by
  refine t_C.imp (P := fun v s' => v = none ∧ (fun q => q = r) (s')) (t_C.of (by decide +kernel) (Nat.le_of_ble_eq_true rfl) ?_) (fun v s' hp => hp)
  intro D cy ad bs X
  have hk : t_hk (f_X13_goWrong x1 s) (fun q => q = r) := ⟨r, hr, rfl⟩
  show mj_G D cy ad bs X cX13_goWrong 2 yX13_goWrong.cls none yX13_goWrong.name 5 0 0 1065 (t_P (fun v s' => v = none ∧ (fun q => q = r) (s'))) 0 [(0, .ref 950), (1, .int x1)] [] (t_m s) 1065 0 0
  refine mj_aload_n dX13_goWrong_0 0 rfl ?_
  refine t_getR 1045 dX13_goWrong_1 F_X13_303 qr_950_160 ?_
  refine mj_iload_n dX13_goWrong_4 1 rfl ?_
  refine mj_aload_n dX13_goWrong_5 0 rfl ?_
  refine t_getI dX13_goWrong_6 F_X13_842 qf_950_97 ?_
  refine t_chkK hk (fun c0 hk => ?_)
  refine t_iastK dX13_goWrong_9 qa_1045 (t_ixv c0) (fun s1 ws1 => t_letE hk ws1 (fun hk => ?_))
  refine mj_aload_n dX13_goWrong_10 0 rfl ?_
  refine mj_bipush (v := 7) dX13_goWrong_11 (by decide) ?_
  refine mj_iload_n dX13_goWrong_13 1 rfl ?_
  refine mj_aload_n dX13_goWrong_14 0 rfl ?_
  refine t_getI dX13_goWrong_15 F_X13_842 qf_950_97 ?_
  refine mj_iconst (v := (-1)) dX13_goWrong_18 (by decide) ?_
  refine t_bndK hk (fun r2 er2 hk => ?_)
  refine t_callVvE dX13_goWrong_19 M_X13_note (C_X13_note _ _ _ _ _ _ er2) ML_X13_1305 IM_X13_note SE_X13_note qc_950 rfl (As := [.int 7, .int x1, .int (s1.1 950 97), .int (-1)]) rfl rfl (Nat.le_of_ble_eq_true rfl) (Nat.le_of_ble_eq_true rfl) (Nat.le_of_ble_eq_true rfl) (Nat.le_of_ble_eq_true rfl) ?_
  refine mj_aload_n dX13_goWrong_22 0 rfl ?_
  refine mj_iload_n dX13_goWrong_23 1 rfl ?_
  refine mj_iconst (v := 4) dX13_goWrong_24 (by decide) ?_
  refine t_bndK hk (fun r3 er3 hk => ?_)
  refine t_callVvE dX13_goWrong_25 M_X13_judge (C_X13_judge _ _ _ _ er3) ML_X13_1309 IM_X13_judge SE_X13_judge qc_950 rfl (As := [.int x1, .int 4]) rfl rfl (Nat.le_of_ble_eq_true rfl) (Nat.le_of_ble_eq_true rfl) (Nat.le_of_ble_eq_true rfl) (Nat.le_of_ble_eq_true rfl) ?_
  refine mj_aload_n dX13_goWrong_28 0 rfl ?_
  refine mj_iload_n dX13_goWrong_29 1 rfl ?_
  refine t_bndK hk (fun r4 er4 hk => ?_)
  refine t_callVvE dX13_goWrong_30 M_X13_finish (C_X13_finish _ _ _ er4) ML_X13_1312 IM_X13_finish SE_X13_finish qc_950 rfl (As := [.int x1]) rfl rfl (Nat.le_of_ble_eq_true rfl) (Nat.le_of_ble_eq_true rfl) (Nat.le_of_ble_eq_true rfl) (Nat.le_of_ble_eq_true rfl) ?_
  refine mj_aload_n dX13_goWrong_33 0 rfl ?_
  refine mj_iconst (v := 0) dX13_goWrong_34 (by decide) ?_
  refine t_putIK dX13_goWrong_35 F_X13_842 qf_950_97 rfl (fun s2 ws2 => t_letE hk ws2 (fun hk => ?_))
  exact t_somK hk (fun hf => t_vret dX13_goWrong_38 rfl ⟨rfl, hf⟩ (Nat.le_of_ble_eq_true rfl) (Nat.le_of_ble_eq_true rfl))

