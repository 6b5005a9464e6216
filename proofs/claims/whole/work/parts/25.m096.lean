/-! Methods as functions, 96: X13_letter, X13_lightest, X13_numbersOf, X13_textsOf -/
theorem qa_1017 : t_oka 1017 2 273000 = true := by decide +kernel
theorem qa_1018 : t_oka 1018 3 273000 = true := by decide +kernel
theorem qa_1019 : t_oka 1019 2 8421 = true := by decide +kernel
theorem qf_950_119 : t_okf 950 13 119 0 = true := by decide +kernel
theorem qr_950_115 : t_okr 950 13 115 1017 = true := by decide +kernel
theorem qr_950_116 : t_okr 950 13 116 1018 = true := by decide +kernel
theorem qr_950_118 : t_okr 950 13 118 1019 = true := by decide +kernel
theorem dX13_letter_0 : decode cX13_letter 0 = .ok (.iload_n 1, 1) := by decide +kernel
theorem dX13_letter_1 : decode cX13_letter 1 = .ok (.i2l, 1) := by decide +kernel
theorem dX13_letter_10 : decode cX13_letter 10 = .ok (.invokestatic 371, 3) := by decide +kernel
theorem dX13_letter_13 : decode cX13_letter 13 = .ok (.ifCond .eq 12, 3) := by decide +kernel
theorem dX13_letter_16 : decode cX13_letter 16 = .ok (.aload_n 0, 1) := by decide +kernel
theorem dX13_letter_17 : decode cX13_letter 17 = .ok (.getfield 194, 3) := by decide +kernel
theorem dX13_letter_2 : decode cX13_letter 2 = .ok (.lconst 0, 1) := by decide +kernel
theorem dX13_letter_20 : decode cX13_letter 20 = .ok (.iload_n 1, 1) := by decide +kernel
theorem dX13_letter_21 : decode cX13_letter 21 = .ok (.iaload, 1) := by decide +kernel
theorem dX13_letter_22 : decode cX13_letter 22 = .ok (.goto 5, 3) := by decide +kernel
theorem dX13_letter_25 : decode cX13_letter 25 = .ok (.bipush (-2), 2) := by decide +kernel
theorem dX13_letter_27 : decode cX13_letter 27 = .ok (.ireturn, 1) := by decide +kernel
theorem dX13_letter_3 : decode cX13_letter 3 = .ok (.aload_n 0, 1) := by decide +kernel
theorem dX13_letter_4 : decode cX13_letter 4 = .ok (.getfield 1009, 3) := by decide +kernel
theorem dX13_letter_7 : decode cX13_letter 7 = .ok (.iconst 1, 1) := by decide +kernel
theorem dX13_letter_8 : decode cX13_letter 8 = .ok (.isub, 1) := by decide +kernel
theorem dX13_letter_9 : decode cX13_letter 9 = .ok (.i2l, 1) := by decide +kernel
noncomputable def f_X13_letter (x1 : Int32) (s : t_S) : Option (Int32) :=
 if (f_X13_in x1.toInt64 (0 : Int64) (((s.1 950 106) - (1 : Int32)).toInt64) s) = (0 : Int32) then (some (-2 : Int32))
 else (if t_ix x1 20000 = true then
  some (s.1 1010 (x1.toNatClampNeg))
else none)
set_option maxRecDepth 4000 in
set_option maxHeartbeats 1000000 in
theorem C_X13_letter (x1 : Int32) (s : t_S) (r : Int32) (hr : f_X13_letter x1 s = some r) : t_C yX13_letter cX13_letter 2 (some .int) 1 [.ref 950, .int x1] s (fun v s' => v = some (.int r) ∧ s' = s) := by
  refine t_C.imp (P := fun v s' => s' = s ∧ ∃ x, v = some (.int x) ∧ (fun q => q = r) (x)) (t_C.of (by decide +kernel) (Nat.le_of_ble_eq_true rfl) ?_) (fun v s' hp => by obtain ⟨rfl, x, rfl, rfl⟩ := hp; exact ⟨rfl, rfl⟩)
  intro D cy ad bs X
  have hk : t_hk (f_X13_letter x1 s) (fun q => q = r) := ⟨r, hr, rfl⟩
  show mj_G D cy ad bs X cX13_letter 2 yX13_letter.cls (some .int) yX13_letter.name 1 0 0 1065 (t_P (fun v s' => s' = s ∧ ∃ x, v = some (.int x) ∧ (fun q => q = r) (x))) 0 [(0, .ref 950), (1, .int x1)] [] (t_m s) 1065 0 0
  refine mj_iload_n dX13_letter_0 1 rfl ?_
  refine mj_i2l (v := x1.toInt64) dX13_letter_1 rfl ?_
  refine mj_lconst (v := 0) dX13_letter_2 (by decide) ?_
  refine mj_aload_n dX13_letter_3 0 rfl ?_
  refine t_getI dX13_letter_4 F_X13_1009 qf_950_106 ?_
  refine mj_iconst (v := 1) dX13_letter_7 (by decide) ?_
  refine mj_isub dX13_letter_8 ?_
  refine mj_i2l (v := ((s.1 950 106) - (1 : Int32)).toInt64) dX13_letter_9 rfl ?_
  refine t_callSiP dX13_letter_10 M_X13_in (C_X13_in _ _ _ _) ML_X13_371 SM_X13_in (As := [.long x1.toInt64, .long 0, .long (((s.1 950 106) - (1 : Int32)).toInt64)]) rfl rfl (Nat.le_of_ble_eq_true rfl) (Nat.le_of_ble_eq_true rfl) (Nat.le_of_ble_eq_true rfl) (Nat.le_of_ble_eq_true rfl) ?_
  refine mj_if_eq 25 dX13_letter_13 (by decide) (fun z => t_posK hk z (fun hk => ?_)) (fun z => t_negK hk z (fun hk => ?_))
  · refine mj_bipush (v := (-2)) dX13_letter_25 (by decide) ?_
    exact t_somK hk (fun hf => t_iret dX13_letter_27 rfl rfl ⟨rfl, _, rfl, hf⟩ (Nat.le_of_ble_eq_true rfl) (Nat.le_of_ble_eq_true rfl))
  · refine mj_aload_n dX13_letter_16 0 rfl ?_
    refine t_getR 1010 dX13_letter_17 F_X13_194 qr_950_105 ?_
    refine mj_iload_n dX13_letter_20 1 rfl ?_
    refine t_chkK hk (fun c1 hk => ?_)
    refine t_iald dX13_letter_21 qa_1010 (t_ixv c1) ?_
    refine mj_goto 27 dX13_letter_22 (by decide) ?_
    exact t_somK hk (fun hf => t_iret dX13_letter_27 rfl rfl ⟨rfl, _, rfl, hf⟩ (Nat.le_of_ble_eq_true rfl) (Nat.le_of_ble_eq_true rfl))

theorem dX13_lightest_0 : decode cX13_lightest 0 = .ok (.aload_n 0, 1) := by decide +kernel
theorem dX13_lightest_1 : decode cX13_lightest 1 = .ok (.iload_n 1, 1) := by decide +kernel
theorem dX13_lightest_10 : decode cX13_lightest 10 = .ok (.aload_n 0, 1) := by decide +kernel
theorem dX13_lightest_11 : decode cX13_lightest 11 = .ok (.invokevirtual 1073, 3) := by decide +kernel
theorem dX13_lightest_14 : decode cX13_lightest 14 = .ok (.aload_n 0, 1) := by decide +kernel
theorem dX13_lightest_15 : decode cX13_lightest 15 = .ok (.getfield 197, 3) := by decide +kernel
theorem dX13_lightest_18 : decode cX13_lightest 18 = .ok (.aload_n 0, 1) := by decide +kernel
theorem dX13_lightest_19 : decode cX13_lightest 19 = .ok (.getfield 57, 3) := by decide +kernel
theorem dX13_lightest_2 : decode cX13_lightest 2 = .ok (.invokevirtual 1051, 3) := by decide +kernel
theorem dX13_lightest_22 : decode cX13_lightest 22 = .ok (.iload_n 1, 1) := by decide +kernel
theorem dX13_lightest_23 : decode cX13_lightest 23 = .ok (.iaload, 1) := by decide +kernel
theorem dX13_lightest_24 : decode cX13_lightest 24 = .ok (.laload, 1) := by decide +kernel
theorem dX13_lightest_25 : decode cX13_lightest 25 = .ok (.lstore_n 2, 1) := by decide +kernel
theorem dX13_lightest_26 : decode cX13_lightest 26 = .ok (.lload_n 2, 1) := by decide +kernel
theorem dX13_lightest_27 : decode cX13_lightest 27 = .ok (.ldc2_w 1076, 3) := by decide +kernel
theorem dX13_lightest_30 : decode cX13_lightest 30 = .ok (.lcmp, 1) := by decide +kernel
theorem dX13_lightest_31 : decode cX13_lightest 31 = .ok (.ifCond .le 8, 3) := by decide +kernel
theorem dX13_lightest_34 : decode cX13_lightest 34 = .ok (.bipush (-2), 2) := by decide +kernel
theorem dX13_lightest_36 : decode cX13_lightest 36 = .ok (.goto 5, 3) := by decide +kernel
theorem dX13_lightest_39 : decode cX13_lightest 39 = .ok (.lload_n 2, 1) := by decide +kernel
theorem dX13_lightest_40 : decode cX13_lightest 40 = .ok (.l2i, 1) := by decide +kernel
theorem dX13_lightest_41 : decode cX13_lightest 41 = .ok (.ireturn, 1) := by decide +kernel
theorem dX13_lightest_5 : decode cX13_lightest 5 = .ok (.ifCond .eq 5, 3) := by decide +kernel
theorem dX13_lightest_8 : decode cX13_lightest 8 = .ok (.iconst (-1), 1) := by decide +kernel
theorem dX13_lightest_9 : decode cX13_lightest 9 = .ok (.ireturn, 1) := by decide +kernel
noncomputable def f_X13_lightest (x1 : Int32) (s : t_S) : Option (Int32 × t_S) :=
 if (f_X13_noType x1 s) = (0 : Int32) then ((f_X13_findLight s).bind (fun r2 =>
 if t_ix x1 60 = true then
  if t_ix (r2.1 965 (x1.toNatClampNeg)) 13000 = true then
  if (lg_cmp (r2.2.1 1011 ((r2.1 965 (x1.toNatClampNeg)).toNatClampNeg)) (120 : Int64)) ≤ (0 : Int32) then (some (((r2.2.1 1011 ((r2.1 965 (x1.toNatClampNeg)).toNatClampNeg)).toInt32), r2))
 else (some ((-2 : Int32), r2))
else none
else none))
 else (some ((-1 : Int32), s))
set_option maxRecDepth 4000 in
set_option maxHeartbeats 1000000 in
theorem C_X13_lightest (x1 : Int32) (s : t_S) (r : Int32 × t_S) (hr : f_X13_lightest x1 s = some r) : t_C yX13_lightest cX13_lightest 4 (some .int) 3 [.ref 950, .int x1] s (fun v s' => v = some (.int r.1) ∧ s' = r.2) := by
  refine t_C.imp (P := fun v s' => ∃ x, v = some (.int x) ∧ (fun q => q = r) ((x, s'))) (t_C.of (by decide +kernel) (Nat.le_of_ble_eq_true rfl) ?_) (fun v s' hp => by obtain ⟨x, rfl, rfl⟩ := hp; exact ⟨rfl, rfl⟩)
  intro D cy ad bs X
  have hk : t_hk (f_X13_lightest x1 s) (fun q => q = r) := ⟨r, hr, rfl⟩
  show mj_G D cy ad bs X cX13_lightest 4 yX13_lightest.cls (some .int) yX13_lightest.name 3 0 0 1065 (t_P (fun v s' => ∃ x, v = some (.int x) ∧ (fun q => q = r) ((x, s')))) 0 [(0, .ref 950), (1, .int x1)] [] (t_m s) 1065 0 0
  refine mj_aload_n dX13_lightest_0 0 rfl ?_
  refine mj_iload_n dX13_lightest_1 1 rfl ?_
  refine t_callViP dX13_lightest_2 M_X13_noType (C_X13_noType _ _) ML_X13_1051 IM_X13_noType SE_X13_noType qc_950 rfl (As := [.int x1]) rfl rfl (Nat.le_of_ble_eq_true rfl) (Nat.le_of_ble_eq_true rfl) (Nat.le_of_ble_eq_true rfl) (Nat.le_of_ble_eq_true rfl) ?_
  refine mj_if_eq 10 dX13_lightest_5 (by decide) (fun z => t_posK hk z (fun hk => ?_)) (fun z => t_negK hk z (fun hk => ?_))
  · refine mj_aload_n dX13_lightest_10 0 rfl ?_
    refine t_bndK hk (fun r2 er2 hk => ?_)
    refine t_callVvE dX13_lightest_11 M_X13_findLight (C_X13_findLight _ _ er2) ML_X13_1073 IM_X13_findLight SE_X13_findLight qc_950 rfl (As := []) rfl rfl (Nat.le_of_ble_eq_true rfl) (Nat.le_of_ble_eq_true rfl) (Nat.le_of_ble_eq_true rfl) (Nat.le_of_ble_eq_true rfl) ?_
    refine mj_aload_n dX13_lightest_14 0 rfl ?_
    refine t_getR 1011 dX13_lightest_15 F_X13_197 qr_950_107 ?_
    refine mj_aload_n dX13_lightest_18 0 rfl ?_
    refine t_getR 965 dX13_lightest_19 F_X13_57 qr_950_38 ?_
    refine mj_iload_n dX13_lightest_22 1 rfl ?_
    refine t_chkK hk (fun c2 hk => ?_)
    refine t_iald dX13_lightest_23 qa_965 (t_ixv c2) ?_
    refine t_chkK hk (fun c3 hk => ?_)
    refine t_lald dX13_lightest_24 qa_1011 (t_ixv c3) ?_
    refine mj_lstore_n 2 (lv2 := [(2, .long (r2.2.1 1011 ((r2.1 965 (x1.toNatClampNeg)).toNatClampNeg))), (0, .ref 950), (1, .int x1)]) dX13_lightest_25 rfl (by decide) rfl ?_
    refine mj_lload_n dX13_lightest_26 0 rfl ?_
    refine mj_ldc2 dX13_lightest_27 K_X13_1076 ?_
    refine mj_lcmp dX13_lightest_30 ?_
    refine mj_if_le 39 dX13_lightest_31 (by decide) (fun z => t_posK hk z (fun hk => ?_)) (fun z => t_negK hk z (fun hk => ?_))
    · refine mj_lload_n dX13_lightest_39 0 rfl ?_
      refine mj_l2i (v := (r2.2.1 1011 ((r2.1 965 (x1.toNatClampNeg)).toNatClampNeg)).toInt32) dX13_lightest_40 rfl ?_
      exact t_somK hk (fun hf => t_iret dX13_lightest_41 rfl rfl ⟨_, rfl, hf⟩ (Nat.le_of_ble_eq_true rfl) (Nat.le_of_ble_eq_true rfl))
    · refine mj_bipush (v := (-2)) dX13_lightest_34 (by decide) ?_
      refine mj_goto 41 dX13_lightest_36 (by decide) ?_
      exact t_somK hk (fun hf => t_iret dX13_lightest_41 rfl rfl ⟨_, rfl, hf⟩ (Nat.le_of_ble_eq_true rfl) (Nat.le_of_ble_eq_true rfl))
  · refine mj_iconst (v := (-1)) dX13_lightest_8 (by decide) ?_
    exact t_somK hk (fun hf => t_iret dX13_lightest_9 rfl rfl ⟨_, rfl, hf⟩ (Nat.le_of_ble_eq_true rfl) (Nat.le_of_ble_eq_true rfl))

theorem dX13_numbersOf_0 : decode cX13_numbersOf 0 = .ok (.aload_n 0, 1) := by decide +kernel
theorem dX13_numbersOf_1 : decode cX13_numbersOf 1 = .ok (.getfield 39, 3) := by decide +kernel
theorem dX13_numbersOf_101 : decode cX13_numbersOf 101 = .ok (.lload 7, 2) := by decide +kernel
theorem dX13_numbersOf_103 : decode cX13_numbersOf 103 = .ok (.lcmp, 1) := by decide +kernel
theorem dX13_numbersOf_104 : decode cX13_numbersOf 104 = .ok (.ifCond .ne 29, 3) := by decide +kernel
theorem dX13_numbersOf_107 : decode cX13_numbersOf 107 = .ok (.aload_n 0, 1) := by decide +kernel
theorem dX13_numbersOf_108 : decode cX13_numbersOf 108 = .ok (.getfield 36, 3) := by decide +kernel
theorem dX13_numbersOf_111 : decode cX13_numbersOf 111 = .ok (.iload 11, 2) := by decide +kernel
theorem dX13_numbersOf_113 : decode cX13_numbersOf 113 = .ok (.laload, 1) := by decide +kernel
theorem dX13_numbersOf_114 : decode cX13_numbersOf 114 = .ok (.lload 9, 2) := by decide +kernel
theorem dX13_numbersOf_116 : decode cX13_numbersOf 116 = .ok (.lcmp, 1) := by decide +kernel
theorem dX13_numbersOf_117 : decode cX13_numbersOf 117 = .ok (.ifCond .le 16, 3) := by decide +kernel
theorem dX13_numbersOf_12 : decode cX13_numbersOf 12 = .ok (.lreturn, 1) := by decide +kernel
theorem dX13_numbersOf_120 : decode cX13_numbersOf 120 = .ok (.lload 12, 2) := by decide +kernel
theorem dX13_numbersOf_122 : decode cX13_numbersOf 122 = .ok (.lstore 7, 2) := by decide +kernel
theorem dX13_numbersOf_124 : decode cX13_numbersOf 124 = .ok (.aload_n 0, 1) := by decide +kernel
theorem dX13_numbersOf_125 : decode cX13_numbersOf 125 = .ok (.getfield 36, 3) := by decide +kernel
theorem dX13_numbersOf_128 : decode cX13_numbersOf 128 = .ok (.iload 11, 2) := by decide +kernel
theorem dX13_numbersOf_13 : decode cX13_numbersOf 13 = .ok (.lconst 0, 1) := by decide +kernel
theorem dX13_numbersOf_130 : decode cX13_numbersOf 130 = .ok (.laload, 1) := by decide +kernel
theorem dX13_numbersOf_131 : decode cX13_numbersOf 131 = .ok (.lstore 9, 2) := by decide +kernel
theorem dX13_numbersOf_133 : decode cX13_numbersOf 133 = .ok (.aload_n 0, 1) := by decide +kernel
theorem dX13_numbersOf_134 : decode cX13_numbersOf 134 = .ok (.getfield 42, 3) := by decide +kernel
theorem dX13_numbersOf_137 : decode cX13_numbersOf 137 = .ok (.iload 11, 2) := by decide +kernel
theorem dX13_numbersOf_139 : decode cX13_numbersOf 139 = .ok (.iaload, 1) := by decide +kernel
theorem dX13_numbersOf_14 : decode cX13_numbersOf 14 = .ok (.lstore_n 2, 1) := by decide +kernel
theorem dX13_numbersOf_140 : decode cX13_numbersOf 140 = .ok (.istore 11, 2) := by decide +kernel
theorem dX13_numbersOf_142 : decode cX13_numbersOf 142 = .ok (.goto (-96), 3) := by decide +kernel
theorem dX13_numbersOf_145 : decode cX13_numbersOf 145 = .ok (.lload 7, 2) := by decide +kernel
theorem dX13_numbersOf_147 : decode cX13_numbersOf 147 = .ok (.ldc2_w 864, 3) := by decide +kernel
theorem dX13_numbersOf_15 : decode cX13_numbersOf 15 = .ok (.ldc2_w 522, 3) := by decide +kernel
theorem dX13_numbersOf_150 : decode cX13_numbersOf 150 = .ok (.lcmp, 1) := by decide +kernel
theorem dX13_numbersOf_151 : decode cX13_numbersOf 151 = .ok (.ifCond .gt 7, 3) := by decide +kernel
theorem dX13_numbersOf_154 : decode cX13_numbersOf 154 = .ok (.iconst 1, 1) := by decide +kernel
theorem dX13_numbersOf_155 : decode cX13_numbersOf 155 = .ok (.goto 4, 3) := by decide +kernel
theorem dX13_numbersOf_158 : decode cX13_numbersOf 158 = .ok (.iconst 0, 1) := by decide +kernel
theorem dX13_numbersOf_159 : decode cX13_numbersOf 159 = .ok (.istore 6, 2) := by decide +kernel
theorem dX13_numbersOf_161 : decode cX13_numbersOf 161 = .ok (.iload 6, 2) := by decide +kernel
theorem dX13_numbersOf_163 : decode cX13_numbersOf 163 = .ok (.ifCond .eq 15, 3) := by decide +kernel
theorem dX13_numbersOf_166 : decode cX13_numbersOf 166 = .ok (.lload_n 2, 1) := by decide +kernel
theorem dX13_numbersOf_167 : decode cX13_numbersOf 167 = .ok (.lload 9, 2) := by decide +kernel
theorem dX13_numbersOf_169 : decode cX13_numbersOf 169 = .ok (.ladd, 1) := by decide +kernel
theorem dX13_numbersOf_170 : decode cX13_numbersOf 170 = .ok (.lload 7, 2) := by decide +kernel
theorem dX13_numbersOf_172 : decode cX13_numbersOf 172 = .ok (.lsub, 1) := by decide +kernel
theorem dX13_numbersOf_173 : decode cX13_numbersOf 173 = .ok (.lconst 1, 1) := by decide +kernel
theorem dX13_numbersOf_174 : decode cX13_numbersOf 174 = .ok (.ladd, 1) := by decide +kernel
theorem dX13_numbersOf_175 : decode cX13_numbersOf 175 = .ok (.goto 4, 3) := by decide +kernel
theorem dX13_numbersOf_178 : decode cX13_numbersOf 178 = .ok (.lload_n 2, 1) := by decide +kernel
theorem dX13_numbersOf_179 : decode cX13_numbersOf 179 = .ok (.lstore_n 2, 1) := by decide +kernel
theorem dX13_numbersOf_18 : decode cX13_numbersOf 18 = .ok (.lstore 4, 2) := by decide +kernel
theorem dX13_numbersOf_180 : decode cX13_numbersOf 180 = .ok (.iload 6, 2) := by decide +kernel
theorem dX13_numbersOf_182 : decode cX13_numbersOf 182 = .ok (.ifCond .eq 10, 3) := by decide +kernel
theorem dX13_numbersOf_185 : decode cX13_numbersOf 185 = .ok (.lload 9, 2) := by decide +kernel
theorem dX13_numbersOf_187 : decode cX13_numbersOf 187 = .ok (.lconst 1, 1) := by decide +kernel
theorem dX13_numbersOf_188 : decode cX13_numbersOf 188 = .ok (.ladd, 1) := by decide +kernel
theorem dX13_numbersOf_189 : decode cX13_numbersOf 189 = .ok (.goto 5, 3) := by decide +kernel
theorem dX13_numbersOf_192 : decode cX13_numbersOf 192 = .ok (.lload 4, 2) := by decide +kernel
theorem dX13_numbersOf_194 : decode cX13_numbersOf 194 = .ok (.lstore 4, 2) := by decide +kernel
theorem dX13_numbersOf_196 : decode cX13_numbersOf 196 = .ok (.goto (-173), 3) := by decide +kernel
theorem dX13_numbersOf_199 : decode cX13_numbersOf 199 = .ok (.lload_n 2, 1) := by decide +kernel
theorem dX13_numbersOf_20 : decode cX13_numbersOf 20 = .ok (.iconst 1, 1) := by decide +kernel
theorem dX13_numbersOf_200 : decode cX13_numbersOf 200 = .ok (.lreturn, 1) := by decide +kernel
theorem dX13_numbersOf_21 : decode cX13_numbersOf 21 = .ok (.istore 6, 2) := by decide +kernel
theorem dX13_numbersOf_23 : decode cX13_numbersOf 23 = .ok (.iload 6, 2) := by decide +kernel
theorem dX13_numbersOf_25 : decode cX13_numbersOf 25 = .ok (.ifCond .eq 174, 3) := by decide +kernel
theorem dX13_numbersOf_28 : decode cX13_numbersOf 28 = .ok (.ldc2_w 992, 3) := by decide +kernel
theorem dX13_numbersOf_31 : decode cX13_numbersOf 31 = .ok (.lstore 7, 2) := by decide +kernel
theorem dX13_numbersOf_33 : decode cX13_numbersOf 33 = .ok (.ldc2_w 992, 3) := by decide +kernel
theorem dX13_numbersOf_36 : decode cX13_numbersOf 36 = .ok (.lstore 9, 2) := by decide +kernel
theorem dX13_numbersOf_38 : decode cX13_numbersOf 38 = .ok (.aload_n 0, 1) := by decide +kernel
theorem dX13_numbersOf_39 : decode cX13_numbersOf 39 = .ok (.getfield 39, 3) := by decide +kernel
theorem dX13_numbersOf_4 : decode cX13_numbersOf 4 = .ok (.iload_n 1, 1) := by decide +kernel
theorem dX13_numbersOf_42 : decode cX13_numbersOf 42 = .ok (.iload_n 1, 1) := by decide +kernel
theorem dX13_numbersOf_43 : decode cX13_numbersOf 43 = .ok (.iaload, 1) := by decide +kernel
theorem dX13_numbersOf_44 : decode cX13_numbersOf 44 = .ok (.istore 11, 2) := by decide +kernel
theorem dX13_numbersOf_46 : decode cX13_numbersOf 46 = .ok (.iload 11, 2) := by decide +kernel
theorem dX13_numbersOf_48 : decode cX13_numbersOf 48 = .ok (.ifCond .lt 97, 3) := by decide +kernel
theorem dX13_numbersOf_5 : decode cX13_numbersOf 5 = .ok (.iaload, 1) := by decide +kernel
theorem dX13_numbersOf_51 : decode cX13_numbersOf 51 = .ok (.aload_n 0, 1) := by decide +kernel
theorem dX13_numbersOf_52 : decode cX13_numbersOf 52 = .ok (.getfield 32, 3) := by decide +kernel
theorem dX13_numbersOf_55 : decode cX13_numbersOf 55 = .ok (.iload 11, 2) := by decide +kernel
theorem dX13_numbersOf_57 : decode cX13_numbersOf 57 = .ok (.laload, 1) := by decide +kernel
theorem dX13_numbersOf_58 : decode cX13_numbersOf 58 = .ok (.lload 4, 2) := by decide +kernel
theorem dX13_numbersOf_6 : decode cX13_numbersOf 6 = .ok (.ifCond .ge 7, 3) := by decide +kernel
theorem dX13_numbersOf_60 : decode cX13_numbersOf 60 = .ok (.lcmp, 1) := by decide +kernel
theorem dX13_numbersOf_61 : decode cX13_numbersOf 61 = .ok (.ifCond .ge 8, 3) := by decide +kernel
theorem dX13_numbersOf_64 : decode cX13_numbersOf 64 = .ok (.lload 4, 2) := by decide +kernel
theorem dX13_numbersOf_66 : decode cX13_numbersOf 66 = .ok (.goto 10, 3) := by decide +kernel
theorem dX13_numbersOf_69 : decode cX13_numbersOf 69 = .ok (.aload_n 0, 1) := by decide +kernel
theorem dX13_numbersOf_70 : decode cX13_numbersOf 70 = .ok (.getfield 32, 3) := by decide +kernel
theorem dX13_numbersOf_73 : decode cX13_numbersOf 73 = .ok (.iload 11, 2) := by decide +kernel
theorem dX13_numbersOf_75 : decode cX13_numbersOf 75 = .ok (.laload, 1) := by decide +kernel
theorem dX13_numbersOf_76 : decode cX13_numbersOf 76 = .ok (.lstore 12, 2) := by decide +kernel
theorem dX13_numbersOf_78 : decode cX13_numbersOf 78 = .ok (.lload 12, 2) := by decide +kernel
theorem dX13_numbersOf_80 : decode cX13_numbersOf 80 = .ok (.aload_n 0, 1) := by decide +kernel
theorem dX13_numbersOf_81 : decode cX13_numbersOf 81 = .ok (.getfield 36, 3) := by decide +kernel
theorem dX13_numbersOf_84 : decode cX13_numbersOf 84 = .ok (.iload 11, 2) := by decide +kernel
theorem dX13_numbersOf_86 : decode cX13_numbersOf 86 = .ok (.laload, 1) := by decide +kernel
theorem dX13_numbersOf_87 : decode cX13_numbersOf 87 = .ok (.lcmp, 1) := by decide +kernel
theorem dX13_numbersOf_88 : decode cX13_numbersOf 88 = .ok (.ifCond .gt 45, 3) := by decide +kernel
theorem dX13_numbersOf_9 : decode cX13_numbersOf 9 = .ok (.ldc2_w 1127, 3) := by decide +kernel
theorem dX13_numbersOf_91 : decode cX13_numbersOf 91 = .ok (.lload 12, 2) := by decide +kernel
theorem dX13_numbersOf_93 : decode cX13_numbersOf 93 = .ok (.lload 7, 2) := by decide +kernel
theorem dX13_numbersOf_95 : decode cX13_numbersOf 95 = .ok (.lcmp, 1) := by decide +kernel
theorem dX13_numbersOf_96 : decode cX13_numbersOf 96 = .ok (.ifCond .lt 24, 3) := by decide +kernel
theorem dX13_numbersOf_99 : decode cX13_numbersOf 99 = .ok (.lload 12, 2) := by decide +kernel
noncomputable def k_X13_numbersOf_133 (l1 : Int32) (l2 : Int64) (l4 : Int64) (l7 : Int64) (l9 : Int64) (l11 : Int32) (s : t_S) : Option ((Int32 × Int64 × Int64 × Int64 × Int64 × Int32) ⊕ ((Int32 × Int64 × Int64 × Int32) ⊕ (Int64))) :=
 if t_ix l11 13000 = true then
  some (.inl (l1, l2, l4, l7, l9, (s.1 960 (l11.toNatClampNeg))))
else none
set_option maxRecDepth 4000 in
set_option maxHeartbeats 1000000 in
theorem B_X13_numbersOf_133 {D : va_G} {cy : Nat → ClassId} {ad : Nat → Nat} {bs : Nat} {X : State → Heap → Prop} (l1 : Int32) (l2 : Int64) (l4 : Int64) (l7 : Int64) (l9 : Int64) (l11 : Int32) (s : t_S) (Q : (Int32 × Int64 × Int64 × Int64 × Int64 × Int32) ⊕ ((Int32 × Int64 × Int64 × Int32) ⊕ (Int64)) → Prop) (Hb23 : ∀ (y0 : Int32) (y1 : Int64) (y2 : Int64) (y3 : Int32), Q (.inr (.inl (y0, y1, y2, y3))) → mj_G D cy ad bs X cX13_numbersOf 14 yX13_numbersOf.cls (some .long) yX13_numbersOf.name 0 0 0 1065 (t_P (fun v s' => s' = s ∧ ∃ x, v = some (.long x) ∧ Q (.inr (.inr (x))))) 23 [(0, .ref 950), (1, .int (y0)), (2, .long (y1)), (4, .long (y2)), (6, .int (y3))] [] (t_m s) 1065 0 0) (Hb46 : ∀ (y0 : Int32) (y1 : Int64) (y2 : Int64) (y3 : Int64) (y4 : Int64) (y5 : Int32), Q (.inl (y0, y1, y2, y3, y4, y5)) → mj_G D cy ad bs X cX13_numbersOf 14 yX13_numbersOf.cls (some .long) yX13_numbersOf.name 0 0 0 1065 (t_P (fun v s' => s' = s ∧ ∃ x, v = some (.long x) ∧ Q (.inr (.inr (x))))) 46 [(0, .ref 950), (1, .int (y0)), (2, .long (y1)), (4, .long (y2)), (7, .long (y3)), (9, .long (y4)), (11, .int (y5))] [] (t_m s) 1065 0 0) (hk : t_hk (k_X13_numbersOf_133 l1 l2 l4 l7 l9 l11 s) Q) : mj_G D cy ad bs X cX13_numbersOf 14 yX13_numbersOf.cls (some .long) yX13_numbersOf.name 0 0 0 1065 (t_P (fun v s' => s' = s ∧ ∃ x, v = some (.long x) ∧ Q (.inr (.inr (x))))) 133 [(0, .ref 950), (1, .int l1), (2, .long l2), (4, .long l4), (7, .long l7), (9, .long l9), (11, .int l11)] [] (t_m s) 1065 0 0 := by
  refine mj_aload_n dX13_numbersOf_133 0 rfl ?_
  refine t_getR 960 dX13_numbersOf_134 F_X13_42 qr_950_22 ?_
  refine mj_iload dX13_numbersOf_137 6 rfl ?_
  refine t_chkK hk (fun c0 hk => ?_)
  refine t_iald dX13_numbersOf_139 qa_960 (t_ixv c0) ?_
  refine mj_istore (lv2 := [(11, .int (s.1 960 (l11.toNatClampNeg))), (0, .ref 950), (1, .int l1), (2, .long l2), (4, .long l4), (7, .long l7), (9, .long l9)]) dX13_numbersOf_140 (by decide) rfl ?_
  refine mj_goto 46 dX13_numbersOf_142 (by decide) ?_
  refine mj_sublv [(0, .ref 950), (1, .int l1), (2, .long l2), (4, .long l4), (7, .long l7), (9, .long l9), (11, .int (s.1 960 (l11.toNatClampNeg)))] [1, 2, 3, 4, 5, 6, 0] rfl ?_
  exact t_somK hk (fun hf => Hb46 l1 l2 l4 l7 l9 (s.1 960 (l11.toNatClampNeg)) hf)
noncomputable def k_X13_numbersOf_120 (l1 : Int32) (l2 : Int64) (l4 : Int64) (l11 : Int32) (l12 : Int64) (s : t_S) : Option ((Int32 × Int64 × Int64 × Int64 × Int64 × Int32) ⊕ ((Int32 × Int64 × Int64 × Int32) ⊕ (Int64))) :=
 if t_ix l11 13000 = true then
  k_X13_numbersOf_133 l1 l2 l4 l12 (s.2.1 958 (l11.toNatClampNeg)) l11 s
else none
set_option maxRecDepth 4000 in
set_option maxHeartbeats 1000000 in
theorem B_X13_numbersOf_120 {D : va_G} {cy : Nat → ClassId} {ad : Nat → Nat} {bs : Nat} {X : State → Heap → Prop} (l1 : Int32) (l2 : Int64) (l4 : Int64) (l11 : Int32) (l12 : Int64) (s : t_S) (Q : (Int32 × Int64 × Int64 × Int64 × Int64 × Int32) ⊕ ((Int32 × Int64 × Int64 × Int32) ⊕ (Int64)) → Prop) (Hb23 : ∀ (y0 : Int32) (y1 : Int64) (y2 : Int64) (y3 : Int32), Q (.inr (.inl (y0, y1, y2, y3))) → mj_G D cy ad bs X cX13_numbersOf 14 yX13_numbersOf.cls (some .long) yX13_numbersOf.name 0 0 0 1065 (t_P (fun v s' => s' = s ∧ ∃ x, v = some (.long x) ∧ Q (.inr (.inr (x))))) 23 [(0, .ref 950), (1, .int (y0)), (2, .long (y1)), (4, .long (y2)), (6, .int (y3))] [] (t_m s) 1065 0 0) (Hb46 : ∀ (y0 : Int32) (y1 : Int64) (y2 : Int64) (y3 : Int64) (y4 : Int64) (y5 : Int32), Q (.inl (y0, y1, y2, y3, y4, y5)) → mj_G D cy ad bs X cX13_numbersOf 14 yX13_numbersOf.cls (some .long) yX13_numbersOf.name 0 0 0 1065 (t_P (fun v s' => s' = s ∧ ∃ x, v = some (.long x) ∧ Q (.inr (.inr (x))))) 46 [(0, .ref 950), (1, .int (y0)), (2, .long (y1)), (4, .long (y2)), (7, .long (y3)), (9, .long (y4)), (11, .int (y5))] [] (t_m s) 1065 0 0) (hk : t_hk (k_X13_numbersOf_120 l1 l2 l4 l11 l12 s) Q) : mj_G D cy ad bs X cX13_numbersOf 14 yX13_numbersOf.cls (some .long) yX13_numbersOf.name 0 0 0 1065 (t_P (fun v s' => s' = s ∧ ∃ x, v = some (.long x) ∧ Q (.inr (.inr (x))))) 120 [(0, .ref 950), (1, .int l1), (2, .long l2), (4, .long l4), (11, .int l11), (12, .long l12)] [] (t_m s) 1065 0 0 := by
  refine mj_lload dX13_numbersOf_120 5 rfl ?_
  refine mj_lstore (lv2 := [(7, .long l12), (0, .ref 950), (1, .int l1), (2, .long l2), (4, .long l4), (11, .int l11), (12, .long l12)]) dX13_numbersOf_122 (by decide) rfl ?_
  refine mj_aload_n dX13_numbersOf_124 1 rfl ?_
  refine t_getR 958 dX13_numbersOf_125 F_X13_36 qr_950_20 ?_
  refine mj_iload dX13_numbersOf_128 5 rfl ?_
  refine t_chkK hk (fun c0 hk => ?_)
  refine t_lald dX13_numbersOf_130 qa_958 (t_ixv c0) ?_
  refine mj_lstore (lv2 := [(9, .long (s.2.1 958 (l11.toNatClampNeg))), (7, .long l12), (0, .ref 950), (1, .int l1), (2, .long l2), (4, .long l4), (11, .int l11), (12, .long l12)]) dX13_numbersOf_131 (by decide) rfl ?_
  refine mj_sublv [(0, .ref 950), (1, .int l1), (2, .long l2), (4, .long l4), (7, .long l12), (9, .long (s.2.1 958 (l11.toNatClampNeg))), (11, .int l11)] [2, 3, 4, 5, 1, 0, 6] rfl ?_
  exact B_X13_numbersOf_133 _ _ _ _ _ _ _ _ (fun y0 y1 y2 y3 hx => Hb23 y0 y1 y2 y3 hx) (fun y0 y1 y2 y3 y4 y5 hx => Hb46 y0 y1 y2 y3 y4 y5 hx) hk
noncomputable def k_X13_numbersOf_76 (l1 : Int32) (l2 : Int64) (l4 : Int64) (l7 : Int64) (l9 : Int64) (l11 : Int32) (k0 : Int64) (s : t_S) : Option ((Int32 × Int64 × Int64 × Int64 × Int64 × Int32) ⊕ ((Int32 × Int64 × Int64 × Int32) ⊕ (Int64))) :=
 if t_ix l11 13000 = true then
  if (0 : Int32) < (lg_cmp k0 (s.2.1 958 (l11.toNatClampNeg))) then (k_X13_numbersOf_133 l1 l2 l4 l7 l9 l11 s)
 else (if (lg_cmp k0 l7) < (0 : Int32) then (k_X13_numbersOf_120 l1 l2 l4 l11 k0 s)
 else (if (lg_cmp k0 l7) = (0 : Int32) then (if (lg_cmp (s.2.1 958 (l11.toNatClampNeg)) l9) ≤ (0 : Int32) then (k_X13_numbersOf_133 l1 l2 l4 l7 l9 l11 s)
 else (k_X13_numbersOf_120 l1 l2 l4 l11 k0 s))
 else (k_X13_numbersOf_133 l1 l2 l4 l7 l9 l11 s)))
else none
set_option maxRecDepth 4000 in
set_option maxHeartbeats 1000000 in
theorem B_X13_numbersOf_76 {D : va_G} {cy : Nat → ClassId} {ad : Nat → Nat} {bs : Nat} {X : State → Heap → Prop} (l1 : Int32) (l2 : Int64) (l4 : Int64) (l7 : Int64) (l9 : Int64) (l11 : Int32) (k0 : Int64) (s : t_S) (Q : (Int32 × Int64 × Int64 × Int64 × Int64 × Int32) ⊕ ((Int32 × Int64 × Int64 × Int32) ⊕ (Int64)) → Prop) (Hb23 : ∀ (y0 : Int32) (y1 : Int64) (y2 : Int64) (y3 : Int32), Q (.inr (.inl (y0, y1, y2, y3))) → mj_G D cy ad bs X cX13_numbersOf 14 yX13_numbersOf.cls (some .long) yX13_numbersOf.name 0 0 0 1065 (t_P (fun v s' => s' = s ∧ ∃ x, v = some (.long x) ∧ Q (.inr (.inr (x))))) 23 [(0, .ref 950), (1, .int (y0)), (2, .long (y1)), (4, .long (y2)), (6, .int (y3))] [] (t_m s) 1065 0 0) (Hb46 : ∀ (y0 : Int32) (y1 : Int64) (y2 : Int64) (y3 : Int64) (y4 : Int64) (y5 : Int32), Q (.inl (y0, y1, y2, y3, y4, y5)) → mj_G D cy ad bs X cX13_numbersOf 14 yX13_numbersOf.cls (some .long) yX13_numbersOf.name 0 0 0 1065 (t_P (fun v s' => s' = s ∧ ∃ x, v = some (.long x) ∧ Q (.inr (.inr (x))))) 46 [(0, .ref 950), (1, .int (y0)), (2, .long (y1)), (4, .long (y2)), (7, .long (y3)), (9, .long (y4)), (11, .int (y5))] [] (t_m s) 1065 0 0) (hk : t_hk (k_X13_numbersOf_76 l1 l2 l4 l7 l9 l11 k0 s) Q) : mj_G D cy ad bs X cX13_numbersOf 14 yX13_numbersOf.cls (some .long) yX13_numbersOf.name 0 0 0 1065 (t_P (fun v s' => s' = s ∧ ∃ x, v = some (.long x) ∧ Q (.inr (.inr (x))))) 76 [(0, .ref 950), (1, .int l1), (2, .long l2), (4, .long l4), (7, .long l7), (9, .long l9), (11, .int l11)] [.long k0] (t_m s) 1065 0 0 := by
  refine mj_lstore (lv2 := [(12, .long k0), (0, .ref 950), (1, .int l1), (2, .long l2), (4, .long l4), (7, .long l7), (9, .long l9), (11, .int l11)]) dX13_numbersOf_76 (by decide) rfl ?_
  refine mj_lload dX13_numbersOf_78 0 rfl ?_
  refine mj_aload_n dX13_numbersOf_80 1 rfl ?_
  refine t_getR 958 dX13_numbersOf_81 F_X13_36 qr_950_20 ?_
  refine mj_iload dX13_numbersOf_84 7 rfl ?_
  refine t_chkK hk (fun c0 hk => ?_)
  refine t_lald dX13_numbersOf_86 qa_958 (t_ixv c0) ?_
  refine mj_lcmp dX13_numbersOf_87 ?_
  refine mj_if_gt 133 dX13_numbersOf_88 (by decide) (fun z => t_posK hk z (fun hk => ?_)) (fun z => t_negK hk z (fun hk => ?_))
  · refine mj_sublv [(0, .ref 950), (1, .int l1), (2, .long l2), (4, .long l4), (7, .long l7), (9, .long l9), (11, .int l11)] [1, 2, 3, 4, 5, 6, 7] rfl ?_
    exact B_X13_numbersOf_133 _ _ _ _ _ _ _ _ (fun y0 y1 y2 y3 hx => Hb23 y0 y1 y2 y3 hx) (fun y0 y1 y2 y3 y4 y5 hx => Hb46 y0 y1 y2 y3 y4 y5 hx) hk
  · refine mj_lload dX13_numbersOf_91 0 rfl ?_
    refine mj_lload dX13_numbersOf_93 5 rfl ?_
    refine mj_lcmp dX13_numbersOf_95 ?_
    refine mj_if_lt 120 dX13_numbersOf_96 (by decide) (fun z => t_posK hk z (fun hk => ?_)) (fun z => t_negK hk z (fun hk => ?_))
    · refine mj_sublv [(0, .ref 950), (1, .int l1), (2, .long l2), (4, .long l4), (11, .int l11), (12, .long k0)] [1, 2, 3, 4, 7, 0] rfl ?_
      exact B_X13_numbersOf_120 _ _ _ _ _ _ _ (fun y0 y1 y2 y3 hx => Hb23 y0 y1 y2 y3 hx) (fun y0 y1 y2 y3 y4 y5 hx => Hb46 y0 y1 y2 y3 y4 y5 hx) hk
    · refine mj_lload dX13_numbersOf_99 0 rfl ?_
      refine mj_lload dX13_numbersOf_101 5 rfl ?_
      refine mj_lcmp dX13_numbersOf_103 ?_
      refine mj_if_ne 133 dX13_numbersOf_104 (by decide) (fun z => t_negK hk z (fun hk => ?_)) (fun z => t_posK hk z (fun hk => ?_))
      · refine mj_sublv [(0, .ref 950), (1, .int l1), (2, .long l2), (4, .long l4), (7, .long l7), (9, .long l9), (11, .int l11)] [1, 2, 3, 4, 5, 6, 7] rfl ?_
        exact B_X13_numbersOf_133 _ _ _ _ _ _ _ _ (fun y0 y1 y2 y3 hx => Hb23 y0 y1 y2 y3 hx) (fun y0 y1 y2 y3 y4 y5 hx => Hb46 y0 y1 y2 y3 y4 y5 hx) hk
      · refine mj_aload_n dX13_numbersOf_107 1 rfl ?_
        refine t_getR 958 dX13_numbersOf_108 F_X13_36 qr_950_20 ?_
        refine mj_iload dX13_numbersOf_111 7 rfl ?_
        refine t_lald dX13_numbersOf_113 qa_958 (t_ixv c0) ?_
        refine mj_lload dX13_numbersOf_114 6 rfl ?_
        refine mj_lcmp dX13_numbersOf_116 ?_
        refine mj_if_le 133 dX13_numbersOf_117 (by decide) (fun z => t_posK hk z (fun hk => ?_)) (fun z => t_negK hk z (fun hk => ?_))
        · refine mj_sublv [(0, .ref 950), (1, .int l1), (2, .long l2), (4, .long l4), (7, .long l7), (9, .long l9), (11, .int l11)] [1, 2, 3, 4, 5, 6, 7] rfl ?_
          exact B_X13_numbersOf_133 _ _ _ _ _ _ _ _ (fun y0 y1 y2 y3 hx => Hb23 y0 y1 y2 y3 hx) (fun y0 y1 y2 y3 y4 y5 hx => Hb46 y0 y1 y2 y3 y4 y5 hx) hk
        · refine mj_sublv [(0, .ref 950), (1, .int l1), (2, .long l2), (4, .long l4), (11, .int l11), (12, .long k0)] [1, 2, 3, 4, 7, 0] rfl ?_
          exact B_X13_numbersOf_120 _ _ _ _ _ _ _ (fun y0 y1 y2 y3 hx => Hb23 y0 y1 y2 y3 hx) (fun y0 y1 y2 y3 y4 y5 hx => Hb46 y0 y1 y2 y3 y4 y5 hx) hk
noncomputable def k_X13_numbersOf_194 (l1 : Int32) (l2 : Int64) (l6 : Int32) (k0 : Int64) (s : t_S) : Option ((Int32 × Int64 × Int64 × Int32) ⊕ (Int64)) :=
 some (.inl (l1, l2, k0, l6))
set_option maxRecDepth 4000 in
set_option maxHeartbeats 1000000 in
theorem B_X13_numbersOf_194 {D : va_G} {cy : Nat → ClassId} {ad : Nat → Nat} {bs : Nat} {X : State → Heap → Prop} (l1 : Int32) (l2 : Int64) (l6 : Int32) (k0 : Int64) (s : t_S) (Q : (Int32 × Int64 × Int64 × Int32) ⊕ (Int64) → Prop) (Hb23 : ∀ (y0 : Int32) (y1 : Int64) (y2 : Int64) (y3 : Int32), Q (.inl (y0, y1, y2, y3)) → mj_G D cy ad bs X cX13_numbersOf 14 yX13_numbersOf.cls (some .long) yX13_numbersOf.name 0 0 0 1065 (t_P (fun v s' => s' = s ∧ ∃ x, v = some (.long x) ∧ Q (.inr (x)))) 23 [(0, .ref 950), (1, .int (y0)), (2, .long (y1)), (4, .long (y2)), (6, .int (y3))] [] (t_m s) 1065 0 0) (hk : t_hk (k_X13_numbersOf_194 l1 l2 l6 k0 s) Q) : mj_G D cy ad bs X cX13_numbersOf 14 yX13_numbersOf.cls (some .long) yX13_numbersOf.name 0 0 0 1065 (t_P (fun v s' => s' = s ∧ ∃ x, v = some (.long x) ∧ Q (.inr (x)))) 194 [(0, .ref 950), (1, .int l1), (2, .long l2), (6, .int l6)] [.long k0] (t_m s) 1065 0 0 := by
  refine mj_lstore (lv2 := [(4, .long k0), (0, .ref 950), (1, .int l1), (2, .long l2), (6, .int l6)]) dX13_numbersOf_194 (by decide) rfl ?_
  refine mj_goto 23 dX13_numbersOf_196 (by decide) ?_
  refine mj_sublv [(0, .ref 950), (1, .int l1), (2, .long l2), (4, .long k0), (6, .int l6)] [1, 2, 3, 0, 4] rfl ?_
  exact t_somK hk (fun hf => Hb23 l1 l2 k0 l6 hf)
noncomputable def k_X13_numbersOf_179 (l1 : Int32) (l4 : Int64) (l6 : Int32) (l9 : Int64) (k0 : Int64) (s : t_S) : Option ((Int32 × Int64 × Int64 × Int32) ⊕ (Int64)) :=
 if l6 = (0 : Int32) then (k_X13_numbersOf_194 l1 k0 l6 l4 s)
 else (k_X13_numbersOf_194 l1 k0 l6 (l9 + (1 : Int64)) s)
set_option maxRecDepth 4000 in
set_option maxHeartbeats 1000000 in
theorem B_X13_numbersOf_179 {D : va_G} {cy : Nat → ClassId} {ad : Nat → Nat} {bs : Nat} {X : State → Heap → Prop} (l1 : Int32) (l4 : Int64) (l6 : Int32) (l9 : Int64) (k0 : Int64) (s : t_S) (Q : (Int32 × Int64 × Int64 × Int32) ⊕ (Int64) → Prop) (Hb23 : ∀ (y0 : Int32) (y1 : Int64) (y2 : Int64) (y3 : Int32), Q (.inl (y0, y1, y2, y3)) → mj_G D cy ad bs X cX13_numbersOf 14 yX13_numbersOf.cls (some .long) yX13_numbersOf.name 0 0 0 1065 (t_P (fun v s' => s' = s ∧ ∃ x, v = some (.long x) ∧ Q (.inr (x)))) 23 [(0, .ref 950), (1, .int (y0)), (2, .long (y1)), (4, .long (y2)), (6, .int (y3))] [] (t_m s) 1065 0 0) (hk : t_hk (k_X13_numbersOf_179 l1 l4 l6 l9 k0 s) Q) : mj_G D cy ad bs X cX13_numbersOf 14 yX13_numbersOf.cls (some .long) yX13_numbersOf.name 0 0 0 1065 (t_P (fun v s' => s' = s ∧ ∃ x, v = some (.long x) ∧ Q (.inr (x)))) 179 [(0, .ref 950), (1, .int l1), (4, .long l4), (6, .int l6), (9, .long l9)] [.long k0] (t_m s) 1065 0 0 := by
  refine mj_lstore_n 2 (lv2 := [(2, .long k0), (0, .ref 950), (1, .int l1), (4, .long l4), (6, .int l6), (9, .long l9)]) dX13_numbersOf_179 rfl (by decide) rfl ?_
  refine mj_iload dX13_numbersOf_180 4 rfl ?_
  refine mj_if_eq 192 dX13_numbersOf_182 (by decide) (fun z => t_posK hk z (fun hk => ?_)) (fun z => t_negK hk z (fun hk => ?_))
  · refine mj_lload dX13_numbersOf_192 3 rfl ?_
    refine mj_sublv [(0, .ref 950), (1, .int l1), (2, .long k0), (6, .int l6)] [1, 2, 0, 4] rfl ?_
    exact B_X13_numbersOf_194 _ _ _ _ _ _ (fun y0 y1 y2 y3 hx => Hb23 y0 y1 y2 y3 hx) hk
  · refine mj_lload dX13_numbersOf_185 5 rfl ?_
    refine mj_lconst (v := 1) dX13_numbersOf_187 (by decide) ?_
    refine mj_ladd dX13_numbersOf_188 ?_
    refine mj_goto 194 dX13_numbersOf_189 (by decide) ?_
    refine mj_sublv [(0, .ref 950), (1, .int l1), (2, .long k0), (6, .int l6)] [1, 2, 0, 4] rfl ?_
    exact B_X13_numbersOf_194 _ _ _ _ _ _ (fun y0 y1 y2 y3 hx => Hb23 y0 y1 y2 y3 hx) hk
noncomputable def k_X13_numbersOf_159 (l1 : Int32) (l2 : Int64) (l4 : Int64) (l7 : Int64) (l9 : Int64) (k0 : Int32) (s : t_S) : Option ((Int32 × Int64 × Int64 × Int32) ⊕ (Int64)) :=
 if k0 = (0 : Int32) then (k_X13_numbersOf_179 l1 l4 k0 l9 l2 s)
 else (k_X13_numbersOf_179 l1 l4 k0 l9 (((l2 + l9) - l7) + (1 : Int64)) s)
set_option maxRecDepth 4000 in
set_option maxHeartbeats 1000000 in
theorem B_X13_numbersOf_159 {D : va_G} {cy : Nat → ClassId} {ad : Nat → Nat} {bs : Nat} {X : State → Heap → Prop} (l1 : Int32) (l2 : Int64) (l4 : Int64) (l7 : Int64) (l9 : Int64) (k0 : Int32) (s : t_S) (Q : (Int32 × Int64 × Int64 × Int32) ⊕ (Int64) → Prop) (Hb23 : ∀ (y0 : Int32) (y1 : Int64) (y2 : Int64) (y3 : Int32), Q (.inl (y0, y1, y2, y3)) → mj_G D cy ad bs X cX13_numbersOf 14 yX13_numbersOf.cls (some .long) yX13_numbersOf.name 0 0 0 1065 (t_P (fun v s' => s' = s ∧ ∃ x, v = some (.long x) ∧ Q (.inr (x)))) 23 [(0, .ref 950), (1, .int (y0)), (2, .long (y1)), (4, .long (y2)), (6, .int (y3))] [] (t_m s) 1065 0 0) (hk : t_hk (k_X13_numbersOf_159 l1 l2 l4 l7 l9 k0 s) Q) : mj_G D cy ad bs X cX13_numbersOf 14 yX13_numbersOf.cls (some .long) yX13_numbersOf.name 0 0 0 1065 (t_P (fun v s' => s' = s ∧ ∃ x, v = some (.long x) ∧ Q (.inr (x)))) 159 [(0, .ref 950), (1, .int l1), (2, .long l2), (4, .long l4), (7, .long l7), (9, .long l9)] [.int k0] (t_m s) 1065 0 0 := by
  refine mj_istore (lv2 := [(6, .int k0), (0, .ref 950), (1, .int l1), (2, .long l2), (4, .long l4), (7, .long l7), (9, .long l9)]) dX13_numbersOf_159 (by decide) rfl ?_
  refine mj_iload dX13_numbersOf_161 0 rfl ?_
  refine mj_if_eq 178 dX13_numbersOf_163 (by decide) (fun z => t_posK hk z (fun hk => ?_)) (fun z => t_negK hk z (fun hk => ?_))
  · refine mj_lload_n dX13_numbersOf_178 3 rfl ?_
    refine mj_sublv [(0, .ref 950), (1, .int l1), (4, .long l4), (6, .int k0), (9, .long l9)] [1, 2, 4, 0, 6] rfl ?_
    exact B_X13_numbersOf_179 _ _ _ _ _ _ _ (fun y0 y1 y2 y3 hx => Hb23 y0 y1 y2 y3 hx) hk
  · refine mj_lload_n dX13_numbersOf_166 3 rfl ?_
    refine mj_lload dX13_numbersOf_167 6 rfl ?_
    refine mj_ladd dX13_numbersOf_169 ?_
    refine mj_lload dX13_numbersOf_170 5 rfl ?_
    refine mj_lsub dX13_numbersOf_172 ?_
    refine mj_lconst (v := 1) dX13_numbersOf_173 (by decide) ?_
    refine mj_ladd dX13_numbersOf_174 ?_
    refine mj_goto 179 dX13_numbersOf_175 (by decide) ?_
    refine mj_sublv [(0, .ref 950), (1, .int l1), (4, .long l4), (6, .int k0), (9, .long l9)] [1, 2, 4, 0, 6] rfl ?_
    exact B_X13_numbersOf_179 _ _ _ _ _ _ _ (fun y0 y1 y2 y3 hx => Hb23 y0 y1 y2 y3 hx) hk
noncomputable def k_X13_numbersOf_46 (l1 : Int32) (l2 : Int64) (l4 : Int64) (l7 : Int64) (l9 : Int64) (l11 : Int32) (s : t_S) : Option ((Int32 × Int64 × Int64 × Int64 × Int64 × Int32) ⊕ ((Int32 × Int64 × Int64 × Int32) ⊕ (Int64))) :=
 if l11 < (0 : Int32) then ((if (0 : Int32) < (lg_cmp l7 (1000000000000000 : Int64)) then (k_X13_numbersOf_159 l1 l2 l4 l7 l9 0 s)
 else (k_X13_numbersOf_159 l1 l2 l4 l7 l9 1 s)).map Sum.inr)
 else (if t_ix l11 13000 = true then
  if (0 : Int32) ≤ (lg_cmp (s.2.1 957 (l11.toNatClampNeg)) l4) then (k_X13_numbersOf_76 l1 l2 l4 l7 l9 l11 (s.2.1 957 (l11.toNatClampNeg)) s)
 else (k_X13_numbersOf_76 l1 l2 l4 l7 l9 l11 l4 s)
else none)
set_option maxRecDepth 4000 in
set_option maxHeartbeats 1000000 in
theorem B_X13_numbersOf_46 {D : va_G} {cy : Nat → ClassId} {ad : Nat → Nat} {bs : Nat} {X : State → Heap → Prop} (l1 : Int32) (l2 : Int64) (l4 : Int64) (l7 : Int64) (l9 : Int64) (l11 : Int32) (s : t_S) (Q : (Int32 × Int64 × Int64 × Int64 × Int64 × Int32) ⊕ ((Int32 × Int64 × Int64 × Int32) ⊕ (Int64)) → Prop) (Hb23 : ∀ (y0 : Int32) (y1 : Int64) (y2 : Int64) (y3 : Int32), Q (.inr (.inl (y0, y1, y2, y3))) → mj_G D cy ad bs X cX13_numbersOf 14 yX13_numbersOf.cls (some .long) yX13_numbersOf.name 0 0 0 1065 (t_P (fun v s' => s' = s ∧ ∃ x, v = some (.long x) ∧ Q (.inr (.inr (x))))) 23 [(0, .ref 950), (1, .int (y0)), (2, .long (y1)), (4, .long (y2)), (6, .int (y3))] [] (t_m s) 1065 0 0) (Hb46 : ∀ (y0 : Int32) (y1 : Int64) (y2 : Int64) (y3 : Int64) (y4 : Int64) (y5 : Int32), Q (.inl (y0, y1, y2, y3, y4, y5)) → mj_G D cy ad bs X cX13_numbersOf 14 yX13_numbersOf.cls (some .long) yX13_numbersOf.name 0 0 0 1065 (t_P (fun v s' => s' = s ∧ ∃ x, v = some (.long x) ∧ Q (.inr (.inr (x))))) 46 [(0, .ref 950), (1, .int (y0)), (2, .long (y1)), (4, .long (y2)), (7, .long (y3)), (9, .long (y4)), (11, .int (y5))] [] (t_m s) 1065 0 0) (hk : t_hk (k_X13_numbersOf_46 l1 l2 l4 l7 l9 l11 s) Q) : mj_G D cy ad bs X cX13_numbersOf 14 yX13_numbersOf.cls (some .long) yX13_numbersOf.name 0 0 0 1065 (t_P (fun v s' => s' = s ∧ ∃ x, v = some (.long x) ∧ Q (.inr (.inr (x))))) 46 [(0, .ref 950), (1, .int l1), (2, .long l2), (4, .long l4), (7, .long l7), (9, .long l9), (11, .int l11)] [] (t_m s) 1065 0 0 := by
  refine mj_iload dX13_numbersOf_46 6 rfl ?_
  refine mj_if_lt 145 dX13_numbersOf_48 (by decide) (fun z => t_posK hk z (fun hk => ?_)) (fun z => t_negK hk z (fun hk => ?_))
  · refine t_mapK hk (fun hk => ?_)
    refine mj_lload dX13_numbersOf_145 4 rfl ?_
    refine mj_ldc2 dX13_numbersOf_147 K_X13_864 ?_
    refine mj_lcmp dX13_numbersOf_150 ?_
    refine mj_if_gt 158 dX13_numbersOf_151 (by decide) (fun z => t_posK hk z (fun hk => ?_)) (fun z => t_negK hk z (fun hk => ?_))
    · refine mj_iconst (v := 0) dX13_numbersOf_158 (by decide) ?_
      refine mj_sublv [(0, .ref 950), (1, .int l1), (2, .long l2), (4, .long l4), (7, .long l7), (9, .long l9)] [0, 1, 2, 3, 4, 5] rfl ?_
      exact B_X13_numbersOf_159 _ _ _ _ _ _ _ _ (fun y0 y1 y2 y3 hx => Hb23 y0 y1 y2 y3 hx) hk
    · refine mj_iconst (v := 1) dX13_numbersOf_154 (by decide) ?_
      refine mj_goto 159 dX13_numbersOf_155 (by decide) ?_
      refine mj_sublv [(0, .ref 950), (1, .int l1), (2, .long l2), (4, .long l4), (7, .long l7), (9, .long l9)] [0, 1, 2, 3, 4, 5] rfl ?_
      exact B_X13_numbersOf_159 _ _ _ _ _ _ _ _ (fun y0 y1 y2 y3 hx => Hb23 y0 y1 y2 y3 hx) hk
  · refine mj_aload_n dX13_numbersOf_51 0 rfl ?_
    refine t_getR 957 dX13_numbersOf_52 F_X13_32 qr_950_19 ?_
    refine mj_iload dX13_numbersOf_55 6 rfl ?_
    refine t_chkK hk (fun c0 hk => ?_)
    refine t_lald dX13_numbersOf_57 qa_957 (t_ixv c0) ?_
    refine mj_lload dX13_numbersOf_58 3 rfl ?_
    refine mj_lcmp dX13_numbersOf_60 ?_
    refine mj_if_ge 69 dX13_numbersOf_61 (by decide) (fun z => t_posK hk z (fun hk => ?_)) (fun z => t_negK hk z (fun hk => ?_))
    · refine mj_aload_n dX13_numbersOf_69 0 rfl ?_
      refine t_getR 957 dX13_numbersOf_70 F_X13_32 qr_950_19 ?_
      refine mj_iload dX13_numbersOf_73 6 rfl ?_
      refine t_lald dX13_numbersOf_75 qa_957 (t_ixv c0) ?_
      exact B_X13_numbersOf_76 _ _ _ _ _ _ _ _ _ (fun y0 y1 y2 y3 hx => Hb23 y0 y1 y2 y3 hx) (fun y0 y1 y2 y3 y4 y5 hx => Hb46 y0 y1 y2 y3 y4 y5 hx) hk
    · refine mj_lload dX13_numbersOf_64 3 rfl ?_
      refine mj_goto 76 dX13_numbersOf_66 (by decide) ?_
      exact B_X13_numbersOf_76 _ _ _ _ _ _ _ _ _ (fun y0 y1 y2 y3 hx => Hb23 y0 y1 y2 y3 hx) (fun y0 y1 y2 y3 y4 y5 hx => Hb46 y0 y1 y2 y3 y4 y5 hx) hk
noncomputable def b_X13_numbersOf_46 (s : t_S) (x : Int32 × Int64 × Int64 × Int64 × Int64 × Int32) : Option ((Int32 × Int64 × Int64 × Int64 × Int64 × Int32) ⊕ ((Int32 × Int64 × Int64 × Int32) ⊕ (Int64))) := k_X13_numbersOf_46 x.1 x.2.1 x.2.2.1 x.2.2.2.1 x.2.2.2.2.1 x.2.2.2.2.2 s
set_option maxRecDepth 4000 in
set_option maxHeartbeats 1000000 in
theorem LH_X13_numbersOf_46 {D : va_G} {cy : Nat → ClassId} {ad : Nat → Nat} {bs : Nat} {X : State → Heap → Prop} (s : t_S) : ∀ (n : Nat) (y0 : Int32) (y1 : Int64) (y2 : Int64) (y3 : Int64) (y4 : Int64) (y5 : Int32) (Q : (Int32 × Int64 × Int64 × Int32) ⊕ (Int64) → Prop) (Hb23 : ∀ (y0 : Int32) (y1 : Int64) (y2 : Int64) (y3 : Int32), Q (.inl (y0, y1, y2, y3)) → mj_G D cy ad bs X cX13_numbersOf 14 yX13_numbersOf.cls (some .long) yX13_numbersOf.name 0 0 0 1065 (t_P (fun v s' => s' = s ∧ ∃ x, v = some (.long x) ∧ Q (.inr (x)))) 23 [(0, .ref 950), (1, .int (y0)), (2, .long (y1)), (4, .long (y2)), (6, .int (y3))] [] (t_m s) 1065 0 0) (hk : t_hk (t_loop (b_X13_numbersOf_46 s) n (y0, y1, y2, y3, y4, y5)) Q), mj_G D cy ad bs X cX13_numbersOf 14 yX13_numbersOf.cls (some .long) yX13_numbersOf.name 0 0 0 1065 (t_P (fun v s' => s' = s ∧ ∃ x, v = some (.long x) ∧ Q (.inr (x)))) 46 [(0, .ref 950), (1, .int (y0)), (2, .long (y1)), (4, .long (y2)), (7, .long (y3)), (9, .long (y4)), (11, .int (y5))] [] (t_m s) 1065 0 0 := by
  intro n
  induction n with
  | zero => intro y0 y1 y2 y3 y4 y5 Q Hb23 hk; obtain ⟨r, hr, _⟩ := hk; cases hr
  | succ n ih =>
    intro y0 y1 y2 y3 y4 y5 Q Hb23 hk
    exact B_X13_numbersOf_46 y0 y1 y2 y3 y4 y5 s (fun y => t_lq (b_X13_numbersOf_46 s) n Q y) (fun y0' y1' y2' y3' hy => Hb23 y0' y1' y2' y3' hy) (fun y0' y1' y2' y3' y4' y5' hy => ih y0' y1' y2' y3' y4' y5' Q Hb23 hy) (t_lp (b := b_X13_numbersOf_46 s) (n := n) (x := (y0, y1, y2, y3, y4, y5)) hk)
noncomputable def k_X13_numbersOf_23 (l1 : Int32) (l2 : Int64) (l4 : Int64) (l6 : Int32) (s : t_S) : Option ((Int32 × Int64 × Int64 × Int32) ⊕ (Int64)) :=
 if l6 = (0 : Int32) then ((some (l2)).map Sum.inr)
 else (if t_ix l1 13000 = true then
  t_loop (b_X13_numbersOf_46 s) t_N (l1, l2, l4, 1000000000000001, 1000000000000001, (s.1 959 (l1.toNatClampNeg)))
else none)
set_option maxRecDepth 4000 in
set_option maxHeartbeats 1000000 in
theorem B_X13_numbersOf_23 {D : va_G} {cy : Nat → ClassId} {ad : Nat → Nat} {bs : Nat} {X : State → Heap → Prop} (l1 : Int32) (l2 : Int64) (l4 : Int64) (l6 : Int32) (s : t_S) (Q : (Int32 × Int64 × Int64 × Int32) ⊕ (Int64) → Prop) (Hb23 : ∀ (y0 : Int32) (y1 : Int64) (y2 : Int64) (y3 : Int32), Q (.inl (y0, y1, y2, y3)) → mj_G D cy ad bs X cX13_numbersOf 14 yX13_numbersOf.cls (some .long) yX13_numbersOf.name 0 0 0 1065 (t_P (fun v s' => s' = s ∧ ∃ x, v = some (.long x) ∧ Q (.inr (x)))) 23 [(0, .ref 950), (1, .int (y0)), (2, .long (y1)), (4, .long (y2)), (6, .int (y3))] [] (t_m s) 1065 0 0) (hk : t_hk (k_X13_numbersOf_23 l1 l2 l4 l6 s) Q) : mj_G D cy ad bs X cX13_numbersOf 14 yX13_numbersOf.cls (some .long) yX13_numbersOf.name 0 0 0 1065 (t_P (fun v s' => s' = s ∧ ∃ x, v = some (.long x) ∧ Q (.inr (x)))) 23 [(0, .ref 950), (1, .int l1), (2, .long l2), (4, .long l4), (6, .int l6)] [] (t_m s) 1065 0 0 := by
  refine mj_iload dX13_numbersOf_23 4 rfl ?_
  refine mj_if_eq 199 dX13_numbersOf_25 (by decide) (fun z => t_posK hk z (fun hk => ?_)) (fun z => t_negK hk z (fun hk => ?_))
  · refine t_mapK hk (fun hk => ?_)
    refine mj_lload_n dX13_numbersOf_199 2 rfl ?_
    exact t_somK hk (fun hf => t_lret dX13_numbersOf_200 rfl ⟨rfl, _, rfl, hf⟩ (Nat.le_of_ble_eq_true rfl) (Nat.le_of_ble_eq_true rfl))
  · refine mj_ldc2 dX13_numbersOf_28 K_X13_992 ?_
    refine mj_lstore (lv2 := [(7, .long 1000000000000001), (0, .ref 950), (1, .int l1), (2, .long l2), (4, .long l4), (6, .int l6)]) dX13_numbersOf_31 (by decide) rfl ?_
    refine mj_ldc2 dX13_numbersOf_33 K_X13_992 ?_
    refine mj_lstore (lv2 := [(9, .long 1000000000000001), (7, .long 1000000000000001), (0, .ref 950), (1, .int l1), (2, .long l2), (4, .long l4), (6, .int l6)]) dX13_numbersOf_36 (by decide) rfl ?_
    refine mj_aload_n dX13_numbersOf_38 2 rfl ?_
    refine t_getR 959 dX13_numbersOf_39 F_X13_39 qr_950_21 ?_
    refine mj_iload_n dX13_numbersOf_42 3 rfl ?_
    refine t_chkK hk (fun c0 hk => ?_)
    refine t_iald dX13_numbersOf_43 qa_959 (t_ixv c0) ?_
    refine mj_istore (lv2 := [(11, .int (s.1 959 (l1.toNatClampNeg))), (9, .long 1000000000000001), (7, .long 1000000000000001), (0, .ref 950), (1, .int l1), (2, .long l2), (4, .long l4), (6, .int l6)]) dX13_numbersOf_44 (by decide) rfl ?_
    refine mj_sublv [(0, .ref 950), (1, .int l1), (2, .long l2), (4, .long l4), (7, .long 1000000000000001), (9, .long 1000000000000001), (11, .int (s.1 959 (l1.toNatClampNeg)))] [3, 4, 5, 6, 2, 1, 0] rfl ?_
    exact LH_X13_numbersOf_46 _ _ l1 l2 l4 1000000000000001 1000000000000001 (s.1 959 (l1.toNatClampNeg)) _ (fun y0 y1 y2 y3 hx => Hb23 y0 y1 y2 y3 hx) hk
noncomputable def b_X13_numbersOf_23 (s : t_S) (x : Int32 × Int64 × Int64 × Int32) : Option ((Int32 × Int64 × Int64 × Int32) ⊕ (Int64)) := k_X13_numbersOf_23 x.1 x.2.1 x.2.2.1 x.2.2.2 s
set_option maxRecDepth 4000 in
set_option maxHeartbeats 1000000 in
theorem LH_X13_numbersOf_23 {D : va_G} {cy : Nat → ClassId} {ad : Nat → Nat} {bs : Nat} {X : State → Heap → Prop} (s : t_S) : ∀ (n : Nat) (y0 : Int32) (y1 : Int64) (y2 : Int64) (y3 : Int32) (Q : Int64 → Prop) (hk : t_hk (t_loop (b_X13_numbersOf_23 s) n (y0, y1, y2, y3)) Q), mj_G D cy ad bs X cX13_numbersOf 14 yX13_numbersOf.cls (some .long) yX13_numbersOf.name 0 0 0 1065 (t_P (fun v s' => s' = s ∧ ∃ x, v = some (.long x) ∧ Q (x))) 23 [(0, .ref 950), (1, .int (y0)), (2, .long (y1)), (4, .long (y2)), (6, .int (y3))] [] (t_m s) 1065 0 0 := by
  intro n
  induction n with
  | zero => intro y0 y1 y2 y3 Q hk; obtain ⟨r, hr, _⟩ := hk; cases hr
  | succ n ih =>
    intro y0 y1 y2 y3 Q hk
    exact B_X13_numbersOf_23 y0 y1 y2 y3 s (fun y => t_lq (b_X13_numbersOf_23 s) n Q y) (fun y0' y1' y2' y3' hy => ih y0' y1' y2' y3' Q hy) (t_lp (b := b_X13_numbersOf_23 s) (n := n) (x := (y0, y1, y2, y3)) hk)
noncomputable def f_X13_numbersOf (x1 : Int32) (s : t_S) : Option (Int64) :=
 if t_ix x1 13000 = true then
  if (0 : Int32) ≤ (s.1 959 (x1.toNatClampNeg)) then (t_loop (b_X13_numbersOf_23 s) t_N (x1, 0, (-1000000000000000), 1))
 else (some (2000000000000001 : Int64))
else none
set_option maxRecDepth 4000 in
set_option maxHeartbeats 1000000 in
theorem C_X13_numbersOf (x1 : Int32) (s : t_S) (r : Int64) (hr : f_X13_numbersOf x1 s = some r) : t_C yX13_numbersOf cX13_numbersOf 14 (some .long) 0 [.ref 950, .int x1] s (fun v s' => v = some (.long r) ∧ s' = s) := by
  refine t_C.imp (P := fun v s' => s' = s ∧ ∃ x, v = some (.long x) ∧ (fun q => q = r) (x)) (t_C.of (by decide +kernel) (Nat.le_of_ble_eq_true rfl) ?_) (fun v s' hp => by obtain ⟨rfl, x, rfl, rfl⟩ := hp; exact ⟨rfl, rfl⟩)
  intro D cy ad bs X
  have hk : t_hk (f_X13_numbersOf x1 s) (fun q => q = r) := ⟨r, hr, rfl⟩
  show mj_G D cy ad bs X cX13_numbersOf 14 yX13_numbersOf.cls (some .long) yX13_numbersOf.name 0 0 0 1065 (t_P (fun v s' => s' = s ∧ ∃ x, v = some (.long x) ∧ (fun q => q = r) (x))) 0 [(0, .ref 950), (1, .int x1)] [] (t_m s) 1065 0 0
  refine mj_aload_n dX13_numbersOf_0 0 rfl ?_
  refine t_getR 959 dX13_numbersOf_1 F_X13_39 qr_950_21 ?_
  refine mj_iload_n dX13_numbersOf_4 1 rfl ?_
  refine t_chkK hk (fun c0 hk => ?_)
  refine t_iald dX13_numbersOf_5 qa_959 (t_ixv c0) ?_
  refine mj_if_ge 13 dX13_numbersOf_6 (by decide) (fun z => t_posK hk z (fun hk => ?_)) (fun z => t_negK hk z (fun hk => ?_))
  · refine mj_lconst (v := 0) dX13_numbersOf_13 (by decide) ?_
    refine mj_lstore_n 2 (lv2 := [(2, .long 0), (0, .ref 950), (1, .int x1)]) dX13_numbersOf_14 rfl (by decide) rfl ?_
    refine mj_ldc2 dX13_numbersOf_15 K_X13_522 ?_
    refine mj_lstore (lv2 := [(4, .long (-1000000000000000)), (2, .long 0), (0, .ref 950), (1, .int x1)]) dX13_numbersOf_18 (by decide) rfl ?_
    refine mj_iconst (v := 1) dX13_numbersOf_20 (by decide) ?_
    refine mj_istore (lv2 := [(6, .int 1), (4, .long (-1000000000000000)), (2, .long 0), (0, .ref 950), (1, .int x1)]) dX13_numbersOf_21 (by decide) rfl ?_
    refine mj_sublv [(0, .ref 950), (1, .int x1), (2, .long 0), (4, .long (-1000000000000000)), (6, .int 1)] [3, 4, 2, 1, 0] rfl ?_
    exact LH_X13_numbersOf_23 _ _ x1 0 (-1000000000000000) 1 _ hk
  · refine mj_ldc2 dX13_numbersOf_9 K_X13_1127 ?_
    exact t_somK hk (fun hf => t_lret dX13_numbersOf_12 rfl ⟨rfl, _, rfl, hf⟩ (Nat.le_of_ble_eq_true rfl) (Nat.le_of_ble_eq_true rfl))

theorem dX13_textsOf_0 : decode cX13_textsOf 0 = .ok (.lconst 1, 1) := by decide +kernel
theorem dX13_textsOf_1 : decode cX13_textsOf 1 = .ok (.lstore_n 3, 1) := by decide +kernel
theorem dX13_textsOf_12 : decode cX13_textsOf 12 = .ok (.aload_n 0, 1) := by decide +kernel
theorem dX13_textsOf_13 : decode cX13_textsOf 13 = .ok (.lload_n 3, 1) := by decide +kernel
theorem dX13_textsOf_14 : decode cX13_textsOf 14 = .ok (.ldc2_w 1125, 3) := by decide +kernel
theorem dX13_textsOf_17 : decode cX13_textsOf 17 = .ok (.invokevirtual 1060, 3) := by decide +kernel
theorem dX13_textsOf_2 : decode cX13_textsOf 2 = .ok (.lconst 0, 1) := by decide +kernel
theorem dX13_textsOf_20 : decode cX13_textsOf 20 = .ok (.lstore_n 3, 1) := by decide +kernel
theorem dX13_textsOf_21 : decode cX13_textsOf 21 = .ok (.lload 5, 2) := by decide +kernel
theorem dX13_textsOf_23 : decode cX13_textsOf 23 = .ok (.lconst 1, 1) := by decide +kernel
theorem dX13_textsOf_24 : decode cX13_textsOf 24 = .ok (.ladd, 1) := by decide +kernel
theorem dX13_textsOf_25 : decode cX13_textsOf 25 = .ok (.lstore 5, 2) := by decide +kernel
theorem dX13_textsOf_27 : decode cX13_textsOf 27 = .ok (.goto (-22), 3) := by decide +kernel
theorem dX13_textsOf_3 : decode cX13_textsOf 3 = .ok (.lstore 5, 2) := by decide +kernel
theorem dX13_textsOf_30 : decode cX13_textsOf 30 = .ok (.lload_n 3, 1) := by decide +kernel
theorem dX13_textsOf_31 : decode cX13_textsOf 31 = .ok (.lreturn, 1) := by decide +kernel
theorem dX13_textsOf_5 : decode cX13_textsOf 5 = .ok (.lload 5, 2) := by decide +kernel
theorem dX13_textsOf_7 : decode cX13_textsOf 7 = .ok (.lload_n 1, 1) := by decide +kernel
theorem dX13_textsOf_8 : decode cX13_textsOf 8 = .ok (.lcmp, 1) := by decide +kernel
theorem dX13_textsOf_9 : decode cX13_textsOf 9 = .ok (.ifCond .ge 21, 3) := by decide +kernel
noncomputable def k_X13_textsOf_5 (l1 : Int64) (l3 : Int64) (l5 : Int64) (s : t_S) : Option ((Int64 × Int64 × Int64) ⊕ (Int64)) :=
 if (0 : Int32) ≤ (lg_cmp l5 l1) then ((some (l3)).map Sum.inr)
 else ((f_X13_mulFar l3 (94 : Int64) s).bind (fun r1 =>
 some (.inl (l1, r1, (l5 + (1 : Int64))))))
set_option maxRecDepth 4000 in
set_option maxHeartbeats 1000000 in
theorem B_X13_textsOf_5 {D : va_G} {cy : Nat → ClassId} {ad : Nat → Nat} {bs : Nat} {X : State → Heap → Prop} (l1 : Int64) (l3 : Int64) (l5 : Int64) (s : t_S) (Q : (Int64 × Int64 × Int64) ⊕ (Int64) → Prop) (Hb5 : ∀ (y0 : Int64) (y1 : Int64) (y2 : Int64), Q (.inl (y0, y1, y2)) → mj_G D cy ad bs X cX13_textsOf 7 yX13_textsOf.cls (some .long) yX13_textsOf.name 1 0 0 1065 (t_P (fun v s' => s' = s ∧ ∃ x, v = some (.long x) ∧ Q (.inr (x)))) 5 [(0, .ref 950), (1, .long (y0)), (3, .long (y1)), (5, .long (y2))] [] (t_m s) 1065 0 0) (hk : t_hk (k_X13_textsOf_5 l1 l3 l5 s) Q) : mj_G D cy ad bs X cX13_textsOf 7 yX13_textsOf.cls (some .long) yX13_textsOf.name 1 0 0 1065 (t_P (fun v s' => s' = s ∧ ∃ x, v = some (.long x) ∧ Q (.inr (x)))) 5 [(0, .ref 950), (1, .long l1), (3, .long l3), (5, .long l5)] [] (t_m s) 1065 0 0 := by
  refine mj_lload dX13_textsOf_5 3 rfl ?_
  refine mj_lload_n dX13_textsOf_7 1 rfl ?_
  refine mj_lcmp dX13_textsOf_8 ?_
  refine mj_if_ge 30 dX13_textsOf_9 (by decide) (fun z => t_posK hk z (fun hk => ?_)) (fun z => t_negK hk z (fun hk => ?_))
  · refine t_mapK hk (fun hk => ?_)
    refine mj_lload_n dX13_textsOf_30 2 rfl ?_
    exact t_somK hk (fun hf => t_lret dX13_textsOf_31 rfl ⟨rfl, _, rfl, hf⟩ (Nat.le_of_ble_eq_true rfl) (Nat.le_of_ble_eq_true rfl))
  · refine mj_aload_n dX13_textsOf_12 0 rfl ?_
    refine mj_lload_n dX13_textsOf_13 2 rfl ?_
    refine mj_ldc2 dX13_textsOf_14 K_X13_1125 ?_
    refine t_bndK hk (fun r1 er1 hk => ?_)
    refine t_callVlP dX13_textsOf_17 M_X13_mulFar (C_X13_mulFar _ _ _ _ er1) ML_X13_1060 IM_X13_mulFar SE_X13_mulFar qc_950 rfl (As := [.long l3, .long 94]) rfl rfl (Nat.le_of_ble_eq_true rfl) (Nat.le_of_ble_eq_true rfl) (Nat.le_of_ble_eq_true rfl) (Nat.le_of_ble_eq_true rfl) ?_
    refine mj_lstore_n 3 (lv2 := [(3, .long r1), (0, .ref 950), (1, .long l1), (5, .long l5)]) dX13_textsOf_20 rfl (by decide) rfl ?_
    refine mj_lload dX13_textsOf_21 3 rfl ?_
    refine mj_lconst (v := 1) dX13_textsOf_23 (by decide) ?_
    refine mj_ladd dX13_textsOf_24 ?_
    refine mj_lstore (lv2 := [(5, .long (l5 + (1 : Int64))), (3, .long r1), (0, .ref 950), (1, .long l1)]) dX13_textsOf_25 (by decide) rfl ?_
    refine mj_goto 5 dX13_textsOf_27 (by decide) ?_
    refine mj_sublv [(0, .ref 950), (1, .long l1), (3, .long r1), (5, .long (l5 + (1 : Int64)))] [2, 3, 1, 0] rfl ?_
    exact t_somK hk (fun hf => Hb5 l1 r1 (l5 + (1 : Int64)) hf)
noncomputable def b_X13_textsOf_5 (s : t_S) (x : Int64 × Int64 × Int64) : Option ((Int64 × Int64 × Int64) ⊕ (Int64)) := k_X13_textsOf_5 x.1 x.2.1 x.2.2 s
set_option maxRecDepth 4000 in
set_option maxHeartbeats 1000000 in
theorem LH_X13_textsOf_5 {D : va_G} {cy : Nat → ClassId} {ad : Nat → Nat} {bs : Nat} {X : State → Heap → Prop} (s : t_S) : ∀ (n : Nat) (y0 : Int64) (y1 : Int64) (y2 : Int64) (Q : Int64 → Prop) (hk : t_hk (t_loop (b_X13_textsOf_5 s) n (y0, y1, y2)) Q), mj_G D cy ad bs X cX13_textsOf 7 yX13_textsOf.cls (some .long) yX13_textsOf.name 1 0 0 1065 (t_P (fun v s' => s' = s ∧ ∃ x, v = some (.long x) ∧ Q (x))) 5 [(0, .ref 950), (1, .long (y0)), (3, .long (y1)), (5, .long (y2))] [] (t_m s) 1065 0 0 := by
  intro n
  induction n with
  | zero => intro y0 y1 y2 Q hk; obtain ⟨r, hr, _⟩ := hk; cases hr
  | succ n ih =>
    intro y0 y1 y2 Q hk
    exact B_X13_textsOf_5 y0 y1 y2 s (fun y => t_lq (b_X13_textsOf_5 s) n Q y) (fun y0' y1' y2' hy => ih y0' y1' y2' Q hy) (t_lp (b := b_X13_textsOf_5 s) (n := n) (x := (y0, y1, y2)) hk)
noncomputable def f_X13_textsOf (x1 : Int64) (s : t_S) : Option (Int64) :=
 t_loop (b_X13_textsOf_5 s) t_N (x1, 1, 0)
set_option maxRecDepth 4000 in
set_option maxHeartbeats 1000000 in
theorem C_X13_textsOf (x1 : Int64) (s : t_S) (r : Int64) (hr : f_X13_textsOf x1 s = some r) : t_C yX13_textsOf cX13_textsOf 7 (some .long) 1 [.ref 950, .long x1] s (fun v s' => v = some (.long r) ∧ s' = s) := by
  refine t_C.imp (P := fun v s' => s' = s ∧ ∃ x, v = some (.long x) ∧ (fun q => q = r) (x)) (t_C.of (by decide +kernel) (Nat.le_of_ble_eq_true rfl) ?_) (fun v s' hp => by obtain ⟨rfl, x, rfl, rfl⟩ := hp; exact ⟨rfl, rfl⟩)
  intro D cy ad bs X
  have hk : t_hk (f_X13_textsOf x1 s) (fun q => q = r) := ⟨r, hr, rfl⟩
  show mj_G D cy ad bs X cX13_textsOf 7 yX13_textsOf.cls (some .long) yX13_textsOf.name 1 0 0 1065 (t_P (fun v s' => s' = s ∧ ∃ x, v = some (.long x) ∧ (fun q => q = r) (x))) 0 [(0, .ref 950), (1, .long x1)] [] (t_m s) 1065 0 0
  refine mj_lconst (v := 1) dX13_textsOf_0 (by decide) ?_
  refine mj_lstore_n 3 (lv2 := [(3, .long 1), (0, .ref 950), (1, .long x1)]) dX13_textsOf_1 rfl (by decide) rfl ?_
  refine mj_lconst (v := 0) dX13_textsOf_2 (by decide) ?_
  refine mj_lstore (lv2 := [(5, .long 0), (3, .long 1), (0, .ref 950), (1, .long x1)]) dX13_textsOf_3 (by decide) rfl ?_
  refine mj_sublv [(0, .ref 950), (1, .long x1), (3, .long 1), (5, .long 0)] [2, 3, 1, 0] rfl ?_
  exact LH_X13_textsOf_5 _ _ x1 1 0 _ hk

