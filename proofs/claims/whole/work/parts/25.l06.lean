/-! Methods as functions, 6: X0_gather, X10_fitsPattern, X10_hasLength, X10_isBetween, J6_lowestOneBit_0f7a4, X10_findsElement, X10_paired, X10_isRest -/
theorem qa_355 : t_oka 355 1 6100 = true := by decide +kernel
theorem qa_356 : t_oka 356 1 6100 = true := by decide +kernel
theorem qa_359 : t_oka 359 1 6100 = true := by decide +kernel
theorem qa_360 : t_oka 360 3 6100 = true := by decide +kernel
theorem qa_424 : t_oka 424 1 7320 = true := by decide +kernel
theorem qa_426 : t_oka 426 1 1212 = true := by decide +kernel
theorem qa_427 : t_oka 427 1 16 = true := by decide +kernel
theorem qf_353_13 : t_okf 353 10 13 0 = true := by decide +kernel
theorem qf_353_14 : t_okf 353 10 14 3 = true := by decide +kernel
theorem qf_353_15 : t_okf 353 10 15 0 = true := by decide +kernel
theorem qf_353_20 : t_okf 353 10 20 0 = true := by decide +kernel
theorem qr_353_1 : t_okr 353 10 1 355 = true := by decide +kernel
theorem qr_353_12 : t_okr 353 10 12 424 = true := by decide +kernel
theorem qr_353_18 : t_okr 353 10 18 426 = true := by decide +kernel
theorem qr_353_19 : t_okr 353 10 19 427 = true := by decide +kernel
theorem qr_353_2 : t_okr 353 10 2 356 = true := by decide +kernel
theorem qr_353_5 : t_okr 353 10 5 359 = true := by decide +kernel
theorem qr_353_6 : t_okr 353 10 6 360 = true := by decide +kernel
theorem dX0_gather_0 : decode cX0_gather 0 = .ok (.iload_n 1, 1) := by decide +kernel
theorem dX0_gather_1 : decode cX0_gather 1 = .ok (.tableswitch 169 30 38 #[51, 100, 113, 169, 129, 142, 169, 169, 76], 51) := by decide +kernel
theorem dX0_gather_101 : decode cX0_gather 101 = .ok (.aload_n 0, 1) := by decide +kernel
theorem dX0_gather_102 : decode cX0_gather 102 = .ok (.aload_n 0, 1) := by decide +kernel
theorem dX0_gather_103 : decode cX0_gather 103 = .ok (.getfield 13, 3) := by decide +kernel
theorem dX0_gather_106 : decode cX0_gather 106 = .ok (.iload_n 2, 1) := by decide +kernel
theorem dX0_gather_107 : decode cX0_gather 107 = .ok (.iaload, 1) := by decide +kernel
theorem dX0_gather_108 : decode cX0_gather 108 = .ok (.invokevirtual 237, 3) := by decide +kernel
theorem dX0_gather_111 : decode cX0_gather 111 = .ok (.goto 59, 3) := by decide +kernel
theorem dX0_gather_114 : decode cX0_gather 114 = .ok (.aload_n 0, 1) := by decide +kernel
theorem dX0_gather_115 : decode cX0_gather 115 = .ok (.aload_n 0, 1) := by decide +kernel
theorem dX0_gather_116 : decode cX0_gather 116 = .ok (.getfield 13, 3) := by decide +kernel
theorem dX0_gather_119 : decode cX0_gather 119 = .ok (.iload_n 2, 1) := by decide +kernel
theorem dX0_gather_120 : decode cX0_gather 120 = .ok (.iaload, 1) := by decide +kernel
theorem dX0_gather_121 : decode cX0_gather 121 = .ok (.iload_n 2, 1) := by decide +kernel
theorem dX0_gather_122 : decode cX0_gather 122 = .ok (.iconst 1, 1) := by decide +kernel
theorem dX0_gather_123 : decode cX0_gather 123 = .ok (.iadd, 1) := by decide +kernel
theorem dX0_gather_124 : decode cX0_gather 124 = .ok (.invokevirtual 240, 3) := by decide +kernel
theorem dX0_gather_127 : decode cX0_gather 127 = .ok (.goto 43, 3) := by decide +kernel
theorem dX0_gather_130 : decode cX0_gather 130 = .ok (.aload_n 0, 1) := by decide +kernel
theorem dX0_gather_131 : decode cX0_gather 131 = .ok (.aload_n 0, 1) := by decide +kernel
theorem dX0_gather_132 : decode cX0_gather 132 = .ok (.getfield 13, 3) := by decide +kernel
theorem dX0_gather_135 : decode cX0_gather 135 = .ok (.iload_n 2, 1) := by decide +kernel
theorem dX0_gather_136 : decode cX0_gather 136 = .ok (.iaload, 1) := by decide +kernel
theorem dX0_gather_137 : decode cX0_gather 137 = .ok (.invokevirtual 243, 3) := by decide +kernel
theorem dX0_gather_140 : decode cX0_gather 140 = .ok (.goto 30, 3) := by decide +kernel
theorem dX0_gather_143 : decode cX0_gather 143 = .ok (.aload_n 0, 1) := by decide +kernel
theorem dX0_gather_144 : decode cX0_gather 144 = .ok (.getfield 246, 3) := by decide +kernel
theorem dX0_gather_147 : decode cX0_gather 147 = .ok (.ifCond .ne 23, 3) := by decide +kernel
theorem dX0_gather_150 : decode cX0_gather 150 = .ok (.aload_n 0, 1) := by decide +kernel
theorem dX0_gather_151 : decode cX0_gather 151 = .ok (.aload_n 0, 1) := by decide +kernel
theorem dX0_gather_152 : decode cX0_gather 152 = .ok (.getfield 250, 3) := by decide +kernel
theorem dX0_gather_155 : decode cX0_gather 155 = .ok (.aload_n 0, 1) := by decide +kernel
theorem dX0_gather_156 : decode cX0_gather 156 = .ok (.getfield 13, 3) := by decide +kernel
theorem dX0_gather_159 : decode cX0_gather 159 = .ok (.iload_n 2, 1) := by decide +kernel
theorem dX0_gather_160 : decode cX0_gather 160 = .ok (.iaload, 1) := by decide +kernel
theorem dX0_gather_161 : decode cX0_gather 161 = .ok (.invokevirtual 254, 3) := by decide +kernel
theorem dX0_gather_164 : decode cX0_gather 164 = .ok (.putfield 71, 3) := by decide +kernel
theorem dX0_gather_167 : decode cX0_gather 167 = .ok (.goto 3, 3) := by decide +kernel
theorem dX0_gather_170 : decode cX0_gather 170 = .ok (.return_, 1) := by decide +kernel
theorem dX0_gather_52 : decode cX0_gather 52 = .ok (.aload_n 0, 1) := by decide +kernel
theorem dX0_gather_53 : decode cX0_gather 53 = .ok (.aload_n 0, 1) := by decide +kernel
theorem dX0_gather_54 : decode cX0_gather 54 = .ok (.getfield 62, 3) := by decide +kernel
theorem dX0_gather_57 : decode cX0_gather 57 = .ok (.iconst 1, 1) := by decide +kernel
theorem dX0_gather_58 : decode cX0_gather 58 = .ok (.isub, 1) := by decide +kernel
theorem dX0_gather_59 : decode cX0_gather 59 = .ok (.invokevirtual 230, 3) := by decide +kernel
theorem dX0_gather_62 : decode cX0_gather 62 = .ok (.invokestatic 160, 3) := by decide +kernel
theorem dX0_gather_65 : decode cX0_gather 65 = .ok (.iconst 1, 1) := by decide +kernel
theorem dX0_gather_66 : decode cX0_gather 66 = .ok (.if_icmp .eq 104, 3) := by decide +kernel
theorem dX0_gather_69 : decode cX0_gather 69 = .ok (.aload_n 0, 1) := by decide +kernel
theorem dX0_gather_70 : decode cX0_gather 70 = .ok (.iconst 1, 1) := by decide +kernel
theorem dX0_gather_71 : decode cX0_gather 71 = .ok (.putfield 71, 3) := by decide +kernel
theorem dX0_gather_74 : decode cX0_gather 74 = .ok (.goto 96, 3) := by decide +kernel
theorem dX0_gather_77 : decode cX0_gather 77 = .ok (.aload_n 0, 1) := by decide +kernel
theorem dX0_gather_78 : decode cX0_gather 78 = .ok (.aload_n 0, 1) := by decide +kernel
theorem dX0_gather_79 : decode cX0_gather 79 = .ok (.getfield 62, 3) := by decide +kernel
theorem dX0_gather_82 : decode cX0_gather 82 = .ok (.iconst 1, 1) := by decide +kernel
theorem dX0_gather_83 : decode cX0_gather 83 = .ok (.isub, 1) := by decide +kernel
theorem dX0_gather_84 : decode cX0_gather 84 = .ok (.invokevirtual 230, 3) := by decide +kernel
theorem dX0_gather_87 : decode cX0_gather 87 = .ok (.invokestatic 160, 3) := by decide +kernel
theorem dX0_gather_90 : decode cX0_gather 90 = .ok (.ifCond .eq 80, 3) := by decide +kernel
theorem dX0_gather_93 : decode cX0_gather 93 = .ok (.aload_n 0, 1) := by decide +kernel
theorem dX0_gather_94 : decode cX0_gather 94 = .ok (.iconst 1, 1) := by decide +kernel
theorem dX0_gather_95 : decode cX0_gather 95 = .ok (.putfield 71, 3) := by decide +kernel
theorem dX0_gather_98 : decode cX0_gather 98 = .ok (.goto 72, 3) := by decide +kernel
noncomputable def f_X0_gather (x1 : Int32) (x2 : Int32) (s : t_S) : Option (t_S) :=
 if x1.toInt < 30 ∨ 38 < x1.toInt then (some (s))
 else if x1.toInt = 30 then ((f_X0_cellOf ((s.1 334 7) - (1 : Int32)) s).bind (fun r1 =>
 if (f_X8_kind r1 s) = (1 : Int32) then (some (s))
 else (t_let (t_setI s 334 12 (1 : Int32)) (fun s1 =>
 some (s1)))))
 else if x1.toInt = 31 then (if t_ix x2 16000 = true then
  (f_X0_makeList (s.1 336 (x2.toNatClampNeg)) s).bind (fun r4 =>
 some (r4))
else none)
 else if x1.toInt = 32 then (if t_ix x2 16000 = true then
  (f_X0_makeRecord (s.1 336 (x2.toNatClampNeg)) (x2 + (1 : Int32)) s).bind (fun r6 =>
 some (r6))
else none)
 else if x1.toInt = 33 then (some (s))
 else if x1.toInt = 34 then (if t_ix x2 16000 = true then
  (f_X0_keepSame (s.1 336 (x2.toNatClampNeg)) s).bind (fun r8 =>
 some (r8))
else none)
 else if x1.toInt = 35 then (if (s.1 334 14) = (0 : Int32) then (if t_ix x2 16000 = true then
  (f_X10_wrongOf (s.1 336 (x2.toNatClampNeg)) s).bind (fun r10 =>
 t_let (t_setI s 334 12 r10) (fun s2 =>
 some (s2)))
else none)
 else (some (s)))
 else if x1.toInt = 36 then (some (s))
 else if x1.toInt = 37 then (some (s))
 else ((f_X0_cellOf ((s.1 334 7) - (1 : Int32)) s).bind (fun r11 =>
 if (f_X8_kind r11 s) = (0 : Int32) then (some (s))
 else (t_let (t_setI s 334 12 (1 : Int32)) (fun s3 =>
 some (s3)))))
set_option maxRecDepth 4000 in
set_option maxHeartbeats 1000000 in
theorem C_X0_gather (x1 : Int32) (x2 : Int32) (s : t_S) (r : t_S) (hr : f_X0_gather x1 x2 s = some r) : t_C yX0_gather cX0_gather 3 none 3 [.ref 334, .int x1, .int x2] s (fun v s' => v = none ∧ s' = r) := by
  refine t_C.imp (P := fun v s' => v = none ∧ (fun q => q = r) (s')) (t_C.of (by decide +kernel) (Nat.le_of_ble_eq_true rfl) ?_) (fun v s' hp => hp)
  intro D cy ad bs X
  have hk : t_hk (f_X0_gather x1 x2 s) (fun q => q = r) := ⟨r, hr, rfl⟩
  show mj_G D cy ad bs X cX0_gather 3 yX0_gather.cls none yX0_gather.name 3 0 0 1065 (t_P (fun v s' => v = none ∧ (fun q => q = r) (s'))) 0 [(0, .ref 334), (1, .int x1), (2, .int x2)] [] (t_m s) 1065 0 0
  refine mj_iload_n dX0_gather_0 1 rfl ?_
  by_cases hout : x1.toInt < 30 ∨ 38 < x1.toInt
  · replace hk := t_pos hk hout
    refine mj_tableOut 170 dX0_gather_1 hout (by decide) ?_
    exact t_somK hk (fun hf => t_vret dX0_gather_170 rfl ⟨rfl, hf⟩ (Nat.le_of_ble_eq_true rfl) (Nat.le_of_ble_eq_true rfl))
  · replace hk := t_neg hk hout
    have hh1 : ¬ x1.toInt < 30 := fun z => hout (Or.inl z)
    have hh2 : ¬ (38 : Int) < x1.toInt := fun z => hout (Or.inr z)
    by_cases h0 : x1.toInt = 30
    · replace hk := t_pos hk h0
      refine mj_tableIn 52 dX0_gather_1 hh1 hh2 (by rw [h0]; rfl) (by decide) ?_
      refine mj_aload_n dX0_gather_52 0 rfl ?_
      refine mj_aload_n dX0_gather_53 0 rfl ?_
      refine t_getI dX0_gather_54 F_X0_62 qf_334_7 ?_
      refine mj_iconst (v := 1) dX0_gather_57 (by decide) ?_
      refine mj_isub dX0_gather_58 ?_
      refine t_bndK hk (fun r1 er1 hk => ?_)
      refine t_callVlP dX0_gather_59 M_X0_cellOf (C_X0_cellOf _ _ _ er1) ML_X0_230 IM_X0_cellOf SE_X0_cellOf qc_334 rfl (As := [.int ((s.1 334 7) - (1 : Int32))]) rfl rfl (Nat.le_of_ble_eq_true rfl) (Nat.le_of_ble_eq_true rfl) (Nat.le_of_ble_eq_true rfl) (Nat.le_of_ble_eq_true rfl) ?_
      refine t_callSiP dX0_gather_62 M_X8_kind (C_X8_kind _ _) ML_X0_160 SM_X8_kind (As := [.long r1]) rfl rfl (Nat.le_of_ble_eq_true rfl) (Nat.le_of_ble_eq_true rfl) (Nat.le_of_ble_eq_true rfl) (Nat.le_of_ble_eq_true rfl) ?_
      refine mj_iconst (v := 1) dX0_gather_65 (by decide) ?_
      refine mj_icmp_eq 170 dX0_gather_66 (by decide) (fun z => t_posK hk z (fun hk => ?_)) (fun z => t_negK hk z (fun hk => ?_))
      · exact t_somK hk (fun hf => t_vret dX0_gather_170 rfl ⟨rfl, hf⟩ (Nat.le_of_ble_eq_true rfl) (Nat.le_of_ble_eq_true rfl))
      · refine mj_aload_n dX0_gather_69 0 rfl ?_
        refine mj_iconst (v := 1) dX0_gather_70 (by decide) ?_
        refine t_putIK dX0_gather_71 F_X0_71 qf_334_12 rfl (fun s1 ws1 => t_letE hk ws1 (fun hk => ?_))
        refine mj_goto 170 dX0_gather_74 (by decide) ?_
        exact t_somK hk (fun hf => t_vret dX0_gather_170 rfl ⟨rfl, hf⟩ (Nat.le_of_ble_eq_true rfl) (Nat.le_of_ble_eq_true rfl))
    replace hk := t_neg hk h0
    by_cases h1 : x1.toInt = 31
    · replace hk := t_pos hk h1
      refine mj_tableIn 101 dX0_gather_1 hh1 hh2 (by rw [h1]; rfl) (by decide) ?_
      refine mj_aload_n dX0_gather_101 0 rfl ?_
      refine mj_aload_n dX0_gather_102 0 rfl ?_
      refine t_getR 336 dX0_gather_103 F_X0_13 qr_334_1 ?_
      refine mj_iload_n dX0_gather_106 2 rfl ?_
      refine t_chkK hk (fun c2 hk => ?_)
      refine t_iald dX0_gather_107 qa_336 (t_ixv c2) ?_
      refine t_bndK hk (fun r4 er4 hk => ?_)
      refine t_callVvE dX0_gather_108 M_X0_makeList (C_X0_makeList _ _ _ er4) ML_X0_237 IM_X0_makeList SE_X0_makeList qc_334 rfl (As := [.int (s.1 336 (x2.toNatClampNeg))]) rfl rfl (Nat.le_of_ble_eq_true rfl) (Nat.le_of_ble_eq_true rfl) (Nat.le_of_ble_eq_true rfl) (Nat.le_of_ble_eq_true rfl) ?_
      refine mj_goto 170 dX0_gather_111 (by decide) ?_
      exact t_somK hk (fun hf => t_vret dX0_gather_170 rfl ⟨rfl, hf⟩ (Nat.le_of_ble_eq_true rfl) (Nat.le_of_ble_eq_true rfl))
    replace hk := t_neg hk h1
    by_cases h2 : x1.toInt = 32
    · replace hk := t_pos hk h2
      refine mj_tableIn 114 dX0_gather_1 hh1 hh2 (by rw [h2]; rfl) (by decide) ?_
      refine mj_aload_n dX0_gather_114 0 rfl ?_
      refine mj_aload_n dX0_gather_115 0 rfl ?_
      refine t_getR 336 dX0_gather_116 F_X0_13 qr_334_1 ?_
      refine mj_iload_n dX0_gather_119 2 rfl ?_
      refine t_chkK hk (fun c4 hk => ?_)
      refine t_iald dX0_gather_120 qa_336 (t_ixv c4) ?_
      refine mj_iload_n dX0_gather_121 2 rfl ?_
      refine mj_iconst (v := 1) dX0_gather_122 (by decide) ?_
      refine mj_iadd dX0_gather_123 ?_
      refine t_bndK hk (fun r6 er6 hk => ?_)
      refine t_callVvE dX0_gather_124 M_X0_makeRecord (C_X0_makeRecord _ _ _ _ er6) ML_X0_240 IM_X0_makeRecord SE_X0_makeRecord qc_334 rfl (As := [.int (s.1 336 (x2.toNatClampNeg)), .int (x2 + (1 : Int32))]) rfl rfl (Nat.le_of_ble_eq_true rfl) (Nat.le_of_ble_eq_true rfl) (Nat.le_of_ble_eq_true rfl) (Nat.le_of_ble_eq_true rfl) ?_
      refine mj_goto 170 dX0_gather_127 (by decide) ?_
      exact t_somK hk (fun hf => t_vret dX0_gather_170 rfl ⟨rfl, hf⟩ (Nat.le_of_ble_eq_true rfl) (Nat.le_of_ble_eq_true rfl))
    replace hk := t_neg hk h2
    by_cases h3 : x1.toInt = 33
    · replace hk := t_pos hk h3
      refine mj_tableIn 170 dX0_gather_1 hh1 hh2 (by rw [h3]; rfl) (by decide) ?_
      exact t_somK hk (fun hf => t_vret dX0_gather_170 rfl ⟨rfl, hf⟩ (Nat.le_of_ble_eq_true rfl) (Nat.le_of_ble_eq_true rfl))
    replace hk := t_neg hk h3
    by_cases h4 : x1.toInt = 34
    · replace hk := t_pos hk h4
      refine mj_tableIn 130 dX0_gather_1 hh1 hh2 (by rw [h4]; rfl) (by decide) ?_
      refine mj_aload_n dX0_gather_130 0 rfl ?_
      refine mj_aload_n dX0_gather_131 0 rfl ?_
      refine t_getR 336 dX0_gather_132 F_X0_13 qr_334_1 ?_
      refine mj_iload_n dX0_gather_135 2 rfl ?_
      refine t_chkK hk (fun c6 hk => ?_)
      refine t_iald dX0_gather_136 qa_336 (t_ixv c6) ?_
      refine t_bndK hk (fun r8 er8 hk => ?_)
      refine t_callVvE dX0_gather_137 M_X0_keepSame (C_X0_keepSame _ _ _ er8) ML_X0_243 IM_X0_keepSame SE_X0_keepSame qc_334 rfl (As := [.int (s.1 336 (x2.toNatClampNeg))]) rfl rfl (Nat.le_of_ble_eq_true rfl) (Nat.le_of_ble_eq_true rfl) (Nat.le_of_ble_eq_true rfl) (Nat.le_of_ble_eq_true rfl) ?_
      refine mj_goto 170 dX0_gather_140 (by decide) ?_
      exact t_somK hk (fun hf => t_vret dX0_gather_170 rfl ⟨rfl, hf⟩ (Nat.le_of_ble_eq_true rfl) (Nat.le_of_ble_eq_true rfl))
    replace hk := t_neg hk h4
    by_cases h5 : x1.toInt = 35
    · replace hk := t_pos hk h5
      refine mj_tableIn 143 dX0_gather_1 hh1 hh2 (by rw [h5]; rfl) (by decide) ?_
      refine mj_aload_n dX0_gather_143 0 rfl ?_
      refine t_getI dX0_gather_144 F_X0_246 qf_334_14 ?_
      refine mj_if_ne 170 dX0_gather_147 (by decide) (fun z => t_negK hk z (fun hk => ?_)) (fun z => t_posK hk z (fun hk => ?_))
      · exact t_somK hk (fun hf => t_vret dX0_gather_170 rfl ⟨rfl, hf⟩ (Nat.le_of_ble_eq_true rfl) (Nat.le_of_ble_eq_true rfl))
      · refine mj_aload_n dX0_gather_150 0 rfl ?_
        refine mj_aload_n dX0_gather_151 0 rfl ?_
        refine t_getR 353 dX0_gather_152 F_X0_250 qr_334_20 ?_
        refine mj_aload_n dX0_gather_155 0 rfl ?_
        refine t_getR 336 dX0_gather_156 F_X0_13 qr_334_1 ?_
        refine mj_iload_n dX0_gather_159 2 rfl ?_
        refine t_chkK hk (fun c8 hk => ?_)
        refine t_iald dX0_gather_160 qa_336 (t_ixv c8) ?_
        refine t_bndK hk (fun r10 er10 hk => ?_)
        refine t_callViP dX0_gather_161 M_X10_wrongOf (C_X10_wrongOf _ _ _ er10) ML_X0_254 IM_X10_wrongOf SE_X10_wrongOf qc_353 rfl (As := [.int (s.1 336 (x2.toNatClampNeg))]) rfl rfl (Nat.le_of_ble_eq_true rfl) (Nat.le_of_ble_eq_true rfl) (Nat.le_of_ble_eq_true rfl) (Nat.le_of_ble_eq_true rfl) ?_
        refine t_putIK dX0_gather_164 F_X0_71 qf_334_12 rfl (fun s2 ws2 => t_letE hk ws2 (fun hk => ?_))
        refine mj_goto 170 dX0_gather_167 (by decide) ?_
        exact t_somK hk (fun hf => t_vret dX0_gather_170 rfl ⟨rfl, hf⟩ (Nat.le_of_ble_eq_true rfl) (Nat.le_of_ble_eq_true rfl))
    replace hk := t_neg hk h5
    by_cases h6 : x1.toInt = 36
    · replace hk := t_pos hk h6
      refine mj_tableIn 170 dX0_gather_1 hh1 hh2 (by rw [h6]; rfl) (by decide) ?_
      exact t_somK hk (fun hf => t_vret dX0_gather_170 rfl ⟨rfl, hf⟩ (Nat.le_of_ble_eq_true rfl) (Nat.le_of_ble_eq_true rfl))
    replace hk := t_neg hk h6
    by_cases h7 : x1.toInt = 37
    · replace hk := t_pos hk h7
      refine mj_tableIn 170 dX0_gather_1 hh1 hh2 (by rw [h7]; rfl) (by decide) ?_
      exact t_somK hk (fun hf => t_vret dX0_gather_170 rfl ⟨rfl, hf⟩ (Nat.le_of_ble_eq_true rfl) (Nat.le_of_ble_eq_true rfl))
    replace hk := t_neg hk h7
    have h8 : x1.toInt = 38 := by omega
    refine mj_tableIn 77 dX0_gather_1 hh1 hh2 (by rw [h8]; rfl) (by decide) ?_
    refine mj_aload_n dX0_gather_77 0 rfl ?_
    refine mj_aload_n dX0_gather_78 0 rfl ?_
    refine t_getI dX0_gather_79 F_X0_62 qf_334_7 ?_
    refine mj_iconst (v := 1) dX0_gather_82 (by decide) ?_
    refine mj_isub dX0_gather_83 ?_
    refine t_bndK hk (fun r11 er11 hk => ?_)
    refine t_callVlP dX0_gather_84 M_X0_cellOf (C_X0_cellOf _ _ _ er11) ML_X0_230 IM_X0_cellOf SE_X0_cellOf qc_334 rfl (As := [.int ((s.1 334 7) - (1 : Int32))]) rfl rfl (Nat.le_of_ble_eq_true rfl) (Nat.le_of_ble_eq_true rfl) (Nat.le_of_ble_eq_true rfl) (Nat.le_of_ble_eq_true rfl) ?_
    refine t_callSiP dX0_gather_87 M_X8_kind (C_X8_kind _ _) ML_X0_160 SM_X8_kind (As := [.long r11]) rfl rfl (Nat.le_of_ble_eq_true rfl) (Nat.le_of_ble_eq_true rfl) (Nat.le_of_ble_eq_true rfl) (Nat.le_of_ble_eq_true rfl) ?_
    refine mj_if_eq 170 dX0_gather_90 (by decide) (fun z => t_posK hk z (fun hk => ?_)) (fun z => t_negK hk z (fun hk => ?_))
    · exact t_somK hk (fun hf => t_vret dX0_gather_170 rfl ⟨rfl, hf⟩ (Nat.le_of_ble_eq_true rfl) (Nat.le_of_ble_eq_true rfl))
    · refine mj_aload_n dX0_gather_93 0 rfl ?_
      refine mj_iconst (v := 1) dX0_gather_94 (by decide) ?_
      refine t_putIK dX0_gather_95 F_X0_71 qf_334_12 rfl (fun s3 ws3 => t_letE hk ws3 (fun hk => ?_))
      refine mj_goto 170 dX0_gather_98 (by decide) ?_
      exact t_somK hk (fun hf => t_vret dX0_gather_170 rfl ⟨rfl, hf⟩ (Nat.le_of_ble_eq_true rfl) (Nat.le_of_ble_eq_true rfl))

theorem dX10_fitsPattern_0 : decode cX10_fitsPattern 0 = .ok (.aload_n 0, 1) := by decide +kernel
theorem dX10_fitsPattern_1 : decode cX10_fitsPattern 1 = .ok (.getfield 58, 3) := by decide +kernel
theorem dX10_fitsPattern_100 : decode cX10_fitsPattern 100 = .ok (.iload 10, 2) := by decide +kernel
theorem dX10_fitsPattern_102 : decode cX10_fitsPattern 102 = .ok (.ifCond .eq 34, 3) := by decide +kernel
theorem dX10_fitsPattern_105 : decode cX10_fitsPattern 105 = .ok (.iload 10, 2) := by decide +kernel
theorem dX10_fitsPattern_107 : decode cX10_fitsPattern 107 = .ok (.bipush 63, 2) := by decide +kernel
theorem dX10_fitsPattern_109 : decode cX10_fitsPattern 109 = .ok (.if_icmp .eq 18, 3) := by decide +kernel
theorem dX10_fitsPattern_112 : decode cX10_fitsPattern 112 = .ok (.iload 10, 2) := by decide +kernel
theorem dX10_fitsPattern_114 : decode cX10_fitsPattern 114 = .ok (.aload_n 0, 1) := by decide +kernel
theorem dX10_fitsPattern_115 : decode cX10_fitsPattern 115 = .ok (.getfield 67, 3) := by decide +kernel
theorem dX10_fitsPattern_118 : decode cX10_fitsPattern 118 = .ok (.iload_n 2, 1) := by decide +kernel
theorem dX10_fitsPattern_119 : decode cX10_fitsPattern 119 = .ok (.iload 6, 2) := by decide +kernel
theorem dX10_fitsPattern_12 : decode cX10_fitsPattern 12 = .ok (.istore_n 3, 1) := by decide +kernel
theorem dX10_fitsPattern_121 : decode cX10_fitsPattern 121 = .ok (.invokestatic 221, 3) := by decide +kernel
theorem dX10_fitsPattern_124 : decode cX10_fitsPattern 124 = .ok (.if_icmp .ne 12, 3) := by decide +kernel
theorem dX10_fitsPattern_127 : decode cX10_fitsPattern 127 = .ok (.iinc 5 1, 3) := by decide +kernel
theorem dX10_fitsPattern_13 : decode cX10_fitsPattern 13 = .ok (.aload_n 0, 1) := by decide +kernel
theorem dX10_fitsPattern_130 : decode cX10_fitsPattern 130 = .ok (.iinc 6 1, 3) := by decide +kernel
theorem dX10_fitsPattern_133 : decode cX10_fitsPattern 133 = .ok (.goto 26, 3) := by decide +kernel
theorem dX10_fitsPattern_136 : decode cX10_fitsPattern 136 = .ok (.iload 7, 2) := by decide +kernel
theorem dX10_fitsPattern_138 : decode cX10_fitsPattern 138 = .ok (.ifCond .lt 19, 3) := by decide +kernel
theorem dX10_fitsPattern_14 : decode cX10_fitsPattern 14 = .ok (.getfield 67, 3) := by decide +kernel
theorem dX10_fitsPattern_141 : decode cX10_fitsPattern 141 = .ok (.iload 7, 2) := by decide +kernel
theorem dX10_fitsPattern_143 : decode cX10_fitsPattern 143 = .ok (.iconst 1, 1) := by decide +kernel
theorem dX10_fitsPattern_144 : decode cX10_fitsPattern 144 = .ok (.iadd, 1) := by decide +kernel
theorem dX10_fitsPattern_145 : decode cX10_fitsPattern 145 = .ok (.istore 5, 2) := by decide +kernel
theorem dX10_fitsPattern_147 : decode cX10_fitsPattern 147 = .ok (.iinc 8 1, 3) := by decide +kernel
theorem dX10_fitsPattern_150 : decode cX10_fitsPattern 150 = .ok (.iload 8, 2) := by decide +kernel
theorem dX10_fitsPattern_152 : decode cX10_fitsPattern 152 = .ok (.istore 6, 2) := by decide +kernel
theorem dX10_fitsPattern_154 : decode cX10_fitsPattern 154 = .ok (.goto 5, 3) := by decide +kernel
theorem dX10_fitsPattern_157 : decode cX10_fitsPattern 157 = .ok (.iconst 0, 1) := by decide +kernel
theorem dX10_fitsPattern_158 : decode cX10_fitsPattern 158 = .ok (.ireturn, 1) := by decide +kernel
theorem dX10_fitsPattern_159 : decode cX10_fitsPattern 159 = .ok (.iinc 9 1, 3) := by decide +kernel
theorem dX10_fitsPattern_162 : decode cX10_fitsPattern 162 = .ok (.goto (-123), 3) := by decide +kernel
theorem dX10_fitsPattern_165 : decode cX10_fitsPattern 165 = .ok (.iload 5, 2) := by decide +kernel
theorem dX10_fitsPattern_167 : decode cX10_fitsPattern 167 = .ok (.iload_n 3, 1) := by decide +kernel
theorem dX10_fitsPattern_168 : decode cX10_fitsPattern 168 = .ok (.if_icmp .ge 27, 3) := by decide +kernel
theorem dX10_fitsPattern_17 : decode cX10_fitsPattern 17 = .ok (.iload_n 2, 1) := by decide +kernel
theorem dX10_fitsPattern_171 : decode cX10_fitsPattern 171 = .ok (.aload_n 0, 1) := by decide +kernel
theorem dX10_fitsPattern_172 : decode cX10_fitsPattern 172 = .ok (.getfield 58, 3) := by decide +kernel
theorem dX10_fitsPattern_175 : decode cX10_fitsPattern 175 = .ok (.getfield 62, 3) := by decide +kernel
theorem dX10_fitsPattern_178 : decode cX10_fitsPattern 178 = .ok (.iload_n 1, 1) := by decide +kernel
theorem dX10_fitsPattern_179 : decode cX10_fitsPattern 179 = .ok (.iload 5, 2) := by decide +kernel
theorem dX10_fitsPattern_18 : decode cX10_fitsPattern 18 = .ok (.laload, 1) := by decide +kernel
theorem dX10_fitsPattern_181 : decode cX10_fitsPattern 181 = .ok (.invokestatic 221, 3) := by decide +kernel
theorem dX10_fitsPattern_184 : decode cX10_fitsPattern 184 = .ok (.bipush 42, 2) := by decide +kernel
theorem dX10_fitsPattern_186 : decode cX10_fitsPattern 186 = .ok (.if_icmp .ne 9, 3) := by decide +kernel
theorem dX10_fitsPattern_189 : decode cX10_fitsPattern 189 = .ok (.iinc 5 1, 3) := by decide +kernel
theorem dX10_fitsPattern_19 : decode cX10_fitsPattern 19 = .ok (.invokestatic 218, 3) := by decide +kernel
theorem dX10_fitsPattern_192 : decode cX10_fitsPattern 192 = .ok (.goto (-27), 3) := by decide +kernel
theorem dX10_fitsPattern_195 : decode cX10_fitsPattern 195 = .ok (.iload 6, 2) := by decide +kernel
theorem dX10_fitsPattern_197 : decode cX10_fitsPattern 197 = .ok (.iload 4, 2) := by decide +kernel
theorem dX10_fitsPattern_199 : decode cX10_fitsPattern 199 = .ok (.if_icmp .lt 13, 3) := by decide +kernel
theorem dX10_fitsPattern_202 : decode cX10_fitsPattern 202 = .ok (.iload 5, 2) := by decide +kernel
theorem dX10_fitsPattern_204 : decode cX10_fitsPattern 204 = .ok (.iload_n 3, 1) := by decide +kernel
theorem dX10_fitsPattern_205 : decode cX10_fitsPattern 205 = .ok (.if_icmp .lt 7, 3) := by decide +kernel
theorem dX10_fitsPattern_208 : decode cX10_fitsPattern 208 = .ok (.iconst 1, 1) := by decide +kernel
theorem dX10_fitsPattern_209 : decode cX10_fitsPattern 209 = .ok (.goto 4, 3) := by decide +kernel
theorem dX10_fitsPattern_212 : decode cX10_fitsPattern 212 = .ok (.iconst 0, 1) := by decide +kernel
theorem dX10_fitsPattern_213 : decode cX10_fitsPattern 213 = .ok (.ireturn, 1) := by decide +kernel
theorem dX10_fitsPattern_22 : decode cX10_fitsPattern 22 = .ok (.istore 4, 2) := by decide +kernel
theorem dX10_fitsPattern_24 : decode cX10_fitsPattern 24 = .ok (.iconst 0, 1) := by decide +kernel
theorem dX10_fitsPattern_25 : decode cX10_fitsPattern 25 = .ok (.istore 5, 2) := by decide +kernel
theorem dX10_fitsPattern_27 : decode cX10_fitsPattern 27 = .ok (.iconst 0, 1) := by decide +kernel
theorem dX10_fitsPattern_28 : decode cX10_fitsPattern 28 = .ok (.istore 6, 2) := by decide +kernel
theorem dX10_fitsPattern_30 : decode cX10_fitsPattern 30 = .ok (.iconst (-1), 1) := by decide +kernel
theorem dX10_fitsPattern_31 : decode cX10_fitsPattern 31 = .ok (.istore 7, 2) := by decide +kernel
theorem dX10_fitsPattern_33 : decode cX10_fitsPattern 33 = .ok (.iconst 0, 1) := by decide +kernel
theorem dX10_fitsPattern_34 : decode cX10_fitsPattern 34 = .ok (.istore 8, 2) := by decide +kernel
theorem dX10_fitsPattern_36 : decode cX10_fitsPattern 36 = .ok (.iconst 0, 1) := by decide +kernel
theorem dX10_fitsPattern_37 : decode cX10_fitsPattern 37 = .ok (.istore 9, 2) := by decide +kernel
theorem dX10_fitsPattern_39 : decode cX10_fitsPattern 39 = .ok (.iload 6, 2) := by decide +kernel
theorem dX10_fitsPattern_4 : decode cX10_fitsPattern 4 = .ok (.getfield 62, 3) := by decide +kernel
theorem dX10_fitsPattern_41 : decode cX10_fitsPattern 41 = .ok (.iload 4, 2) := by decide +kernel
theorem dX10_fitsPattern_43 : decode cX10_fitsPattern 43 = .ok (.if_icmp .ge 122, 3) := by decide +kernel
theorem dX10_fitsPattern_46 : decode cX10_fitsPattern 46 = .ok (.iload 9, 2) := by decide +kernel
theorem dX10_fitsPattern_48 : decode cX10_fitsPattern 48 = .ok (.sipush 4000, 3) := by decide +kernel
theorem dX10_fitsPattern_51 : decode cX10_fitsPattern 51 = .ok (.if_icmp .ge 114, 3) := by decide +kernel
theorem dX10_fitsPattern_54 : decode cX10_fitsPattern 54 = .ok (.iload 5, 2) := by decide +kernel
theorem dX10_fitsPattern_56 : decode cX10_fitsPattern 56 = .ok (.iload_n 3, 1) := by decide +kernel
theorem dX10_fitsPattern_57 : decode cX10_fitsPattern 57 = .ok (.if_icmp .ge 19, 3) := by decide +kernel
theorem dX10_fitsPattern_60 : decode cX10_fitsPattern 60 = .ok (.aload_n 0, 1) := by decide +kernel
theorem dX10_fitsPattern_61 : decode cX10_fitsPattern 61 = .ok (.getfield 58, 3) := by decide +kernel
theorem dX10_fitsPattern_64 : decode cX10_fitsPattern 64 = .ok (.getfield 62, 3) := by decide +kernel
theorem dX10_fitsPattern_67 : decode cX10_fitsPattern 67 = .ok (.iload_n 1, 1) := by decide +kernel
theorem dX10_fitsPattern_68 : decode cX10_fitsPattern 68 = .ok (.iload 5, 2) := by decide +kernel
theorem dX10_fitsPattern_7 : decode cX10_fitsPattern 7 = .ok (.iload_n 1, 1) := by decide +kernel
theorem dX10_fitsPattern_70 : decode cX10_fitsPattern 70 = .ok (.invokestatic 221, 3) := by decide +kernel
theorem dX10_fitsPattern_73 : decode cX10_fitsPattern 73 = .ok (.goto 4, 3) := by decide +kernel
theorem dX10_fitsPattern_76 : decode cX10_fitsPattern 76 = .ok (.iconst 0, 1) := by decide +kernel
theorem dX10_fitsPattern_77 : decode cX10_fitsPattern 77 = .ok (.istore 10, 2) := by decide +kernel
theorem dX10_fitsPattern_79 : decode cX10_fitsPattern 79 = .ok (.iload 10, 2) := by decide +kernel
theorem dX10_fitsPattern_8 : decode cX10_fitsPattern 8 = .ok (.laload, 1) := by decide +kernel
theorem dX10_fitsPattern_81 : decode cX10_fitsPattern 81 = .ok (.bipush 42, 2) := by decide +kernel
theorem dX10_fitsPattern_83 : decode cX10_fitsPattern 83 = .ok (.if_icmp .ne 17, 3) := by decide +kernel
theorem dX10_fitsPattern_86 : decode cX10_fitsPattern 86 = .ok (.iload 5, 2) := by decide +kernel
theorem dX10_fitsPattern_88 : decode cX10_fitsPattern 88 = .ok (.istore 7, 2) := by decide +kernel
theorem dX10_fitsPattern_9 : decode cX10_fitsPattern 9 = .ok (.invokestatic 218, 3) := by decide +kernel
theorem dX10_fitsPattern_90 : decode cX10_fitsPattern 90 = .ok (.iload 6, 2) := by decide +kernel
theorem dX10_fitsPattern_92 : decode cX10_fitsPattern 92 = .ok (.istore 8, 2) := by decide +kernel
theorem dX10_fitsPattern_94 : decode cX10_fitsPattern 94 = .ok (.iinc 5 1, 3) := by decide +kernel
theorem dX10_fitsPattern_97 : decode cX10_fitsPattern 97 = .ok (.goto 62, 3) := by decide +kernel
noncomputable def k_X10_fitsPattern_159 (l1 : Int32) (l2 : Int32) (l3 : Int32) (l4 : Int32) (l5 : Int32) (l6 : Int32) (l7 : Int32) (l8 : Int32) (l9 : Int32) (s : t_S) : Option ((Int32 × Int32 × Int32 × Int32 × Int32 × Int32 × Int32 × Int32 × Int32) ⊕ (Int32)) :=
 some (.inl (l1, l2, l3, l4, l5, l6, l7, l8, (l9 + 1)))
set_option maxRecDepth 4000 in
set_option maxHeartbeats 1000000 in
theorem B_X10_fitsPattern_159 {D : va_G} {cy : Nat → ClassId} {ad : Nat → Nat} {bs : Nat} {X : State → Heap → Prop} (l1 : Int32) (l2 : Int32) (l3 : Int32) (l4 : Int32) (l5 : Int32) (l6 : Int32) (l7 : Int32) (l8 : Int32) (l9 : Int32) (s : t_S) (Q : (Int32 × Int32 × Int32 × Int32 × Int32 × Int32 × Int32 × Int32 × Int32) ⊕ (Int32) → Prop) (Hb39 : ∀ (y0 : Int32) (y1 : Int32) (y2 : Int32) (y3 : Int32) (y4 : Int32) (y5 : Int32) (y6 : Int32) (y7 : Int32) (y8 : Int32), Q (.inl (y0, y1, y2, y3, y4, y5, y6, y7, y8)) → mj_G D cy ad bs X cX10_fitsPattern 11 yX10_fitsPattern.cls (some .boolean) yX10_fitsPattern.name 1 0 0 1065 (t_P (fun v s' => s' = s ∧ ∃ x, v = some (.int x) ∧ Q (.inr (x)))) 39 [(0, .ref 353), (1, .int (y0)), (2, .int (y1)), (3, .int (y2)), (4, .int (y3)), (5, .int (y4)), (6, .int (y5)), (7, .int (y6)), (8, .int (y7)), (9, .int (y8))] [] (t_m s) 1065 0 0) (hk : t_hk (k_X10_fitsPattern_159 l1 l2 l3 l4 l5 l6 l7 l8 l9 s) Q) : mj_G D cy ad bs X cX10_fitsPattern 11 yX10_fitsPattern.cls (some .boolean) yX10_fitsPattern.name 1 0 0 1065 (t_P (fun v s' => s' = s ∧ ∃ x, v = some (.int x) ∧ Q (.inr (x)))) 159 [(0, .ref 353), (1, .int l1), (2, .int l2), (3, .int l3), (4, .int l4), (5, .int l5), (6, .int l6), (7, .int l7), (8, .int l8), (9, .int l9)] [] (t_m s) 1065 0 0 := by
  refine mj_iinc (k := 9) (v := (l9 + 1)) (lv2 := [(9, .int (l9 + 1)), (0, .ref 353), (1, .int l1), (2, .int l2), (3, .int l3), (4, .int l4), (5, .int l5), (6, .int l6), (7, .int l7), (8, .int l8)]) dX10_fitsPattern_159 rfl rfl (by decide) rfl ?_
  refine mj_goto 39 dX10_fitsPattern_162 (by decide) ?_
  refine mj_sublv [(0, .ref 353), (1, .int l1), (2, .int l2), (3, .int l3), (4, .int l4), (5, .int l5), (6, .int l6), (7, .int l7), (8, .int l8), (9, .int (l9 + 1))] [1, 2, 3, 4, 5, 6, 7, 8, 9, 0] rfl ?_
  exact t_somK hk (fun hf => Hb39 l1 l2 l3 l4 l5 l6 l7 l8 (l9 + 1) hf)
noncomputable def k_X10_fitsPattern_136 (l1 : Int32) (l2 : Int32) (l3 : Int32) (l4 : Int32) (l7 : Int32) (l8 : Int32) (l9 : Int32) (s : t_S) : Option ((Int32 × Int32 × Int32 × Int32 × Int32 × Int32 × Int32 × Int32 × Int32) ⊕ (Int32)) :=
 if l7 < (0 : Int32) then ((some (0 : Int32)).map Sum.inr)
 else (k_X10_fitsPattern_159 l1 l2 l3 l4 (l7 + (1 : Int32)) (l8 + 1) l7 (l8 + 1) l9 s)
set_option maxRecDepth 4000 in
set_option maxHeartbeats 1000000 in
theorem B_X10_fitsPattern_136 {D : va_G} {cy : Nat → ClassId} {ad : Nat → Nat} {bs : Nat} {X : State → Heap → Prop} (l1 : Int32) (l2 : Int32) (l3 : Int32) (l4 : Int32) (l7 : Int32) (l8 : Int32) (l9 : Int32) (s : t_S) (Q : (Int32 × Int32 × Int32 × Int32 × Int32 × Int32 × Int32 × Int32 × Int32) ⊕ (Int32) → Prop) (Hb39 : ∀ (y0 : Int32) (y1 : Int32) (y2 : Int32) (y3 : Int32) (y4 : Int32) (y5 : Int32) (y6 : Int32) (y7 : Int32) (y8 : Int32), Q (.inl (y0, y1, y2, y3, y4, y5, y6, y7, y8)) → mj_G D cy ad bs X cX10_fitsPattern 11 yX10_fitsPattern.cls (some .boolean) yX10_fitsPattern.name 1 0 0 1065 (t_P (fun v s' => s' = s ∧ ∃ x, v = some (.int x) ∧ Q (.inr (x)))) 39 [(0, .ref 353), (1, .int (y0)), (2, .int (y1)), (3, .int (y2)), (4, .int (y3)), (5, .int (y4)), (6, .int (y5)), (7, .int (y6)), (8, .int (y7)), (9, .int (y8))] [] (t_m s) 1065 0 0) (hk : t_hk (k_X10_fitsPattern_136 l1 l2 l3 l4 l7 l8 l9 s) Q) : mj_G D cy ad bs X cX10_fitsPattern 11 yX10_fitsPattern.cls (some .boolean) yX10_fitsPattern.name 1 0 0 1065 (t_P (fun v s' => s' = s ∧ ∃ x, v = some (.int x) ∧ Q (.inr (x)))) 136 [(0, .ref 353), (1, .int l1), (2, .int l2), (3, .int l3), (4, .int l4), (7, .int l7), (8, .int l8), (9, .int l9)] [] (t_m s) 1065 0 0 := by
  refine mj_iload dX10_fitsPattern_136 5 rfl ?_
  refine mj_if_lt 157 dX10_fitsPattern_138 (by decide) (fun z => t_posK hk z (fun hk => ?_)) (fun z => t_negK hk z (fun hk => ?_))
  · refine t_mapK hk (fun hk => ?_)
    refine mj_iconst (v := 0) dX10_fitsPattern_157 (by decide) ?_
    exact t_somK hk (fun hf => t_iret dX10_fitsPattern_158 rfl (by decide) ⟨rfl, _, rfl, hf⟩ (Nat.le_of_ble_eq_true rfl) (Nat.le_of_ble_eq_true rfl))
  · refine mj_iload dX10_fitsPattern_141 5 rfl ?_
    refine mj_iconst (v := 1) dX10_fitsPattern_143 (by decide) ?_
    refine mj_iadd dX10_fitsPattern_144 ?_
    refine mj_istore (lv2 := [(5, .int (l7 + (1 : Int32))), (0, .ref 353), (1, .int l1), (2, .int l2), (3, .int l3), (4, .int l4), (7, .int l7), (8, .int l8), (9, .int l9)]) dX10_fitsPattern_145 (by decide) rfl ?_
    refine mj_iinc (k := 7) (v := (l8 + 1)) (lv2 := [(8, .int (l8 + 1)), (5, .int (l7 + (1 : Int32))), (0, .ref 353), (1, .int l1), (2, .int l2), (3, .int l3), (4, .int l4), (7, .int l7), (9, .int l9)]) dX10_fitsPattern_147 rfl rfl (by decide) rfl ?_
    refine mj_iload dX10_fitsPattern_150 0 rfl ?_
    refine mj_istore (lv2 := [(6, .int (l8 + 1)), (8, .int (l8 + 1)), (5, .int (l7 + (1 : Int32))), (0, .ref 353), (1, .int l1), (2, .int l2), (3, .int l3), (4, .int l4), (7, .int l7), (9, .int l9)]) dX10_fitsPattern_152 (by decide) rfl ?_
    refine mj_goto 159 dX10_fitsPattern_154 (by decide) ?_
    refine mj_sublv [(0, .ref 353), (1, .int l1), (2, .int l2), (3, .int l3), (4, .int l4), (5, .int (l7 + (1 : Int32))), (6, .int (l8 + 1)), (7, .int l7), (8, .int (l8 + 1)), (9, .int l9)] [3, 4, 5, 6, 7, 2, 0, 8, 1, 9] rfl ?_
    exact B_X10_fitsPattern_159 _ _ _ _ _ _ _ _ _ _ _ (fun y0 y1 y2 y3 y4 y5 y6 y7 y8 hx => Hb39 y0 y1 y2 y3 y4 y5 y6 y7 y8 hx) hk
noncomputable def k_X10_fitsPattern_127 (l1 : Int32) (l2 : Int32) (l3 : Int32) (l4 : Int32) (l5 : Int32) (l6 : Int32) (l7 : Int32) (l8 : Int32) (l9 : Int32) (s : t_S) : Option ((Int32 × Int32 × Int32 × Int32 × Int32 × Int32 × Int32 × Int32 × Int32) ⊕ (Int32)) :=
 k_X10_fitsPattern_159 l1 l2 l3 l4 (l5 + 1) (l6 + 1) l7 l8 l9 s
set_option maxRecDepth 4000 in
set_option maxHeartbeats 1000000 in
theorem B_X10_fitsPattern_127 {D : va_G} {cy : Nat → ClassId} {ad : Nat → Nat} {bs : Nat} {X : State → Heap → Prop} (l1 : Int32) (l2 : Int32) (l3 : Int32) (l4 : Int32) (l5 : Int32) (l6 : Int32) (l7 : Int32) (l8 : Int32) (l9 : Int32) (s : t_S) (Q : (Int32 × Int32 × Int32 × Int32 × Int32 × Int32 × Int32 × Int32 × Int32) ⊕ (Int32) → Prop) (Hb39 : ∀ (y0 : Int32) (y1 : Int32) (y2 : Int32) (y3 : Int32) (y4 : Int32) (y5 : Int32) (y6 : Int32) (y7 : Int32) (y8 : Int32), Q (.inl (y0, y1, y2, y3, y4, y5, y6, y7, y8)) → mj_G D cy ad bs X cX10_fitsPattern 11 yX10_fitsPattern.cls (some .boolean) yX10_fitsPattern.name 1 0 0 1065 (t_P (fun v s' => s' = s ∧ ∃ x, v = some (.int x) ∧ Q (.inr (x)))) 39 [(0, .ref 353), (1, .int (y0)), (2, .int (y1)), (3, .int (y2)), (4, .int (y3)), (5, .int (y4)), (6, .int (y5)), (7, .int (y6)), (8, .int (y7)), (9, .int (y8))] [] (t_m s) 1065 0 0) (hk : t_hk (k_X10_fitsPattern_127 l1 l2 l3 l4 l5 l6 l7 l8 l9 s) Q) : mj_G D cy ad bs X cX10_fitsPattern 11 yX10_fitsPattern.cls (some .boolean) yX10_fitsPattern.name 1 0 0 1065 (t_P (fun v s' => s' = s ∧ ∃ x, v = some (.int x) ∧ Q (.inr (x)))) 127 [(0, .ref 353), (1, .int l1), (2, .int l2), (3, .int l3), (4, .int l4), (5, .int l5), (6, .int l6), (7, .int l7), (8, .int l8), (9, .int l9)] [] (t_m s) 1065 0 0 := by
  refine mj_iinc (k := 5) (v := (l5 + 1)) (lv2 := [(5, .int (l5 + 1)), (0, .ref 353), (1, .int l1), (2, .int l2), (3, .int l3), (4, .int l4), (6, .int l6), (7, .int l7), (8, .int l8), (9, .int l9)]) dX10_fitsPattern_127 rfl rfl (by decide) rfl ?_
  refine mj_iinc (k := 6) (v := (l6 + 1)) (lv2 := [(6, .int (l6 + 1)), (5, .int (l5 + 1)), (0, .ref 353), (1, .int l1), (2, .int l2), (3, .int l3), (4, .int l4), (7, .int l7), (8, .int l8), (9, .int l9)]) dX10_fitsPattern_130 rfl rfl (by decide) rfl ?_
  refine mj_goto 159 dX10_fitsPattern_133 (by decide) ?_
  refine mj_sublv [(0, .ref 353), (1, .int l1), (2, .int l2), (3, .int l3), (4, .int l4), (5, .int (l5 + 1)), (6, .int (l6 + 1)), (7, .int l7), (8, .int l8), (9, .int l9)] [2, 3, 4, 5, 6, 1, 0, 7, 8, 9] rfl ?_
  exact B_X10_fitsPattern_159 _ _ _ _ _ _ _ _ _ _ _ (fun y0 y1 y2 y3 y4 y5 y6 y7 y8 hx => Hb39 y0 y1 y2 y3 y4 y5 y6 y7 y8 hx) hk
noncomputable def k_X10_fitsPattern_77 (l1 : Int32) (l2 : Int32) (l3 : Int32) (l4 : Int32) (l5 : Int32) (l6 : Int32) (l7 : Int32) (l8 : Int32) (l9 : Int32) (k0 : Int32) (s : t_S) : Option ((Int32 × Int32 × Int32 × Int32 × Int32 × Int32 × Int32 × Int32 × Int32) ⊕ (Int32)) :=
 if k0 = (42 : Int32) then (k_X10_fitsPattern_159 l1 l2 l3 l4 (l5 + 1) l6 l5 l6 l9 s)
 else (if k0 = (0 : Int32) then (k_X10_fitsPattern_136 l1 l2 l3 l4 l7 l8 l9 s)
 else (if k0 = (63 : Int32) then (k_X10_fitsPattern_127 l1 l2 l3 l4 l5 l6 l7 l8 l9 s)
 else ((f_X8_sign (s.2.2 353 14) l2 l6 s).bind (fun r1 =>
 if k0 = r1 then (k_X10_fitsPattern_127 l1 l2 l3 l4 l5 l6 l7 l8 l9 s)
 else (k_X10_fitsPattern_136 l1 l2 l3 l4 l7 l8 l9 s)))))
set_option maxRecDepth 4000 in
set_option maxHeartbeats 1000000 in
theorem B_X10_fitsPattern_77 {D : va_G} {cy : Nat → ClassId} {ad : Nat → Nat} {bs : Nat} {X : State → Heap → Prop} (l1 : Int32) (l2 : Int32) (l3 : Int32) (l4 : Int32) (l5 : Int32) (l6 : Int32) (l7 : Int32) (l8 : Int32) (l9 : Int32) (k0 : Int32) (s : t_S) (Q : (Int32 × Int32 × Int32 × Int32 × Int32 × Int32 × Int32 × Int32 × Int32) ⊕ (Int32) → Prop) (Hb39 : ∀ (y0 : Int32) (y1 : Int32) (y2 : Int32) (y3 : Int32) (y4 : Int32) (y5 : Int32) (y6 : Int32) (y7 : Int32) (y8 : Int32), Q (.inl (y0, y1, y2, y3, y4, y5, y6, y7, y8)) → mj_G D cy ad bs X cX10_fitsPattern 11 yX10_fitsPattern.cls (some .boolean) yX10_fitsPattern.name 1 0 0 1065 (t_P (fun v s' => s' = s ∧ ∃ x, v = some (.int x) ∧ Q (.inr (x)))) 39 [(0, .ref 353), (1, .int (y0)), (2, .int (y1)), (3, .int (y2)), (4, .int (y3)), (5, .int (y4)), (6, .int (y5)), (7, .int (y6)), (8, .int (y7)), (9, .int (y8))] [] (t_m s) 1065 0 0) (hk : t_hk (k_X10_fitsPattern_77 l1 l2 l3 l4 l5 l6 l7 l8 l9 k0 s) Q) : mj_G D cy ad bs X cX10_fitsPattern 11 yX10_fitsPattern.cls (some .boolean) yX10_fitsPattern.name 1 0 0 1065 (t_P (fun v s' => s' = s ∧ ∃ x, v = some (.int x) ∧ Q (.inr (x)))) 77 [(0, .ref 353), (1, .int l1), (2, .int l2), (3, .int l3), (4, .int l4), (5, .int l5), (6, .int l6), (7, .int l7), (8, .int l8), (9, .int l9)] [.int k0] (t_m s) 1065 0 0 := by
  refine mj_istore (lv2 := [(10, .int k0), (0, .ref 353), (1, .int l1), (2, .int l2), (3, .int l3), (4, .int l4), (5, .int l5), (6, .int l6), (7, .int l7), (8, .int l8), (9, .int l9)]) dX10_fitsPattern_77 (by decide) rfl ?_
  refine mj_iload dX10_fitsPattern_79 0 rfl ?_
  refine mj_bipush (v := 42) dX10_fitsPattern_81 (by decide) ?_
  refine mj_icmp_ne 100 dX10_fitsPattern_83 (by decide) (fun z => t_negK hk z (fun hk => ?_)) (fun z => t_posK hk z (fun hk => ?_))
  · refine mj_iload dX10_fitsPattern_100 0 rfl ?_
    refine mj_if_eq 136 dX10_fitsPattern_102 (by decide) (fun z => t_posK hk z (fun hk => ?_)) (fun z => t_negK hk z (fun hk => ?_))
    · refine mj_sublv [(0, .ref 353), (1, .int l1), (2, .int l2), (3, .int l3), (4, .int l4), (7, .int l7), (8, .int l8), (9, .int l9)] [1, 2, 3, 4, 5, 8, 9, 10] rfl ?_
      exact B_X10_fitsPattern_136 _ _ _ _ _ _ _ _ _ (fun y0 y1 y2 y3 y4 y5 y6 y7 y8 hx => Hb39 y0 y1 y2 y3 y4 y5 y6 y7 y8 hx) hk
    · refine mj_iload dX10_fitsPattern_105 0 rfl ?_
      refine mj_bipush (v := 63) dX10_fitsPattern_107 (by decide) ?_
      refine mj_icmp_eq 127 dX10_fitsPattern_109 (by decide) (fun z => t_posK hk z (fun hk => ?_)) (fun z => t_negK hk z (fun hk => ?_))
      · refine mj_sublv [(0, .ref 353), (1, .int l1), (2, .int l2), (3, .int l3), (4, .int l4), (5, .int l5), (6, .int l6), (7, .int l7), (8, .int l8), (9, .int l9)] [1, 2, 3, 4, 5, 6, 7, 8, 9, 10] rfl ?_
        exact B_X10_fitsPattern_127 _ _ _ _ _ _ _ _ _ _ _ (fun y0 y1 y2 y3 y4 y5 y6 y7 y8 hx => Hb39 y0 y1 y2 y3 y4 y5 y6 y7 y8 hx) hk
      · refine mj_iload dX10_fitsPattern_112 0 rfl ?_
        refine mj_aload_n dX10_fitsPattern_114 1 rfl ?_
        refine t_getD dX10_fitsPattern_115 F_X10_67 qf_353_14 ?_
        refine mj_iload_n dX10_fitsPattern_118 3 rfl ?_
        refine mj_iload dX10_fitsPattern_119 7 rfl ?_
        refine t_bndK hk (fun r1 er1 hk => ?_)
        refine t_callSiP dX10_fitsPattern_121 M_X8_sign (C_X8_sign _ _ _ _ _ er1) ML_X10_221 SM_X8_sign (As := [.ref (s.2.2 353 14), .int l2, .int l6]) rfl rfl (Nat.le_of_ble_eq_true rfl) (Nat.le_of_ble_eq_true rfl) (Nat.le_of_ble_eq_true rfl) (Nat.le_of_ble_eq_true rfl) ?_
        refine mj_icmp_ne 136 dX10_fitsPattern_124 (by decide) (fun z => t_negK hk z (fun hk => ?_)) (fun z => t_posK hk z (fun hk => ?_))
        · refine mj_sublv [(0, .ref 353), (1, .int l1), (2, .int l2), (3, .int l3), (4, .int l4), (7, .int l7), (8, .int l8), (9, .int l9)] [1, 2, 3, 4, 5, 8, 9, 10] rfl ?_
          exact B_X10_fitsPattern_136 _ _ _ _ _ _ _ _ _ (fun y0 y1 y2 y3 y4 y5 y6 y7 y8 hx => Hb39 y0 y1 y2 y3 y4 y5 y6 y7 y8 hx) hk
        · refine mj_sublv [(0, .ref 353), (1, .int l1), (2, .int l2), (3, .int l3), (4, .int l4), (5, .int l5), (6, .int l6), (7, .int l7), (8, .int l8), (9, .int l9)] [1, 2, 3, 4, 5, 6, 7, 8, 9, 10] rfl ?_
          exact B_X10_fitsPattern_127 _ _ _ _ _ _ _ _ _ _ _ (fun y0 y1 y2 y3 y4 y5 y6 y7 y8 hx => Hb39 y0 y1 y2 y3 y4 y5 y6 y7 y8 hx) hk
  · refine mj_iload dX10_fitsPattern_86 6 rfl ?_
    refine mj_istore (lv2 := [(7, .int l5), (10, .int k0), (0, .ref 353), (1, .int l1), (2, .int l2), (3, .int l3), (4, .int l4), (5, .int l5), (6, .int l6), (8, .int l8), (9, .int l9)]) dX10_fitsPattern_88 (by decide) rfl ?_
    refine mj_iload dX10_fitsPattern_90 8 rfl ?_
    refine mj_istore (lv2 := [(8, .int l6), (7, .int l5), (10, .int k0), (0, .ref 353), (1, .int l1), (2, .int l2), (3, .int l3), (4, .int l4), (5, .int l5), (6, .int l6), (9, .int l9)]) dX10_fitsPattern_92 (by decide) rfl ?_
    refine mj_iinc (k := 8) (v := (l5 + 1)) (lv2 := [(5, .int (l5 + 1)), (8, .int l6), (7, .int l5), (10, .int k0), (0, .ref 353), (1, .int l1), (2, .int l2), (3, .int l3), (4, .int l4), (6, .int l6), (9, .int l9)]) dX10_fitsPattern_94 rfl rfl (by decide) rfl ?_
    refine mj_goto 159 dX10_fitsPattern_97 (by decide) ?_
    refine mj_sublv [(0, .ref 353), (1, .int l1), (2, .int l2), (3, .int l3), (4, .int l4), (5, .int (l5 + 1)), (6, .int l6), (7, .int l5), (8, .int l6), (9, .int l9)] [4, 5, 6, 7, 8, 0, 9, 2, 1, 10] rfl ?_
    exact B_X10_fitsPattern_159 _ _ _ _ _ _ _ _ _ _ _ (fun y0 y1 y2 y3 y4 y5 y6 y7 y8 hx => Hb39 y0 y1 y2 y3 y4 y5 y6 y7 y8 hx) hk
noncomputable def k_X10_fitsPattern_195 (l3 : Int32) (l4 : Int32) (l5 : Int32) (l6 : Int32) (s : t_S) : Option (Int32) :=
 if l6 < l4 then (some (0 : Int32))
 else (if l5 < l3 then (some (0 : Int32))
 else (some (1 : Int32)))
set_option maxRecDepth 4000 in
set_option maxHeartbeats 1000000 in
theorem B_X10_fitsPattern_195 {D : va_G} {cy : Nat → ClassId} {ad : Nat → Nat} {bs : Nat} {X : State → Heap → Prop} (l3 : Int32) (l4 : Int32) (l5 : Int32) (l6 : Int32) (s : t_S) (Q : Int32 → Prop) (hk : t_hk (k_X10_fitsPattern_195 l3 l4 l5 l6 s) Q) : mj_G D cy ad bs X cX10_fitsPattern 11 yX10_fitsPattern.cls (some .boolean) yX10_fitsPattern.name 1 0 0 1065 (t_P (fun v s' => s' = s ∧ ∃ x, v = some (.int x) ∧ Q (x))) 195 [(3, .int l3), (4, .int l4), (5, .int l5), (6, .int l6)] [] (t_m s) 1065 0 0 := by
  refine mj_iload dX10_fitsPattern_195 3 rfl ?_
  refine mj_iload dX10_fitsPattern_197 1 rfl ?_
  refine mj_icmp_lt 212 dX10_fitsPattern_199 (by decide) (fun z => t_posK hk z (fun hk => ?_)) (fun z => t_negK hk z (fun hk => ?_))
  · refine mj_iconst (v := 0) dX10_fitsPattern_212 (by decide) ?_
    exact t_somK hk (fun hf => t_iret dX10_fitsPattern_213 rfl (by decide) ⟨rfl, _, rfl, hf⟩ (Nat.le_of_ble_eq_true rfl) (Nat.le_of_ble_eq_true rfl))
  · refine mj_iload dX10_fitsPattern_202 2 rfl ?_
    refine mj_iload_n dX10_fitsPattern_204 0 rfl ?_
    refine mj_icmp_lt 212 dX10_fitsPattern_205 (by decide) (fun z => t_posK hk z (fun hk => ?_)) (fun z => t_negK hk z (fun hk => ?_))
    · refine mj_iconst (v := 0) dX10_fitsPattern_212 (by decide) ?_
      exact t_somK hk (fun hf => t_iret dX10_fitsPattern_213 rfl (by decide) ⟨rfl, _, rfl, hf⟩ (Nat.le_of_ble_eq_true rfl) (Nat.le_of_ble_eq_true rfl))
    · refine mj_iconst (v := 1) dX10_fitsPattern_208 (by decide) ?_
      refine mj_goto 213 dX10_fitsPattern_209 (by decide) ?_
      exact t_somK hk (fun hf => t_iret dX10_fitsPattern_213 rfl (by decide) ⟨rfl, _, rfl, hf⟩ (Nat.le_of_ble_eq_true rfl) (Nat.le_of_ble_eq_true rfl))
noncomputable def k_X10_fitsPattern_165 (l1 : Int32) (l3 : Int32) (l4 : Int32) (l5 : Int32) (l6 : Int32) (s : t_S) : Option ((Int32 × Int32 × Int32 × Int32 × Int32) ⊕ (Int32)) :=
 if l3 ≤ l5 then ((k_X10_fitsPattern_195 l3 l4 l5 l6 s).map Sum.inr)
 else ((f_X8_sign 337 l1 l5 s).bind (fun r1 =>
 if r1 = (42 : Int32) then (some (.inl (l1, l3, l4, (l5 + 1), l6)))
 else ((k_X10_fitsPattern_195 l3 l4 l5 l6 s).map Sum.inr)))
set_option maxRecDepth 4000 in
set_option maxHeartbeats 1000000 in
theorem B_X10_fitsPattern_165 {D : va_G} {cy : Nat → ClassId} {ad : Nat → Nat} {bs : Nat} {X : State → Heap → Prop} (l1 : Int32) (l3 : Int32) (l4 : Int32) (l5 : Int32) (l6 : Int32) (s : t_S) (Q : (Int32 × Int32 × Int32 × Int32 × Int32) ⊕ (Int32) → Prop) (Hb165 : ∀ (y0 : Int32) (y1 : Int32) (y2 : Int32) (y3 : Int32) (y4 : Int32), Q (.inl (y0, y1, y2, y3, y4)) → mj_G D cy ad bs X cX10_fitsPattern 11 yX10_fitsPattern.cls (some .boolean) yX10_fitsPattern.name 1 0 0 1065 (t_P (fun v s' => s' = s ∧ ∃ x, v = some (.int x) ∧ Q (.inr (x)))) 165 [(0, .ref 353), (1, .int (y0)), (3, .int (y1)), (4, .int (y2)), (5, .int (y3)), (6, .int (y4))] [] (t_m s) 1065 0 0) (hk : t_hk (k_X10_fitsPattern_165 l1 l3 l4 l5 l6 s) Q) : mj_G D cy ad bs X cX10_fitsPattern 11 yX10_fitsPattern.cls (some .boolean) yX10_fitsPattern.name 1 0 0 1065 (t_P (fun v s' => s' = s ∧ ∃ x, v = some (.int x) ∧ Q (.inr (x)))) 165 [(0, .ref 353), (1, .int l1), (3, .int l3), (4, .int l4), (5, .int l5), (6, .int l6)] [] (t_m s) 1065 0 0 := by
  refine mj_iload dX10_fitsPattern_165 4 rfl ?_
  refine mj_iload_n dX10_fitsPattern_167 2 rfl ?_
  refine mj_icmp_ge 195 dX10_fitsPattern_168 (by decide) (fun z => t_posK hk z (fun hk => ?_)) (fun z => t_negK hk z (fun hk => ?_))
  · refine mj_sublv [(3, .int l3), (4, .int l4), (5, .int l5), (6, .int l6)] [2, 3, 4, 5] rfl ?_
    refine t_mapK hk (fun hk => ?_)
    exact B_X10_fitsPattern_195 _ _ _ _ _ _ hk
  · refine mj_aload_n dX10_fitsPattern_171 0 rfl ?_
    refine t_getR 334 dX10_fitsPattern_172 F_X10_58 qr_353_21 ?_
    refine t_getR 337 dX10_fitsPattern_175 F_X10_62 qr_334_3 ?_
    refine mj_iload_n dX10_fitsPattern_178 1 rfl ?_
    refine mj_iload dX10_fitsPattern_179 4 rfl ?_
    refine t_bndK hk (fun r1 er1 hk => ?_)
    refine t_callSiP dX10_fitsPattern_181 M_X8_sign (C_X8_sign _ _ _ _ _ er1) ML_X10_221 SM_X8_sign (As := [.ref 337, .int l1, .int l5]) rfl rfl (Nat.le_of_ble_eq_true rfl) (Nat.le_of_ble_eq_true rfl) (Nat.le_of_ble_eq_true rfl) (Nat.le_of_ble_eq_true rfl) ?_
    refine mj_bipush (v := 42) dX10_fitsPattern_184 (by decide) ?_
    refine mj_icmp_ne 195 dX10_fitsPattern_186 (by decide) (fun z => t_negK hk z (fun hk => ?_)) (fun z => t_posK hk z (fun hk => ?_))
    · refine mj_sublv [(3, .int l3), (4, .int l4), (5, .int l5), (6, .int l6)] [2, 3, 4, 5] rfl ?_
      refine t_mapK hk (fun hk => ?_)
      exact B_X10_fitsPattern_195 _ _ _ _ _ _ hk
    · refine mj_iinc (k := 4) (v := (l5 + 1)) (lv2 := [(5, .int (l5 + 1)), (0, .ref 353), (1, .int l1), (3, .int l3), (4, .int l4), (6, .int l6)]) dX10_fitsPattern_189 rfl rfl (by decide) rfl ?_
      refine mj_goto 165 dX10_fitsPattern_192 (by decide) ?_
      refine mj_sublv [(0, .ref 353), (1, .int l1), (3, .int l3), (4, .int l4), (5, .int (l5 + 1)), (6, .int l6)] [1, 2, 3, 4, 0, 5] rfl ?_
      exact t_somK hk (fun hf => Hb165 l1 l3 l4 (l5 + 1) l6 hf)
noncomputable def b_X10_fitsPattern_165 (s : t_S) (x : Int32 × Int32 × Int32 × Int32 × Int32) : Option ((Int32 × Int32 × Int32 × Int32 × Int32) ⊕ (Int32)) := k_X10_fitsPattern_165 x.1 x.2.1 x.2.2.1 x.2.2.2.1 x.2.2.2.2 s
set_option maxRecDepth 4000 in
set_option maxHeartbeats 1000000 in
theorem LH_X10_fitsPattern_165 {D : va_G} {cy : Nat → ClassId} {ad : Nat → Nat} {bs : Nat} {X : State → Heap → Prop} (s : t_S) : ∀ (n : Nat) (y0 : Int32) (y1 : Int32) (y2 : Int32) (y3 : Int32) (y4 : Int32) (Q : Int32 → Prop) (hk : t_hk (t_loop (b_X10_fitsPattern_165 s) n (y0, y1, y2, y3, y4)) Q), mj_G D cy ad bs X cX10_fitsPattern 11 yX10_fitsPattern.cls (some .boolean) yX10_fitsPattern.name 1 0 0 1065 (t_P (fun v s' => s' = s ∧ ∃ x, v = some (.int x) ∧ Q (x))) 165 [(0, .ref 353), (1, .int (y0)), (3, .int (y1)), (4, .int (y2)), (5, .int (y3)), (6, .int (y4))] [] (t_m s) 1065 0 0 := by
  intro n
  induction n with
  | zero => intro y0 y1 y2 y3 y4 Q hk; obtain ⟨r, hr, _⟩ := hk; cases hr
  | succ n ih =>
    intro y0 y1 y2 y3 y4 Q hk
    exact B_X10_fitsPattern_165 y0 y1 y2 y3 y4 s (fun y => t_lq (b_X10_fitsPattern_165 s) n Q y) (fun y0' y1' y2' y3' y4' hy => ih y0' y1' y2' y3' y4' Q hy) (t_lp hk)
noncomputable def k_X10_fitsPattern_39 (l1 : Int32) (l2 : Int32) (l3 : Int32) (l4 : Int32) (l5 : Int32) (l6 : Int32) (l7 : Int32) (l8 : Int32) (l9 : Int32) (s : t_S) : Option ((Int32 × Int32 × Int32 × Int32 × Int32 × Int32 × Int32 × Int32 × Int32) ⊕ (Int32)) :=
 if l4 ≤ l6 then ((t_loop (b_X10_fitsPattern_165 s) t_N (l1, l3, l4, l5, l6)).map Sum.inr)
 else (if (4000 : Int32) ≤ l9 then ((t_loop (b_X10_fitsPattern_165 s) t_N (l1, l3, l4, l5, l6)).map Sum.inr)
 else (if l3 ≤ l5 then (k_X10_fitsPattern_77 l1 l2 l3 l4 l5 l6 l7 l8 l9 0 s)
 else ((f_X8_sign 337 l1 l5 s).bind (fun r1 =>
 k_X10_fitsPattern_77 l1 l2 l3 l4 l5 l6 l7 l8 l9 r1 s))))
set_option maxRecDepth 4000 in
set_option maxHeartbeats 1000000 in
theorem B_X10_fitsPattern_39 {D : va_G} {cy : Nat → ClassId} {ad : Nat → Nat} {bs : Nat} {X : State → Heap → Prop} (l1 : Int32) (l2 : Int32) (l3 : Int32) (l4 : Int32) (l5 : Int32) (l6 : Int32) (l7 : Int32) (l8 : Int32) (l9 : Int32) (s : t_S) (Q : (Int32 × Int32 × Int32 × Int32 × Int32 × Int32 × Int32 × Int32 × Int32) ⊕ (Int32) → Prop) (Hb39 : ∀ (y0 : Int32) (y1 : Int32) (y2 : Int32) (y3 : Int32) (y4 : Int32) (y5 : Int32) (y6 : Int32) (y7 : Int32) (y8 : Int32), Q (.inl (y0, y1, y2, y3, y4, y5, y6, y7, y8)) → mj_G D cy ad bs X cX10_fitsPattern 11 yX10_fitsPattern.cls (some .boolean) yX10_fitsPattern.name 1 0 0 1065 (t_P (fun v s' => s' = s ∧ ∃ x, v = some (.int x) ∧ Q (.inr (x)))) 39 [(0, .ref 353), (1, .int (y0)), (2, .int (y1)), (3, .int (y2)), (4, .int (y3)), (5, .int (y4)), (6, .int (y5)), (7, .int (y6)), (8, .int (y7)), (9, .int (y8))] [] (t_m s) 1065 0 0) (hk : t_hk (k_X10_fitsPattern_39 l1 l2 l3 l4 l5 l6 l7 l8 l9 s) Q) : mj_G D cy ad bs X cX10_fitsPattern 11 yX10_fitsPattern.cls (some .boolean) yX10_fitsPattern.name 1 0 0 1065 (t_P (fun v s' => s' = s ∧ ∃ x, v = some (.int x) ∧ Q (.inr (x)))) 39 [(0, .ref 353), (1, .int l1), (2, .int l2), (3, .int l3), (4, .int l4), (5, .int l5), (6, .int l6), (7, .int l7), (8, .int l8), (9, .int l9)] [] (t_m s) 1065 0 0 := by
  refine mj_iload dX10_fitsPattern_39 6 rfl ?_
  refine mj_iload dX10_fitsPattern_41 4 rfl ?_
  refine mj_icmp_ge 165 dX10_fitsPattern_43 (by decide) (fun z => t_posK hk z (fun hk => ?_)) (fun z => t_negK hk z (fun hk => ?_))
  · refine mj_sublv [(0, .ref 353), (1, .int l1), (3, .int l3), (4, .int l4), (5, .int l5), (6, .int l6)] [0, 1, 3, 4, 5, 6] rfl ?_
    refine t_mapK hk (fun hk => ?_)
    exact LH_X10_fitsPattern_165 _ _ l1 l3 l4 l5 l6 _ hk
  · refine mj_iload dX10_fitsPattern_46 9 rfl ?_
    refine mj_sipush (v := 4000) dX10_fitsPattern_48 (by decide) ?_
    refine mj_icmp_ge 165 dX10_fitsPattern_51 (by decide) (fun z => t_posK hk z (fun hk => ?_)) (fun z => t_negK hk z (fun hk => ?_))
    · refine mj_sublv [(0, .ref 353), (1, .int l1), (3, .int l3), (4, .int l4), (5, .int l5), (6, .int l6)] [0, 1, 3, 4, 5, 6] rfl ?_
      refine t_mapK hk (fun hk => ?_)
      exact LH_X10_fitsPattern_165 _ _ l1 l3 l4 l5 l6 _ hk
    · refine mj_iload dX10_fitsPattern_54 5 rfl ?_
      refine mj_iload_n dX10_fitsPattern_56 3 rfl ?_
      refine mj_icmp_ge 76 dX10_fitsPattern_57 (by decide) (fun z => t_posK hk z (fun hk => ?_)) (fun z => t_negK hk z (fun hk => ?_))
      · refine mj_iconst (v := 0) dX10_fitsPattern_76 (by decide) ?_
        exact B_X10_fitsPattern_77 _ _ _ _ _ _ _ _ _ _ _ _ (fun y0 y1 y2 y3 y4 y5 y6 y7 y8 hx => Hb39 y0 y1 y2 y3 y4 y5 y6 y7 y8 hx) hk
      · refine mj_aload_n dX10_fitsPattern_60 0 rfl ?_
        refine t_getR 334 dX10_fitsPattern_61 F_X10_58 qr_353_21 ?_
        refine t_getR 337 dX10_fitsPattern_64 F_X10_62 qr_334_3 ?_
        refine mj_iload_n dX10_fitsPattern_67 1 rfl ?_
        refine mj_iload dX10_fitsPattern_68 5 rfl ?_
        refine t_bndK hk (fun r1 er1 hk => ?_)
        refine t_callSiP dX10_fitsPattern_70 M_X8_sign (C_X8_sign _ _ _ _ _ er1) ML_X10_221 SM_X8_sign (As := [.ref 337, .int l1, .int l5]) rfl rfl (Nat.le_of_ble_eq_true rfl) (Nat.le_of_ble_eq_true rfl) (Nat.le_of_ble_eq_true rfl) (Nat.le_of_ble_eq_true rfl) ?_
        refine mj_goto 77 dX10_fitsPattern_73 (by decide) ?_
        exact B_X10_fitsPattern_77 _ _ _ _ _ _ _ _ _ _ _ _ (fun y0 y1 y2 y3 y4 y5 y6 y7 y8 hx => Hb39 y0 y1 y2 y3 y4 y5 y6 y7 y8 hx) hk
noncomputable def b_X10_fitsPattern_39 (s : t_S) (x : Int32 × Int32 × Int32 × Int32 × Int32 × Int32 × Int32 × Int32 × Int32) : Option ((Int32 × Int32 × Int32 × Int32 × Int32 × Int32 × Int32 × Int32 × Int32) ⊕ (Int32)) := k_X10_fitsPattern_39 x.1 x.2.1 x.2.2.1 x.2.2.2.1 x.2.2.2.2.1 x.2.2.2.2.2.1 x.2.2.2.2.2.2.1 x.2.2.2.2.2.2.2.1 x.2.2.2.2.2.2.2.2 s
set_option maxRecDepth 4000 in
set_option maxHeartbeats 1000000 in
theorem LH_X10_fitsPattern_39 {D : va_G} {cy : Nat → ClassId} {ad : Nat → Nat} {bs : Nat} {X : State → Heap → Prop} (s : t_S) : ∀ (n : Nat) (y0 : Int32) (y1 : Int32) (y2 : Int32) (y3 : Int32) (y4 : Int32) (y5 : Int32) (y6 : Int32) (y7 : Int32) (y8 : Int32) (Q : Int32 → Prop) (hk : t_hk (t_loop (b_X10_fitsPattern_39 s) n (y0, y1, y2, y3, y4, y5, y6, y7, y8)) Q), mj_G D cy ad bs X cX10_fitsPattern 11 yX10_fitsPattern.cls (some .boolean) yX10_fitsPattern.name 1 0 0 1065 (t_P (fun v s' => s' = s ∧ ∃ x, v = some (.int x) ∧ Q (x))) 39 [(0, .ref 353), (1, .int (y0)), (2, .int (y1)), (3, .int (y2)), (4, .int (y3)), (5, .int (y4)), (6, .int (y5)), (7, .int (y6)), (8, .int (y7)), (9, .int (y8))] [] (t_m s) 1065 0 0 := by
  intro n
  induction n with
  | zero => intro y0 y1 y2 y3 y4 y5 y6 y7 y8 Q hk; obtain ⟨r, hr, _⟩ := hk; cases hr
  | succ n ih =>
    intro y0 y1 y2 y3 y4 y5 y6 y7 y8 Q hk
    exact B_X10_fitsPattern_39 y0 y1 y2 y3 y4 y5 y6 y7 y8 s (fun y => t_lq (b_X10_fitsPattern_39 s) n Q y) (fun y0' y1' y2' y3' y4' y5' y6' y7' y8' hy => ih y0' y1' y2' y3' y4' y5' y6' y7' y8' Q hy) (t_lp hk)
noncomputable def f_X10_fitsPattern (x1 : Int32) (x2 : Int32) (s : t_S) : Option (Int32) :=
 if t_ix x1 26000 = true then
  if t_oka (s.2.2 353 14) 2 (t_ln (s.2.2 353 14)) = true then
  if t_ix x2 (t_ln (s.2.2 353 14)) = true then
  t_loop (b_X10_fitsPattern_39 s) t_N (x1, x2, (f_X8_extent (s.2.1 337 (x1.toNatClampNeg)) s), (f_X8_extent (s.2.1 (s.2.2 353 14) (x2.toNatClampNeg)) s), 0, 0, (-1), 0, 0)
else none
else none
else none
set_option maxRecDepth 4000 in
set_option maxHeartbeats 1000000 in
theorem C_X10_fitsPattern (x1 : Int32) (x2 : Int32) (s : t_S) (r : Int32) (hr : f_X10_fitsPattern x1 x2 s = some r) : t_C yX10_fitsPattern cX10_fitsPattern 11 (some .boolean) 1 [.ref 353, .int x1, .int x2] s (fun v s' => v = some (.int r) ∧ s' = s) := by
  refine t_C.imp (P := fun v s' => s' = s ∧ ∃ x, v = some (.int x) ∧ (fun q => q = r) (x)) (t_C.of (by decide +kernel) (Nat.le_of_ble_eq_true rfl) ?_) (fun v s' hp => by obtain ⟨rfl, x, rfl, rfl⟩ := hp; exact ⟨rfl, rfl⟩)
  intro D cy ad bs X
  have hk : t_hk (f_X10_fitsPattern x1 x2 s) (fun q => q = r) := ⟨r, hr, rfl⟩
  show mj_G D cy ad bs X cX10_fitsPattern 11 yX10_fitsPattern.cls (some .boolean) yX10_fitsPattern.name 1 0 0 1065 (t_P (fun v s' => s' = s ∧ ∃ x, v = some (.int x) ∧ (fun q => q = r) (x))) 0 [(0, .ref 353), (1, .int x1), (2, .int x2)] [] (t_m s) 1065 0 0
  refine mj_aload_n dX10_fitsPattern_0 0 rfl ?_
  refine t_getR 334 dX10_fitsPattern_1 F_X10_58 qr_353_21 ?_
  refine t_getR 337 dX10_fitsPattern_4 F_X10_62 qr_334_3 ?_
  refine mj_iload_n dX10_fitsPattern_7 1 rfl ?_
  refine t_chkK hk (fun c0 hk => ?_)
  refine t_lald dX10_fitsPattern_8 qa_337 (t_ixv c0) ?_
  refine t_callSiP dX10_fitsPattern_9 M_X8_extent (C_X8_extent _ _) ML_X10_218 SM_X8_extent (As := [.long (s.2.1 337 (x1.toNatClampNeg))]) rfl rfl (Nat.le_of_ble_eq_true rfl) (Nat.le_of_ble_eq_true rfl) (Nat.le_of_ble_eq_true rfl) (Nat.le_of_ble_eq_true rfl) ?_
  refine mj_istore_n 3 (lv2 := [(3, .int (f_X8_extent (s.2.1 337 (x1.toNatClampNeg)) s)), (0, .ref 353), (1, .int x1), (2, .int x2)]) dX10_fitsPattern_12 rfl (by decide) rfl ?_
  refine mj_aload_n dX10_fitsPattern_13 1 rfl ?_
  refine t_getD dX10_fitsPattern_14 F_X10_67 qf_353_14 ?_
  refine mj_iload_n dX10_fitsPattern_17 3 rfl ?_
  refine t_chkK hk (fun c2 hk => ?_)
  refine t_chkK hk (fun c3 hk => ?_)
  refine t_lald dX10_fitsPattern_18 c2 (t_ixv c3) ?_
  refine t_callSiP dX10_fitsPattern_19 M_X8_extent (C_X8_extent _ _) ML_X10_218 SM_X8_extent (As := [.long (s.2.1 (s.2.2 353 14) (x2.toNatClampNeg))]) rfl rfl (Nat.le_of_ble_eq_true rfl) (Nat.le_of_ble_eq_true rfl) (Nat.le_of_ble_eq_true rfl) (Nat.le_of_ble_eq_true rfl) ?_
  refine mj_istore (lv2 := [(4, .int (f_X8_extent (s.2.1 (s.2.2 353 14) (x2.toNatClampNeg)) s)), (3, .int (f_X8_extent (s.2.1 337 (x1.toNatClampNeg)) s)), (0, .ref 353), (1, .int x1), (2, .int x2)]) dX10_fitsPattern_22 (by decide) rfl ?_
  refine mj_iconst (v := 0) dX10_fitsPattern_24 (by decide) ?_
  refine mj_istore (lv2 := [(5, .int 0), (4, .int (f_X8_extent (s.2.1 (s.2.2 353 14) (x2.toNatClampNeg)) s)), (3, .int (f_X8_extent (s.2.1 337 (x1.toNatClampNeg)) s)), (0, .ref 353), (1, .int x1), (2, .int x2)]) dX10_fitsPattern_25 (by decide) rfl ?_
  refine mj_iconst (v := 0) dX10_fitsPattern_27 (by decide) ?_
  refine mj_istore (lv2 := [(6, .int 0), (5, .int 0), (4, .int (f_X8_extent (s.2.1 (s.2.2 353 14) (x2.toNatClampNeg)) s)), (3, .int (f_X8_extent (s.2.1 337 (x1.toNatClampNeg)) s)), (0, .ref 353), (1, .int x1), (2, .int x2)]) dX10_fitsPattern_28 (by decide) rfl ?_
  refine mj_iconst (v := (-1)) dX10_fitsPattern_30 (by decide) ?_
  refine mj_istore (lv2 := [(7, .int (-1)), (6, .int 0), (5, .int 0), (4, .int (f_X8_extent (s.2.1 (s.2.2 353 14) (x2.toNatClampNeg)) s)), (3, .int (f_X8_extent (s.2.1 337 (x1.toNatClampNeg)) s)), (0, .ref 353), (1, .int x1), (2, .int x2)]) dX10_fitsPattern_31 (by decide) rfl ?_
  refine mj_iconst (v := 0) dX10_fitsPattern_33 (by decide) ?_
  refine mj_istore (lv2 := [(8, .int 0), (7, .int (-1)), (6, .int 0), (5, .int 0), (4, .int (f_X8_extent (s.2.1 (s.2.2 353 14) (x2.toNatClampNeg)) s)), (3, .int (f_X8_extent (s.2.1 337 (x1.toNatClampNeg)) s)), (0, .ref 353), (1, .int x1), (2, .int x2)]) dX10_fitsPattern_34 (by decide) rfl ?_
  refine mj_iconst (v := 0) dX10_fitsPattern_36 (by decide) ?_
  refine mj_istore (lv2 := [(9, .int 0), (8, .int 0), (7, .int (-1)), (6, .int 0), (5, .int 0), (4, .int (f_X8_extent (s.2.1 (s.2.2 353 14) (x2.toNatClampNeg)) s)), (3, .int (f_X8_extent (s.2.1 337 (x1.toNatClampNeg)) s)), (0, .ref 353), (1, .int x1), (2, .int x2)]) dX10_fitsPattern_37 (by decide) rfl ?_
  refine mj_sublv [(0, .ref 353), (1, .int x1), (2, .int x2), (3, .int (f_X8_extent (s.2.1 337 (x1.toNatClampNeg)) s)), (4, .int (f_X8_extent (s.2.1 (s.2.2 353 14) (x2.toNatClampNeg)) s)), (5, .int 0), (6, .int 0), (7, .int (-1)), (8, .int 0), (9, .int 0)] [7, 8, 9, 6, 5, 4, 3, 2, 1, 0] rfl ?_
  exact LH_X10_fitsPattern_39 _ _ x1 x2 (f_X8_extent (s.2.1 337 (x1.toNatClampNeg)) s) (f_X8_extent (s.2.1 (s.2.2 353 14) (x2.toNatClampNeg)) s) 0 0 (-1) 0 0 _ hk

theorem dX10_hasLength_0 : decode cX10_hasLength 0 = .ok (.lload_n 1, 1) := by decide +kernel
theorem dX10_hasLength_1 : decode cX10_hasLength 1 = .ok (.invokestatic 122, 3) := by decide +kernel
theorem dX10_hasLength_11 : decode cX10_hasLength 11 = .ok (.iload_n 3, 1) := by decide +kernel
theorem dX10_hasLength_12 : decode cX10_hasLength 12 = .ok (.iconst 2, 1) := by decide +kernel
theorem dX10_hasLength_13 : decode cX10_hasLength 13 = .ok (.if_icmp .eq 9, 3) := by decide +kernel
theorem dX10_hasLength_16 : decode cX10_hasLength 16 = .ok (.iload_n 3, 1) := by decide +kernel
theorem dX10_hasLength_17 : decode cX10_hasLength 17 = .ok (.bipush 8, 2) := by decide +kernel
theorem dX10_hasLength_19 : decode cX10_hasLength 19 = .ok (.if_icmp .ne 37, 3) := by decide +kernel
theorem dX10_hasLength_22 : decode cX10_hasLength 22 = .ok (.lload 4, 2) := by decide +kernel
theorem dX10_hasLength_24 : decode cX10_hasLength 24 = .ok (.iload_n 0, 1) := by decide +kernel
theorem dX10_hasLength_25 : decode cX10_hasLength 25 = .ok (.bipush 8, 2) := by decide +kernel
theorem dX10_hasLength_27 : decode cX10_hasLength 27 = .ok (.ishr, 1) := by decide +kernel
theorem dX10_hasLength_28 : decode cX10_hasLength 28 = .ok (.sipush 255, 3) := by decide +kernel
theorem dX10_hasLength_31 : decode cX10_hasLength 31 = .ok (.iand, 1) := by decide +kernel
theorem dX10_hasLength_32 : decode cX10_hasLength 32 = .ok (.i2l, 1) := by decide +kernel
theorem dX10_hasLength_33 : decode cX10_hasLength 33 = .ok (.lcmp, 1) := by decide +kernel
theorem dX10_hasLength_34 : decode cX10_hasLength 34 = .ok (.ifCond .lt 22, 3) := by decide +kernel
theorem dX10_hasLength_37 : decode cX10_hasLength 37 = .ok (.lload 4, 2) := by decide +kernel
theorem dX10_hasLength_39 : decode cX10_hasLength 39 = .ok (.iload_n 0, 1) := by decide +kernel
theorem dX10_hasLength_4 : decode cX10_hasLength 4 = .ok (.istore_n 3, 1) := by decide +kernel
theorem dX10_hasLength_40 : decode cX10_hasLength 40 = .ok (.bipush 16, 2) := by decide +kernel
theorem dX10_hasLength_42 : decode cX10_hasLength 42 = .ok (.ishr, 1) := by decide +kernel
theorem dX10_hasLength_43 : decode cX10_hasLength 43 = .ok (.sipush 255, 3) := by decide +kernel
theorem dX10_hasLength_46 : decode cX10_hasLength 46 = .ok (.iand, 1) := by decide +kernel
theorem dX10_hasLength_47 : decode cX10_hasLength 47 = .ok (.i2l, 1) := by decide +kernel
theorem dX10_hasLength_48 : decode cX10_hasLength 48 = .ok (.lcmp, 1) := by decide +kernel
theorem dX10_hasLength_49 : decode cX10_hasLength 49 = .ok (.ifCond .gt 7, 3) := by decide +kernel
theorem dX10_hasLength_5 : decode cX10_hasLength 5 = .ok (.lload_n 1, 1) := by decide +kernel
theorem dX10_hasLength_52 : decode cX10_hasLength 52 = .ok (.iconst 1, 1) := by decide +kernel
theorem dX10_hasLength_53 : decode cX10_hasLength 53 = .ok (.goto 4, 3) := by decide +kernel
theorem dX10_hasLength_56 : decode cX10_hasLength 56 = .ok (.iconst 0, 1) := by decide +kernel
theorem dX10_hasLength_57 : decode cX10_hasLength 57 = .ok (.ireturn, 1) := by decide +kernel
theorem dX10_hasLength_6 : decode cX10_hasLength 6 = .ok (.invokestatic 192, 3) := by decide +kernel
theorem dX10_hasLength_9 : decode cX10_hasLength 9 = .ok (.lstore 4, 2) := by decide +kernel
noncomputable def k_X10_hasLength_22 (l0 : Int32) (l4 : Int64) (s : t_S) : Int32 :=
 if (lg_cmp l4 (((l0 >>> ((8 : Int32) &&& 31)) &&& (255 : Int32)).toInt64)) < (0 : Int32) then ((0 : Int32))
 else (if (0 : Int32) < (lg_cmp l4 (((l0 >>> ((16 : Int32) &&& 31)) &&& (255 : Int32)).toInt64)) then ((0 : Int32))
 else ((1 : Int32)))
set_option maxRecDepth 4000 in
set_option maxHeartbeats 1000000 in
theorem B_X10_hasLength_22 {D : va_G} {cy : Nat → ClassId} {ad : Nat → Nat} {bs : Nat} {X : State → Heap → Prop} (l0 : Int32) (l4 : Int64) (s : t_S) (Q : Int32 → Prop) (hk : t_ht (k_X10_hasLength_22 l0 l4 s) Q) : mj_G D cy ad bs X cX10_hasLength 6 yX10_hasLength.cls (some .boolean) yX10_hasLength.name 1 0 0 1065 (t_P (fun v s' => s' = s ∧ ∃ x, v = some (.int x) ∧ Q (x))) 22 [(0, .int l0), (4, .long l4)] [] (t_m s) 1065 0 0 := by
  refine mj_lload dX10_hasLength_22 1 rfl ?_
  refine mj_iload_n dX10_hasLength_24 0 rfl ?_
  refine mj_bipush (v := 8) dX10_hasLength_25 (by decide) ?_
  refine mj_ishr dX10_hasLength_27 ?_
  refine mj_sipush (v := 255) dX10_hasLength_28 (by decide) ?_
  refine mj_iand dX10_hasLength_31 ?_
  refine mj_i2l (v := ((l0 >>> ((8 : Int32) &&& 31)) &&& (255 : Int32)).toInt64) dX10_hasLength_32 rfl ?_
  refine mj_lcmp dX10_hasLength_33 ?_
  refine mj_if_lt 56 dX10_hasLength_34 (by decide) (fun z => t_posTK hk z (fun hk => ?_)) (fun z => t_negTK hk z (fun hk => ?_))
  · refine mj_iconst (v := 0) dX10_hasLength_56 (by decide) ?_
    exact t_iret dX10_hasLength_57 rfl (by decide) ⟨rfl, _, rfl, hk⟩ (Nat.le_of_ble_eq_true rfl) (Nat.le_of_ble_eq_true rfl)
  · refine mj_lload dX10_hasLength_37 1 rfl ?_
    refine mj_iload_n dX10_hasLength_39 0 rfl ?_
    refine mj_bipush (v := 16) dX10_hasLength_40 (by decide) ?_
    refine mj_ishr dX10_hasLength_42 ?_
    refine mj_sipush (v := 255) dX10_hasLength_43 (by decide) ?_
    refine mj_iand dX10_hasLength_46 ?_
    refine mj_i2l (v := ((l0 >>> ((16 : Int32) &&& 31)) &&& (255 : Int32)).toInt64) dX10_hasLength_47 rfl ?_
    refine mj_lcmp dX10_hasLength_48 ?_
    refine mj_if_gt 56 dX10_hasLength_49 (by decide) (fun z => t_posTK hk z (fun hk => ?_)) (fun z => t_negTK hk z (fun hk => ?_))
    · refine mj_iconst (v := 0) dX10_hasLength_56 (by decide) ?_
      exact t_iret dX10_hasLength_57 rfl (by decide) ⟨rfl, _, rfl, hk⟩ (Nat.le_of_ble_eq_true rfl) (Nat.le_of_ble_eq_true rfl)
    · refine mj_iconst (v := 1) dX10_hasLength_52 (by decide) ?_
      refine mj_goto 57 dX10_hasLength_53 (by decide) ?_
      exact t_iret dX10_hasLength_57 rfl (by decide) ⟨rfl, _, rfl, hk⟩ (Nat.le_of_ble_eq_true rfl) (Nat.le_of_ble_eq_true rfl)
noncomputable def f_X10_hasLength (x1 : Int32) (x2 : Int64) (s : t_S) : Int32 :=
 if (f_X8_kind x2 s) = (2 : Int32) then (k_X10_hasLength_22 x1 (f_X8_told x2 s) s)
 else (if (f_X8_kind x2 s) = (8 : Int32) then (k_X10_hasLength_22 x1 (f_X8_told x2 s) s)
 else ((0 : Int32)))
set_option maxRecDepth 4000 in
set_option maxHeartbeats 1000000 in
theorem C_X10_hasLength (x1 : Int32) (x2 : Int64) (s : t_S) : t_C yX10_hasLength cX10_hasLength 6 (some .boolean) 1 [.int x1, .long x2] s (fun v s' => v = some (.int (f_X10_hasLength x1 x2 s)) ∧ s' = s) := by
  refine t_C.imp (P := fun v s' => s' = s ∧ ∃ x, v = some (.int x) ∧ (fun r => r = f_X10_hasLength x1 x2 s) (x)) (t_C.of (by decide +kernel) (Nat.le_of_ble_eq_true rfl) ?_) (fun v s' hp => by obtain ⟨rfl, x, rfl, rfl⟩ := hp; exact ⟨rfl, rfl⟩)
  intro D cy ad bs X
  have hk : t_ht (f_X10_hasLength x1 x2 s) (fun r => r = f_X10_hasLength x1 x2 s) := rfl
  show mj_G D cy ad bs X cX10_hasLength 6 yX10_hasLength.cls (some .boolean) yX10_hasLength.name 1 0 0 1065 (t_P (fun v s' => s' = s ∧ ∃ x, v = some (.int x) ∧ (fun r => r = f_X10_hasLength x1 x2 s) (x))) 0 [(0, .int x1), (1, .long x2)] [] (t_m s) 1065 0 0
  refine mj_lload_n dX10_hasLength_0 1 rfl ?_
  refine t_callSiP dX10_hasLength_1 M_X8_kind (C_X8_kind _ _) ML_X10_122 SM_X8_kind (As := [.long x2]) rfl rfl (Nat.le_of_ble_eq_true rfl) (Nat.le_of_ble_eq_true rfl) (Nat.le_of_ble_eq_true rfl) (Nat.le_of_ble_eq_true rfl) ?_
  refine mj_istore_n 3 (lv2 := [(3, .int (f_X8_kind x2 s)), (0, .int x1), (1, .long x2)]) dX10_hasLength_4 rfl (by decide) rfl ?_
  refine mj_lload_n dX10_hasLength_5 2 rfl ?_
  refine t_callSlP dX10_hasLength_6 M_X8_told (C_X8_told _ _) ML_X10_192 SM_X8_told (As := [.long x2]) rfl rfl (Nat.le_of_ble_eq_true rfl) (Nat.le_of_ble_eq_true rfl) (Nat.le_of_ble_eq_true rfl) (Nat.le_of_ble_eq_true rfl) ?_
  refine mj_lstore (lv2 := [(4, .long (f_X8_told x2 s)), (3, .int (f_X8_kind x2 s)), (0, .int x1), (1, .long x2)]) dX10_hasLength_9 (by decide) rfl ?_
  refine mj_iload_n dX10_hasLength_11 1 rfl ?_
  refine mj_iconst (v := 2) dX10_hasLength_12 (by decide) ?_
  refine mj_icmp_eq 22 dX10_hasLength_13 (by decide) (fun z => t_posTK hk z (fun hk => ?_)) (fun z => t_negTK hk z (fun hk => ?_))
  · refine mj_sublv [(0, .int x1), (4, .long (f_X8_told x2 s))] [2, 0] rfl ?_
    exact B_X10_hasLength_22 _ _ _ _ hk
  · refine mj_iload_n dX10_hasLength_16 1 rfl ?_
    refine mj_bipush (v := 8) dX10_hasLength_17 (by decide) ?_
    refine mj_icmp_ne 56 dX10_hasLength_19 (by decide) (fun z => t_negTK hk z (fun hk => ?_)) (fun z => t_posTK hk z (fun hk => ?_))
    · refine mj_iconst (v := 0) dX10_hasLength_56 (by decide) ?_
      exact t_iret dX10_hasLength_57 rfl (by decide) ⟨rfl, _, rfl, hk⟩ (Nat.le_of_ble_eq_true rfl) (Nat.le_of_ble_eq_true rfl)
    · refine mj_sublv [(0, .int x1), (4, .long (f_X8_told x2 s))] [2, 0] rfl ?_
      exact B_X10_hasLength_22 _ _ _ _ hk

theorem dX10_isBetween_0 : decode cX10_isBetween 0 = .ok (.lload_n 0, 1) := by decide +kernel
theorem dX10_isBetween_1 : decode cX10_isBetween 1 = .ok (.invokestatic 122, 3) := by decide +kernel
theorem dX10_isBetween_11 : decode cX10_isBetween 11 = .ok (.lload_n 2, 1) := by decide +kernel
theorem dX10_isBetween_12 : decode cX10_isBetween 12 = .ok (.lcmp, 1) := by decide +kernel
theorem dX10_isBetween_13 : decode cX10_isBetween 13 = .ok (.ifCond .lt 17, 3) := by decide +kernel
theorem dX10_isBetween_16 : decode cX10_isBetween 16 = .ok (.lload_n 0, 1) := by decide +kernel
theorem dX10_isBetween_17 : decode cX10_isBetween 17 = .ok (.invokestatic 192, 3) := by decide +kernel
theorem dX10_isBetween_20 : decode cX10_isBetween 20 = .ok (.lload 4, 2) := by decide +kernel
theorem dX10_isBetween_22 : decode cX10_isBetween 22 = .ok (.lcmp, 1) := by decide +kernel
theorem dX10_isBetween_23 : decode cX10_isBetween 23 = .ok (.ifCond .gt 7, 3) := by decide +kernel
theorem dX10_isBetween_26 : decode cX10_isBetween 26 = .ok (.iconst 1, 1) := by decide +kernel
theorem dX10_isBetween_27 : decode cX10_isBetween 27 = .ok (.goto 4, 3) := by decide +kernel
theorem dX10_isBetween_30 : decode cX10_isBetween 30 = .ok (.iconst 0, 1) := by decide +kernel
theorem dX10_isBetween_31 : decode cX10_isBetween 31 = .ok (.ireturn, 1) := by decide +kernel
theorem dX10_isBetween_4 : decode cX10_isBetween 4 = .ok (.ifCond .ne 26, 3) := by decide +kernel
theorem dX10_isBetween_7 : decode cX10_isBetween 7 = .ok (.lload_n 0, 1) := by decide +kernel
theorem dX10_isBetween_8 : decode cX10_isBetween 8 = .ok (.invokestatic 192, 3) := by decide +kernel
noncomputable def f_X10_isBetween (x1 : Int64) (x2 : Int64) (x3 : Int64) (s : t_S) : Int32 :=
 if (f_X8_kind x1 s) = (0 : Int32) then (if (lg_cmp (f_X8_told x1 s) x2) < (0 : Int32) then ((0 : Int32))
 else (if (0 : Int32) < (lg_cmp (f_X8_told x1 s) x3) then ((0 : Int32))
 else ((1 : Int32))))
 else ((0 : Int32))
set_option maxRecDepth 4000 in
set_option maxHeartbeats 1000000 in
theorem C_X10_isBetween (x1 : Int64) (x2 : Int64) (x3 : Int64) (s : t_S) : t_C yX10_isBetween cX10_isBetween 6 (some .boolean) 1 [.long x1, .long x2, .long x3] s (fun v s' => v = some (.int (f_X10_isBetween x1 x2 x3 s)) ∧ s' = s) := by
  refine t_C.imp (P := fun v s' => s' = s ∧ ∃ x, v = some (.int x) ∧ (fun r => r = f_X10_isBetween x1 x2 x3 s) (x)) (t_C.of (by decide +kernel) (Nat.le_of_ble_eq_true rfl) ?_) (fun v s' hp => by obtain ⟨rfl, x, rfl, rfl⟩ := hp; exact ⟨rfl, rfl⟩)
  intro D cy ad bs X
  have hk : t_ht (f_X10_isBetween x1 x2 x3 s) (fun r => r = f_X10_isBetween x1 x2 x3 s) := rfl
  show mj_G D cy ad bs X cX10_isBetween 6 yX10_isBetween.cls (some .boolean) yX10_isBetween.name 1 0 0 1065 (t_P (fun v s' => s' = s ∧ ∃ x, v = some (.int x) ∧ (fun r => r = f_X10_isBetween x1 x2 x3 s) (x))) 0 [(0, .long x1), (2, .long x2), (4, .long x3)] [] (t_m s) 1065 0 0
  refine mj_lload_n dX10_isBetween_0 0 rfl ?_
  refine t_callSiP dX10_isBetween_1 M_X8_kind (C_X8_kind _ _) ML_X10_122 SM_X8_kind (As := [.long x1]) rfl rfl (Nat.le_of_ble_eq_true rfl) (Nat.le_of_ble_eq_true rfl) (Nat.le_of_ble_eq_true rfl) (Nat.le_of_ble_eq_true rfl) ?_
  refine mj_if_ne 30 dX10_isBetween_4 (by decide) (fun z => t_negTK hk z (fun hk => ?_)) (fun z => t_posTK hk z (fun hk => ?_))
  · refine mj_iconst (v := 0) dX10_isBetween_30 (by decide) ?_
    exact t_iret dX10_isBetween_31 rfl (by decide) ⟨rfl, _, rfl, hk⟩ (Nat.le_of_ble_eq_true rfl) (Nat.le_of_ble_eq_true rfl)
  · refine mj_lload_n dX10_isBetween_7 0 rfl ?_
    refine t_callSlP dX10_isBetween_8 M_X8_told (C_X8_told _ _) ML_X10_192 SM_X8_told (As := [.long x1]) rfl rfl (Nat.le_of_ble_eq_true rfl) (Nat.le_of_ble_eq_true rfl) (Nat.le_of_ble_eq_true rfl) (Nat.le_of_ble_eq_true rfl) ?_
    refine mj_lload_n dX10_isBetween_11 1 rfl ?_
    refine mj_lcmp dX10_isBetween_12 ?_
    refine mj_if_lt 30 dX10_isBetween_13 (by decide) (fun z => t_posTK hk z (fun hk => ?_)) (fun z => t_negTK hk z (fun hk => ?_))
    · refine mj_iconst (v := 0) dX10_isBetween_30 (by decide) ?_
      exact t_iret dX10_isBetween_31 rfl (by decide) ⟨rfl, _, rfl, hk⟩ (Nat.le_of_ble_eq_true rfl) (Nat.le_of_ble_eq_true rfl)
    · refine mj_lload_n dX10_isBetween_16 0 rfl ?_
      refine t_callSlP dX10_isBetween_17 M_X8_told (C_X8_told _ _) ML_X10_192 SM_X8_told (As := [.long x1]) rfl rfl (Nat.le_of_ble_eq_true rfl) (Nat.le_of_ble_eq_true rfl) (Nat.le_of_ble_eq_true rfl) (Nat.le_of_ble_eq_true rfl) ?_
      refine mj_lload dX10_isBetween_20 2 rfl ?_
      refine mj_lcmp dX10_isBetween_22 ?_
      refine mj_if_gt 30 dX10_isBetween_23 (by decide) (fun z => t_posTK hk z (fun hk => ?_)) (fun z => t_negTK hk z (fun hk => ?_))
      · refine mj_iconst (v := 0) dX10_isBetween_30 (by decide) ?_
        exact t_iret dX10_isBetween_31 rfl (by decide) ⟨rfl, _, rfl, hk⟩ (Nat.le_of_ble_eq_true rfl) (Nat.le_of_ble_eq_true rfl)
      · refine mj_iconst (v := 1) dX10_isBetween_26 (by decide) ?_
        refine mj_goto 31 dX10_isBetween_27 (by decide) ?_
        exact t_iret dX10_isBetween_31 rfl (by decide) ⟨rfl, _, rfl, hk⟩ (Nat.le_of_ble_eq_true rfl) (Nat.le_of_ble_eq_true rfl)

theorem dJ6_lowestOneBit_0f7a4_0 : decode cJ6_lowestOneBit_0f7a4 0 = .ok (.iload_n 0, 1) := by decide +kernel
theorem dJ6_lowestOneBit_0f7a4_1 : decode cJ6_lowestOneBit_0f7a4 1 = .ok (.iload_n 0, 1) := by decide +kernel
theorem dJ6_lowestOneBit_0f7a4_2 : decode cJ6_lowestOneBit_0f7a4 2 = .ok (.ineg, 1) := by decide +kernel
theorem dJ6_lowestOneBit_0f7a4_3 : decode cJ6_lowestOneBit_0f7a4 3 = .ok (.iand, 1) := by decide +kernel
theorem dJ6_lowestOneBit_0f7a4_4 : decode cJ6_lowestOneBit_0f7a4 4 = .ok (.ireturn, 1) := by decide +kernel
noncomputable def f_J6_lowestOneBit_0f7a4 (x1 : Int32) (s : t_S) : Int32 :=
 (x1 &&& (-x1))
set_option maxRecDepth 4000 in
set_option maxHeartbeats 1000000 in
theorem C_J6_lowestOneBit_0f7a4 (x1 : Int32) (s : t_S) : t_C yJ6_lowestOneBit_0f7a4 cJ6_lowestOneBit_0f7a4 1 (some .int) 0 [.int x1] s (fun v s' => v = some (.int (f_J6_lowestOneBit_0f7a4 x1 s)) ∧ s' = s) := by
  refine t_C.imp (P := fun v s' => s' = s ∧ ∃ x, v = some (.int x) ∧ (fun r => r = f_J6_lowestOneBit_0f7a4 x1 s) (x)) (t_C.of (by decide +kernel) (Nat.le_of_ble_eq_true rfl) ?_) (fun v s' hp => by obtain ⟨rfl, x, rfl, rfl⟩ := hp; exact ⟨rfl, rfl⟩)
  intro D cy ad bs X
  have hk : t_ht (f_J6_lowestOneBit_0f7a4 x1 s) (fun r => r = f_J6_lowestOneBit_0f7a4 x1 s) := rfl
  show mj_G D cy ad bs X cJ6_lowestOneBit_0f7a4 1 yJ6_lowestOneBit_0f7a4.cls (some .int) yJ6_lowestOneBit_0f7a4.name 0 0 0 1065 (t_P (fun v s' => s' = s ∧ ∃ x, v = some (.int x) ∧ (fun r => r = f_J6_lowestOneBit_0f7a4 x1 s) (x))) 0 [(0, .int x1)] [] (t_m s) 1065 0 0
  refine mj_iload_n dJ6_lowestOneBit_0f7a4_0 0 rfl ?_
  refine mj_iload_n dJ6_lowestOneBit_0f7a4_1 0 rfl ?_
  refine mj_ineg dJ6_lowestOneBit_0f7a4_2 ?_
  refine mj_iand dJ6_lowestOneBit_0f7a4_3 ?_
  exact t_iret dJ6_lowestOneBit_0f7a4_4 rfl rfl ⟨rfl, _, rfl, hk⟩ (Nat.le_of_ble_eq_true rfl) (Nat.le_of_ble_eq_true rfl)

theorem dX10_findsElement_0 : decode cX10_findsElement 0 = .ok (.iload_n 3, 1) := by decide +kernel
theorem dX10_findsElement_1 : decode cX10_findsElement 1 = .ok (.bipush 16, 2) := by decide +kernel
theorem dX10_findsElement_11 : decode cX10_findsElement 11 = .ok (.iload 4, 2) := by decide +kernel
theorem dX10_findsElement_13 : decode cX10_findsElement 13 = .ok (.bipush 16, 2) := by decide +kernel
theorem dX10_findsElement_15 : decode cX10_findsElement 15 = .ok (.if_icmp .ge 83, 3) := by decide +kernel
theorem dX10_findsElement_18 : decode cX10_findsElement 18 = .ok (.aload_n 0, 1) := by decide +kernel
theorem dX10_findsElement_19 : decode cX10_findsElement 19 = .ok (.getfield 52, 3) := by decide +kernel
theorem dX10_findsElement_22 : decode cX10_findsElement 22 = .ok (.iload_n 1, 1) := by decide +kernel
theorem dX10_findsElement_23 : decode cX10_findsElement 23 = .ok (.iload_n 2, 1) := by decide +kernel
theorem dX10_findsElement_24 : decode cX10_findsElement 24 = .ok (.iadd, 1) := by decide +kernel
theorem dX10_findsElement_25 : decode cX10_findsElement 25 = .ok (.iaload, 1) := by decide +kernel
theorem dX10_findsElement_26 : decode cX10_findsElement 26 = .ok (.aload_n 0, 1) := by decide +kernel
theorem dX10_findsElement_27 : decode cX10_findsElement 27 = .ok (.getfield 212, 3) := by decide +kernel
theorem dX10_findsElement_3 : decode cX10_findsElement 3 = .ok (.if_icmp .le 5, 3) := by decide +kernel
theorem dX10_findsElement_30 : decode cX10_findsElement 30 = .ok (.iand, 1) := by decide +kernel
theorem dX10_findsElement_31 : decode cX10_findsElement 31 = .ok (.iconst 1, 1) := by decide +kernel
theorem dX10_findsElement_32 : decode cX10_findsElement 32 = .ok (.iload 4, 2) := by decide +kernel
theorem dX10_findsElement_34 : decode cX10_findsElement 34 = .ok (.ishl, 1) := by decide +kernel
theorem dX10_findsElement_35 : decode cX10_findsElement 35 = .ok (.iand, 1) := by decide +kernel
theorem dX10_findsElement_36 : decode cX10_findsElement 36 = .ok (.ifCond .eq 56, 3) := by decide +kernel
theorem dX10_findsElement_39 : decode cX10_findsElement 39 = .ok (.aload_n 0, 1) := by decide +kernel
theorem dX10_findsElement_40 : decode cX10_findsElement 40 = .ok (.dup, 1) := by decide +kernel
theorem dX10_findsElement_41 : decode cX10_findsElement 41 = .ok (.getfield 212, 3) := by decide +kernel
theorem dX10_findsElement_44 : decode cX10_findsElement 44 = .ok (.iconst 1, 1) := by decide +kernel
theorem dX10_findsElement_45 : decode cX10_findsElement 45 = .ok (.iload 4, 2) := by decide +kernel
theorem dX10_findsElement_47 : decode cX10_findsElement 47 = .ok (.ishl, 1) := by decide +kernel
theorem dX10_findsElement_48 : decode cX10_findsElement 48 = .ok (.iconst (-1), 1) := by decide +kernel
theorem dX10_findsElement_49 : decode cX10_findsElement 49 = .ok (.ixor, 1) := by decide +kernel
theorem dX10_findsElement_50 : decode cX10_findsElement 50 = .ok (.iand, 1) := by decide +kernel
theorem dX10_findsElement_51 : decode cX10_findsElement 51 = .ok (.putfield 212, 3) := by decide +kernel
theorem dX10_findsElement_54 : decode cX10_findsElement 54 = .ok (.aload_n 0, 1) := by decide +kernel
theorem dX10_findsElement_55 : decode cX10_findsElement 55 = .ok (.getfield 55, 3) := by decide +kernel
theorem dX10_findsElement_58 : decode cX10_findsElement 58 = .ok (.iload 4, 2) := by decide +kernel
theorem dX10_findsElement_6 : decode cX10_findsElement 6 = .ok (.iconst 0, 1) := by decide +kernel
theorem dX10_findsElement_60 : decode cX10_findsElement 60 = .ok (.iaload, 1) := by decide +kernel
theorem dX10_findsElement_61 : decode cX10_findsElement 61 = .ok (.ifCond .lt 21, 3) := by decide +kernel
theorem dX10_findsElement_64 : decode cX10_findsElement 64 = .ok (.aload_n 0, 1) := by decide +kernel
theorem dX10_findsElement_65 : decode cX10_findsElement 65 = .ok (.iload_n 1, 1) := by decide +kernel
theorem dX10_findsElement_66 : decode cX10_findsElement 66 = .ok (.aload_n 0, 1) := by decide +kernel
theorem dX10_findsElement_67 : decode cX10_findsElement 67 = .ok (.getfield 55, 3) := by decide +kernel
theorem dX10_findsElement_7 : decode cX10_findsElement 7 = .ok (.ireturn, 1) := by decide +kernel
theorem dX10_findsElement_70 : decode cX10_findsElement 70 = .ok (.iload 4, 2) := by decide +kernel
theorem dX10_findsElement_72 : decode cX10_findsElement 72 = .ok (.iaload, 1) := by decide +kernel
theorem dX10_findsElement_73 : decode cX10_findsElement 73 = .ok (.iload_n 3, 1) := by decide +kernel
theorem dX10_findsElement_74 : decode cX10_findsElement 74 = .ok (.iconst 1, 1) := by decide +kernel
theorem dX10_findsElement_75 : decode cX10_findsElement 75 = .ok (.iadd, 1) := by decide +kernel
theorem dX10_findsElement_76 : decode cX10_findsElement 76 = .ok (.invokevirtual 215, 3) := by decide +kernel
theorem dX10_findsElement_79 : decode cX10_findsElement 79 = .ok (.ifCond .eq 13, 3) := by decide +kernel
theorem dX10_findsElement_8 : decode cX10_findsElement 8 = .ok (.iconst 0, 1) := by decide +kernel
theorem dX10_findsElement_82 : decode cX10_findsElement 82 = .ok (.aload_n 0, 1) := by decide +kernel
theorem dX10_findsElement_83 : decode cX10_findsElement 83 = .ok (.getfield 55, 3) := by decide +kernel
theorem dX10_findsElement_86 : decode cX10_findsElement 86 = .ok (.iload 4, 2) := by decide +kernel
theorem dX10_findsElement_88 : decode cX10_findsElement 88 = .ok (.iload_n 2, 1) := by decide +kernel
theorem dX10_findsElement_89 : decode cX10_findsElement 89 = .ok (.iastore, 1) := by decide +kernel
theorem dX10_findsElement_9 : decode cX10_findsElement 9 = .ok (.istore 4, 2) := by decide +kernel
theorem dX10_findsElement_90 : decode cX10_findsElement 90 = .ok (.iconst 1, 1) := by decide +kernel
theorem dX10_findsElement_91 : decode cX10_findsElement 91 = .ok (.ireturn, 1) := by decide +kernel
theorem dX10_findsElement_92 : decode cX10_findsElement 92 = .ok (.iinc 4 1, 3) := by decide +kernel
theorem dX10_findsElement_95 : decode cX10_findsElement 95 = .ok (.goto (-84), 3) := by decide +kernel
theorem dX10_findsElement_98 : decode cX10_findsElement 98 = .ok (.iconst 0, 1) := by decide +kernel
theorem dX10_findsElement_99 : decode cX10_findsElement 99 = .ok (.ireturn, 1) := by decide +kernel
abbrev RT_X10_findsElement : Type := (Int32 → Int32 → Int32 → t_S → Option (Int32 × t_S))
def RH_X10_findsElement (rc : RT_X10_findsElement) (k : Nat) : Prop := (∀ (x1 : Int32) (x2 : Int32) (x3 : Int32) (s : t_S) (r : Int32 × t_S), rc x1 x2 x3 s = some r → t_C yX10_findsElement cX10_findsElement 5 (some .boolean) (0 + k) [.ref 353, .int x1, .int x2, .int x3] s (fun v s' => v = some (.int r.1) ∧ s' = r.2))
noncomputable def k_X10_findsElement_82 (rc : RT_X10_findsElement) (l2 : Int32) (l4 : Int32) (s : t_S) : Option (Int32 × t_S) :=
 if t_ix l4 16 = true then
  t_let (t_setI s 427 (l4.toNatClampNeg) l2) (fun s1 =>
 some ((1 : Int32), s1))
else none
set_option maxRecDepth 4000 in
set_option maxHeartbeats 1000000 in
theorem B_X10_findsElement_82 {D : va_G} {cy : Nat → ClassId} {ad : Nat → Nat} {bs : Nat} {X : State → Heap → Prop} (rc : RT_X10_findsElement) {k : Nat} (H : RH_X10_findsElement rc k) (l2 : Int32) (l4 : Int32) (s : t_S) (Q : Int32 × t_S → Prop) (hk : t_hk (k_X10_findsElement_82 rc l2 l4 s) Q) : mj_G D cy ad bs X cX10_findsElement 5 yX10_findsElement.cls (some .boolean) yX10_findsElement.name (0 + (k + 1)) 0 0 1065 (t_P (fun v s' => ∃ x, v = some (.int x) ∧ Q ((x, s')))) 82 [(0, .ref 353), (2, .int l2), (4, .int l4)] [] (t_m s) 1065 0 0 := by
  refine mj_aload_n dX10_findsElement_82 0 rfl ?_
  refine t_getR 427 dX10_findsElement_83 F_X10_55 qr_353_19 ?_
  refine mj_iload dX10_findsElement_86 2 rfl ?_
  refine mj_iload_n dX10_findsElement_88 1 rfl ?_
  refine t_chkK hk (fun c0 hk => ?_)
  refine t_iastK dX10_findsElement_89 qa_427 (t_ixv c0) (fun s1 ws1 => t_letE hk ws1 (fun hk => ?_))
  refine mj_iconst (v := 1) dX10_findsElement_90 (by decide) ?_
  exact t_somK hk (fun hf => t_iret dX10_findsElement_91 rfl (by decide) ⟨_, rfl, hf⟩ (Nat.le_of_ble_eq_true rfl) (Nat.le_of_ble_eq_true rfl))
noncomputable def k_X10_findsElement_92 (rc : RT_X10_findsElement) (l1 : Int32) (l2 : Int32) (l3 : Int32) (l4 : Int32) (s : t_S) : Option ((Int32 × Int32 × Int32 × Int32 × t_S) ⊕ (Int32 × t_S)) :=
 some (.inl (l1, l2, l3, (l4 + 1), s))
set_option maxRecDepth 4000 in
set_option maxHeartbeats 1000000 in
theorem B_X10_findsElement_92 {D : va_G} {cy : Nat → ClassId} {ad : Nat → Nat} {bs : Nat} {X : State → Heap → Prop} (rc : RT_X10_findsElement) {k : Nat} (H : RH_X10_findsElement rc k) (l1 : Int32) (l2 : Int32) (l3 : Int32) (l4 : Int32) (s : t_S) (Q : (Int32 × Int32 × Int32 × Int32 × t_S) ⊕ (Int32 × t_S) → Prop) (Hb11 : ∀ (y0 : Int32) (y1 : Int32) (y2 : Int32) (y3 : Int32) (y4 : t_S), Q (.inl (y0, y1, y2, y3, y4)) → mj_G D cy ad bs X cX10_findsElement 5 yX10_findsElement.cls (some .boolean) yX10_findsElement.name (0 + (k + 1)) 0 0 1065 (t_P (fun v s' => ∃ x, v = some (.int x) ∧ Q (.inr ((x, s'))))) 11 [(0, .ref 353), (1, .int (y0)), (2, .int (y1)), (3, .int (y2)), (4, .int (y3))] [] (t_m y4) 1065 0 0) (hk : t_hk (k_X10_findsElement_92 rc l1 l2 l3 l4 s) Q) : mj_G D cy ad bs X cX10_findsElement 5 yX10_findsElement.cls (some .boolean) yX10_findsElement.name (0 + (k + 1)) 0 0 1065 (t_P (fun v s' => ∃ x, v = some (.int x) ∧ Q (.inr ((x, s'))))) 92 [(0, .ref 353), (1, .int l1), (2, .int l2), (3, .int l3), (4, .int l4)] [] (t_m s) 1065 0 0 := by
  refine mj_iinc (k := 4) (v := (l4 + 1)) (lv2 := [(4, .int (l4 + 1)), (0, .ref 353), (1, .int l1), (2, .int l2), (3, .int l3)]) dX10_findsElement_92 rfl rfl (by decide) rfl ?_
  refine mj_goto 11 dX10_findsElement_95 (by decide) ?_
  refine mj_sublv [(0, .ref 353), (1, .int l1), (2, .int l2), (3, .int l3), (4, .int (l4 + 1))] [1, 2, 3, 4, 0] rfl ?_
  exact t_somK hk (fun hf => Hb11 l1 l2 l3 (l4 + 1) s hf)
noncomputable def k_X10_findsElement_11 (rc : RT_X10_findsElement) (l1 : Int32) (l2 : Int32) (l3 : Int32) (l4 : Int32) (s : t_S) : Option ((Int32 × Int32 × Int32 × Int32 × t_S) ⊕ (Int32 × t_S)) :=
 if (16 : Int32) ≤ l4 then ((some ((0 : Int32), s)).map Sum.inr)
 else (if t_ix (l1 + l2) 1212 = true then
  if (((s.1 426 ((l1 + l2).toNatClampNeg)) &&& (s.1 353 20)) &&& ((1 : Int32) <<< (l4 &&& 31))) = (0 : Int32) then (k_X10_findsElement_92 rc l1 l2 l3 l4 s)
 else (t_let (t_setI s 353 20 ((s.1 353 20) &&& (((1 : Int32) <<< (l4 &&& 31)) ^^^ (-1 : Int32)))) (fun s1 =>
 if t_ix l4 16 = true then
  if (s1.1 427 (l4.toNatClampNeg)) < (0 : Int32) then ((k_X10_findsElement_82 rc l2 l4 s1).map Sum.inr)
 else ((rc l1 (s1.1 427 (l4.toNatClampNeg)) (l3 + (1 : Int32)) s1).bind (fun r3 =>
 if r3.1 = (0 : Int32) then (k_X10_findsElement_92 rc l1 l2 l3 l4 r3.2)
 else ((k_X10_findsElement_82 rc l2 l4 r3.2).map Sum.inr)))
else none))
else none)
set_option maxRecDepth 4000 in
set_option maxHeartbeats 1000000 in
theorem B_X10_findsElement_11 {D : va_G} {cy : Nat → ClassId} {ad : Nat → Nat} {bs : Nat} {X : State → Heap → Prop} (rc : RT_X10_findsElement) {k : Nat} (H : RH_X10_findsElement rc k) (l1 : Int32) (l2 : Int32) (l3 : Int32) (l4 : Int32) (s : t_S) (Q : (Int32 × Int32 × Int32 × Int32 × t_S) ⊕ (Int32 × t_S) → Prop) (Hb11 : ∀ (y0 : Int32) (y1 : Int32) (y2 : Int32) (y3 : Int32) (y4 : t_S), Q (.inl (y0, y1, y2, y3, y4)) → mj_G D cy ad bs X cX10_findsElement 5 yX10_findsElement.cls (some .boolean) yX10_findsElement.name (0 + (k + 1)) 0 0 1065 (t_P (fun v s' => ∃ x, v = some (.int x) ∧ Q (.inr ((x, s'))))) 11 [(0, .ref 353), (1, .int (y0)), (2, .int (y1)), (3, .int (y2)), (4, .int (y3))] [] (t_m y4) 1065 0 0) (hk : t_hk (k_X10_findsElement_11 rc l1 l2 l3 l4 s) Q) : mj_G D cy ad bs X cX10_findsElement 5 yX10_findsElement.cls (some .boolean) yX10_findsElement.name (0 + (k + 1)) 0 0 1065 (t_P (fun v s' => ∃ x, v = some (.int x) ∧ Q (.inr ((x, s'))))) 11 [(0, .ref 353), (1, .int l1), (2, .int l2), (3, .int l3), (4, .int l4)] [] (t_m s) 1065 0 0 := by
  refine mj_iload dX10_findsElement_11 4 rfl ?_
  refine mj_bipush (v := 16) dX10_findsElement_13 (by decide) ?_
  refine mj_icmp_ge 98 dX10_findsElement_15 (by decide) (fun z => t_posK hk z (fun hk => ?_)) (fun z => t_negK hk z (fun hk => ?_))
  · refine t_mapK hk (fun hk => ?_)
    refine mj_iconst (v := 0) dX10_findsElement_98 (by decide) ?_
    exact t_somK hk (fun hf => t_iret dX10_findsElement_99 rfl (by decide) ⟨_, rfl, hf⟩ (Nat.le_of_ble_eq_true rfl) (Nat.le_of_ble_eq_true rfl))
  · refine mj_aload_n dX10_findsElement_18 0 rfl ?_
    refine t_getR 426 dX10_findsElement_19 F_X10_52 qr_353_18 ?_
    refine mj_iload_n dX10_findsElement_22 1 rfl ?_
    refine mj_iload_n dX10_findsElement_23 2 rfl ?_
    refine mj_iadd dX10_findsElement_24 ?_
    refine t_chkK hk (fun c0 hk => ?_)
    refine t_iald dX10_findsElement_25 qa_426 (t_ixv c0) ?_
    refine mj_aload_n dX10_findsElement_26 0 rfl ?_
    refine t_getI dX10_findsElement_27 F_X10_212 qf_353_20 ?_
    refine mj_iand dX10_findsElement_30 ?_
    refine mj_iconst (v := 1) dX10_findsElement_31 (by decide) ?_
    refine mj_iload dX10_findsElement_32 4 rfl ?_
    refine mj_ishl dX10_findsElement_34 ?_
    refine mj_iand dX10_findsElement_35 ?_
    refine mj_if_eq 92 dX10_findsElement_36 (by decide) (fun z => t_posK hk z (fun hk => ?_)) (fun z => t_negK hk z (fun hk => ?_))
    · exact B_X10_findsElement_92 rc H _ _ _ _ _ _ (fun y0 y1 y2 y3 y4 hx => Hb11 y0 y1 y2 y3 y4 hx) hk
    · refine mj_aload_n dX10_findsElement_39 0 rfl ?_
      refine mj_dup dX10_findsElement_40 rfl ?_
      refine t_getI dX10_findsElement_41 F_X10_212 qf_353_20 ?_
      refine mj_iconst (v := 1) dX10_findsElement_44 (by decide) ?_
      refine mj_iload dX10_findsElement_45 4 rfl ?_
      refine mj_ishl dX10_findsElement_47 ?_
      refine mj_iconst (v := (-1)) dX10_findsElement_48 (by decide) ?_
      refine mj_ixor dX10_findsElement_49 ?_
      refine mj_iand dX10_findsElement_50 ?_
      refine t_putIK dX10_findsElement_51 F_X10_212 qf_353_20 rfl (fun s1 ws1 => t_letE hk ws1 (fun hk => ?_))
      refine mj_aload_n dX10_findsElement_54 0 rfl ?_
      refine t_getR 427 dX10_findsElement_55 F_X10_55 qr_353_19 ?_
      refine mj_iload dX10_findsElement_58 4 rfl ?_
      refine t_chkK hk (fun c1 hk => ?_)
      refine t_iald dX10_findsElement_60 qa_427 (t_ixv c1) ?_
      refine mj_if_lt 82 dX10_findsElement_61 (by decide) (fun z => t_posK hk z (fun hk => ?_)) (fun z => t_negK hk z (fun hk => ?_))
      · refine mj_sublv [(0, .ref 353), (2, .int l2), (4, .int l4)] [0, 2, 4] rfl ?_
        refine t_mapK hk (fun hk => ?_)
        exact B_X10_findsElement_82 rc H _ _ _ _ hk
      · refine mj_aload_n dX10_findsElement_64 0 rfl ?_
        refine mj_iload_n dX10_findsElement_65 1 rfl ?_
        refine mj_aload_n dX10_findsElement_66 0 rfl ?_
        refine t_getR 427 dX10_findsElement_67 F_X10_55 qr_353_19 ?_
        refine mj_iload dX10_findsElement_70 4 rfl ?_
        refine t_iald dX10_findsElement_72 qa_427 (t_ixv c1) ?_
        refine mj_iload_n dX10_findsElement_73 3 rfl ?_
        refine mj_iconst (v := 1) dX10_findsElement_74 (by decide) ?_
        refine mj_iadd dX10_findsElement_75 ?_
        refine t_bndK hk (fun r3 er3 hk => ?_)
        refine t_callViE dX10_findsElement_76 M_X10_findsElement (H _ _ _ _ _ er3) ML_X10_215 IM_X10_findsElement SE_X10_findsElement qc_353 rfl (As := [.int l1, .int (s1.1 427 (l4.toNatClampNeg)), .int (l3 + (1 : Int32))]) rfl rfl (by omega) (Nat.le_of_ble_eq_true rfl) (Nat.le_of_ble_eq_true rfl) (Nat.le_of_ble_eq_true rfl) ?_
        refine mj_if_eq 92 dX10_findsElement_79 (by decide) (fun z => t_posK hk z (fun hk => ?_)) (fun z => t_negK hk z (fun hk => ?_))
        · exact B_X10_findsElement_92 rc H _ _ _ _ _ _ (fun y0 y1 y2 y3 y4 hx => Hb11 y0 y1 y2 y3 y4 hx) hk
        · refine mj_sublv [(0, .ref 353), (2, .int l2), (4, .int l4)] [0, 2, 4] rfl ?_
          refine t_mapK hk (fun hk => ?_)
          exact B_X10_findsElement_82 rc H _ _ _ _ hk
noncomputable def b_X10_findsElement_11 (rc : RT_X10_findsElement) (x : Int32 × Int32 × Int32 × Int32 × t_S) : Option ((Int32 × Int32 × Int32 × Int32 × t_S) ⊕ (Int32 × t_S)) := k_X10_findsElement_11 rc x.1 x.2.1 x.2.2.1 x.2.2.2.1 x.2.2.2.2
set_option maxRecDepth 4000 in
set_option maxHeartbeats 1000000 in
theorem LH_X10_findsElement_11 {D : va_G} {cy : Nat → ClassId} {ad : Nat → Nat} {bs : Nat} {X : State → Heap → Prop} (rc : RT_X10_findsElement) {k : Nat} (H : RH_X10_findsElement rc k) : ∀ (n : Nat) (y0 : Int32) (y1 : Int32) (y2 : Int32) (y3 : Int32) (y4 : t_S) (Q : Int32 × t_S → Prop) (hk : t_hk (t_loop (b_X10_findsElement_11 rc) n (y0, y1, y2, y3, y4)) Q), mj_G D cy ad bs X cX10_findsElement 5 yX10_findsElement.cls (some .boolean) yX10_findsElement.name (0 + (k + 1)) 0 0 1065 (t_P (fun v s' => ∃ x, v = some (.int x) ∧ Q ((x, s')))) 11 [(0, .ref 353), (1, .int (y0)), (2, .int (y1)), (3, .int (y2)), (4, .int (y3))] [] (t_m y4) 1065 0 0 := by
  intro n
  induction n with
  | zero => intro y0 y1 y2 y3 y4 Q hk; obtain ⟨r, hr, _⟩ := hk; cases hr
  | succ n ih =>
    intro y0 y1 y2 y3 y4 Q hk
    exact B_X10_findsElement_11 rc H y0 y1 y2 y3 y4 (fun y => t_lq (b_X10_findsElement_11 rc) n Q y) (fun y0' y1' y2' y3' y4' hy => ih y0' y1' y2' y3' y4' Q hy) (t_lp hk)
noncomputable def m_X10_findsElement (rc : RT_X10_findsElement) (x1 : Int32) (x2 : Int32) (x3 : Int32) (s : t_S) : Option (Int32 × t_S) :=
 if x3 ≤ (16 : Int32) then (t_loop (b_X10_findsElement_11 rc) t_N (x1, x2, x3, 0, s))
 else (some ((0 : Int32), s))
set_option maxRecDepth 4000 in
set_option maxHeartbeats 1000000 in
theorem E_X10_findsElement (rc : RT_X10_findsElement) {k : Nat} (H : RH_X10_findsElement rc k) (x1 : Int32) (x2 : Int32) (x3 : Int32) (s : t_S) (r : Int32 × t_S) (hr : m_X10_findsElement rc x1 x2 x3 s = some r) : t_C yX10_findsElement cX10_findsElement 5 (some .boolean) (0 + (k + 1)) [.ref 353, .int x1, .int x2, .int x3] s (fun v s' => v = some (.int r.1) ∧ s' = r.2) := by
  refine t_C.imp (P := fun v s' => ∃ x, v = some (.int x) ∧ (fun q => q = r) ((x, s'))) (t_C.of (by decide +kernel) (Nat.le_of_ble_eq_true rfl) ?_) (fun v s' hp => by obtain ⟨x, rfl, rfl⟩ := hp; exact ⟨rfl, rfl⟩)
  intro D cy ad bs X
  have hk : t_hk (m_X10_findsElement rc x1 x2 x3 s) (fun q => q = r) := ⟨r, hr, rfl⟩
  show mj_G D cy ad bs X cX10_findsElement 5 yX10_findsElement.cls (some .boolean) yX10_findsElement.name (0 + (k + 1)) 0 0 1065 (t_P (fun v s' => ∃ x, v = some (.int x) ∧ (fun q => q = r) ((x, s')))) 0 [(0, .ref 353), (1, .int x1), (2, .int x2), (3, .int x3)] [] (t_m s) 1065 0 0
  refine mj_iload_n dX10_findsElement_0 3 rfl ?_
  refine mj_bipush (v := 16) dX10_findsElement_1 (by decide) ?_
  refine mj_icmp_le 8 dX10_findsElement_3 (by decide) (fun z => t_posK hk z (fun hk => ?_)) (fun z => t_negK hk z (fun hk => ?_))
  · refine mj_iconst (v := 0) dX10_findsElement_8 (by decide) ?_
    refine mj_istore (lv2 := [(4, .int 0), (0, .ref 353), (1, .int x1), (2, .int x2), (3, .int x3)]) dX10_findsElement_9 (by decide) rfl ?_
    refine mj_sublv [(0, .ref 353), (1, .int x1), (2, .int x2), (3, .int x3), (4, .int 0)] [1, 2, 3, 4, 0] rfl ?_
    exact LH_X10_findsElement_11 rc H _ x1 x2 x3 0 s _ hk
  · refine mj_iconst (v := 0) dX10_findsElement_6 (by decide) ?_
    exact t_somK hk (fun hf => t_iret dX10_findsElement_7 rfl (by decide) ⟨_, rfl, hf⟩ (Nat.le_of_ble_eq_true rfl) (Nat.le_of_ble_eq_true rfl))
/-- so many calls deep -/
noncomputable def R_X10_findsElement : Nat → RT_X10_findsElement
  | 0 => fun _ _ _ _ => none
  | k + 1 => fun x1 x2 x3 s => m_X10_findsElement (R_X10_findsElement k) x1 x2 x3 s
theorem RR_X10_findsElement : ∀ k : Nat, RH_X10_findsElement (R_X10_findsElement k) k := by
  intro k
  induction k with
  | zero => exact fun _ _ _ _ _ h => (by cases h)
  | succ k ih => exact fun x1 x2 x3 s r h => E_X10_findsElement (R_X10_findsElement k) ih x1 x2 x3 s r h
noncomputable def f_X10_findsElement (x1 : Int32) (x2 : Int32) (x3 : Int32) (s : t_S) : Option (Int32 × t_S) := (R_X10_findsElement 100) x1 x2 x3 s
theorem C_X10_findsElement (x1 : Int32) (x2 : Int32) (x3 : Int32) (s : t_S) (r : Int32 × t_S) (hr : f_X10_findsElement x1 x2 x3 s = some r) : t_C yX10_findsElement cX10_findsElement 5 (some .boolean) 100 [.ref 353, .int x1, .int x2, .int x3] s (fun v s' => v = some (.int r.1) ∧ s' = r.2) := (RR_X10_findsElement 100) x1 x2 x3 s r hr

theorem dX10_paired_0 : decode cX10_paired 0 = .ok (.aload_n 0, 1) := by decide +kernel
theorem dX10_paired_1 : decode cX10_paired 1 = .ok (.getfield 55, 3) := by decide +kernel
theorem dX10_paired_11 : decode cX10_paired 11 = .ok (.iconst 0, 1) := by decide +kernel
theorem dX10_paired_12 : decode cX10_paired 12 = .ok (.istore 5, 2) := by decide +kernel
theorem dX10_paired_14 : decode cX10_paired 14 = .ok (.iload 5, 2) := by decide +kernel
theorem dX10_paired_16 : decode cX10_paired 16 = .ok (.iload_n 2, 1) := by decide +kernel
theorem dX10_paired_17 : decode cX10_paired 17 = .ok (.if_icmp .ge 31, 3) := by decide +kernel
theorem dX10_paired_20 : decode cX10_paired 20 = .ok (.aload_n 0, 1) := by decide +kernel
theorem dX10_paired_21 : decode cX10_paired 21 = .ok (.iload_n 3, 1) := by decide +kernel
theorem dX10_paired_22 : decode cX10_paired 22 = .ok (.putfield 212, 3) := by decide +kernel
theorem dX10_paired_25 : decode cX10_paired 25 = .ok (.aload_n 0, 1) := by decide +kernel
theorem dX10_paired_26 : decode cX10_paired 26 = .ok (.iload_n 1, 1) := by decide +kernel
theorem dX10_paired_27 : decode cX10_paired 27 = .ok (.bipush 12, 2) := by decide +kernel
theorem dX10_paired_29 : decode cX10_paired 29 = .ok (.imul, 1) := by decide +kernel
theorem dX10_paired_30 : decode cX10_paired 30 = .ok (.iload 5, 2) := by decide +kernel
theorem dX10_paired_32 : decode cX10_paired 32 = .ok (.iconst 0, 1) := by decide +kernel
theorem dX10_paired_33 : decode cX10_paired 33 = .ok (.invokevirtual 215, 3) := by decide +kernel
theorem dX10_paired_36 : decode cX10_paired 36 = .ok (.ifCond .eq 6, 3) := by decide +kernel
theorem dX10_paired_39 : decode cX10_paired 39 = .ok (.iinc 4 1, 3) := by decide +kernel
theorem dX10_paired_4 : decode cX10_paired 4 = .ok (.iconst (-1), 1) := by decide +kernel
theorem dX10_paired_42 : decode cX10_paired 42 = .ok (.iinc 5 1, 3) := by decide +kernel
theorem dX10_paired_45 : decode cX10_paired 45 = .ok (.goto (-31), 3) := by decide +kernel
theorem dX10_paired_48 : decode cX10_paired 48 = .ok (.iload 4, 2) := by decide +kernel
theorem dX10_paired_5 : decode cX10_paired 5 = .ok (.invokestatic 139, 3) := by decide +kernel
theorem dX10_paired_50 : decode cX10_paired 50 = .ok (.ireturn, 1) := by decide +kernel
theorem dX10_paired_8 : decode cX10_paired 8 = .ok (.iconst 0, 1) := by decide +kernel
theorem dX10_paired_9 : decode cX10_paired 9 = .ok (.istore 4, 2) := by decide +kernel
noncomputable def k_X10_paired_42 (l1 : Int32) (l2 : Int32) (l3 : Int32) (l4 : Int32) (l5 : Int32) (s : t_S) : Option ((Int32 × Int32 × Int32 × Int32 × Int32 × t_S) ⊕ (Int32 × t_S)) :=
 some (.inl (l1, l2, l3, l4, (l5 + 1), s))
set_option maxRecDepth 4000 in
set_option maxHeartbeats 1000000 in
theorem B_X10_paired_42 {D : va_G} {cy : Nat → ClassId} {ad : Nat → Nat} {bs : Nat} {X : State → Heap → Prop} (l1 : Int32) (l2 : Int32) (l3 : Int32) (l4 : Int32) (l5 : Int32) (s : t_S) (Q : (Int32 × Int32 × Int32 × Int32 × Int32 × t_S) ⊕ (Int32 × t_S) → Prop) (Hb14 : ∀ (y0 : Int32) (y1 : Int32) (y2 : Int32) (y3 : Int32) (y4 : Int32) (y5 : t_S), Q (.inl (y0, y1, y2, y3, y4, y5)) → mj_G D cy ad bs X cX10_paired 6 yX10_paired.cls (some .int) yX10_paired.name 101 0 0 1065 (t_P (fun v s' => ∃ x, v = some (.int x) ∧ Q (.inr ((x, s'))))) 14 [(0, .ref 353), (1, .int (y0)), (2, .int (y1)), (3, .int (y2)), (4, .int (y3)), (5, .int (y4))] [] (t_m y5) 1065 0 0) (hk : t_hk (k_X10_paired_42 l1 l2 l3 l4 l5 s) Q) : mj_G D cy ad bs X cX10_paired 6 yX10_paired.cls (some .int) yX10_paired.name 101 0 0 1065 (t_P (fun v s' => ∃ x, v = some (.int x) ∧ Q (.inr ((x, s'))))) 42 [(0, .ref 353), (1, .int l1), (2, .int l2), (3, .int l3), (4, .int l4), (5, .int l5)] [] (t_m s) 1065 0 0 := by
  refine mj_iinc (k := 5) (v := (l5 + 1)) (lv2 := [(5, .int (l5 + 1)), (0, .ref 353), (1, .int l1), (2, .int l2), (3, .int l3), (4, .int l4)]) dX10_paired_42 rfl rfl (by decide) rfl ?_
  refine mj_goto 14 dX10_paired_45 (by decide) ?_
  refine mj_sublv [(0, .ref 353), (1, .int l1), (2, .int l2), (3, .int l3), (4, .int l4), (5, .int (l5 + 1))] [1, 2, 3, 4, 5, 0] rfl ?_
  exact t_somK hk (fun hf => Hb14 l1 l2 l3 l4 (l5 + 1) s hf)
noncomputable def k_X10_paired_14 (l1 : Int32) (l2 : Int32) (l3 : Int32) (l4 : Int32) (l5 : Int32) (s : t_S) : Option ((Int32 × Int32 × Int32 × Int32 × Int32 × t_S) ⊕ (Int32 × t_S)) :=
 if l2 ≤ l5 then ((some (l4, s)).map Sum.inr)
 else (t_let (t_setI s 353 20 l3) (fun s1 =>
 (f_X10_findsElement (l1 * (12 : Int32)) l5 (0 : Int32) s1).bind (fun r1 =>
 if r1.1 = (0 : Int32) then (k_X10_paired_42 l1 l2 l3 l4 l5 r1.2)
 else (k_X10_paired_42 l1 l2 l3 (l4 + 1) l5 r1.2))))
set_option maxRecDepth 4000 in
set_option maxHeartbeats 1000000 in
theorem B_X10_paired_14 {D : va_G} {cy : Nat → ClassId} {ad : Nat → Nat} {bs : Nat} {X : State → Heap → Prop} (l1 : Int32) (l2 : Int32) (l3 : Int32) (l4 : Int32) (l5 : Int32) (s : t_S) (Q : (Int32 × Int32 × Int32 × Int32 × Int32 × t_S) ⊕ (Int32 × t_S) → Prop) (Hb14 : ∀ (y0 : Int32) (y1 : Int32) (y2 : Int32) (y3 : Int32) (y4 : Int32) (y5 : t_S), Q (.inl (y0, y1, y2, y3, y4, y5)) → mj_G D cy ad bs X cX10_paired 6 yX10_paired.cls (some .int) yX10_paired.name 101 0 0 1065 (t_P (fun v s' => ∃ x, v = some (.int x) ∧ Q (.inr ((x, s'))))) 14 [(0, .ref 353), (1, .int (y0)), (2, .int (y1)), (3, .int (y2)), (4, .int (y3)), (5, .int (y4))] [] (t_m y5) 1065 0 0) (hk : t_hk (k_X10_paired_14 l1 l2 l3 l4 l5 s) Q) : mj_G D cy ad bs X cX10_paired 6 yX10_paired.cls (some .int) yX10_paired.name 101 0 0 1065 (t_P (fun v s' => ∃ x, v = some (.int x) ∧ Q (.inr ((x, s'))))) 14 [(0, .ref 353), (1, .int l1), (2, .int l2), (3, .int l3), (4, .int l4), (5, .int l5)] [] (t_m s) 1065 0 0 := by
  refine mj_iload dX10_paired_14 5 rfl ?_
  refine mj_iload_n dX10_paired_16 2 rfl ?_
  refine mj_icmp_ge 48 dX10_paired_17 (by decide) (fun z => t_posK hk z (fun hk => ?_)) (fun z => t_negK hk z (fun hk => ?_))
  · refine t_mapK hk (fun hk => ?_)
    refine mj_iload dX10_paired_48 4 rfl ?_
    exact t_somK hk (fun hf => t_iret dX10_paired_50 rfl rfl ⟨_, rfl, hf⟩ (Nat.le_of_ble_eq_true rfl) (Nat.le_of_ble_eq_true rfl))
  · refine mj_aload_n dX10_paired_20 0 rfl ?_
    refine mj_iload_n dX10_paired_21 3 rfl ?_
    refine t_putIK dX10_paired_22 F_X10_212 qf_353_20 rfl (fun s1 ws1 => t_letE hk ws1 (fun hk => ?_))
    refine mj_aload_n dX10_paired_25 0 rfl ?_
    refine mj_iload_n dX10_paired_26 1 rfl ?_
    refine mj_bipush (v := 12) dX10_paired_27 (by decide) ?_
    refine mj_imul dX10_paired_29 ?_
    refine mj_iload dX10_paired_30 5 rfl ?_
    refine mj_iconst (v := 0) dX10_paired_32 (by decide) ?_
    refine t_bndK hk (fun r1 er1 hk => ?_)
    refine t_callViE dX10_paired_33 M_X10_findsElement (C_X10_findsElement _ _ _ _ _ er1) ML_X10_215 IM_X10_findsElement SE_X10_findsElement qc_353 rfl (As := [.int (l1 * (12 : Int32)), .int l5, .int 0]) rfl rfl (Nat.le_of_ble_eq_true rfl) (Nat.le_of_ble_eq_true rfl) (Nat.le_of_ble_eq_true rfl) (Nat.le_of_ble_eq_true rfl) ?_
    refine mj_if_eq 42 dX10_paired_36 (by decide) (fun z => t_posK hk z (fun hk => ?_)) (fun z => t_negK hk z (fun hk => ?_))
    · exact B_X10_paired_42 _ _ _ _ _ _ _ (fun y0 y1 y2 y3 y4 y5 hx => Hb14 y0 y1 y2 y3 y4 y5 hx) hk
    · refine mj_iinc (k := 4) (v := (l4 + 1)) (lv2 := [(4, .int (l4 + 1)), (0, .ref 353), (1, .int l1), (2, .int l2), (3, .int l3), (5, .int l5)]) dX10_paired_39 rfl rfl (by decide) rfl ?_
      refine mj_sublv [(0, .ref 353), (1, .int l1), (2, .int l2), (3, .int l3), (4, .int (l4 + 1)), (5, .int l5)] [1, 2, 3, 4, 0, 5] rfl ?_
      exact B_X10_paired_42 _ _ _ _ _ _ _ (fun y0 y1 y2 y3 y4 y5 hx => Hb14 y0 y1 y2 y3 y4 y5 hx) hk
noncomputable def b_X10_paired_14 (x : Int32 × Int32 × Int32 × Int32 × Int32 × t_S) : Option ((Int32 × Int32 × Int32 × Int32 × Int32 × t_S) ⊕ (Int32 × t_S)) := k_X10_paired_14 x.1 x.2.1 x.2.2.1 x.2.2.2.1 x.2.2.2.2.1 x.2.2.2.2.2
set_option maxRecDepth 4000 in
set_option maxHeartbeats 1000000 in
theorem LH_X10_paired_14 {D : va_G} {cy : Nat → ClassId} {ad : Nat → Nat} {bs : Nat} {X : State → Heap → Prop} : ∀ (n : Nat) (y0 : Int32) (y1 : Int32) (y2 : Int32) (y3 : Int32) (y4 : Int32) (y5 : t_S) (Q : Int32 × t_S → Prop) (hk : t_hk (t_loop (b_X10_paired_14) n (y0, y1, y2, y3, y4, y5)) Q), mj_G D cy ad bs X cX10_paired 6 yX10_paired.cls (some .int) yX10_paired.name 101 0 0 1065 (t_P (fun v s' => ∃ x, v = some (.int x) ∧ Q ((x, s')))) 14 [(0, .ref 353), (1, .int (y0)), (2, .int (y1)), (3, .int (y2)), (4, .int (y3)), (5, .int (y4))] [] (t_m y5) 1065 0 0 := by
  intro n
  induction n with
  | zero => intro y0 y1 y2 y3 y4 y5 Q hk; obtain ⟨r, hr, _⟩ := hk; cases hr
  | succ n ih =>
    intro y0 y1 y2 y3 y4 y5 Q hk
    exact B_X10_paired_14 y0 y1 y2 y3 y4 y5 (fun y => t_lq (b_X10_paired_14) n Q y) (fun y0' y1' y2' y3' y4' y5' hy => ih y0' y1' y2' y3' y4' y5' Q hy) (t_lp hk)
noncomputable def f_X10_paired (x1 : Int32) (x2 : Int32) (x3 : Int32) (s : t_S) : Option (Int32 × t_S) :=
 (f_J7_fill_53178 427 (-1 : Int32) s).bind (fun r1 =>
 t_loop (b_X10_paired_14) t_N (x1, x2, x3, 0, 0, r1))
set_option maxRecDepth 4000 in
set_option maxHeartbeats 1000000 in
theorem C_X10_paired (x1 : Int32) (x2 : Int32) (x3 : Int32) (s : t_S) (r : Int32 × t_S) (hr : f_X10_paired x1 x2 x3 s = some r) : t_C yX10_paired cX10_paired 6 (some .int) 101 [.ref 353, .int x1, .int x2, .int x3] s (fun v s' => v = some (.int r.1) ∧ s' = r.2) := by
  refine t_C.imp (P := fun v s' => ∃ x, v = some (.int x) ∧ (fun q => q = r) ((x, s'))) (t_C.of (by decide +kernel) (Nat.le_of_ble_eq_true rfl) ?_) (fun v s' hp => by obtain ⟨x, rfl, rfl⟩ := hp; exact ⟨rfl, rfl⟩)
  intro D cy ad bs X
  have hk : t_hk (f_X10_paired x1 x2 x3 s) (fun q => q = r) := ⟨r, hr, rfl⟩
  show mj_G D cy ad bs X cX10_paired 6 yX10_paired.cls (some .int) yX10_paired.name 101 0 0 1065 (t_P (fun v s' => ∃ x, v = some (.int x) ∧ (fun q => q = r) ((x, s')))) 0 [(0, .ref 353), (1, .int x1), (2, .int x2), (3, .int x3)] [] (t_m s) 1065 0 0
  refine mj_aload_n dX10_paired_0 0 rfl ?_
  refine t_getR 427 dX10_paired_1 F_X10_55 qr_353_19 ?_
  refine mj_iconst (v := (-1)) dX10_paired_4 (by decide) ?_
  refine t_bndK hk (fun r1 er1 hk => ?_)
  refine t_callSvE dX10_paired_5 M_J7_fill_53178 (C_J7_fill_53178 _ _ _ _ er1) ML_X10_139 SM_J7_fill_53178 (As := [.ref 427, .int (-1)]) rfl rfl (Nat.le_of_ble_eq_true rfl) (Nat.le_of_ble_eq_true rfl) (Nat.le_of_ble_eq_true rfl) (Nat.le_of_ble_eq_true rfl) ?_
  refine mj_iconst (v := 0) dX10_paired_8 (by decide) ?_
  refine mj_istore (lv2 := [(4, .int 0), (0, .ref 353), (1, .int x1), (2, .int x2), (3, .int x3)]) dX10_paired_9 (by decide) rfl ?_
  refine mj_iconst (v := 0) dX10_paired_11 (by decide) ?_
  refine mj_istore (lv2 := [(5, .int 0), (4, .int 0), (0, .ref 353), (1, .int x1), (2, .int x2), (3, .int x3)]) dX10_paired_12 (by decide) rfl ?_
  refine mj_sublv [(0, .ref 353), (1, .int x1), (2, .int x2), (3, .int x3), (4, .int 0), (5, .int 0)] [2, 3, 4, 5, 1, 0] rfl ?_
  exact LH_X10_paired_14 _ x1 x2 x3 0 0 r1 _ hk

theorem dX10_isRest_0 : decode cX10_isRest 0 = .ok (.aload_n 0, 1) := by decide +kernel
theorem dX10_isRest_1 : decode cX10_isRest 1 = .ok (.getfield 11, 3) := by decide +kernel
theorem dX10_isRest_10 : decode cX10_isRest 10 = .ok (.aload_n 0, 1) := by decide +kernel
theorem dX10_isRest_11 : decode cX10_isRest 11 = .ok (.getfield 27, 3) := by decide +kernel
theorem dX10_isRest_14 : decode cX10_isRest 14 = .ok (.iload_n 1, 1) := by decide +kernel
theorem dX10_isRest_15 : decode cX10_isRest 15 = .ok (.iaload, 1) := by decide +kernel
theorem dX10_isRest_16 : decode cX10_isRest 16 = .ok (.ifCond .ne 16, 3) := by decide +kernel
theorem dX10_isRest_19 : decode cX10_isRest 19 = .ok (.aload_n 0, 1) := by decide +kernel
theorem dX10_isRest_20 : decode cX10_isRest 20 = .ok (.getfield 30, 3) := by decide +kernel
theorem dX10_isRest_23 : decode cX10_isRest 23 = .ok (.iload_n 1, 1) := by decide +kernel
theorem dX10_isRest_24 : decode cX10_isRest 24 = .ok (.baload, 1) := by decide +kernel
theorem dX10_isRest_25 : decode cX10_isRest 25 = .ok (.ifCond .ne 7, 3) := by decide +kernel
theorem dX10_isRest_28 : decode cX10_isRest 28 = .ok (.iconst 1, 1) := by decide +kernel
theorem dX10_isRest_29 : decode cX10_isRest 29 = .ok (.goto 4, 3) := by decide +kernel
theorem dX10_isRest_32 : decode cX10_isRest 32 = .ok (.iconst 0, 1) := by decide +kernel
theorem dX10_isRest_33 : decode cX10_isRest 33 = .ok (.ireturn, 1) := by decide +kernel
theorem dX10_isRest_4 : decode cX10_isRest 4 = .ok (.iload_n 1, 1) := by decide +kernel
theorem dX10_isRest_5 : decode cX10_isRest 5 = .ok (.iaload, 1) := by decide +kernel
theorem dX10_isRest_6 : decode cX10_isRest 6 = .ok (.iconst 2, 1) := by decide +kernel
theorem dX10_isRest_7 : decode cX10_isRest 7 = .ok (.if_icmp .ne 25, 3) := by decide +kernel
noncomputable def f_X10_isRest (x1 : Int32) (s : t_S) : Option (Int32) :=
 if t_ix x1 6100 = true then
  if (s.1 354 (x1.toNatClampNeg)) = (2 : Int32) then (if (s.1 359 (x1.toNatClampNeg)) = (0 : Int32) then (if (s.1 360 (x1.toNatClampNeg)) = (0 : Int32) then (some (1 : Int32))
 else (some (0 : Int32)))
 else (some (0 : Int32)))
 else (some (0 : Int32))
else none
set_option maxRecDepth 4000 in
set_option maxHeartbeats 1000000 in
theorem C_X10_isRest (x1 : Int32) (s : t_S) (r : Int32) (hr : f_X10_isRest x1 s = some r) : t_C yX10_isRest cX10_isRest 2 (some .boolean) 0 [.ref 353, .int x1] s (fun v s' => v = some (.int r) ∧ s' = s) := by
  refine t_C.imp (P := fun v s' => s' = s ∧ ∃ x, v = some (.int x) ∧ (fun q => q = r) (x)) (t_C.of (by decide +kernel) (Nat.le_of_ble_eq_true rfl) ?_) (fun v s' hp => by obtain ⟨rfl, x, rfl, rfl⟩ := hp; exact ⟨rfl, rfl⟩)
  intro D cy ad bs X
  have hk : t_hk (f_X10_isRest x1 s) (fun q => q = r) := ⟨r, hr, rfl⟩
  show mj_G D cy ad bs X cX10_isRest 2 yX10_isRest.cls (some .boolean) yX10_isRest.name 0 0 0 1065 (t_P (fun v s' => s' = s ∧ ∃ x, v = some (.int x) ∧ (fun q => q = r) (x))) 0 [(0, .ref 353), (1, .int x1)] [] (t_m s) 1065 0 0
  refine mj_aload_n dX10_isRest_0 0 rfl ?_
  refine t_getR 354 dX10_isRest_1 F_X10_11 qr_353_0 ?_
  refine mj_iload_n dX10_isRest_4 1 rfl ?_
  refine t_chkK hk (fun c0 hk => ?_)
  refine t_iald dX10_isRest_5 qa_354 (t_ixv c0) ?_
  refine mj_iconst (v := 2) dX10_isRest_6 (by decide) ?_
  refine mj_icmp_ne 32 dX10_isRest_7 (by decide) (fun z => t_negK hk z (fun hk => ?_)) (fun z => t_posK hk z (fun hk => ?_))
  · refine mj_iconst (v := 0) dX10_isRest_32 (by decide) ?_
    exact t_somK hk (fun hf => t_iret dX10_isRest_33 rfl (by decide) ⟨rfl, _, rfl, hf⟩ (Nat.le_of_ble_eq_true rfl) (Nat.le_of_ble_eq_true rfl))
  · refine mj_aload_n dX10_isRest_10 0 rfl ?_
    refine t_getR 359 dX10_isRest_11 F_X10_27 qr_353_5 ?_
    refine mj_iload_n dX10_isRest_14 1 rfl ?_
    refine t_iald dX10_isRest_15 qa_359 (t_ixv c0) ?_
    refine mj_if_ne 32 dX10_isRest_16 (by decide) (fun z => t_negK hk z (fun hk => ?_)) (fun z => t_posK hk z (fun hk => ?_))
    · refine mj_iconst (v := 0) dX10_isRest_32 (by decide) ?_
      exact t_somK hk (fun hf => t_iret dX10_isRest_33 rfl (by decide) ⟨rfl, _, rfl, hf⟩ (Nat.le_of_ble_eq_true rfl) (Nat.le_of_ble_eq_true rfl))
    · refine mj_aload_n dX10_isRest_19 0 rfl ?_
      refine t_getR 360 dX10_isRest_20 F_X10_30 qr_353_6 ?_
      refine mj_iload_n dX10_isRest_23 1 rfl ?_
      refine t_zald dX10_isRest_24 qa_360 (t_ixv c0) ?_
      refine mj_if_ne 32 dX10_isRest_25 (by decide) (fun z => t_negK hk z (fun hk => ?_)) (fun z => t_posK hk z (fun hk => ?_))
      · refine mj_iconst (v := 0) dX10_isRest_32 (by decide) ?_
        exact t_somK hk (fun hf => t_iret dX10_isRest_33 rfl (by decide) ⟨rfl, _, rfl, hf⟩ (Nat.le_of_ble_eq_true rfl) (Nat.le_of_ble_eq_true rfl))
      · refine mj_iconst (v := 1) dX10_isRest_28 (by decide) ?_
        refine mj_goto 33 dX10_isRest_29 (by decide) ?_
        exact t_somK hk (fun hf => t_iret dX10_isRest_33 rfl (by decide) ⟨rfl, _, rfl, hf⟩ (Nat.le_of_ble_eq_true rfl) (Nat.le_of_ble_eq_true rfl))

