/-! Methods as functions, 12: X11_leastOf, X11_times, X11_listsOf, X11_numbersOf, X11_recordsOf, X11_settle, X11_textsOf, X11_waysOf, X11_ways, X12_isKept, X12_keptAt, X8_plain, X12_about, X12_alike, X4_frameSlot, X4_topSlot, X4_usualSlot, X4_queuePlace, X4_queueSlot, X4_sender -/
theorem qa_329 : t_oka 329 2 42 = true := by decide +kernel
theorem qc_0 : t_okc 0 12 = true := by decide +kernel
theorem qf_12_2 : t_okf 12 8 2 0 = true := by decide +kernel
theorem qf_316_15 : t_okf 316 11 15 0 = true := by decide +kernel
theorem qf_864_6 : t_okf 864 7 6 0 = true := by decide +kernel
theorem qq_865 : t_okq 865 4 8 866 10 = true := by decide +kernel
theorem qr_0_1 : t_okr 0 12 1 12 = true := by decide +kernel
theorem qr_316_16 : t_okr 316 11 16 329 = true := by decide +kernel
theorem qr_864_2 : t_okr 864 7 2 334 = true := by decide +kernel
theorem qr_864_5 : t_okr 864 7 5 865 = true := by decide +kernel
theorem dX11_leastOf_0 : decode cX11_leastOf 0 = .ok (.aload_n 0, 1) := by decide +kernel
theorem dX11_leastOf_1 : decode cX11_leastOf 1 = .ok (.getfield 9, 3) := by decide +kernel
theorem dX11_leastOf_100 : decode cX11_leastOf 100 = .ok (.ireturn, 1) := by decide +kernel
theorem dX11_leastOf_101 : decode cX11_leastOf 101 = .ok (.aload_n 0, 1) := by decide +kernel
theorem dX11_leastOf_102 : decode cX11_leastOf 102 = .ok (.getfield 32, 3) := by decide +kernel
theorem dX11_leastOf_105 : decode cX11_leastOf 105 = .ok (.aload_n 0, 1) := by decide +kernel
theorem dX11_leastOf_106 : decode cX11_leastOf 106 = .ok (.getfield 13, 3) := by decide +kernel
theorem dX11_leastOf_109 : decode cX11_leastOf 109 = .ok (.iload_n 1, 1) := by decide +kernel
theorem dX11_leastOf_110 : decode cX11_leastOf 110 = .ok (.iaload, 1) := by decide +kernel
theorem dX11_leastOf_111 : decode cX11_leastOf 111 = .ok (.iaload, 1) := by decide +kernel
theorem dX11_leastOf_112 : decode cX11_leastOf 112 = .ok (.ldc 82, 2) := by decide +kernel
theorem dX11_leastOf_114 : decode cX11_leastOf 114 = .ok (.if_icmp .lt 8, 3) := by decide +kernel
theorem dX11_leastOf_117 : decode cX11_leastOf 117 = .ok (.ldc 82, 2) := by decide +kernel
theorem dX11_leastOf_119 : decode cX11_leastOf 119 = .ok (.goto 29, 3) := by decide +kernel
theorem dX11_leastOf_122 : decode cX11_leastOf 122 = .ok (.ldc 94, 2) := by decide +kernel
theorem dX11_leastOf_124 : decode cX11_leastOf 124 = .ok (.iconst 1, 1) := by decide +kernel
theorem dX11_leastOf_125 : decode cX11_leastOf 125 = .ok (.aload_n 0, 1) := by decide +kernel
theorem dX11_leastOf_126 : decode cX11_leastOf 126 = .ok (.getfield 25, 3) := by decide +kernel
theorem dX11_leastOf_129 : decode cX11_leastOf 129 = .ok (.iload_n 1, 1) := by decide +kernel
theorem dX11_leastOf_130 : decode cX11_leastOf 130 = .ok (.laload, 1) := by decide +kernel
theorem dX11_leastOf_131 : decode cX11_leastOf 131 = .ok (.l2i, 1) := by decide +kernel
theorem dX11_leastOf_132 : decode cX11_leastOf 132 = .ok (.aload_n 0, 1) := by decide +kernel
theorem dX11_leastOf_133 : decode cX11_leastOf 133 = .ok (.getfield 32, 3) := by decide +kernel
theorem dX11_leastOf_136 : decode cX11_leastOf 136 = .ok (.aload_n 0, 1) := by decide +kernel
theorem dX11_leastOf_137 : decode cX11_leastOf 137 = .ok (.getfield 13, 3) := by decide +kernel
theorem dX11_leastOf_140 : decode cX11_leastOf 140 = .ok (.iload_n 1, 1) := by decide +kernel
theorem dX11_leastOf_141 : decode cX11_leastOf 141 = .ok (.iaload, 1) := by decide +kernel
theorem dX11_leastOf_142 : decode cX11_leastOf 142 = .ok (.iaload, 1) := by decide +kernel
theorem dX11_leastOf_143 : decode cX11_leastOf 143 = .ok (.imul, 1) := by decide +kernel
theorem dX11_leastOf_144 : decode cX11_leastOf 144 = .ok (.iadd, 1) := by decide +kernel
theorem dX11_leastOf_145 : decode cX11_leastOf 145 = .ok (.invokestatic 95, 3) := by decide +kernel
theorem dX11_leastOf_148 : decode cX11_leastOf 148 = .ok (.ireturn, 1) := by decide +kernel
theorem dX11_leastOf_149 : decode cX11_leastOf 149 = .ok (.aload_n 0, 1) := by decide +kernel
theorem dX11_leastOf_150 : decode cX11_leastOf 150 = .ok (.iload_n 1, 1) := by decide +kernel
theorem dX11_leastOf_151 : decode cX11_leastOf 151 = .ok (.invokevirtual 101, 3) := by decide +kernel
theorem dX11_leastOf_154 : decode cX11_leastOf 154 = .ok (.ireturn, 1) := by decide +kernel
theorem dX11_leastOf_155 : decode cX11_leastOf 155 = .ok (.aload_n 0, 1) := by decide +kernel
theorem dX11_leastOf_156 : decode cX11_leastOf 156 = .ok (.iload_n 1, 1) := by decide +kernel
theorem dX11_leastOf_157 : decode cX11_leastOf 157 = .ok (.invokevirtual 104, 3) := by decide +kernel
theorem dX11_leastOf_160 : decode cX11_leastOf 160 = .ok (.ireturn, 1) := by decide +kernel
theorem dX11_leastOf_161 : decode cX11_leastOf 161 = .ok (.ldc 82, 2) := by decide +kernel
theorem dX11_leastOf_163 : decode cX11_leastOf 163 = .ok (.ireturn, 1) := by decide +kernel
theorem dX11_leastOf_4 : decode cX11_leastOf 4 = .ok (.iload_n 1, 1) := by decide +kernel
theorem dX11_leastOf_5 : decode cX11_leastOf 5 = .ok (.iaload, 1) := by decide +kernel
theorem dX11_leastOf_52 : decode cX11_leastOf 52 = .ok (.iconst 1, 1) := by decide +kernel
theorem dX11_leastOf_53 : decode cX11_leastOf 53 = .ok (.ireturn, 1) := by decide +kernel
theorem dX11_leastOf_54 : decode cX11_leastOf 54 = .ok (.iconst 1, 1) := by decide +kernel
theorem dX11_leastOf_55 : decode cX11_leastOf 55 = .ok (.aload_n 0, 1) := by decide +kernel
theorem dX11_leastOf_56 : decode cX11_leastOf 56 = .ok (.getfield 25, 3) := by decide +kernel
theorem dX11_leastOf_59 : decode cX11_leastOf 59 = .ok (.iload_n 1, 1) := by decide +kernel
theorem dX11_leastOf_6 : decode cX11_leastOf 6 = .ok (.tableswitch 155 1 8 #[46, 46, 48, 46, 143, 149, 82, 65], 46) := by decide +kernel
theorem dX11_leastOf_60 : decode cX11_leastOf 60 = .ok (.laload, 1) := by decide +kernel
theorem dX11_leastOf_61 : decode cX11_leastOf 61 = .ok (.ldc2_w 92, 3) := by decide +kernel
theorem dX11_leastOf_64 : decode cX11_leastOf 64 = .ok (.ladd, 1) := by decide +kernel
theorem dX11_leastOf_65 : decode cX11_leastOf 65 = .ok (.l2i, 1) := by decide +kernel
theorem dX11_leastOf_66 : decode cX11_leastOf 66 = .ok (.bipush 8, 2) := by decide +kernel
theorem dX11_leastOf_68 : decode cX11_leastOf 68 = .ok (.idiv, 1) := by decide +kernel
theorem dX11_leastOf_69 : decode cX11_leastOf 69 = .ok (.iadd, 1) := by decide +kernel
theorem dX11_leastOf_70 : decode cX11_leastOf 70 = .ok (.ireturn, 1) := by decide +kernel
theorem dX11_leastOf_71 : decode cX11_leastOf 71 = .ok (.aload_n 0, 1) := by decide +kernel
theorem dX11_leastOf_72 : decode cX11_leastOf 72 = .ok (.getfield 32, 3) := by decide +kernel
theorem dX11_leastOf_75 : decode cX11_leastOf 75 = .ok (.aload_n 0, 1) := by decide +kernel
theorem dX11_leastOf_76 : decode cX11_leastOf 76 = .ok (.getfield 38, 3) := by decide +kernel
theorem dX11_leastOf_79 : decode cX11_leastOf 79 = .ok (.aload_n 0, 1) := by decide +kernel
theorem dX11_leastOf_80 : decode cX11_leastOf 80 = .ok (.getfield 22, 3) := by decide +kernel
theorem dX11_leastOf_83 : decode cX11_leastOf 83 = .ok (.iload_n 1, 1) := by decide +kernel
theorem dX11_leastOf_84 : decode cX11_leastOf 84 = .ok (.iaload, 1) := by decide +kernel
theorem dX11_leastOf_85 : decode cX11_leastOf 85 = .ok (.iaload, 1) := by decide +kernel
theorem dX11_leastOf_86 : decode cX11_leastOf 86 = .ok (.iaload, 1) := by decide +kernel
theorem dX11_leastOf_87 : decode cX11_leastOf 87 = .ok (.ireturn, 1) := by decide +kernel
theorem dX11_leastOf_88 : decode cX11_leastOf 88 = .ok (.aload_n 0, 1) := by decide +kernel
theorem dX11_leastOf_89 : decode cX11_leastOf 89 = .ok (.getfield 25, 3) := by decide +kernel
theorem dX11_leastOf_92 : decode cX11_leastOf 92 = .ok (.iload_n 1, 1) := by decide +kernel
theorem dX11_leastOf_93 : decode cX11_leastOf 93 = .ok (.laload, 1) := by decide +kernel
theorem dX11_leastOf_94 : decode cX11_leastOf 94 = .ok (.lconst 0, 1) := by decide +kernel
theorem dX11_leastOf_95 : decode cX11_leastOf 95 = .ok (.lcmp, 1) := by decide +kernel
theorem dX11_leastOf_96 : decode cX11_leastOf 96 = .ok (.ifCond .ne 5, 3) := by decide +kernel
theorem dX11_leastOf_99 : decode cX11_leastOf 99 = .ok (.iconst 1, 1) := by decide +kernel
noncomputable def f_X11_leastOf (x1 : Int32) (s : t_S) : Option (Int32) :=
 if t_ix x1 3001 = true then
  if (s.1 317 (x1.toNatClampNeg)).toInt < 1 ∨ 8 < (s.1 317 (x1.toNatClampNeg)).toInt then (some (2000000 : Int32))
 else if (s.1 317 (x1.toNatClampNeg)).toInt = 1 then (some (1 : Int32))
 else if (s.1 317 (x1.toNatClampNeg)).toInt = 2 then (some (1 : Int32))
 else if (s.1 317 (x1.toNatClampNeg)).toInt = 3 then (some ((1 : Int32) + ((((s.2.1 322 (x1.toNatClampNeg)) + (7 : Int64)).toInt32) / (8 : Int32))))
 else if (s.1 317 (x1.toNatClampNeg)).toInt = 4 then (some (1 : Int32))
 else if (s.1 317 (x1.toNatClampNeg)).toInt = 5 then ((f_X11_leastOfRecord x1 s).bind (fun r2 =>
 some (r2)))
 else if (s.1 317 (x1.toNatClampNeg)).toInt = 6 then ((f_X11_leastOfChoice x1 s).bind (fun r3 =>
 some (r3)))
 else if (s.1 317 (x1.toNatClampNeg)).toInt = 7 then (if (lg_cmp (s.2.1 322 (x1.toNatClampNeg)) (0 : Int64)) = (0 : Int32) then (some (1 : Int32))
 else (if t_ix (s.1 318 (x1.toNatClampNeg)) 3001 = true then
  if (s.1 324 ((s.1 318 (x1.toNatClampNeg)).toNatClampNeg)) < (2000000 : Int32) then (some (if ((1 : Int32) + (((s.2.1 322 (x1.toNatClampNeg)).toInt32) * (s.1 324 ((s.1 318 (x1.toNatClampNeg)).toNatClampNeg)))) < (1000000 : Int32) then ((1 : Int32) + (((s.2.1 322 (x1.toNatClampNeg)).toInt32) * (s.1 324 ((s.1 318 (x1.toNatClampNeg)).toNatClampNeg)))) else (1000000 : Int32)))
 else (some (2000000 : Int32))
else none))
 else (if t_ix (s.1 321 (x1.toNatClampNeg)) 60 = true then
  if t_ix (s.1 326 ((s.1 321 (x1.toNatClampNeg)).toNatClampNeg)) 3001 = true then
  some (s.1 324 ((s.1 326 ((s.1 321 (x1.toNatClampNeg)).toNatClampNeg)).toNatClampNeg))
else none
else none)
else none
set_option maxRecDepth 4000 in
set_option maxHeartbeats 1000000 in
theorem C_X11_leastOf (x1 : Int32) (s : t_S) (r : Int32) (hr : f_X11_leastOf x1 s = some r) : t_C yX11_leastOf cX11_leastOf 2 (some .int) 2 [.ref 316, .int x1] s (fun v s' => v = some (.int r) ∧ s' = s) := by
  refine t_C.imp (P := fun v s' => s' = s ∧ ∃ x, v = some (.int x) ∧ (fun q => q = r) (x)) (t_C.of (by decide +kernel) (Nat.le_of_ble_eq_true rfl) ?_) (fun v s' hp => by obtain ⟨rfl, x, rfl, rfl⟩ := hp; exact ⟨rfl, rfl⟩)
  intro D cy ad bs X
  have hk : t_hk (f_X11_leastOf x1 s) (fun q => q = r) := ⟨r, hr, rfl⟩
  show mj_G D cy ad bs X cX11_leastOf 2 yX11_leastOf.cls (some .int) yX11_leastOf.name 2 0 0 1065 (t_P (fun v s' => s' = s ∧ ∃ x, v = some (.int x) ∧ (fun q => q = r) (x))) 0 [(0, .ref 316), (1, .int x1)] [] (t_m s) 1065 0 0
  refine mj_aload_n dX11_leastOf_0 0 rfl ?_
  refine t_getR 317 dX11_leastOf_1 F_X11_9 qr_316_0 ?_
  refine mj_iload_n dX11_leastOf_4 1 rfl ?_
  refine t_chkK hk (fun c0 hk => ?_)
  refine t_iald dX11_leastOf_5 qa_317 (t_ixv c0) ?_
  by_cases hout : (s.1 317 (x1.toNatClampNeg)).toInt < 1 ∨ 8 < (s.1 317 (x1.toNatClampNeg)).toInt
  · replace hk := t_pos hk hout
    refine mj_tableOut 161 dX11_leastOf_6 hout (by decide) ?_
    refine mj_ldc dX11_leastOf_161 K_X11_82 ?_
    exact t_somK hk (fun hf => t_iret dX11_leastOf_163 rfl rfl ⟨rfl, _, rfl, hf⟩ (Nat.le_of_ble_eq_true rfl) (Nat.le_of_ble_eq_true rfl))
  · replace hk := t_neg hk hout
    have hh1 : ¬ (s.1 317 (x1.toNatClampNeg)).toInt < 1 := fun z => hout (Or.inl z)
    have hh2 : ¬ (8 : Int) < (s.1 317 (x1.toNatClampNeg)).toInt := fun z => hout (Or.inr z)
    by_cases h0 : (s.1 317 (x1.toNatClampNeg)).toInt = 1
    · replace hk := t_pos hk h0
      refine mj_tableIn 52 dX11_leastOf_6 hh1 hh2 (by rw [h0]; rfl) (by decide) ?_
      refine mj_iconst (v := 1) dX11_leastOf_52 (by decide) ?_
      exact t_somK hk (fun hf => t_iret dX11_leastOf_53 rfl rfl ⟨rfl, _, rfl, hf⟩ (Nat.le_of_ble_eq_true rfl) (Nat.le_of_ble_eq_true rfl))
    replace hk := t_neg hk h0
    by_cases h1 : (s.1 317 (x1.toNatClampNeg)).toInt = 2
    · replace hk := t_pos hk h1
      refine mj_tableIn 52 dX11_leastOf_6 hh1 hh2 (by rw [h1]; rfl) (by decide) ?_
      refine mj_iconst (v := 1) dX11_leastOf_52 (by decide) ?_
      exact t_somK hk (fun hf => t_iret dX11_leastOf_53 rfl rfl ⟨rfl, _, rfl, hf⟩ (Nat.le_of_ble_eq_true rfl) (Nat.le_of_ble_eq_true rfl))
    replace hk := t_neg hk h1
    by_cases h2 : (s.1 317 (x1.toNatClampNeg)).toInt = 3
    · replace hk := t_pos hk h2
      refine mj_tableIn 54 dX11_leastOf_6 hh1 hh2 (by rw [h2]; rfl) (by decide) ?_
      refine mj_iconst (v := 1) dX11_leastOf_54 (by decide) ?_
      refine mj_aload_n dX11_leastOf_55 0 rfl ?_
      refine t_getR 322 dX11_leastOf_56 F_X11_25 qr_316_5 ?_
      refine mj_iload_n dX11_leastOf_59 1 rfl ?_
      refine t_lald dX11_leastOf_60 qa_322 (t_ixv c0) ?_
      refine mj_ldc2 dX11_leastOf_61 K_X11_92 ?_
      refine mj_ladd dX11_leastOf_64 ?_
      refine mj_l2i (v := ((s.2.1 322 (x1.toNatClampNeg)) + (7 : Int64)).toInt32) dX11_leastOf_65 rfl ?_
      refine mj_bipush (v := 8) dX11_leastOf_66 (by decide) ?_
      refine mj_idiv dX11_leastOf_68 (by decide) ?_
      refine mj_iadd dX11_leastOf_69 ?_
      exact t_somK hk (fun hf => t_iret dX11_leastOf_70 rfl rfl ⟨rfl, _, rfl, hf⟩ (Nat.le_of_ble_eq_true rfl) (Nat.le_of_ble_eq_true rfl))
    replace hk := t_neg hk h2
    by_cases h3 : (s.1 317 (x1.toNatClampNeg)).toInt = 4
    · replace hk := t_pos hk h3
      refine mj_tableIn 52 dX11_leastOf_6 hh1 hh2 (by rw [h3]; rfl) (by decide) ?_
      refine mj_iconst (v := 1) dX11_leastOf_52 (by decide) ?_
      exact t_somK hk (fun hf => t_iret dX11_leastOf_53 rfl rfl ⟨rfl, _, rfl, hf⟩ (Nat.le_of_ble_eq_true rfl) (Nat.le_of_ble_eq_true rfl))
    replace hk := t_neg hk h3
    by_cases h4 : (s.1 317 (x1.toNatClampNeg)).toInt = 5
    · replace hk := t_pos hk h4
      refine mj_tableIn 149 dX11_leastOf_6 hh1 hh2 (by rw [h4]; rfl) (by decide) ?_
      refine mj_aload_n dX11_leastOf_149 0 rfl ?_
      refine mj_iload_n dX11_leastOf_150 1 rfl ?_
      refine t_bndK hk (fun r2 er2 hk => ?_)
      refine t_callViP dX11_leastOf_151 M_X11_leastOfRecord (C_X11_leastOfRecord _ _ _ er2) ML_X11_101 IM_X11_leastOfRecord SE_X11_leastOfRecord qc_316 rfl (As := [.int x1]) rfl rfl (Nat.le_of_ble_eq_true rfl) (Nat.le_of_ble_eq_true rfl) (Nat.le_of_ble_eq_true rfl) (Nat.le_of_ble_eq_true rfl) ?_
      exact t_somK hk (fun hf => t_iret dX11_leastOf_154 rfl rfl ⟨rfl, _, rfl, hf⟩ (Nat.le_of_ble_eq_true rfl) (Nat.le_of_ble_eq_true rfl))
    replace hk := t_neg hk h4
    by_cases h5 : (s.1 317 (x1.toNatClampNeg)).toInt = 6
    · replace hk := t_pos hk h5
      refine mj_tableIn 155 dX11_leastOf_6 hh1 hh2 (by rw [h5]; rfl) (by decide) ?_
      refine mj_aload_n dX11_leastOf_155 0 rfl ?_
      refine mj_iload_n dX11_leastOf_156 1 rfl ?_
      refine t_bndK hk (fun r3 er3 hk => ?_)
      refine t_callViP dX11_leastOf_157 M_X11_leastOfChoice (C_X11_leastOfChoice _ _ _ er3) ML_X11_104 IM_X11_leastOfChoice SE_X11_leastOfChoice qc_316 rfl (As := [.int x1]) rfl rfl (Nat.le_of_ble_eq_true rfl) (Nat.le_of_ble_eq_true rfl) (Nat.le_of_ble_eq_true rfl) (Nat.le_of_ble_eq_true rfl) ?_
      exact t_somK hk (fun hf => t_iret dX11_leastOf_160 rfl rfl ⟨rfl, _, rfl, hf⟩ (Nat.le_of_ble_eq_true rfl) (Nat.le_of_ble_eq_true rfl))
    replace hk := t_neg hk h5
    by_cases h6 : (s.1 317 (x1.toNatClampNeg)).toInt = 7
    · replace hk := t_pos hk h6
      refine mj_tableIn 88 dX11_leastOf_6 hh1 hh2 (by rw [h6]; rfl) (by decide) ?_
      refine mj_aload_n dX11_leastOf_88 0 rfl ?_
      refine t_getR 322 dX11_leastOf_89 F_X11_25 qr_316_5 ?_
      refine mj_iload_n dX11_leastOf_92 1 rfl ?_
      refine t_lald dX11_leastOf_93 qa_322 (t_ixv c0) ?_
      refine mj_lconst (v := 0) dX11_leastOf_94 (by decide) ?_
      refine mj_lcmp dX11_leastOf_95 ?_
      refine mj_if_ne 101 dX11_leastOf_96 (by decide) (fun z => t_negK hk z (fun hk => ?_)) (fun z => t_posK hk z (fun hk => ?_))
      · refine mj_aload_n dX11_leastOf_101 0 rfl ?_
        refine t_getR 324 dX11_leastOf_102 F_X11_32 qr_316_7 ?_
        refine mj_aload_n dX11_leastOf_105 0 rfl ?_
        refine t_getR 318 dX11_leastOf_106 F_X11_13 qr_316_1 ?_
        refine mj_iload_n dX11_leastOf_109 1 rfl ?_
        refine t_iald dX11_leastOf_110 qa_318 (t_ixv c0) ?_
        refine t_chkK hk (fun c3 hk => ?_)
        refine t_iald dX11_leastOf_111 qa_324 (t_ixv c3) ?_
        refine mj_ldc dX11_leastOf_112 K_X11_82 ?_
        refine mj_icmp_lt 122 dX11_leastOf_114 (by decide) (fun z => t_posK hk z (fun hk => ?_)) (fun z => t_negK hk z (fun hk => ?_))
        · refine mj_ldc dX11_leastOf_122 K_X11_94 ?_
          refine mj_iconst (v := 1) dX11_leastOf_124 (by decide) ?_
          refine mj_aload_n dX11_leastOf_125 0 rfl ?_
          refine t_getR 322 dX11_leastOf_126 F_X11_25 qr_316_5 ?_
          refine mj_iload_n dX11_leastOf_129 1 rfl ?_
          refine t_lald dX11_leastOf_130 qa_322 (t_ixv c0) ?_
          refine mj_l2i (v := (s.2.1 322 (x1.toNatClampNeg)).toInt32) dX11_leastOf_131 rfl ?_
          refine mj_aload_n dX11_leastOf_132 0 rfl ?_
          refine t_getR 324 dX11_leastOf_133 F_X11_32 qr_316_7 ?_
          refine mj_aload_n dX11_leastOf_136 0 rfl ?_
          refine t_getR 318 dX11_leastOf_137 F_X11_13 qr_316_1 ?_
          refine mj_iload_n dX11_leastOf_140 1 rfl ?_
          refine t_iald dX11_leastOf_141 qa_318 (t_ixv c0) ?_
          refine t_iald dX11_leastOf_142 qa_324 (t_ixv c3) ?_
          refine mj_imul dX11_leastOf_143 ?_
          refine mj_iadd dX11_leastOf_144 ?_
          refine mj_imin dX11_leastOf_145 MM_min_X11_95 (Nat.le_of_ble_eq_true rfl) (Nat.le_of_ble_eq_true rfl) (Nat.le_of_ble_eq_true rfl) (Nat.le_of_ble_eq_true rfl) ?_
          exact t_somK hk (fun hf => t_iret dX11_leastOf_148 rfl rfl ⟨rfl, _, rfl, hf⟩ (Nat.le_of_ble_eq_true rfl) (Nat.le_of_ble_eq_true rfl))
        · refine mj_ldc dX11_leastOf_117 K_X11_82 ?_
          refine mj_goto 148 dX11_leastOf_119 (by decide) ?_
          exact t_somK hk (fun hf => t_iret dX11_leastOf_148 rfl rfl ⟨rfl, _, rfl, hf⟩ (Nat.le_of_ble_eq_true rfl) (Nat.le_of_ble_eq_true rfl))
      · refine mj_iconst (v := 1) dX11_leastOf_99 (by decide) ?_
        exact t_somK hk (fun hf => t_iret dX11_leastOf_100 rfl rfl ⟨rfl, _, rfl, hf⟩ (Nat.le_of_ble_eq_true rfl) (Nat.le_of_ble_eq_true rfl))
    replace hk := t_neg hk h6
    have h7 : (s.1 317 (x1.toNatClampNeg)).toInt = 8 := by omega
    refine mj_tableIn 71 dX11_leastOf_6 hh1 hh2 (by rw [h7]; rfl) (by decide) ?_
    refine mj_aload_n dX11_leastOf_71 0 rfl ?_
    refine t_getR 324 dX11_leastOf_72 F_X11_32 qr_316_7 ?_
    refine mj_aload_n dX11_leastOf_75 0 rfl ?_
    refine t_getR 326 dX11_leastOf_76 F_X11_38 qr_316_11 ?_
    refine mj_aload_n dX11_leastOf_79 0 rfl ?_
    refine t_getR 321 dX11_leastOf_80 F_X11_22 qr_316_4 ?_
    refine mj_iload_n dX11_leastOf_83 1 rfl ?_
    refine t_iald dX11_leastOf_84 qa_321 (t_ixv c0) ?_
    refine t_chkK hk (fun c4 hk => ?_)
    refine t_iald dX11_leastOf_85 qa_326 (t_ixv c4) ?_
    refine t_chkK hk (fun c5 hk => ?_)
    refine t_iald dX11_leastOf_86 qa_324 (t_ixv c5) ?_
    exact t_somK hk (fun hf => t_iret dX11_leastOf_87 rfl rfl ⟨rfl, _, rfl, hf⟩ (Nat.le_of_ble_eq_true rfl) (Nat.le_of_ble_eq_true rfl))

theorem dX11_times_0 : decode cX11_times 0 = .ok (.lload_n 0, 1) := by decide +kernel
theorem dX11_times_1 : decode cX11_times 1 = .ok (.lconst 0, 1) := by decide +kernel
theorem dX11_times_12 : decode cX11_times 12 = .ok (.lconst 0, 1) := by decide +kernel
theorem dX11_times_13 : decode cX11_times 13 = .ok (.lreturn, 1) := by decide +kernel
theorem dX11_times_14 : decode cX11_times 14 = .ok (.lload_n 0, 1) := by decide +kernel
theorem dX11_times_15 : decode cX11_times 15 = .ok (.ldc2_w 215, 3) := by decide +kernel
theorem dX11_times_18 : decode cX11_times 18 = .ok (.lload_n 2, 1) := by decide +kernel
theorem dX11_times_19 : decode cX11_times 19 = .ok (.ldiv, 1) := by decide +kernel
theorem dX11_times_2 : decode cX11_times 2 = .ok (.lcmp, 1) := by decide +kernel
theorem dX11_times_20 : decode cX11_times 20 = .ok (.lcmp, 1) := by decide +kernel
theorem dX11_times_21 : decode cX11_times 21 = .ok (.ifCond .le 9, 3) := by decide +kernel
theorem dX11_times_24 : decode cX11_times 24 = .ok (.ldc2_w 215, 3) := by decide +kernel
theorem dX11_times_27 : decode cX11_times 27 = .ok (.goto 6, 3) := by decide +kernel
theorem dX11_times_3 : decode cX11_times 3 = .ok (.ifCond .eq 9, 3) := by decide +kernel
theorem dX11_times_30 : decode cX11_times 30 = .ok (.lload_n 0, 1) := by decide +kernel
theorem dX11_times_31 : decode cX11_times 31 = .ok (.lload_n 2, 1) := by decide +kernel
theorem dX11_times_32 : decode cX11_times 32 = .ok (.lmul, 1) := by decide +kernel
theorem dX11_times_33 : decode cX11_times 33 = .ok (.lreturn, 1) := by decide +kernel
theorem dX11_times_6 : decode cX11_times 6 = .ok (.lload_n 2, 1) := by decide +kernel
theorem dX11_times_7 : decode cX11_times 7 = .ok (.lconst 0, 1) := by decide +kernel
theorem dX11_times_8 : decode cX11_times 8 = .ok (.lcmp, 1) := by decide +kernel
theorem dX11_times_9 : decode cX11_times 9 = .ok (.ifCond .ne 5, 3) := by decide +kernel
noncomputable def f_X11_times (x1 : Int64) (x2 : Int64) (s : t_S) : Option (Int64) :=
 if (lg_cmp x1 (0 : Int64)) = (0 : Int32) then (some (0 : Int64))
 else (if (lg_cmp x2 (0 : Int64)) = (0 : Int32) then (some (0 : Int64))
 else (if ¬ x2 = 0 then
  if (lg_cmp x1 ((4000000000000000000 : Int64) / x2)) ≤ (0 : Int32) then (some (x1 * x2))
 else (some (4000000000000000000 : Int64))
else none))
set_option maxRecDepth 4000 in
set_option maxHeartbeats 1000000 in
theorem C_X11_times (x1 : Int64) (x2 : Int64) (s : t_S) (r : Int64) (hr : f_X11_times x1 x2 s = some r) : t_C yX11_times cX11_times 4 (some .long) 0 [.long x1, .long x2] s (fun v s' => v = some (.long r) ∧ s' = s) := by
  refine t_C.imp (P := fun v s' => s' = s ∧ ∃ x, v = some (.long x) ∧ (fun q => q = r) (x)) (t_C.of (by decide +kernel) (Nat.le_of_ble_eq_true rfl) ?_) (fun v s' hp => by obtain ⟨rfl, x, rfl, rfl⟩ := hp; exact ⟨rfl, rfl⟩)
  intro D cy ad bs X
  have hk : t_hk (f_X11_times x1 x2 s) (fun q => q = r) := ⟨r, hr, rfl⟩
  show mj_G D cy ad bs X cX11_times 4 yX11_times.cls (some .long) yX11_times.name 0 0 0 1065 (t_P (fun v s' => s' = s ∧ ∃ x, v = some (.long x) ∧ (fun q => q = r) (x))) 0 [(0, .long x1), (2, .long x2)] [] (t_m s) 1065 0 0
  refine mj_lload_n dX11_times_0 0 rfl ?_
  refine mj_lconst (v := 0) dX11_times_1 (by decide) ?_
  refine mj_lcmp dX11_times_2 ?_
  refine mj_if_eq 12 dX11_times_3 (by decide) (fun z => t_posK hk z (fun hk => ?_)) (fun z => t_negK hk z (fun hk => ?_))
  · refine mj_lconst (v := 0) dX11_times_12 (by decide) ?_
    exact t_somK hk (fun hf => t_lret dX11_times_13 rfl ⟨rfl, _, rfl, hf⟩ (Nat.le_of_ble_eq_true rfl) (Nat.le_of_ble_eq_true rfl))
  · refine mj_lload_n dX11_times_6 1 rfl ?_
    refine mj_lconst (v := 0) dX11_times_7 (by decide) ?_
    refine mj_lcmp dX11_times_8 ?_
    refine mj_if_ne 14 dX11_times_9 (by decide) (fun z => t_negK hk z (fun hk => ?_)) (fun z => t_posK hk z (fun hk => ?_))
    · refine mj_lload_n dX11_times_14 0 rfl ?_
      refine mj_ldc2 dX11_times_15 K_X11_215 ?_
      refine mj_lload_n dX11_times_18 1 rfl ?_
      refine t_chkK hk (fun c0 hk => ?_)
      refine mj_ldiv dX11_times_19 c0 ?_
      refine mj_lcmp dX11_times_20 ?_
      refine mj_if_le 30 dX11_times_21 (by decide) (fun z => t_posK hk z (fun hk => ?_)) (fun z => t_negK hk z (fun hk => ?_))
      · refine mj_lload_n dX11_times_30 0 rfl ?_
        refine mj_lload_n dX11_times_31 1 rfl ?_
        refine mj_lmul dX11_times_32 ?_
        exact t_somK hk (fun hf => t_lret dX11_times_33 rfl ⟨rfl, _, rfl, hf⟩ (Nat.le_of_ble_eq_true rfl) (Nat.le_of_ble_eq_true rfl))
      · refine mj_ldc2 dX11_times_24 K_X11_215 ?_
        refine mj_goto 33 dX11_times_27 (by decide) ?_
        exact t_somK hk (fun hf => t_lret dX11_times_33 rfl ⟨rfl, _, rfl, hf⟩ (Nat.le_of_ble_eq_true rfl) (Nat.le_of_ble_eq_true rfl))
    · refine mj_lconst (v := 0) dX11_times_12 (by decide) ?_
      exact t_somK hk (fun hf => t_lret dX11_times_13 rfl ⟨rfl, _, rfl, hf⟩ (Nat.le_of_ble_eq_true rfl) (Nat.le_of_ble_eq_true rfl))

theorem dX11_listsOf_0 : decode cX11_listsOf 0 = .ok (.aload_n 0, 1) := by decide +kernel
theorem dX11_listsOf_1 : decode cX11_listsOf 1 = .ok (.getfield 48, 3) := by decide +kernel
theorem dX11_listsOf_101 : decode cX11_listsOf 101 = .ok (.iload_n 1, 1) := by decide +kernel
theorem dX11_listsOf_102 : decode cX11_listsOf 102 = .ok (.iaload, 1) := by decide +kernel
theorem dX11_listsOf_103 : decode cX11_listsOf 103 = .ok (.iload 9, 2) := by decide +kernel
theorem dX11_listsOf_105 : decode cX11_listsOf 105 = .ok (.invokevirtual 188, 3) := by decide +kernel
theorem dX11_listsOf_108 : decode cX11_listsOf 108 = .ok (.invokestatic 222, 3) := by decide +kernel
theorem dX11_listsOf_111 : decode cX11_listsOf 111 = .ok (.invokestatic 217, 3) := by decide +kernel
theorem dX11_listsOf_114 : decode cX11_listsOf 114 = .ok (.lstore 7, 2) := by decide +kernel
theorem dX11_listsOf_116 : decode cX11_listsOf 116 = .ok (.iinc 9 1, 3) := by decide +kernel
theorem dX11_listsOf_119 : decode cX11_listsOf 119 = .ok (.goto (-42), 3) := by decide +kernel
theorem dX11_listsOf_12 : decode cX11_listsOf 12 = .ok (.iconst 0, 1) := by decide +kernel
theorem dX11_listsOf_122 : decode cX11_listsOf 122 = .ok (.aload_n 0, 1) := by decide +kernel
theorem dX11_listsOf_123 : decode cX11_listsOf 123 = .ok (.getfield 48, 3) := by decide +kernel
theorem dX11_listsOf_126 : decode cX11_listsOf 126 = .ok (.iload 6, 2) := by decide +kernel
theorem dX11_listsOf_128 : decode cX11_listsOf 128 = .ok (.lload 7, 2) := by decide +kernel
theorem dX11_listsOf_13 : decode cX11_listsOf 13 = .ok (.lconst 1, 1) := by decide +kernel
theorem dX11_listsOf_130 : decode cX11_listsOf 130 = .ok (.lastore, 1) := by decide +kernel
theorem dX11_listsOf_131 : decode cX11_listsOf 131 = .ok (.iinc 6 (-1), 3) := by decide +kernel
theorem dX11_listsOf_134 : decode cX11_listsOf 134 = .ok (.goto (-68), 3) := by decide +kernel
theorem dX11_listsOf_137 : decode cX11_listsOf 137 = .ok (.iload 5, 2) := by decide +kernel
theorem dX11_listsOf_139 : decode cX11_listsOf 139 = .ok (.i2l, 1) := by decide +kernel
theorem dX11_listsOf_14 : decode cX11_listsOf 14 = .ok (.lastore, 1) := by decide +kernel
theorem dX11_listsOf_140 : decode cX11_listsOf 140 = .ok (.aload_n 0, 1) := by decide +kernel
theorem dX11_listsOf_141 : decode cX11_listsOf 141 = .ok (.getfield 25, 3) := by decide +kernel
theorem dX11_listsOf_144 : decode cX11_listsOf 144 = .ok (.iload_n 1, 1) := by decide +kernel
theorem dX11_listsOf_145 : decode cX11_listsOf 145 = .ok (.laload, 1) := by decide +kernel
theorem dX11_listsOf_146 : decode cX11_listsOf 146 = .ok (.lcmp, 1) := by decide +kernel
theorem dX11_listsOf_147 : decode cX11_listsOf 147 = .ok (.ifCond .lt 16, 3) := by decide +kernel
theorem dX11_listsOf_15 : decode cX11_listsOf 15 = .ok (.aload_n 0, 1) := by decide +kernel
theorem dX11_listsOf_150 : decode cX11_listsOf 150 = .ok (.lload_n 3, 1) := by decide +kernel
theorem dX11_listsOf_151 : decode cX11_listsOf 151 = .ok (.aload_n 0, 1) := by decide +kernel
theorem dX11_listsOf_152 : decode cX11_listsOf 152 = .ok (.getfield 48, 3) := by decide +kernel
theorem dX11_listsOf_155 : decode cX11_listsOf 155 = .ok (.iload_n 2, 1) := by decide +kernel
theorem dX11_listsOf_156 : decode cX11_listsOf 156 = .ok (.iconst 1, 1) := by decide +kernel
theorem dX11_listsOf_157 : decode cX11_listsOf 157 = .ok (.isub, 1) := by decide +kernel
theorem dX11_listsOf_158 : decode cX11_listsOf 158 = .ok (.laload, 1) := by decide +kernel
theorem dX11_listsOf_159 : decode cX11_listsOf 159 = .ok (.invokestatic 217, 3) := by decide +kernel
theorem dX11_listsOf_16 : decode cX11_listsOf 16 = .ok (.getfield 25, 3) := by decide +kernel
theorem dX11_listsOf_162 : decode cX11_listsOf 162 = .ok (.lstore_n 3, 1) := by decide +kernel
theorem dX11_listsOf_163 : decode cX11_listsOf 163 = .ok (.iinc 5 1, 3) := by decide +kernel
theorem dX11_listsOf_166 : decode cX11_listsOf 166 = .ok (.goto (-124), 3) := by decide +kernel
theorem dX11_listsOf_169 : decode cX11_listsOf 169 = .ok (.lload_n 3, 1) := by decide +kernel
theorem dX11_listsOf_170 : decode cX11_listsOf 170 = .ok (.lreturn, 1) := by decide +kernel
theorem dX11_listsOf_19 : decode cX11_listsOf 19 = .ok (.iload_n 1, 1) := by decide +kernel
theorem dX11_listsOf_20 : decode cX11_listsOf 20 = .ok (.laload, 1) := by decide +kernel
theorem dX11_listsOf_21 : decode cX11_listsOf 21 = .ok (.lconst 0, 1) := by decide +kernel
theorem dX11_listsOf_22 : decode cX11_listsOf 22 = .ok (.lcmp, 1) := by decide +kernel
theorem dX11_listsOf_23 : decode cX11_listsOf 23 = .ok (.ifCond .ne 14, 3) := by decide +kernel
theorem dX11_listsOf_26 : decode cX11_listsOf 26 = .ok (.aload_n 0, 1) := by decide +kernel
theorem dX11_listsOf_27 : decode cX11_listsOf 27 = .ok (.getfield 48, 3) := by decide +kernel
theorem dX11_listsOf_30 : decode cX11_listsOf 30 = .ok (.iload_n 2, 1) := by decide +kernel
theorem dX11_listsOf_31 : decode cX11_listsOf 31 = .ok (.iconst 1, 1) := by decide +kernel
theorem dX11_listsOf_32 : decode cX11_listsOf 32 = .ok (.isub, 1) := by decide +kernel
theorem dX11_listsOf_33 : decode cX11_listsOf 33 = .ok (.laload, 1) := by decide +kernel
theorem dX11_listsOf_34 : decode cX11_listsOf 34 = .ok (.goto 4, 3) := by decide +kernel
theorem dX11_listsOf_37 : decode cX11_listsOf 37 = .ok (.lconst 0, 1) := by decide +kernel
theorem dX11_listsOf_38 : decode cX11_listsOf 38 = .ok (.lstore_n 3, 1) := by decide +kernel
theorem dX11_listsOf_39 : decode cX11_listsOf 39 = .ok (.iconst 1, 1) := by decide +kernel
theorem dX11_listsOf_4 : decode cX11_listsOf 4 = .ok (.lconst 0, 1) := by decide +kernel
theorem dX11_listsOf_40 : decode cX11_listsOf 40 = .ok (.istore 5, 2) := by decide +kernel
theorem dX11_listsOf_42 : decode cX11_listsOf 42 = .ok (.iload 5, 2) := by decide +kernel
theorem dX11_listsOf_44 : decode cX11_listsOf 44 = .ok (.i2l, 1) := by decide +kernel
theorem dX11_listsOf_45 : decode cX11_listsOf 45 = .ok (.aload_n 0, 1) := by decide +kernel
theorem dX11_listsOf_46 : decode cX11_listsOf 46 = .ok (.getfield 29, 3) := by decide +kernel
theorem dX11_listsOf_49 : decode cX11_listsOf 49 = .ok (.iload_n 1, 1) := by decide +kernel
theorem dX11_listsOf_5 : decode cX11_listsOf 5 = .ok (.invokestatic 145, 3) := by decide +kernel
theorem dX11_listsOf_50 : decode cX11_listsOf 50 = .ok (.laload, 1) := by decide +kernel
theorem dX11_listsOf_51 : decode cX11_listsOf 51 = .ok (.lcmp, 1) := by decide +kernel
theorem dX11_listsOf_52 : decode cX11_listsOf 52 = .ok (.ifCond .gt 117, 3) := by decide +kernel
theorem dX11_listsOf_55 : decode cX11_listsOf 55 = .ok (.iload 5, 2) := by decide +kernel
theorem dX11_listsOf_57 : decode cX11_listsOf 57 = .ok (.iload_n 2, 1) := by decide +kernel
theorem dX11_listsOf_58 : decode cX11_listsOf 58 = .ok (.if_icmp .ge 111, 3) := by decide +kernel
theorem dX11_listsOf_61 : decode cX11_listsOf 61 = .ok (.iload_n 2, 1) := by decide +kernel
theorem dX11_listsOf_62 : decode cX11_listsOf 62 = .ok (.iconst 1, 1) := by decide +kernel
theorem dX11_listsOf_63 : decode cX11_listsOf 63 = .ok (.isub, 1) := by decide +kernel
theorem dX11_listsOf_64 : decode cX11_listsOf 64 = .ok (.istore 6, 2) := by decide +kernel
theorem dX11_listsOf_66 : decode cX11_listsOf 66 = .ok (.iload 6, 2) := by decide +kernel
theorem dX11_listsOf_68 : decode cX11_listsOf 68 = .ok (.ifCond .lt 69, 3) := by decide +kernel
theorem dX11_listsOf_71 : decode cX11_listsOf 71 = .ok (.lconst 0, 1) := by decide +kernel
theorem dX11_listsOf_72 : decode cX11_listsOf 72 = .ok (.lstore 7, 2) := by decide +kernel
theorem dX11_listsOf_74 : decode cX11_listsOf 74 = .ok (.iconst 1, 1) := by decide +kernel
theorem dX11_listsOf_75 : decode cX11_listsOf 75 = .ok (.istore 9, 2) := by decide +kernel
theorem dX11_listsOf_77 : decode cX11_listsOf 77 = .ok (.iload 9, 2) := by decide +kernel
theorem dX11_listsOf_79 : decode cX11_listsOf 79 = .ok (.iload 6, 2) := by decide +kernel
theorem dX11_listsOf_8 : decode cX11_listsOf 8 = .ok (.aload_n 0, 1) := by decide +kernel
theorem dX11_listsOf_81 : decode cX11_listsOf 81 = .ok (.if_icmp .gt 41, 3) := by decide +kernel
theorem dX11_listsOf_84 : decode cX11_listsOf 84 = .ok (.lload 7, 2) := by decide +kernel
theorem dX11_listsOf_86 : decode cX11_listsOf 86 = .ok (.aload_n 0, 1) := by decide +kernel
theorem dX11_listsOf_87 : decode cX11_listsOf 87 = .ok (.getfield 48, 3) := by decide +kernel
theorem dX11_listsOf_9 : decode cX11_listsOf 9 = .ok (.getfield 48, 3) := by decide +kernel
theorem dX11_listsOf_90 : decode cX11_listsOf 90 = .ok (.iload 6, 2) := by decide +kernel
theorem dX11_listsOf_92 : decode cX11_listsOf 92 = .ok (.iload 9, 2) := by decide +kernel
theorem dX11_listsOf_94 : decode cX11_listsOf 94 = .ok (.isub, 1) := by decide +kernel
theorem dX11_listsOf_95 : decode cX11_listsOf 95 = .ok (.laload, 1) := by decide +kernel
theorem dX11_listsOf_96 : decode cX11_listsOf 96 = .ok (.aload_n 0, 1) := by decide +kernel
theorem dX11_listsOf_97 : decode cX11_listsOf 97 = .ok (.aload_n 0, 1) := by decide +kernel
theorem dX11_listsOf_98 : decode cX11_listsOf 98 = .ok (.getfield 13, 3) := by decide +kernel
noncomputable def k_X11_listsOf_163 (l1 : Int32) (l2 : Int32) (l3 : Int64) (l5 : Int32) (s : t_S) : Option ((Int32 × Int32 × Int64 × Int32 × t_S) ⊕ (Int64 × t_S)) :=
 some (.inl (l1, l2, l3, (l5 + 1), s))
set_option maxRecDepth 4000 in
set_option maxHeartbeats 1000000 in
theorem B_X11_listsOf_163 {D : va_G} {cy : Nat → ClassId} {ad : Nat → Nat} {bs : Nat} {X : State → Heap → Prop} (l1 : Int32) (l2 : Int32) (l3 : Int64) (l5 : Int32) (s : t_S) (Q : (Int32 × Int32 × Int64 × Int32 × t_S) ⊕ (Int64 × t_S) → Prop) (Hb42 : ∀ (y0 : Int32) (y1 : Int32) (y2 : Int64) (y3 : Int32) (y4 : t_S), Q (.inl (y0, y1, y2, y3, y4)) → mj_G D cy ad bs X cX11_listsOf 10 yX11_listsOf.cls (some .long) yX11_listsOf.name 3 0 0 1065 (t_P (fun v s' => ∃ x, v = some (.long x) ∧ Q (.inr ((x, s'))))) 42 [(0, .ref 316), (1, .int (y0)), (2, .int (y1)), (3, .long (y2)), (5, .int (y3))] [] (t_m y4) 1065 0 0) (hk : t_hk (k_X11_listsOf_163 l1 l2 l3 l5 s) Q) : mj_G D cy ad bs X cX11_listsOf 10 yX11_listsOf.cls (some .long) yX11_listsOf.name 3 0 0 1065 (t_P (fun v s' => ∃ x, v = some (.long x) ∧ Q (.inr ((x, s'))))) 163 [(0, .ref 316), (1, .int l1), (2, .int l2), (3, .long l3), (5, .int l5)] [] (t_m s) 1065 0 0 := by
  refine mj_iinc (k := 4) (v := (l5 + 1)) (lv2 := [(5, .int (l5 + 1)), (0, .ref 316), (1, .int l1), (2, .int l2), (3, .long l3)]) dX11_listsOf_163 rfl rfl (by decide) rfl ?_
  refine mj_goto 42 dX11_listsOf_166 (by decide) ?_
  refine mj_sublv [(0, .ref 316), (1, .int l1), (2, .int l2), (3, .long l3), (5, .int (l5 + 1))] [1, 2, 3, 4, 0] rfl ?_
  exact t_somK hk (fun hf => Hb42 l1 l2 l3 (l5 + 1) s hf)
noncomputable def k_X11_listsOf_77 (l1 : Int32) (l2 : Int32) (l3 : Int64) (l5 : Int32) (l6 : Int32) (l7 : Int64) (l9 : Int32) (s : t_S) : Option ((Int32 × Int32 × Int64 × Int32 × Int32 × Int64 × Int32 × t_S) ⊕ ((Int32 × Int32 × Int64 × Int32 × Int32 × t_S) ⊕ ((Int32 × Int32 × Int64 × Int32 × t_S) ⊕ (Int64 × t_S)))) :=
 if l6 < l9 then ((if t_ix l6 42 = true then
  t_let (t_setJ s 329 (l6.toNatClampNeg) l7) (fun s1 =>
 some (.inl (l1, l2, l3, l5, (l6 + (-1)), s1)))
else none).map Sum.inr)
 else (if t_ix (l6 - l9) 42 = true then
  if t_ix l1 3001 = true then
  (f_X11_waysAt (s.1 318 (l1.toNatClampNeg)) l9 s).bind (fun r4 =>
 (f_X11_times (s.2.1 329 ((l6 - l9).toNatClampNeg)) r4 s).bind (fun r5 =>
 some (.inl (l1, l2, l3, l5, l6, (f_X11_plus l7 r5 s), (l9 + 1), s))))
else none
else none)
set_option maxRecDepth 4000 in
set_option maxHeartbeats 1000000 in
theorem B_X11_listsOf_77 {D : va_G} {cy : Nat → ClassId} {ad : Nat → Nat} {bs : Nat} {X : State → Heap → Prop} (l1 : Int32) (l2 : Int32) (l3 : Int64) (l5 : Int32) (l6 : Int32) (l7 : Int64) (l9 : Int32) (s : t_S) (Q : (Int32 × Int32 × Int64 × Int32 × Int32 × Int64 × Int32 × t_S) ⊕ ((Int32 × Int32 × Int64 × Int32 × Int32 × t_S) ⊕ ((Int32 × Int32 × Int64 × Int32 × t_S) ⊕ (Int64 × t_S))) → Prop) (Hb42 : ∀ (y0 : Int32) (y1 : Int32) (y2 : Int64) (y3 : Int32) (y4 : t_S), Q (.inr (.inr (.inl (y0, y1, y2, y3, y4)))) → mj_G D cy ad bs X cX11_listsOf 10 yX11_listsOf.cls (some .long) yX11_listsOf.name 3 0 0 1065 (t_P (fun v s' => ∃ x, v = some (.long x) ∧ Q (.inr (.inr (.inr ((x, s'))))))) 42 [(0, .ref 316), (1, .int (y0)), (2, .int (y1)), (3, .long (y2)), (5, .int (y3))] [] (t_m y4) 1065 0 0) (Hb66 : ∀ (y0 : Int32) (y1 : Int32) (y2 : Int64) (y3 : Int32) (y4 : Int32) (y5 : t_S), Q (.inr (.inl (y0, y1, y2, y3, y4, y5))) → mj_G D cy ad bs X cX11_listsOf 10 yX11_listsOf.cls (some .long) yX11_listsOf.name 3 0 0 1065 (t_P (fun v s' => ∃ x, v = some (.long x) ∧ Q (.inr (.inr (.inr ((x, s'))))))) 66 [(0, .ref 316), (1, .int (y0)), (2, .int (y1)), (3, .long (y2)), (5, .int (y3)), (6, .int (y4))] [] (t_m y5) 1065 0 0) (Hb77 : ∀ (y0 : Int32) (y1 : Int32) (y2 : Int64) (y3 : Int32) (y4 : Int32) (y5 : Int64) (y6 : Int32) (y7 : t_S), Q (.inl (y0, y1, y2, y3, y4, y5, y6, y7)) → mj_G D cy ad bs X cX11_listsOf 10 yX11_listsOf.cls (some .long) yX11_listsOf.name 3 0 0 1065 (t_P (fun v s' => ∃ x, v = some (.long x) ∧ Q (.inr (.inr (.inr ((x, s'))))))) 77 [(0, .ref 316), (1, .int (y0)), (2, .int (y1)), (3, .long (y2)), (5, .int (y3)), (6, .int (y4)), (7, .long (y5)), (9, .int (y6))] [] (t_m y7) 1065 0 0) (hk : t_hk (k_X11_listsOf_77 l1 l2 l3 l5 l6 l7 l9 s) Q) : mj_G D cy ad bs X cX11_listsOf 10 yX11_listsOf.cls (some .long) yX11_listsOf.name 3 0 0 1065 (t_P (fun v s' => ∃ x, v = some (.long x) ∧ Q (.inr (.inr (.inr ((x, s'))))))) 77 [(0, .ref 316), (1, .int l1), (2, .int l2), (3, .long l3), (5, .int l5), (6, .int l6), (7, .long l7), (9, .int l9)] [] (t_m s) 1065 0 0 := by
  refine mj_iload dX11_listsOf_77 7 rfl ?_
  refine mj_iload dX11_listsOf_79 5 rfl ?_
  refine mj_icmp_gt 122 dX11_listsOf_81 (by decide) (fun z => t_posK hk z (fun hk => ?_)) (fun z => t_negK hk z (fun hk => ?_))
  · refine t_mapK hk (fun hk => ?_)
    refine mj_aload_n dX11_listsOf_122 0 rfl ?_
    refine t_getR 329 dX11_listsOf_123 F_X11_48 qr_316_16 ?_
    refine mj_iload dX11_listsOf_126 5 rfl ?_
    refine mj_lload dX11_listsOf_128 6 rfl ?_
    refine t_chkK hk (fun c0 hk => ?_)
    refine t_lastK dX11_listsOf_130 qa_329 (t_ixv c0) (fun s1 ws1 => t_letE hk ws1 (fun hk => ?_))
    refine mj_iinc (k := 5) (v := (l6 + (-1))) (lv2 := [(6, .int (l6 + (-1))), (0, .ref 316), (1, .int l1), (2, .int l2), (3, .long l3), (5, .int l5), (7, .long l7), (9, .int l9)]) dX11_listsOf_131 rfl rfl (by decide) rfl ?_
    refine mj_goto 66 dX11_listsOf_134 (by decide) ?_
    refine mj_sublv [(0, .ref 316), (1, .int l1), (2, .int l2), (3, .long l3), (5, .int l5), (6, .int (l6 + (-1)))] [1, 2, 3, 4, 5, 0] rfl ?_
    exact t_somK hk (fun hf => Hb66 l1 l2 l3 l5 (l6 + (-1)) s1 hf)
  · refine mj_lload dX11_listsOf_84 6 rfl ?_
    refine mj_aload_n dX11_listsOf_86 0 rfl ?_
    refine t_getR 329 dX11_listsOf_87 F_X11_48 qr_316_16 ?_
    refine mj_iload dX11_listsOf_90 5 rfl ?_
    refine mj_iload dX11_listsOf_92 7 rfl ?_
    refine mj_isub dX11_listsOf_94 ?_
    refine t_chkK hk (fun c1 hk => ?_)
    refine t_lald dX11_listsOf_95 qa_329 (t_ixv c1) ?_
    refine mj_aload_n dX11_listsOf_96 0 rfl ?_
    refine mj_aload_n dX11_listsOf_97 0 rfl ?_
    refine t_getR 318 dX11_listsOf_98 F_X11_13 qr_316_1 ?_
    refine mj_iload_n dX11_listsOf_101 1 rfl ?_
    refine t_chkK hk (fun c2 hk => ?_)
    refine t_iald dX11_listsOf_102 qa_318 (t_ixv c2) ?_
    refine mj_iload dX11_listsOf_103 7 rfl ?_
    refine t_bndK hk (fun r4 er4 hk => ?_)
    refine t_callVlP dX11_listsOf_105 M_X11_waysAt (C_X11_waysAt _ _ _ _ er4) ML_X11_188 IM_X11_waysAt SE_X11_waysAt qc_316 rfl (As := [.int (s.1 318 (l1.toNatClampNeg)), .int l9]) rfl rfl (Nat.le_of_ble_eq_true rfl) (Nat.le_of_ble_eq_true rfl) (Nat.le_of_ble_eq_true rfl) (Nat.le_of_ble_eq_true rfl) ?_
    refine t_bndK hk (fun r5 er5 hk => ?_)
    refine t_callSlP dX11_listsOf_108 M_X11_times (C_X11_times _ _ _ _ er5) ML_X11_222 SM_X11_times (As := [.long (s.2.1 329 ((l6 - l9).toNatClampNeg)), .long r4]) rfl rfl (Nat.le_of_ble_eq_true rfl) (Nat.le_of_ble_eq_true rfl) (Nat.le_of_ble_eq_true rfl) (Nat.le_of_ble_eq_true rfl) ?_
    refine t_callSlP dX11_listsOf_111 M_X11_plus (C_X11_plus _ _ _) ML_X11_217 SM_X11_plus (As := [.long l7, .long r5]) rfl rfl (Nat.le_of_ble_eq_true rfl) (Nat.le_of_ble_eq_true rfl) (Nat.le_of_ble_eq_true rfl) (Nat.le_of_ble_eq_true rfl) ?_
    refine mj_lstore (lv2 := [(7, .long (f_X11_plus l7 r5 s)), (0, .ref 316), (1, .int l1), (2, .int l2), (3, .long l3), (5, .int l5), (6, .int l6), (9, .int l9)]) dX11_listsOf_114 (by decide) rfl ?_
    refine mj_iinc (k := 7) (v := (l9 + 1)) (lv2 := [(9, .int (l9 + 1)), (7, .long (f_X11_plus l7 r5 s)), (0, .ref 316), (1, .int l1), (2, .int l2), (3, .long l3), (5, .int l5), (6, .int l6)]) dX11_listsOf_116 rfl rfl (by decide) rfl ?_
    refine mj_goto 77 dX11_listsOf_119 (by decide) ?_
    refine mj_sublv [(0, .ref 316), (1, .int l1), (2, .int l2), (3, .long l3), (5, .int l5), (6, .int l6), (7, .long (f_X11_plus l7 r5 s)), (9, .int (l9 + 1))] [2, 3, 4, 5, 6, 7, 1, 0] rfl ?_
    exact t_somK hk (fun hf => Hb77 l1 l2 l3 l5 l6 (f_X11_plus l7 r5 s) (l9 + 1) s hf)
noncomputable def b_X11_listsOf_77 (x : Int32 × Int32 × Int64 × Int32 × Int32 × Int64 × Int32 × t_S) : Option ((Int32 × Int32 × Int64 × Int32 × Int32 × Int64 × Int32 × t_S) ⊕ ((Int32 × Int32 × Int64 × Int32 × Int32 × t_S) ⊕ ((Int32 × Int32 × Int64 × Int32 × t_S) ⊕ (Int64 × t_S)))) := k_X11_listsOf_77 x.1 x.2.1 x.2.2.1 x.2.2.2.1 x.2.2.2.2.1 x.2.2.2.2.2.1 x.2.2.2.2.2.2.1 x.2.2.2.2.2.2.2
set_option maxRecDepth 4000 in
set_option maxHeartbeats 1000000 in
theorem LH_X11_listsOf_77 {D : va_G} {cy : Nat → ClassId} {ad : Nat → Nat} {bs : Nat} {X : State → Heap → Prop} : ∀ (n : Nat) (y0 : Int32) (y1 : Int32) (y2 : Int64) (y3 : Int32) (y4 : Int32) (y5 : Int64) (y6 : Int32) (y7 : t_S) (Q : (Int32 × Int32 × Int64 × Int32 × Int32 × t_S) ⊕ ((Int32 × Int32 × Int64 × Int32 × t_S) ⊕ (Int64 × t_S)) → Prop) (Hb42 : ∀ (y0 : Int32) (y1 : Int32) (y2 : Int64) (y3 : Int32) (y4 : t_S), Q (.inr (.inl (y0, y1, y2, y3, y4))) → mj_G D cy ad bs X cX11_listsOf 10 yX11_listsOf.cls (some .long) yX11_listsOf.name 3 0 0 1065 (t_P (fun v s' => ∃ x, v = some (.long x) ∧ Q (.inr (.inr ((x, s')))))) 42 [(0, .ref 316), (1, .int (y0)), (2, .int (y1)), (3, .long (y2)), (5, .int (y3))] [] (t_m y4) 1065 0 0) (Hb66 : ∀ (y0 : Int32) (y1 : Int32) (y2 : Int64) (y3 : Int32) (y4 : Int32) (y5 : t_S), Q (.inl (y0, y1, y2, y3, y4, y5)) → mj_G D cy ad bs X cX11_listsOf 10 yX11_listsOf.cls (some .long) yX11_listsOf.name 3 0 0 1065 (t_P (fun v s' => ∃ x, v = some (.long x) ∧ Q (.inr (.inr ((x, s')))))) 66 [(0, .ref 316), (1, .int (y0)), (2, .int (y1)), (3, .long (y2)), (5, .int (y3)), (6, .int (y4))] [] (t_m y5) 1065 0 0) (hk : t_hk (t_loop (b_X11_listsOf_77) n (y0, y1, y2, y3, y4, y5, y6, y7)) Q), mj_G D cy ad bs X cX11_listsOf 10 yX11_listsOf.cls (some .long) yX11_listsOf.name 3 0 0 1065 (t_P (fun v s' => ∃ x, v = some (.long x) ∧ Q (.inr (.inr ((x, s')))))) 77 [(0, .ref 316), (1, .int (y0)), (2, .int (y1)), (3, .long (y2)), (5, .int (y3)), (6, .int (y4)), (7, .long (y5)), (9, .int (y6))] [] (t_m y7) 1065 0 0 := by
  intro n
  induction n with
  | zero => intro y0 y1 y2 y3 y4 y5 y6 y7 Q Hb42 Hb66 hk; obtain ⟨r, hr, _⟩ := hk; cases hr
  | succ n ih =>
    intro y0 y1 y2 y3 y4 y5 y6 y7 Q Hb42 Hb66 hk
    exact B_X11_listsOf_77 y0 y1 y2 y3 y4 y5 y6 y7 (fun y => t_lq (b_X11_listsOf_77) n Q y) (fun y0' y1' y2' y3' y4' hy => Hb42 y0' y1' y2' y3' y4' hy) (fun y0' y1' y2' y3' y4' y5' hy => Hb66 y0' y1' y2' y3' y4' y5' hy) (fun y0' y1' y2' y3' y4' y5' y6' y7' hy => ih y0' y1' y2' y3' y4' y5' y6' y7' Q Hb42 Hb66 hy) (t_lp hk)
noncomputable def k_X11_listsOf_66 (l1 : Int32) (l2 : Int32) (l3 : Int64) (l5 : Int32) (l6 : Int32) (s : t_S) : Option ((Int32 × Int32 × Int64 × Int32 × Int32 × t_S) ⊕ ((Int32 × Int32 × Int64 × Int32 × t_S) ⊕ (Int64 × t_S))) :=
 if l6 < (0 : Int32) then ((if t_ix l1 3001 = true then
  if (lg_cmp l5.toInt64 (s.2.1 322 (l1.toNatClampNeg))) < (0 : Int32) then (k_X11_listsOf_163 l1 l2 l3 l5 s)
 else (if t_ix (l2 - (1 : Int32)) 42 = true then
  k_X11_listsOf_163 l1 l2 (f_X11_plus l3 (s.2.1 329 ((l2 - (1 : Int32)).toNatClampNeg)) s) l5 s
else none)
else none).map Sum.inr)
 else (t_loop (b_X11_listsOf_77) t_N (l1, l2, l3, l5, l6, 0, 1, s))
set_option maxRecDepth 4000 in
set_option maxHeartbeats 1000000 in
theorem B_X11_listsOf_66 {D : va_G} {cy : Nat → ClassId} {ad : Nat → Nat} {bs : Nat} {X : State → Heap → Prop} (l1 : Int32) (l2 : Int32) (l3 : Int64) (l5 : Int32) (l6 : Int32) (s : t_S) (Q : (Int32 × Int32 × Int64 × Int32 × Int32 × t_S) ⊕ ((Int32 × Int32 × Int64 × Int32 × t_S) ⊕ (Int64 × t_S)) → Prop) (Hb42 : ∀ (y0 : Int32) (y1 : Int32) (y2 : Int64) (y3 : Int32) (y4 : t_S), Q (.inr (.inl (y0, y1, y2, y3, y4))) → mj_G D cy ad bs X cX11_listsOf 10 yX11_listsOf.cls (some .long) yX11_listsOf.name 3 0 0 1065 (t_P (fun v s' => ∃ x, v = some (.long x) ∧ Q (.inr (.inr ((x, s')))))) 42 [(0, .ref 316), (1, .int (y0)), (2, .int (y1)), (3, .long (y2)), (5, .int (y3))] [] (t_m y4) 1065 0 0) (Hb66 : ∀ (y0 : Int32) (y1 : Int32) (y2 : Int64) (y3 : Int32) (y4 : Int32) (y5 : t_S), Q (.inl (y0, y1, y2, y3, y4, y5)) → mj_G D cy ad bs X cX11_listsOf 10 yX11_listsOf.cls (some .long) yX11_listsOf.name 3 0 0 1065 (t_P (fun v s' => ∃ x, v = some (.long x) ∧ Q (.inr (.inr ((x, s')))))) 66 [(0, .ref 316), (1, .int (y0)), (2, .int (y1)), (3, .long (y2)), (5, .int (y3)), (6, .int (y4))] [] (t_m y5) 1065 0 0) (hk : t_hk (k_X11_listsOf_66 l1 l2 l3 l5 l6 s) Q) : mj_G D cy ad bs X cX11_listsOf 10 yX11_listsOf.cls (some .long) yX11_listsOf.name 3 0 0 1065 (t_P (fun v s' => ∃ x, v = some (.long x) ∧ Q (.inr (.inr ((x, s')))))) 66 [(0, .ref 316), (1, .int l1), (2, .int l2), (3, .long l3), (5, .int l5), (6, .int l6)] [] (t_m s) 1065 0 0 := by
  refine mj_iload dX11_listsOf_66 5 rfl ?_
  refine mj_if_lt 137 dX11_listsOf_68 (by decide) (fun z => t_posK hk z (fun hk => ?_)) (fun z => t_negK hk z (fun hk => ?_))
  · refine t_mapK hk (fun hk => ?_)
    refine mj_iload dX11_listsOf_137 4 rfl ?_
    refine mj_i2l (v := l5.toInt64) dX11_listsOf_139 rfl ?_
    refine mj_aload_n dX11_listsOf_140 0 rfl ?_
    refine t_getR 322 dX11_listsOf_141 F_X11_25 qr_316_5 ?_
    refine mj_iload_n dX11_listsOf_144 1 rfl ?_
    refine t_chkK hk (fun c0 hk => ?_)
    refine t_lald dX11_listsOf_145 qa_322 (t_ixv c0) ?_
    refine mj_lcmp dX11_listsOf_146 ?_
    refine mj_if_lt 163 dX11_listsOf_147 (by decide) (fun z => t_posK hk z (fun hk => ?_)) (fun z => t_negK hk z (fun hk => ?_))
    · refine mj_sublv [(0, .ref 316), (1, .int l1), (2, .int l2), (3, .long l3), (5, .int l5)] [0, 1, 2, 3, 4] rfl ?_
      exact B_X11_listsOf_163 _ _ _ _ _ _ (fun y0 y1 y2 y3 y4 hx => Hb42 y0 y1 y2 y3 y4 hx) hk
    · refine mj_lload_n dX11_listsOf_150 3 rfl ?_
      refine mj_aload_n dX11_listsOf_151 0 rfl ?_
      refine t_getR 329 dX11_listsOf_152 F_X11_48 qr_316_16 ?_
      refine mj_iload_n dX11_listsOf_155 2 rfl ?_
      refine mj_iconst (v := 1) dX11_listsOf_156 (by decide) ?_
      refine mj_isub dX11_listsOf_157 ?_
      refine t_chkK hk (fun c1 hk => ?_)
      refine t_lald dX11_listsOf_158 qa_329 (t_ixv c1) ?_
      refine t_callSlP dX11_listsOf_159 M_X11_plus (C_X11_plus _ _ _) ML_X11_217 SM_X11_plus (As := [.long l3, .long (s.2.1 329 ((l2 - (1 : Int32)).toNatClampNeg))]) rfl rfl (Nat.le_of_ble_eq_true rfl) (Nat.le_of_ble_eq_true rfl) (Nat.le_of_ble_eq_true rfl) (Nat.le_of_ble_eq_true rfl) ?_
      refine mj_lstore_n 3 (lv2 := [(3, .long (f_X11_plus l3 (s.2.1 329 ((l2 - (1 : Int32)).toNatClampNeg)) s)), (0, .ref 316), (1, .int l1), (2, .int l2), (5, .int l5), (6, .int l6)]) dX11_listsOf_162 rfl (by decide) rfl ?_
      refine mj_sublv [(0, .ref 316), (1, .int l1), (2, .int l2), (3, .long (f_X11_plus l3 (s.2.1 329 ((l2 - (1 : Int32)).toNatClampNeg)) s)), (5, .int l5)] [1, 2, 3, 0, 4] rfl ?_
      exact B_X11_listsOf_163 _ _ _ _ _ _ (fun y0 y1 y2 y3 y4 hx => Hb42 y0 y1 y2 y3 y4 hx) hk
  · refine mj_lconst (v := 0) dX11_listsOf_71 (by decide) ?_
    refine mj_lstore (lv2 := [(7, .long 0), (0, .ref 316), (1, .int l1), (2, .int l2), (3, .long l3), (5, .int l5), (6, .int l6)]) dX11_listsOf_72 (by decide) rfl ?_
    refine mj_iconst (v := 1) dX11_listsOf_74 (by decide) ?_
    refine mj_istore (lv2 := [(9, .int 1), (7, .long 0), (0, .ref 316), (1, .int l1), (2, .int l2), (3, .long l3), (5, .int l5), (6, .int l6)]) dX11_listsOf_75 (by decide) rfl ?_
    refine mj_sublv [(0, .ref 316), (1, .int l1), (2, .int l2), (3, .long l3), (5, .int l5), (6, .int l6), (7, .long 0), (9, .int 1)] [2, 3, 4, 5, 6, 7, 1, 0] rfl ?_
    exact LH_X11_listsOf_77 _ l1 l2 l3 l5 l6 0 1 s _ (fun y0 y1 y2 y3 y4 hx => Hb42 y0 y1 y2 y3 y4 hx) (fun y0 y1 y2 y3 y4 y5 hx => Hb66 y0 y1 y2 y3 y4 y5 hx) hk
noncomputable def b_X11_listsOf_66 (x : Int32 × Int32 × Int64 × Int32 × Int32 × t_S) : Option ((Int32 × Int32 × Int64 × Int32 × Int32 × t_S) ⊕ ((Int32 × Int32 × Int64 × Int32 × t_S) ⊕ (Int64 × t_S))) := k_X11_listsOf_66 x.1 x.2.1 x.2.2.1 x.2.2.2.1 x.2.2.2.2.1 x.2.2.2.2.2
set_option maxRecDepth 4000 in
set_option maxHeartbeats 1000000 in
theorem LH_X11_listsOf_66 {D : va_G} {cy : Nat → ClassId} {ad : Nat → Nat} {bs : Nat} {X : State → Heap → Prop} : ∀ (n : Nat) (y0 : Int32) (y1 : Int32) (y2 : Int64) (y3 : Int32) (y4 : Int32) (y5 : t_S) (Q : (Int32 × Int32 × Int64 × Int32 × t_S) ⊕ (Int64 × t_S) → Prop) (Hb42 : ∀ (y0 : Int32) (y1 : Int32) (y2 : Int64) (y3 : Int32) (y4 : t_S), Q (.inl (y0, y1, y2, y3, y4)) → mj_G D cy ad bs X cX11_listsOf 10 yX11_listsOf.cls (some .long) yX11_listsOf.name 3 0 0 1065 (t_P (fun v s' => ∃ x, v = some (.long x) ∧ Q (.inr ((x, s'))))) 42 [(0, .ref 316), (1, .int (y0)), (2, .int (y1)), (3, .long (y2)), (5, .int (y3))] [] (t_m y4) 1065 0 0) (hk : t_hk (t_loop (b_X11_listsOf_66) n (y0, y1, y2, y3, y4, y5)) Q), mj_G D cy ad bs X cX11_listsOf 10 yX11_listsOf.cls (some .long) yX11_listsOf.name 3 0 0 1065 (t_P (fun v s' => ∃ x, v = some (.long x) ∧ Q (.inr ((x, s'))))) 66 [(0, .ref 316), (1, .int (y0)), (2, .int (y1)), (3, .long (y2)), (5, .int (y3)), (6, .int (y4))] [] (t_m y5) 1065 0 0 := by
  intro n
  induction n with
  | zero => intro y0 y1 y2 y3 y4 y5 Q Hb42 hk; obtain ⟨r, hr, _⟩ := hk; cases hr
  | succ n ih =>
    intro y0 y1 y2 y3 y4 y5 Q Hb42 hk
    exact B_X11_listsOf_66 y0 y1 y2 y3 y4 y5 (fun y => t_lq (b_X11_listsOf_66) n Q y) (fun y0' y1' y2' y3' y4' hy => Hb42 y0' y1' y2' y3' y4' hy) (fun y0' y1' y2' y3' y4' y5' hy => ih y0' y1' y2' y3' y4' y5' Q Hb42 hy) (t_lp hk)
noncomputable def k_X11_listsOf_42 (l1 : Int32) (l2 : Int32) (l3 : Int64) (l5 : Int32) (s : t_S) : Option ((Int32 × Int32 × Int64 × Int32 × t_S) ⊕ (Int64 × t_S)) :=
 if t_ix l1 3001 = true then
  if (0 : Int32) < (lg_cmp l5.toInt64 (s.2.1 323 (l1.toNatClampNeg))) then ((some (l3, s)).map Sum.inr)
 else (if l2 ≤ l5 then ((some (l3, s)).map Sum.inr)
 else (t_loop (b_X11_listsOf_66) t_N (l1, l2, l3, l5, (l2 - (1 : Int32)), s)))
else none
set_option maxRecDepth 4000 in
set_option maxHeartbeats 1000000 in
theorem B_X11_listsOf_42 {D : va_G} {cy : Nat → ClassId} {ad : Nat → Nat} {bs : Nat} {X : State → Heap → Prop} (l1 : Int32) (l2 : Int32) (l3 : Int64) (l5 : Int32) (s : t_S) (Q : (Int32 × Int32 × Int64 × Int32 × t_S) ⊕ (Int64 × t_S) → Prop) (Hb42 : ∀ (y0 : Int32) (y1 : Int32) (y2 : Int64) (y3 : Int32) (y4 : t_S), Q (.inl (y0, y1, y2, y3, y4)) → mj_G D cy ad bs X cX11_listsOf 10 yX11_listsOf.cls (some .long) yX11_listsOf.name 3 0 0 1065 (t_P (fun v s' => ∃ x, v = some (.long x) ∧ Q (.inr ((x, s'))))) 42 [(0, .ref 316), (1, .int (y0)), (2, .int (y1)), (3, .long (y2)), (5, .int (y3))] [] (t_m y4) 1065 0 0) (hk : t_hk (k_X11_listsOf_42 l1 l2 l3 l5 s) Q) : mj_G D cy ad bs X cX11_listsOf 10 yX11_listsOf.cls (some .long) yX11_listsOf.name 3 0 0 1065 (t_P (fun v s' => ∃ x, v = some (.long x) ∧ Q (.inr ((x, s'))))) 42 [(0, .ref 316), (1, .int l1), (2, .int l2), (3, .long l3), (5, .int l5)] [] (t_m s) 1065 0 0 := by
  refine mj_iload dX11_listsOf_42 4 rfl ?_
  refine mj_i2l (v := l5.toInt64) dX11_listsOf_44 rfl ?_
  refine mj_aload_n dX11_listsOf_45 0 rfl ?_
  refine t_getR 323 dX11_listsOf_46 F_X11_29 qr_316_6 ?_
  refine mj_iload_n dX11_listsOf_49 1 rfl ?_
  refine t_chkK hk (fun c0 hk => ?_)
  refine t_lald dX11_listsOf_50 qa_323 (t_ixv c0) ?_
  refine mj_lcmp dX11_listsOf_51 ?_
  refine mj_if_gt 169 dX11_listsOf_52 (by decide) (fun z => t_posK hk z (fun hk => ?_)) (fun z => t_negK hk z (fun hk => ?_))
  · refine t_mapK hk (fun hk => ?_)
    refine mj_lload_n dX11_listsOf_169 3 rfl ?_
    exact t_somK hk (fun hf => t_lret dX11_listsOf_170 rfl ⟨_, rfl, hf⟩ (Nat.le_of_ble_eq_true rfl) (Nat.le_of_ble_eq_true rfl))
  · refine mj_iload dX11_listsOf_55 4 rfl ?_
    refine mj_iload_n dX11_listsOf_57 2 rfl ?_
    refine mj_icmp_ge 169 dX11_listsOf_58 (by decide) (fun z => t_posK hk z (fun hk => ?_)) (fun z => t_negK hk z (fun hk => ?_))
    · refine t_mapK hk (fun hk => ?_)
      refine mj_lload_n dX11_listsOf_169 3 rfl ?_
      exact t_somK hk (fun hf => t_lret dX11_listsOf_170 rfl ⟨_, rfl, hf⟩ (Nat.le_of_ble_eq_true rfl) (Nat.le_of_ble_eq_true rfl))
    · refine mj_iload_n dX11_listsOf_61 2 rfl ?_
      refine mj_iconst (v := 1) dX11_listsOf_62 (by decide) ?_
      refine mj_isub dX11_listsOf_63 ?_
      refine mj_istore (lv2 := [(6, .int (l2 - (1 : Int32))), (0, .ref 316), (1, .int l1), (2, .int l2), (3, .long l3), (5, .int l5)]) dX11_listsOf_64 (by decide) rfl ?_
      refine mj_sublv [(0, .ref 316), (1, .int l1), (2, .int l2), (3, .long l3), (5, .int l5), (6, .int (l2 - (1 : Int32)))] [1, 2, 3, 4, 5, 0] rfl ?_
      exact LH_X11_listsOf_66 _ l1 l2 l3 l5 (l2 - (1 : Int32)) s _ (fun y0 y1 y2 y3 y4 hx => Hb42 y0 y1 y2 y3 y4 hx) hk
noncomputable def b_X11_listsOf_42 (x : Int32 × Int32 × Int64 × Int32 × t_S) : Option ((Int32 × Int32 × Int64 × Int32 × t_S) ⊕ (Int64 × t_S)) := k_X11_listsOf_42 x.1 x.2.1 x.2.2.1 x.2.2.2.1 x.2.2.2.2
set_option maxRecDepth 4000 in
set_option maxHeartbeats 1000000 in
theorem LH_X11_listsOf_42 {D : va_G} {cy : Nat → ClassId} {ad : Nat → Nat} {bs : Nat} {X : State → Heap → Prop} : ∀ (n : Nat) (y0 : Int32) (y1 : Int32) (y2 : Int64) (y3 : Int32) (y4 : t_S) (Q : Int64 × t_S → Prop) (hk : t_hk (t_loop (b_X11_listsOf_42) n (y0, y1, y2, y3, y4)) Q), mj_G D cy ad bs X cX11_listsOf 10 yX11_listsOf.cls (some .long) yX11_listsOf.name 3 0 0 1065 (t_P (fun v s' => ∃ x, v = some (.long x) ∧ Q ((x, s')))) 42 [(0, .ref 316), (1, .int (y0)), (2, .int (y1)), (3, .long (y2)), (5, .int (y3))] [] (t_m y4) 1065 0 0 := by
  intro n
  induction n with
  | zero => intro y0 y1 y2 y3 y4 Q hk; obtain ⟨r, hr, _⟩ := hk; cases hr
  | succ n ih =>
    intro y0 y1 y2 y3 y4 Q hk
    exact B_X11_listsOf_42 y0 y1 y2 y3 y4 (fun y => t_lq (b_X11_listsOf_42) n Q y) (fun y0' y1' y2' y3' y4' hy => ih y0' y1' y2' y3' y4' Q hy) (t_lp hk)
noncomputable def k_X11_listsOf_38 (l1 : Int32) (l2 : Int32) (k0 : Int64) (s : t_S) : Option (Int64 × t_S) :=
 t_loop (b_X11_listsOf_42) t_N (l1, l2, k0, 1, s)
set_option maxRecDepth 4000 in
set_option maxHeartbeats 1000000 in
theorem B_X11_listsOf_38 {D : va_G} {cy : Nat → ClassId} {ad : Nat → Nat} {bs : Nat} {X : State → Heap → Prop} (l1 : Int32) (l2 : Int32) (k0 : Int64) (s : t_S) (Q : Int64 × t_S → Prop) (hk : t_hk (k_X11_listsOf_38 l1 l2 k0 s) Q) : mj_G D cy ad bs X cX11_listsOf 10 yX11_listsOf.cls (some .long) yX11_listsOf.name 3 0 0 1065 (t_P (fun v s' => ∃ x, v = some (.long x) ∧ Q ((x, s')))) 38 [(0, .ref 316), (1, .int l1), (2, .int l2)] [.long k0] (t_m s) 1065 0 0 := by
  refine mj_lstore_n 3 (lv2 := [(3, .long k0), (0, .ref 316), (1, .int l1), (2, .int l2)]) dX11_listsOf_38 rfl (by decide) rfl ?_
  refine mj_iconst (v := 1) dX11_listsOf_39 (by decide) ?_
  refine mj_istore (lv2 := [(5, .int 1), (3, .long k0), (0, .ref 316), (1, .int l1), (2, .int l2)]) dX11_listsOf_40 (by decide) rfl ?_
  refine mj_sublv [(0, .ref 316), (1, .int l1), (2, .int l2), (3, .long k0), (5, .int 1)] [2, 3, 4, 1, 0] rfl ?_
  exact LH_X11_listsOf_42 _ l1 l2 k0 1 s _ hk
noncomputable def f_X11_listsOf (x1 : Int32) (x2 : Int32) (s : t_S) : Option (Int64 × t_S) :=
 (f_J7_fill_d0a16 329 (0 : Int64) s).bind (fun r1 =>
 t_let (t_setJ r1 329 ((0 : Int32).toNatClampNeg) (1 : Int64)) (fun s1 =>
 if t_ix x1 3001 = true then
  if (lg_cmp (s1.2.1 322 (x1.toNatClampNeg)) (0 : Int64)) = (0 : Int32) then (if t_ix (x2 - (1 : Int32)) 42 = true then
  k_X11_listsOf_38 x1 x2 (s1.2.1 329 ((x2 - (1 : Int32)).toNatClampNeg)) s1
else none)
 else (k_X11_listsOf_38 x1 x2 0 s1)
else none))
set_option maxRecDepth 4000 in
set_option maxHeartbeats 1000000 in
theorem C_X11_listsOf (x1 : Int32) (x2 : Int32) (s : t_S) (r : Int64 × t_S) (hr : f_X11_listsOf x1 x2 s = some r) : t_C yX11_listsOf cX11_listsOf 10 (some .long) 3 [.ref 316, .int x1, .int x2] s (fun v s' => v = some (.long r.1) ∧ s' = r.2) := by
  refine t_C.imp (P := fun v s' => ∃ x, v = some (.long x) ∧ (fun q => q = r) ((x, s'))) (t_C.of (by decide +kernel) (Nat.le_of_ble_eq_true rfl) ?_) (fun v s' hp => by obtain ⟨x, rfl, rfl⟩ := hp; exact ⟨rfl, rfl⟩)
  intro D cy ad bs X
  have hk : t_hk (f_X11_listsOf x1 x2 s) (fun q => q = r) := ⟨r, hr, rfl⟩
  show mj_G D cy ad bs X cX11_listsOf 10 yX11_listsOf.cls (some .long) yX11_listsOf.name 3 0 0 1065 (t_P (fun v s' => ∃ x, v = some (.long x) ∧ (fun q => q = r) ((x, s')))) 0 [(0, .ref 316), (1, .int x1), (2, .int x2)] [] (t_m s) 1065 0 0
  refine mj_aload_n dX11_listsOf_0 0 rfl ?_
  refine t_getR 329 dX11_listsOf_1 F_X11_48 qr_316_16 ?_
  refine mj_lconst (v := 0) dX11_listsOf_4 (by decide) ?_
  refine t_bndK hk (fun r1 er1 hk => ?_)
  refine t_callSvE dX11_listsOf_5 M_J7_fill_d0a16 (C_J7_fill_d0a16 _ _ _ _ er1) ML_X11_145 SM_J7_fill_d0a16 (As := [.ref 329, .long 0]) rfl rfl (Nat.le_of_ble_eq_true rfl) (Nat.le_of_ble_eq_true rfl) (Nat.le_of_ble_eq_true rfl) (Nat.le_of_ble_eq_true rfl) ?_
  refine mj_aload_n dX11_listsOf_8 0 rfl ?_
  refine t_getR 329 dX11_listsOf_9 F_X11_48 qr_316_16 ?_
  refine mj_iconst (v := 0) dX11_listsOf_12 (by decide) ?_
  refine mj_lconst (v := 1) dX11_listsOf_13 (by decide) ?_
  refine t_lastK dX11_listsOf_14 qa_329 (by unfold vp_in; decide) (fun s1 ws1 => t_letE hk ws1 (fun hk => ?_))
  refine mj_aload_n dX11_listsOf_15 0 rfl ?_
  refine t_getR 322 dX11_listsOf_16 F_X11_25 qr_316_5 ?_
  refine mj_iload_n dX11_listsOf_19 1 rfl ?_
  refine t_chkK hk (fun c1 hk => ?_)
  refine t_lald dX11_listsOf_20 qa_322 (t_ixv c1) ?_
  refine mj_lconst (v := 0) dX11_listsOf_21 (by decide) ?_
  refine mj_lcmp dX11_listsOf_22 ?_
  refine mj_if_ne 37 dX11_listsOf_23 (by decide) (fun z => t_negK hk z (fun hk => ?_)) (fun z => t_posK hk z (fun hk => ?_))
  · refine mj_lconst (v := 0) dX11_listsOf_37 (by decide) ?_
    exact B_X11_listsOf_38 _ _ _ _ _ hk
  · refine mj_aload_n dX11_listsOf_26 0 rfl ?_
    refine t_getR 329 dX11_listsOf_27 F_X11_48 qr_316_16 ?_
    refine mj_iload_n dX11_listsOf_30 2 rfl ?_
    refine mj_iconst (v := 1) dX11_listsOf_31 (by decide) ?_
    refine mj_isub dX11_listsOf_32 ?_
    refine t_chkK hk (fun c2 hk => ?_)
    refine t_lald dX11_listsOf_33 qa_329 (t_ixv c2) ?_
    refine mj_goto 38 dX11_listsOf_34 (by decide) ?_
    exact B_X11_listsOf_38 _ _ _ _ _ hk

theorem dX11_numbersOf_0 : decode cX11_numbersOf 0 = .ok (.aload_n 0, 1) := by decide +kernel
theorem dX11_numbersOf_1 : decode cX11_numbersOf 1 = .ok (.getfield 22, 3) := by decide +kernel
theorem dX11_numbersOf_10 : decode cX11_numbersOf 10 = .ok (.getfield 29, 3) := by decide +kernel
theorem dX11_numbersOf_100 : decode cX11_numbersOf 100 = .ok (.laload, 1) := by decide +kernel
theorem dX11_numbersOf_101 : decode cX11_numbersOf 101 = .ok (.aload_n 0, 1) := by decide +kernel
theorem dX11_numbersOf_102 : decode cX11_numbersOf 102 = .ok (.getfield 25, 3) := by decide +kernel
theorem dX11_numbersOf_105 : decode cX11_numbersOf 105 = .ok (.iload 7, 2) := by decide +kernel
theorem dX11_numbersOf_107 : decode cX11_numbersOf 107 = .ok (.laload, 1) := by decide +kernel
theorem dX11_numbersOf_108 : decode cX11_numbersOf 108 = .ok (.lcmp, 1) := by decide +kernel
theorem dX11_numbersOf_109 : decode cX11_numbersOf 109 = .ok (.ifCond .ge 7, 3) := by decide +kernel
theorem dX11_numbersOf_112 : decode cX11_numbersOf 112 = .ok (.iload 8, 2) := by decide +kernel
theorem dX11_numbersOf_114 : decode cX11_numbersOf 114 = .ok (.istore 7, 2) := by decide +kernel
theorem dX11_numbersOf_116 : decode cX11_numbersOf 116 = .ok (.aload_n 0, 1) := by decide +kernel
theorem dX11_numbersOf_117 : decode cX11_numbersOf 117 = .ok (.getfield 16, 3) := by decide +kernel
theorem dX11_numbersOf_120 : decode cX11_numbersOf 120 = .ok (.iload 8, 2) := by decide +kernel
theorem dX11_numbersOf_122 : decode cX11_numbersOf 122 = .ok (.iaload, 1) := by decide +kernel
theorem dX11_numbersOf_123 : decode cX11_numbersOf 123 = .ok (.istore 8, 2) := by decide +kernel
theorem dX11_numbersOf_125 : decode cX11_numbersOf 125 = .ok (.iinc 9 1, 3) := by decide +kernel
theorem dX11_numbersOf_128 : decode cX11_numbersOf 128 = .ok (.goto (-68), 3) := by decide +kernel
theorem dX11_numbersOf_13 : decode cX11_numbersOf 13 = .ok (.iload_n 1, 1) := by decide +kernel
theorem dX11_numbersOf_131 : decode cX11_numbersOf 131 = .ok (.iload 7, 2) := by decide +kernel
theorem dX11_numbersOf_133 : decode cX11_numbersOf 133 = .ok (.ifCond .lt 39, 3) := by decide +kernel
theorem dX11_numbersOf_136 : decode cX11_numbersOf 136 = .ok (.lload_n 2, 1) := by decide +kernel
theorem dX11_numbersOf_137 : decode cX11_numbersOf 137 = .ok (.aload_n 0, 1) := by decide +kernel
theorem dX11_numbersOf_138 : decode cX11_numbersOf 138 = .ok (.getfield 29, 3) := by decide +kernel
theorem dX11_numbersOf_14 : decode cX11_numbersOf 14 = .ok (.laload, 1) := by decide +kernel
theorem dX11_numbersOf_141 : decode cX11_numbersOf 141 = .ok (.iload 7, 2) := by decide +kernel
theorem dX11_numbersOf_143 : decode cX11_numbersOf 143 = .ok (.laload, 1) := by decide +kernel
theorem dX11_numbersOf_144 : decode cX11_numbersOf 144 = .ok (.aload_n 0, 1) := by decide +kernel
theorem dX11_numbersOf_145 : decode cX11_numbersOf 145 = .ok (.getfield 25, 3) := by decide +kernel
theorem dX11_numbersOf_148 : decode cX11_numbersOf 148 = .ok (.iload 7, 2) := by decide +kernel
theorem dX11_numbersOf_15 : decode cX11_numbersOf 15 = .ok (.aload_n 0, 1) := by decide +kernel
theorem dX11_numbersOf_150 : decode cX11_numbersOf 150 = .ok (.laload, 1) := by decide +kernel
theorem dX11_numbersOf_151 : decode cX11_numbersOf 151 = .ok (.lload 4, 2) := by decide +kernel
theorem dX11_numbersOf_153 : decode cX11_numbersOf 153 = .ok (.lconst 1, 1) := by decide +kernel
theorem dX11_numbersOf_154 : decode cX11_numbersOf 154 = .ok (.ladd, 1) := by decide +kernel
theorem dX11_numbersOf_155 : decode cX11_numbersOf 155 = .ok (.invokestatic 211, 3) := by decide +kernel
theorem dX11_numbersOf_158 : decode cX11_numbersOf 158 = .ok (.lsub, 1) := by decide +kernel
theorem dX11_numbersOf_159 : decode cX11_numbersOf 159 = .ok (.lconst 1, 1) := by decide +kernel
theorem dX11_numbersOf_16 : decode cX11_numbersOf 16 = .ok (.getfield 25, 3) := by decide +kernel
theorem dX11_numbersOf_160 : decode cX11_numbersOf 160 = .ok (.ladd, 1) := by decide +kernel
theorem dX11_numbersOf_161 : decode cX11_numbersOf 161 = .ok (.ladd, 1) := by decide +kernel
theorem dX11_numbersOf_162 : decode cX11_numbersOf 162 = .ok (.lstore_n 2, 1) := by decide +kernel
theorem dX11_numbersOf_163 : decode cX11_numbersOf 163 = .ok (.aload_n 0, 1) := by decide +kernel
theorem dX11_numbersOf_164 : decode cX11_numbersOf 164 = .ok (.getfield 29, 3) := by decide +kernel
theorem dX11_numbersOf_167 : decode cX11_numbersOf 167 = .ok (.iload 7, 2) := by decide +kernel
theorem dX11_numbersOf_169 : decode cX11_numbersOf 169 = .ok (.laload, 1) := by decide +kernel
theorem dX11_numbersOf_170 : decode cX11_numbersOf 170 = .ok (.lstore 4, 2) := by decide +kernel
theorem dX11_numbersOf_172 : decode cX11_numbersOf 172 = .ok (.iinc 6 1, 3) := by decide +kernel
theorem dX11_numbersOf_175 : decode cX11_numbersOf 175 = .ok (.goto (-140), 3) := by decide +kernel
theorem dX11_numbersOf_178 : decode cX11_numbersOf 178 = .ok (.lload_n 2, 1) := by decide +kernel
theorem dX11_numbersOf_179 : decode cX11_numbersOf 179 = .ok (.lreturn, 1) := by decide +kernel
theorem dX11_numbersOf_19 : decode cX11_numbersOf 19 = .ok (.iload_n 1, 1) := by decide +kernel
theorem dX11_numbersOf_20 : decode cX11_numbersOf 20 = .ok (.laload, 1) := by decide +kernel
theorem dX11_numbersOf_21 : decode cX11_numbersOf 21 = .ok (.lsub, 1) := by decide +kernel
theorem dX11_numbersOf_22 : decode cX11_numbersOf 22 = .ok (.lconst 1, 1) := by decide +kernel
theorem dX11_numbersOf_23 : decode cX11_numbersOf 23 = .ok (.ladd, 1) := by decide +kernel
theorem dX11_numbersOf_24 : decode cX11_numbersOf 24 = .ok (.lreturn, 1) := by decide +kernel
theorem dX11_numbersOf_25 : decode cX11_numbersOf 25 = .ok (.lconst 0, 1) := by decide +kernel
theorem dX11_numbersOf_26 : decode cX11_numbersOf 26 = .ok (.lstore_n 2, 1) := by decide +kernel
theorem dX11_numbersOf_27 : decode cX11_numbersOf 27 = .ok (.ldc2_w 209, 3) := by decide +kernel
theorem dX11_numbersOf_30 : decode cX11_numbersOf 30 = .ok (.lstore 4, 2) := by decide +kernel
theorem dX11_numbersOf_32 : decode cX11_numbersOf 32 = .ok (.iconst 0, 1) := by decide +kernel
theorem dX11_numbersOf_33 : decode cX11_numbersOf 33 = .ok (.istore 6, 2) := by decide +kernel
theorem dX11_numbersOf_35 : decode cX11_numbersOf 35 = .ok (.iload 6, 2) := by decide +kernel
theorem dX11_numbersOf_37 : decode cX11_numbersOf 37 = .ok (.aload_n 0, 1) := by decide +kernel
theorem dX11_numbersOf_38 : decode cX11_numbersOf 38 = .ok (.getfield 22, 3) := by decide +kernel
theorem dX11_numbersOf_4 : decode cX11_numbersOf 4 = .ok (.iload_n 1, 1) := by decide +kernel
theorem dX11_numbersOf_41 : decode cX11_numbersOf 41 = .ok (.iload_n 1, 1) := by decide +kernel
theorem dX11_numbersOf_42 : decode cX11_numbersOf 42 = .ok (.iaload, 1) := by decide +kernel
theorem dX11_numbersOf_43 : decode cX11_numbersOf 43 = .ok (.if_icmp .ge 135, 3) := by decide +kernel
theorem dX11_numbersOf_46 : decode cX11_numbersOf 46 = .ok (.iconst (-1), 1) := by decide +kernel
theorem dX11_numbersOf_47 : decode cX11_numbersOf 47 = .ok (.istore 7, 2) := by decide +kernel
theorem dX11_numbersOf_49 : decode cX11_numbersOf 49 = .ok (.aload_n 0, 1) := by decide +kernel
theorem dX11_numbersOf_5 : decode cX11_numbersOf 5 = .ok (.iaload, 1) := by decide +kernel
theorem dX11_numbersOf_50 : decode cX11_numbersOf 50 = .ok (.getfield 13, 3) := by decide +kernel
theorem dX11_numbersOf_53 : decode cX11_numbersOf 53 = .ok (.iload_n 1, 1) := by decide +kernel
theorem dX11_numbersOf_54 : decode cX11_numbersOf 54 = .ok (.iaload, 1) := by decide +kernel
theorem dX11_numbersOf_55 : decode cX11_numbersOf 55 = .ok (.istore 8, 2) := by decide +kernel
theorem dX11_numbersOf_57 : decode cX11_numbersOf 57 = .ok (.iconst 0, 1) := by decide +kernel
theorem dX11_numbersOf_58 : decode cX11_numbersOf 58 = .ok (.istore 9, 2) := by decide +kernel
theorem dX11_numbersOf_6 : decode cX11_numbersOf 6 = .ok (.ifCond .ne 19, 3) := by decide +kernel
theorem dX11_numbersOf_60 : decode cX11_numbersOf 60 = .ok (.iload 9, 2) := by decide +kernel
theorem dX11_numbersOf_62 : decode cX11_numbersOf 62 = .ok (.aload_n 0, 1) := by decide +kernel
theorem dX11_numbersOf_63 : decode cX11_numbersOf 63 = .ok (.getfield 22, 3) := by decide +kernel
theorem dX11_numbersOf_66 : decode cX11_numbersOf 66 = .ok (.iload_n 1, 1) := by decide +kernel
theorem dX11_numbersOf_67 : decode cX11_numbersOf 67 = .ok (.iaload, 1) := by decide +kernel
theorem dX11_numbersOf_68 : decode cX11_numbersOf 68 = .ok (.if_icmp .ge 63, 3) := by decide +kernel
theorem dX11_numbersOf_71 : decode cX11_numbersOf 71 = .ok (.iload 8, 2) := by decide +kernel
theorem dX11_numbersOf_73 : decode cX11_numbersOf 73 = .ok (.ifCond .lt 58, 3) := by decide +kernel
theorem dX11_numbersOf_76 : decode cX11_numbersOf 76 = .ok (.aload_n 0, 1) := by decide +kernel
theorem dX11_numbersOf_77 : decode cX11_numbersOf 77 = .ok (.getfield 29, 3) := by decide +kernel
theorem dX11_numbersOf_80 : decode cX11_numbersOf 80 = .ok (.iload 8, 2) := by decide +kernel
theorem dX11_numbersOf_82 : decode cX11_numbersOf 82 = .ok (.laload, 1) := by decide +kernel
theorem dX11_numbersOf_83 : decode cX11_numbersOf 83 = .ok (.lload 4, 2) := by decide +kernel
theorem dX11_numbersOf_85 : decode cX11_numbersOf 85 = .ok (.lcmp, 1) := by decide +kernel
theorem dX11_numbersOf_86 : decode cX11_numbersOf 86 = .ok (.ifCond .le 30, 3) := by decide +kernel
theorem dX11_numbersOf_89 : decode cX11_numbersOf 89 = .ok (.iload 7, 2) := by decide +kernel
theorem dX11_numbersOf_9 : decode cX11_numbersOf 9 = .ok (.aload_n 0, 1) := by decide +kernel
theorem dX11_numbersOf_91 : decode cX11_numbersOf 91 = .ok (.ifCond .lt 21, 3) := by decide +kernel
theorem dX11_numbersOf_94 : decode cX11_numbersOf 94 = .ok (.aload_n 0, 1) := by decide +kernel
theorem dX11_numbersOf_95 : decode cX11_numbersOf 95 = .ok (.getfield 25, 3) := by decide +kernel
theorem dX11_numbersOf_98 : decode cX11_numbersOf 98 = .ok (.iload 8, 2) := by decide +kernel
noncomputable def k_X11_numbersOf_116 (l1 : Int32) (l2 : Int64) (l4 : Int64) (l6 : Int32) (l7 : Int32) (l8 : Int32) (l9 : Int32) (s : t_S) : Option ((Int32 × Int64 × Int64 × Int32 × Int32 × Int32 × Int32) ⊕ ((Int32 × Int64 × Int64 × Int32) ⊕ (Int64))) :=
 if t_ix l8 3001 = true then
  some (.inl (l1, l2, l4, l6, l7, (s.1 319 (l8.toNatClampNeg)), (l9 + 1)))
else none
set_option maxRecDepth 4000 in
set_option maxHeartbeats 1000000 in
theorem B_X11_numbersOf_116 {D : va_G} {cy : Nat → ClassId} {ad : Nat → Nat} {bs : Nat} {X : State → Heap → Prop} (l1 : Int32) (l2 : Int64) (l4 : Int64) (l6 : Int32) (l7 : Int32) (l8 : Int32) (l9 : Int32) (s : t_S) (Q : (Int32 × Int64 × Int64 × Int32 × Int32 × Int32 × Int32) ⊕ ((Int32 × Int64 × Int64 × Int32) ⊕ (Int64)) → Prop) (Hb35 : ∀ (y0 : Int32) (y1 : Int64) (y2 : Int64) (y3 : Int32), Q (.inr (.inl (y0, y1, y2, y3))) → mj_G D cy ad bs X cX11_numbersOf 10 yX11_numbersOf.cls (some .long) yX11_numbersOf.name 1 0 0 1065 (t_P (fun v s' => s' = s ∧ ∃ x, v = some (.long x) ∧ Q (.inr (.inr (x))))) 35 [(0, .ref 316), (1, .int (y0)), (2, .long (y1)), (4, .long (y2)), (6, .int (y3))] [] (t_m s) 1065 0 0) (Hb60 : ∀ (y0 : Int32) (y1 : Int64) (y2 : Int64) (y3 : Int32) (y4 : Int32) (y5 : Int32) (y6 : Int32), Q (.inl (y0, y1, y2, y3, y4, y5, y6)) → mj_G D cy ad bs X cX11_numbersOf 10 yX11_numbersOf.cls (some .long) yX11_numbersOf.name 1 0 0 1065 (t_P (fun v s' => s' = s ∧ ∃ x, v = some (.long x) ∧ Q (.inr (.inr (x))))) 60 [(0, .ref 316), (1, .int (y0)), (2, .long (y1)), (4, .long (y2)), (6, .int (y3)), (7, .int (y4)), (8, .int (y5)), (9, .int (y6))] [] (t_m s) 1065 0 0) (hk : t_hk (k_X11_numbersOf_116 l1 l2 l4 l6 l7 l8 l9 s) Q) : mj_G D cy ad bs X cX11_numbersOf 10 yX11_numbersOf.cls (some .long) yX11_numbersOf.name 1 0 0 1065 (t_P (fun v s' => s' = s ∧ ∃ x, v = some (.long x) ∧ Q (.inr (.inr (x))))) 116 [(0, .ref 316), (1, .int l1), (2, .long l2), (4, .long l4), (6, .int l6), (7, .int l7), (8, .int l8), (9, .int l9)] [] (t_m s) 1065 0 0 := by
  refine mj_aload_n dX11_numbersOf_116 0 rfl ?_
  refine t_getR 319 dX11_numbersOf_117 F_X11_16 qr_316_2 ?_
  refine mj_iload dX11_numbersOf_120 6 rfl ?_
  refine t_chkK hk (fun c0 hk => ?_)
  refine t_iald dX11_numbersOf_122 qa_319 (t_ixv c0) ?_
  refine mj_istore (lv2 := [(8, .int (s.1 319 (l8.toNatClampNeg))), (0, .ref 316), (1, .int l1), (2, .long l2), (4, .long l4), (6, .int l6), (7, .int l7), (9, .int l9)]) dX11_numbersOf_123 (by decide) rfl ?_
  refine mj_iinc (k := 7) (v := (l9 + 1)) (lv2 := [(9, .int (l9 + 1)), (8, .int (s.1 319 (l8.toNatClampNeg))), (0, .ref 316), (1, .int l1), (2, .long l2), (4, .long l4), (6, .int l6), (7, .int l7)]) dX11_numbersOf_125 rfl rfl (by decide) rfl ?_
  refine mj_goto 60 dX11_numbersOf_128 (by decide) ?_
  refine mj_sublv [(0, .ref 316), (1, .int l1), (2, .long l2), (4, .long l4), (6, .int l6), (7, .int l7), (8, .int (s.1 319 (l8.toNatClampNeg))), (9, .int (l9 + 1))] [2, 3, 4, 5, 6, 7, 1, 0] rfl ?_
  exact t_somK hk (fun hf => Hb60 l1 l2 l4 l6 l7 (s.1 319 (l8.toNatClampNeg)) (l9 + 1) hf)
noncomputable def k_X11_numbersOf_112 (l1 : Int32) (l2 : Int64) (l4 : Int64) (l6 : Int32) (l8 : Int32) (l9 : Int32) (s : t_S) : Option ((Int32 × Int64 × Int64 × Int32 × Int32 × Int32 × Int32) ⊕ ((Int32 × Int64 × Int64 × Int32) ⊕ (Int64))) :=
 k_X11_numbersOf_116 l1 l2 l4 l6 l8 l8 l9 s
set_option maxRecDepth 4000 in
set_option maxHeartbeats 1000000 in
theorem B_X11_numbersOf_112 {D : va_G} {cy : Nat → ClassId} {ad : Nat → Nat} {bs : Nat} {X : State → Heap → Prop} (l1 : Int32) (l2 : Int64) (l4 : Int64) (l6 : Int32) (l8 : Int32) (l9 : Int32) (s : t_S) (Q : (Int32 × Int64 × Int64 × Int32 × Int32 × Int32 × Int32) ⊕ ((Int32 × Int64 × Int64 × Int32) ⊕ (Int64)) → Prop) (Hb35 : ∀ (y0 : Int32) (y1 : Int64) (y2 : Int64) (y3 : Int32), Q (.inr (.inl (y0, y1, y2, y3))) → mj_G D cy ad bs X cX11_numbersOf 10 yX11_numbersOf.cls (some .long) yX11_numbersOf.name 1 0 0 1065 (t_P (fun v s' => s' = s ∧ ∃ x, v = some (.long x) ∧ Q (.inr (.inr (x))))) 35 [(0, .ref 316), (1, .int (y0)), (2, .long (y1)), (4, .long (y2)), (6, .int (y3))] [] (t_m s) 1065 0 0) (Hb60 : ∀ (y0 : Int32) (y1 : Int64) (y2 : Int64) (y3 : Int32) (y4 : Int32) (y5 : Int32) (y6 : Int32), Q (.inl (y0, y1, y2, y3, y4, y5, y6)) → mj_G D cy ad bs X cX11_numbersOf 10 yX11_numbersOf.cls (some .long) yX11_numbersOf.name 1 0 0 1065 (t_P (fun v s' => s' = s ∧ ∃ x, v = some (.long x) ∧ Q (.inr (.inr (x))))) 60 [(0, .ref 316), (1, .int (y0)), (2, .long (y1)), (4, .long (y2)), (6, .int (y3)), (7, .int (y4)), (8, .int (y5)), (9, .int (y6))] [] (t_m s) 1065 0 0) (hk : t_hk (k_X11_numbersOf_112 l1 l2 l4 l6 l8 l9 s) Q) : mj_G D cy ad bs X cX11_numbersOf 10 yX11_numbersOf.cls (some .long) yX11_numbersOf.name 1 0 0 1065 (t_P (fun v s' => s' = s ∧ ∃ x, v = some (.long x) ∧ Q (.inr (.inr (x))))) 112 [(0, .ref 316), (1, .int l1), (2, .long l2), (4, .long l4), (6, .int l6), (8, .int l8), (9, .int l9)] [] (t_m s) 1065 0 0 := by
  refine mj_iload dX11_numbersOf_112 5 rfl ?_
  refine mj_istore (lv2 := [(7, .int l8), (0, .ref 316), (1, .int l1), (2, .long l2), (4, .long l4), (6, .int l6), (8, .int l8), (9, .int l9)]) dX11_numbersOf_114 (by decide) rfl ?_
  refine mj_sublv [(0, .ref 316), (1, .int l1), (2, .long l2), (4, .long l4), (6, .int l6), (7, .int l8), (8, .int l8), (9, .int l9)] [1, 2, 3, 4, 5, 0, 6, 7] rfl ?_
  exact B_X11_numbersOf_116 _ _ _ _ _ _ _ _ _ (fun y0 y1 y2 y3 hx => Hb35 y0 y1 y2 y3 hx) (fun y0 y1 y2 y3 y4 y5 y6 hx => Hb60 y0 y1 y2 y3 y4 y5 y6 hx) hk
noncomputable def k_X11_numbersOf_172 (l1 : Int32) (l2 : Int64) (l4 : Int64) (l6 : Int32) (s : t_S) : Option ((Int32 × Int64 × Int64 × Int32) ⊕ (Int64)) :=
 some (.inl (l1, l2, l4, (l6 + 1)))
set_option maxRecDepth 4000 in
set_option maxHeartbeats 1000000 in
theorem B_X11_numbersOf_172 {D : va_G} {cy : Nat → ClassId} {ad : Nat → Nat} {bs : Nat} {X : State → Heap → Prop} (l1 : Int32) (l2 : Int64) (l4 : Int64) (l6 : Int32) (s : t_S) (Q : (Int32 × Int64 × Int64 × Int32) ⊕ (Int64) → Prop) (Hb35 : ∀ (y0 : Int32) (y1 : Int64) (y2 : Int64) (y3 : Int32), Q (.inl (y0, y1, y2, y3)) → mj_G D cy ad bs X cX11_numbersOf 10 yX11_numbersOf.cls (some .long) yX11_numbersOf.name 1 0 0 1065 (t_P (fun v s' => s' = s ∧ ∃ x, v = some (.long x) ∧ Q (.inr (x)))) 35 [(0, .ref 316), (1, .int (y0)), (2, .long (y1)), (4, .long (y2)), (6, .int (y3))] [] (t_m s) 1065 0 0) (hk : t_hk (k_X11_numbersOf_172 l1 l2 l4 l6 s) Q) : mj_G D cy ad bs X cX11_numbersOf 10 yX11_numbersOf.cls (some .long) yX11_numbersOf.name 1 0 0 1065 (t_P (fun v s' => s' = s ∧ ∃ x, v = some (.long x) ∧ Q (.inr (x)))) 172 [(0, .ref 316), (1, .int l1), (2, .long l2), (4, .long l4), (6, .int l6)] [] (t_m s) 1065 0 0 := by
  refine mj_iinc (k := 4) (v := (l6 + 1)) (lv2 := [(6, .int (l6 + 1)), (0, .ref 316), (1, .int l1), (2, .long l2), (4, .long l4)]) dX11_numbersOf_172 rfl rfl (by decide) rfl ?_
  refine mj_goto 35 dX11_numbersOf_175 (by decide) ?_
  refine mj_sublv [(0, .ref 316), (1, .int l1), (2, .long l2), (4, .long l4), (6, .int (l6 + 1))] [1, 2, 3, 4, 0] rfl ?_
  exact t_somK hk (fun hf => Hb35 l1 l2 l4 (l6 + 1) hf)
noncomputable def k_X11_numbersOf_131 (l1 : Int32) (l2 : Int64) (l4 : Int64) (l6 : Int32) (l7 : Int32) (s : t_S) : Option ((Int32 × Int64 × Int64 × Int32) ⊕ (Int64)) :=
 if l7 < (0 : Int32) then (k_X11_numbersOf_172 l1 l2 l4 l6 s)
 else (if t_ix l7 3001 = true then
  k_X11_numbersOf_172 l1 (l2 + (((s.2.1 323 (l7.toNatClampNeg)) - (if (l4 + (1 : Int64)) < (s.2.1 322 (l7.toNatClampNeg)) then (s.2.1 322 (l7.toNatClampNeg)) else (l4 + (1 : Int64)))) + (1 : Int64))) (s.2.1 323 (l7.toNatClampNeg)) l6 s
else none)
set_option maxRecDepth 4000 in
set_option maxHeartbeats 1000000 in
theorem B_X11_numbersOf_131 {D : va_G} {cy : Nat → ClassId} {ad : Nat → Nat} {bs : Nat} {X : State → Heap → Prop} (l1 : Int32) (l2 : Int64) (l4 : Int64) (l6 : Int32) (l7 : Int32) (s : t_S) (Q : (Int32 × Int64 × Int64 × Int32) ⊕ (Int64) → Prop) (Hb35 : ∀ (y0 : Int32) (y1 : Int64) (y2 : Int64) (y3 : Int32), Q (.inl (y0, y1, y2, y3)) → mj_G D cy ad bs X cX11_numbersOf 10 yX11_numbersOf.cls (some .long) yX11_numbersOf.name 1 0 0 1065 (t_P (fun v s' => s' = s ∧ ∃ x, v = some (.long x) ∧ Q (.inr (x)))) 35 [(0, .ref 316), (1, .int (y0)), (2, .long (y1)), (4, .long (y2)), (6, .int (y3))] [] (t_m s) 1065 0 0) (hk : t_hk (k_X11_numbersOf_131 l1 l2 l4 l6 l7 s) Q) : mj_G D cy ad bs X cX11_numbersOf 10 yX11_numbersOf.cls (some .long) yX11_numbersOf.name 1 0 0 1065 (t_P (fun v s' => s' = s ∧ ∃ x, v = some (.long x) ∧ Q (.inr (x)))) 131 [(0, .ref 316), (1, .int l1), (2, .long l2), (4, .long l4), (6, .int l6), (7, .int l7)] [] (t_m s) 1065 0 0 := by
  refine mj_iload dX11_numbersOf_131 5 rfl ?_
  refine mj_if_lt 172 dX11_numbersOf_133 (by decide) (fun z => t_posK hk z (fun hk => ?_)) (fun z => t_negK hk z (fun hk => ?_))
  · refine mj_sublv [(0, .ref 316), (1, .int l1), (2, .long l2), (4, .long l4), (6, .int l6)] [0, 1, 2, 3, 4] rfl ?_
    exact B_X11_numbersOf_172 _ _ _ _ _ _ (fun y0 y1 y2 y3 hx => Hb35 y0 y1 y2 y3 hx) hk
  · refine mj_lload_n dX11_numbersOf_136 2 rfl ?_
    refine mj_aload_n dX11_numbersOf_137 0 rfl ?_
    refine t_getR 323 dX11_numbersOf_138 F_X11_29 qr_316_6 ?_
    refine mj_iload dX11_numbersOf_141 5 rfl ?_
    refine t_chkK hk (fun c0 hk => ?_)
    refine t_lald dX11_numbersOf_143 qa_323 (t_ixv c0) ?_
    refine mj_aload_n dX11_numbersOf_144 0 rfl ?_
    refine t_getR 322 dX11_numbersOf_145 F_X11_25 qr_316_5 ?_
    refine mj_iload dX11_numbersOf_148 5 rfl ?_
    refine t_lald dX11_numbersOf_150 qa_322 (t_ixv c0) ?_
    refine mj_lload dX11_numbersOf_151 3 rfl ?_
    refine mj_lconst (v := 1) dX11_numbersOf_153 (by decide) ?_
    refine mj_ladd dX11_numbersOf_154 ?_
    refine mj_lmax dX11_numbersOf_155 MJ_max_X11_211 (Nat.le_of_ble_eq_true rfl) (Nat.le_of_ble_eq_true rfl) (Nat.le_of_ble_eq_true rfl) (Nat.le_of_ble_eq_true rfl) ?_
    refine mj_lsub dX11_numbersOf_158 ?_
    refine mj_lconst (v := 1) dX11_numbersOf_159 (by decide) ?_
    refine mj_ladd dX11_numbersOf_160 ?_
    refine mj_ladd dX11_numbersOf_161 ?_
    refine mj_lstore_n 2 (lv2 := [(2, .long (l2 + (((s.2.1 323 (l7.toNatClampNeg)) - (if (l4 + (1 : Int64)) < (s.2.1 322 (l7.toNatClampNeg)) then (s.2.1 322 (l7.toNatClampNeg)) else (l4 + (1 : Int64)))) + (1 : Int64)))), (0, .ref 316), (1, .int l1), (4, .long l4), (6, .int l6), (7, .int l7)]) dX11_numbersOf_162 rfl (by decide) rfl ?_
    refine mj_aload_n dX11_numbersOf_163 1 rfl ?_
    refine t_getR 323 dX11_numbersOf_164 F_X11_29 qr_316_6 ?_
    refine mj_iload dX11_numbersOf_167 5 rfl ?_
    refine t_lald dX11_numbersOf_169 qa_323 (t_ixv c0) ?_
    refine mj_lstore (lv2 := [(4, .long (s.2.1 323 (l7.toNatClampNeg))), (2, .long (l2 + (((s.2.1 323 (l7.toNatClampNeg)) - (if (l4 + (1 : Int64)) < (s.2.1 322 (l7.toNatClampNeg)) then (s.2.1 322 (l7.toNatClampNeg)) else (l4 + (1 : Int64)))) + (1 : Int64)))), (0, .ref 316), (1, .int l1), (6, .int l6), (7, .int l7)]) dX11_numbersOf_170 (by decide) rfl ?_
    refine mj_sublv [(0, .ref 316), (1, .int l1), (2, .long (l2 + (((s.2.1 323 (l7.toNatClampNeg)) - (if (l4 + (1 : Int64)) < (s.2.1 322 (l7.toNatClampNeg)) then (s.2.1 322 (l7.toNatClampNeg)) else (l4 + (1 : Int64)))) + (1 : Int64)))), (4, .long (s.2.1 323 (l7.toNatClampNeg))), (6, .int l6)] [2, 3, 1, 0, 4] rfl ?_
    exact B_X11_numbersOf_172 _ _ _ _ _ _ (fun y0 y1 y2 y3 hx => Hb35 y0 y1 y2 y3 hx) hk
noncomputable def k_X11_numbersOf_60 (l1 : Int32) (l2 : Int64) (l4 : Int64) (l6 : Int32) (l7 : Int32) (l8 : Int32) (l9 : Int32) (s : t_S) : Option ((Int32 × Int64 × Int64 × Int32 × Int32 × Int32 × Int32) ⊕ ((Int32 × Int64 × Int64 × Int32) ⊕ (Int64))) :=
 if t_ix l1 3001 = true then
  if (s.1 321 (l1.toNatClampNeg)) ≤ l9 then ((k_X11_numbersOf_131 l1 l2 l4 l6 l7 s).map Sum.inr)
 else (if l8 < (0 : Int32) then ((k_X11_numbersOf_131 l1 l2 l4 l6 l7 s).map Sum.inr)
 else (if t_ix l8 3001 = true then
  if (lg_cmp (s.2.1 323 (l8.toNatClampNeg)) l4) ≤ (0 : Int32) then (k_X11_numbersOf_116 l1 l2 l4 l6 l7 l8 l9 s)
 else (if l7 < (0 : Int32) then (k_X11_numbersOf_112 l1 l2 l4 l6 l8 l9 s)
 else (if t_ix l7 3001 = true then
  if (0 : Int32) ≤ (lg_cmp (s.2.1 322 (l8.toNatClampNeg)) (s.2.1 322 (l7.toNatClampNeg))) then (k_X11_numbersOf_116 l1 l2 l4 l6 l7 l8 l9 s)
 else (k_X11_numbersOf_112 l1 l2 l4 l6 l8 l9 s)
else none))
else none))
else none
set_option maxRecDepth 4000 in
set_option maxHeartbeats 1000000 in
theorem B_X11_numbersOf_60 {D : va_G} {cy : Nat → ClassId} {ad : Nat → Nat} {bs : Nat} {X : State → Heap → Prop} (l1 : Int32) (l2 : Int64) (l4 : Int64) (l6 : Int32) (l7 : Int32) (l8 : Int32) (l9 : Int32) (s : t_S) (Q : (Int32 × Int64 × Int64 × Int32 × Int32 × Int32 × Int32) ⊕ ((Int32 × Int64 × Int64 × Int32) ⊕ (Int64)) → Prop) (Hb35 : ∀ (y0 : Int32) (y1 : Int64) (y2 : Int64) (y3 : Int32), Q (.inr (.inl (y0, y1, y2, y3))) → mj_G D cy ad bs X cX11_numbersOf 10 yX11_numbersOf.cls (some .long) yX11_numbersOf.name 1 0 0 1065 (t_P (fun v s' => s' = s ∧ ∃ x, v = some (.long x) ∧ Q (.inr (.inr (x))))) 35 [(0, .ref 316), (1, .int (y0)), (2, .long (y1)), (4, .long (y2)), (6, .int (y3))] [] (t_m s) 1065 0 0) (Hb60 : ∀ (y0 : Int32) (y1 : Int64) (y2 : Int64) (y3 : Int32) (y4 : Int32) (y5 : Int32) (y6 : Int32), Q (.inl (y0, y1, y2, y3, y4, y5, y6)) → mj_G D cy ad bs X cX11_numbersOf 10 yX11_numbersOf.cls (some .long) yX11_numbersOf.name 1 0 0 1065 (t_P (fun v s' => s' = s ∧ ∃ x, v = some (.long x) ∧ Q (.inr (.inr (x))))) 60 [(0, .ref 316), (1, .int (y0)), (2, .long (y1)), (4, .long (y2)), (6, .int (y3)), (7, .int (y4)), (8, .int (y5)), (9, .int (y6))] [] (t_m s) 1065 0 0) (hk : t_hk (k_X11_numbersOf_60 l1 l2 l4 l6 l7 l8 l9 s) Q) : mj_G D cy ad bs X cX11_numbersOf 10 yX11_numbersOf.cls (some .long) yX11_numbersOf.name 1 0 0 1065 (t_P (fun v s' => s' = s ∧ ∃ x, v = some (.long x) ∧ Q (.inr (.inr (x))))) 60 [(0, .ref 316), (1, .int l1), (2, .long l2), (4, .long l4), (6, .int l6), (7, .int l7), (8, .int l8), (9, .int l9)] [] (t_m s) 1065 0 0 := by
  refine mj_iload dX11_numbersOf_60 7 rfl ?_
  refine mj_aload_n dX11_numbersOf_62 0 rfl ?_
  refine t_getR 321 dX11_numbersOf_63 F_X11_22 qr_316_4 ?_
  refine mj_iload_n dX11_numbersOf_66 1 rfl ?_
  refine t_chkK hk (fun c0 hk => ?_)
  refine t_iald dX11_numbersOf_67 qa_321 (t_ixv c0) ?_
  refine mj_icmp_ge 131 dX11_numbersOf_68 (by decide) (fun z => t_posK hk z (fun hk => ?_)) (fun z => t_negK hk z (fun hk => ?_))
  · refine mj_sublv [(0, .ref 316), (1, .int l1), (2, .long l2), (4, .long l4), (6, .int l6), (7, .int l7)] [0, 1, 2, 3, 4, 5] rfl ?_
    refine t_mapK hk (fun hk => ?_)
    exact B_X11_numbersOf_131 _ _ _ _ _ _ _ (fun y0 y1 y2 y3 hx => Hb35 y0 y1 y2 y3 hx) hk
  · refine mj_iload dX11_numbersOf_71 6 rfl ?_
    refine mj_if_lt 131 dX11_numbersOf_73 (by decide) (fun z => t_posK hk z (fun hk => ?_)) (fun z => t_negK hk z (fun hk => ?_))
    · refine mj_sublv [(0, .ref 316), (1, .int l1), (2, .long l2), (4, .long l4), (6, .int l6), (7, .int l7)] [0, 1, 2, 3, 4, 5] rfl ?_
      refine t_mapK hk (fun hk => ?_)
      exact B_X11_numbersOf_131 _ _ _ _ _ _ _ (fun y0 y1 y2 y3 hx => Hb35 y0 y1 y2 y3 hx) hk
    · refine mj_aload_n dX11_numbersOf_76 0 rfl ?_
      refine t_getR 323 dX11_numbersOf_77 F_X11_29 qr_316_6 ?_
      refine mj_iload dX11_numbersOf_80 6 rfl ?_
      refine t_chkK hk (fun c1 hk => ?_)
      refine t_lald dX11_numbersOf_82 qa_323 (t_ixv c1) ?_
      refine mj_lload dX11_numbersOf_83 3 rfl ?_
      refine mj_lcmp dX11_numbersOf_85 ?_
      refine mj_if_le 116 dX11_numbersOf_86 (by decide) (fun z => t_posK hk z (fun hk => ?_)) (fun z => t_negK hk z (fun hk => ?_))
      · exact B_X11_numbersOf_116 _ _ _ _ _ _ _ _ _ (fun y0 y1 y2 y3 hx => Hb35 y0 y1 y2 y3 hx) (fun y0 y1 y2 y3 y4 y5 y6 hx => Hb60 y0 y1 y2 y3 y4 y5 y6 hx) hk
      · refine mj_iload dX11_numbersOf_89 5 rfl ?_
        refine mj_if_lt 112 dX11_numbersOf_91 (by decide) (fun z => t_posK hk z (fun hk => ?_)) (fun z => t_negK hk z (fun hk => ?_))
        · refine mj_sublv [(0, .ref 316), (1, .int l1), (2, .long l2), (4, .long l4), (6, .int l6), (8, .int l8), (9, .int l9)] [0, 1, 2, 3, 4, 6, 7] rfl ?_
          exact B_X11_numbersOf_112 _ _ _ _ _ _ _ _ (fun y0 y1 y2 y3 hx => Hb35 y0 y1 y2 y3 hx) (fun y0 y1 y2 y3 y4 y5 y6 hx => Hb60 y0 y1 y2 y3 y4 y5 y6 hx) hk
        · refine mj_aload_n dX11_numbersOf_94 0 rfl ?_
          refine t_getR 322 dX11_numbersOf_95 F_X11_25 qr_316_5 ?_
          refine mj_iload dX11_numbersOf_98 6 rfl ?_
          refine t_lald dX11_numbersOf_100 qa_322 (t_ixv c1) ?_
          refine mj_aload_n dX11_numbersOf_101 0 rfl ?_
          refine t_getR 322 dX11_numbersOf_102 F_X11_25 qr_316_5 ?_
          refine mj_iload dX11_numbersOf_105 5 rfl ?_
          refine t_chkK hk (fun c2 hk => ?_)
          refine t_lald dX11_numbersOf_107 qa_322 (t_ixv c2) ?_
          refine mj_lcmp dX11_numbersOf_108 ?_
          refine mj_if_ge 116 dX11_numbersOf_109 (by decide) (fun z => t_posK hk z (fun hk => ?_)) (fun z => t_negK hk z (fun hk => ?_))
          · exact B_X11_numbersOf_116 _ _ _ _ _ _ _ _ _ (fun y0 y1 y2 y3 hx => Hb35 y0 y1 y2 y3 hx) (fun y0 y1 y2 y3 y4 y5 y6 hx => Hb60 y0 y1 y2 y3 y4 y5 y6 hx) hk
          · refine mj_sublv [(0, .ref 316), (1, .int l1), (2, .long l2), (4, .long l4), (6, .int l6), (8, .int l8), (9, .int l9)] [0, 1, 2, 3, 4, 6, 7] rfl ?_
            exact B_X11_numbersOf_112 _ _ _ _ _ _ _ _ (fun y0 y1 y2 y3 hx => Hb35 y0 y1 y2 y3 hx) (fun y0 y1 y2 y3 y4 y5 y6 hx => Hb60 y0 y1 y2 y3 y4 y5 y6 hx) hk
noncomputable def b_X11_numbersOf_60 (s : t_S) (x : Int32 × Int64 × Int64 × Int32 × Int32 × Int32 × Int32) : Option ((Int32 × Int64 × Int64 × Int32 × Int32 × Int32 × Int32) ⊕ ((Int32 × Int64 × Int64 × Int32) ⊕ (Int64))) := k_X11_numbersOf_60 x.1 x.2.1 x.2.2.1 x.2.2.2.1 x.2.2.2.2.1 x.2.2.2.2.2.1 x.2.2.2.2.2.2 s
set_option maxRecDepth 4000 in
set_option maxHeartbeats 1000000 in
theorem LH_X11_numbersOf_60 {D : va_G} {cy : Nat → ClassId} {ad : Nat → Nat} {bs : Nat} {X : State → Heap → Prop} (s : t_S) : ∀ (n : Nat) (y0 : Int32) (y1 : Int64) (y2 : Int64) (y3 : Int32) (y4 : Int32) (y5 : Int32) (y6 : Int32) (Q : (Int32 × Int64 × Int64 × Int32) ⊕ (Int64) → Prop) (Hb35 : ∀ (y0 : Int32) (y1 : Int64) (y2 : Int64) (y3 : Int32), Q (.inl (y0, y1, y2, y3)) → mj_G D cy ad bs X cX11_numbersOf 10 yX11_numbersOf.cls (some .long) yX11_numbersOf.name 1 0 0 1065 (t_P (fun v s' => s' = s ∧ ∃ x, v = some (.long x) ∧ Q (.inr (x)))) 35 [(0, .ref 316), (1, .int (y0)), (2, .long (y1)), (4, .long (y2)), (6, .int (y3))] [] (t_m s) 1065 0 0) (hk : t_hk (t_loop (b_X11_numbersOf_60 s) n (y0, y1, y2, y3, y4, y5, y6)) Q), mj_G D cy ad bs X cX11_numbersOf 10 yX11_numbersOf.cls (some .long) yX11_numbersOf.name 1 0 0 1065 (t_P (fun v s' => s' = s ∧ ∃ x, v = some (.long x) ∧ Q (.inr (x)))) 60 [(0, .ref 316), (1, .int (y0)), (2, .long (y1)), (4, .long (y2)), (6, .int (y3)), (7, .int (y4)), (8, .int (y5)), (9, .int (y6))] [] (t_m s) 1065 0 0 := by
  intro n
  induction n with
  | zero => intro y0 y1 y2 y3 y4 y5 y6 Q Hb35 hk; obtain ⟨r, hr, _⟩ := hk; cases hr
  | succ n ih =>
    intro y0 y1 y2 y3 y4 y5 y6 Q Hb35 hk
    exact B_X11_numbersOf_60 y0 y1 y2 y3 y4 y5 y6 s (fun y => t_lq (b_X11_numbersOf_60 s) n Q y) (fun y0' y1' y2' y3' hy => Hb35 y0' y1' y2' y3' hy) (fun y0' y1' y2' y3' y4' y5' y6' hy => ih y0' y1' y2' y3' y4' y5' y6' Q Hb35 hy) (t_lp hk)
noncomputable def k_X11_numbersOf_35 (l1 : Int32) (l2 : Int64) (l4 : Int64) (l6 : Int32) (s : t_S) : Option ((Int32 × Int64 × Int64 × Int32) ⊕ (Int64)) :=
 if t_ix l1 3001 = true then
  if (s.1 321 (l1.toNatClampNeg)) ≤ l6 then ((some (l2)).map Sum.inr)
 else (t_loop (b_X11_numbersOf_60 s) t_N (l1, l2, l4, l6, (-1), (s.1 318 (l1.toNatClampNeg)), 0))
else none
set_option maxRecDepth 4000 in
set_option maxHeartbeats 1000000 in
theorem B_X11_numbersOf_35 {D : va_G} {cy : Nat → ClassId} {ad : Nat → Nat} {bs : Nat} {X : State → Heap → Prop} (l1 : Int32) (l2 : Int64) (l4 : Int64) (l6 : Int32) (s : t_S) (Q : (Int32 × Int64 × Int64 × Int32) ⊕ (Int64) → Prop) (Hb35 : ∀ (y0 : Int32) (y1 : Int64) (y2 : Int64) (y3 : Int32), Q (.inl (y0, y1, y2, y3)) → mj_G D cy ad bs X cX11_numbersOf 10 yX11_numbersOf.cls (some .long) yX11_numbersOf.name 1 0 0 1065 (t_P (fun v s' => s' = s ∧ ∃ x, v = some (.long x) ∧ Q (.inr (x)))) 35 [(0, .ref 316), (1, .int (y0)), (2, .long (y1)), (4, .long (y2)), (6, .int (y3))] [] (t_m s) 1065 0 0) (hk : t_hk (k_X11_numbersOf_35 l1 l2 l4 l6 s) Q) : mj_G D cy ad bs X cX11_numbersOf 10 yX11_numbersOf.cls (some .long) yX11_numbersOf.name 1 0 0 1065 (t_P (fun v s' => s' = s ∧ ∃ x, v = some (.long x) ∧ Q (.inr (x)))) 35 [(0, .ref 316), (1, .int l1), (2, .long l2), (4, .long l4), (6, .int l6)] [] (t_m s) 1065 0 0 := by
  refine mj_iload dX11_numbersOf_35 4 rfl ?_
  refine mj_aload_n dX11_numbersOf_37 0 rfl ?_
  refine t_getR 321 dX11_numbersOf_38 F_X11_22 qr_316_4 ?_
  refine mj_iload_n dX11_numbersOf_41 1 rfl ?_
  refine t_chkK hk (fun c0 hk => ?_)
  refine t_iald dX11_numbersOf_42 qa_321 (t_ixv c0) ?_
  refine mj_icmp_ge 178 dX11_numbersOf_43 (by decide) (fun z => t_posK hk z (fun hk => ?_)) (fun z => t_negK hk z (fun hk => ?_))
  · refine t_mapK hk (fun hk => ?_)
    refine mj_lload_n dX11_numbersOf_178 2 rfl ?_
    exact t_somK hk (fun hf => t_lret dX11_numbersOf_179 rfl ⟨rfl, _, rfl, hf⟩ (Nat.le_of_ble_eq_true rfl) (Nat.le_of_ble_eq_true rfl))
  · refine mj_iconst (v := (-1)) dX11_numbersOf_46 (by decide) ?_
    refine mj_istore (lv2 := [(7, .int (-1)), (0, .ref 316), (1, .int l1), (2, .long l2), (4, .long l4), (6, .int l6)]) dX11_numbersOf_47 (by decide) rfl ?_
    refine mj_aload_n dX11_numbersOf_49 1 rfl ?_
    refine t_getR 318 dX11_numbersOf_50 F_X11_13 qr_316_1 ?_
    refine mj_iload_n dX11_numbersOf_53 2 rfl ?_
    refine t_iald dX11_numbersOf_54 qa_318 (t_ixv c0) ?_
    refine mj_istore (lv2 := [(8, .int (s.1 318 (l1.toNatClampNeg))), (7, .int (-1)), (0, .ref 316), (1, .int l1), (2, .long l2), (4, .long l4), (6, .int l6)]) dX11_numbersOf_55 (by decide) rfl ?_
    refine mj_iconst (v := 0) dX11_numbersOf_57 (by decide) ?_
    refine mj_istore (lv2 := [(9, .int 0), (8, .int (s.1 318 (l1.toNatClampNeg))), (7, .int (-1)), (0, .ref 316), (1, .int l1), (2, .long l2), (4, .long l4), (6, .int l6)]) dX11_numbersOf_58 (by decide) rfl ?_
    refine mj_sublv [(0, .ref 316), (1, .int l1), (2, .long l2), (4, .long l4), (6, .int l6), (7, .int (-1)), (8, .int (s.1 318 (l1.toNatClampNeg))), (9, .int 0)] [3, 4, 5, 6, 7, 2, 1, 0] rfl ?_
    exact LH_X11_numbersOf_60 _ _ l1 l2 l4 l6 (-1) (s.1 318 (l1.toNatClampNeg)) 0 _ (fun y0 y1 y2 y3 hx => Hb35 y0 y1 y2 y3 hx) hk
noncomputable def b_X11_numbersOf_35 (s : t_S) (x : Int32 × Int64 × Int64 × Int32) : Option ((Int32 × Int64 × Int64 × Int32) ⊕ (Int64)) := k_X11_numbersOf_35 x.1 x.2.1 x.2.2.1 x.2.2.2 s
set_option maxRecDepth 4000 in
set_option maxHeartbeats 1000000 in
theorem LH_X11_numbersOf_35 {D : va_G} {cy : Nat → ClassId} {ad : Nat → Nat} {bs : Nat} {X : State → Heap → Prop} (s : t_S) : ∀ (n : Nat) (y0 : Int32) (y1 : Int64) (y2 : Int64) (y3 : Int32) (Q : Int64 → Prop) (hk : t_hk (t_loop (b_X11_numbersOf_35 s) n (y0, y1, y2, y3)) Q), mj_G D cy ad bs X cX11_numbersOf 10 yX11_numbersOf.cls (some .long) yX11_numbersOf.name 1 0 0 1065 (t_P (fun v s' => s' = s ∧ ∃ x, v = some (.long x) ∧ Q (x))) 35 [(0, .ref 316), (1, .int (y0)), (2, .long (y1)), (4, .long (y2)), (6, .int (y3))] [] (t_m s) 1065 0 0 := by
  intro n
  induction n with
  | zero => intro y0 y1 y2 y3 Q hk; obtain ⟨r, hr, _⟩ := hk; cases hr
  | succ n ih =>
    intro y0 y1 y2 y3 Q hk
    exact B_X11_numbersOf_35 y0 y1 y2 y3 s (fun y => t_lq (b_X11_numbersOf_35 s) n Q y) (fun y0' y1' y2' y3' hy => ih y0' y1' y2' y3' Q hy) (t_lp hk)
noncomputable def f_X11_numbersOf (x1 : Int32) (s : t_S) : Option (Int64) :=
 if t_ix x1 3001 = true then
  if (s.1 321 (x1.toNatClampNeg)) = (0 : Int32) then (some (((s.2.1 323 (x1.toNatClampNeg)) - (s.2.1 322 (x1.toNatClampNeg))) + (1 : Int64)))
 else (t_loop (b_X11_numbersOf_35 s) t_N (x1, 0, (-2000000000000000), 0))
else none
set_option maxRecDepth 4000 in
set_option maxHeartbeats 1000000 in
theorem C_X11_numbersOf (x1 : Int32) (s : t_S) (r : Int64) (hr : f_X11_numbersOf x1 s = some r) : t_C yX11_numbersOf cX11_numbersOf 10 (some .long) 1 [.ref 316, .int x1] s (fun v s' => v = some (.long r) ∧ s' = s) := by
  refine t_C.imp (P := fun v s' => s' = s ∧ ∃ x, v = some (.long x) ∧ (fun q => q = r) (x)) (t_C.of (by decide +kernel) (Nat.le_of_ble_eq_true rfl) ?_) (fun v s' hp => by obtain ⟨rfl, x, rfl, rfl⟩ := hp; exact ⟨rfl, rfl⟩)
  intro D cy ad bs X
  have hk : t_hk (f_X11_numbersOf x1 s) (fun q => q = r) := ⟨r, hr, rfl⟩
  show mj_G D cy ad bs X cX11_numbersOf 10 yX11_numbersOf.cls (some .long) yX11_numbersOf.name 1 0 0 1065 (t_P (fun v s' => s' = s ∧ ∃ x, v = some (.long x) ∧ (fun q => q = r) (x))) 0 [(0, .ref 316), (1, .int x1)] [] (t_m s) 1065 0 0
  refine mj_aload_n dX11_numbersOf_0 0 rfl ?_
  refine t_getR 321 dX11_numbersOf_1 F_X11_22 qr_316_4 ?_
  refine mj_iload_n dX11_numbersOf_4 1 rfl ?_
  refine t_chkK hk (fun c0 hk => ?_)
  refine t_iald dX11_numbersOf_5 qa_321 (t_ixv c0) ?_
  refine mj_if_ne 25 dX11_numbersOf_6 (by decide) (fun z => t_negK hk z (fun hk => ?_)) (fun z => t_posK hk z (fun hk => ?_))
  · refine mj_lconst (v := 0) dX11_numbersOf_25 (by decide) ?_
    refine mj_lstore_n 2 (lv2 := [(2, .long 0), (0, .ref 316), (1, .int x1)]) dX11_numbersOf_26 rfl (by decide) rfl ?_
    refine mj_ldc2 dX11_numbersOf_27 K_X11_209 ?_
    refine mj_lstore (lv2 := [(4, .long (-2000000000000000)), (2, .long 0), (0, .ref 316), (1, .int x1)]) dX11_numbersOf_30 (by decide) rfl ?_
    refine mj_iconst (v := 0) dX11_numbersOf_32 (by decide) ?_
    refine mj_istore (lv2 := [(6, .int 0), (4, .long (-2000000000000000)), (2, .long 0), (0, .ref 316), (1, .int x1)]) dX11_numbersOf_33 (by decide) rfl ?_
    refine mj_sublv [(0, .ref 316), (1, .int x1), (2, .long 0), (4, .long (-2000000000000000)), (6, .int 0)] [3, 4, 2, 1, 0] rfl ?_
    exact LH_X11_numbersOf_35 _ _ x1 0 (-2000000000000000) 0 _ hk
  · refine mj_aload_n dX11_numbersOf_9 0 rfl ?_
    refine t_getR 323 dX11_numbersOf_10 F_X11_29 qr_316_6 ?_
    refine mj_iload_n dX11_numbersOf_13 1 rfl ?_
    refine t_lald dX11_numbersOf_14 qa_323 (t_ixv c0) ?_
    refine mj_aload_n dX11_numbersOf_15 0 rfl ?_
    refine t_getR 322 dX11_numbersOf_16 F_X11_25 qr_316_5 ?_
    refine mj_iload_n dX11_numbersOf_19 1 rfl ?_
    refine t_lald dX11_numbersOf_20 qa_322 (t_ixv c0) ?_
    refine mj_lsub dX11_numbersOf_21 ?_
    refine mj_lconst (v := 1) dX11_numbersOf_22 (by decide) ?_
    refine mj_ladd dX11_numbersOf_23 ?_
    exact t_somK hk (fun hf => t_lret dX11_numbersOf_24 rfl ⟨rfl, _, rfl, hf⟩ (Nat.le_of_ble_eq_true rfl) (Nat.le_of_ble_eq_true rfl))

theorem dX11_recordsOf_0 : decode cX11_recordsOf 0 = .ok (.aload_n 0, 1) := by decide +kernel
theorem dX11_recordsOf_1 : decode cX11_recordsOf 1 = .ok (.getfield 48, 3) := by decide +kernel
theorem dX11_recordsOf_100 : decode cX11_recordsOf 100 = .ok (.iload 6, 2) := by decide +kernel
theorem dX11_recordsOf_102 : decode cX11_recordsOf 102 = .ok (.iconst 1, 1) := by decide +kernel
theorem dX11_recordsOf_103 : decode cX11_recordsOf 103 = .ok (.isub, 1) := by decide +kernel
theorem dX11_recordsOf_104 : decode cX11_recordsOf 104 = .ok (.iload 9, 2) := by decide +kernel
theorem dX11_recordsOf_106 : decode cX11_recordsOf 106 = .ok (.isub, 1) := by decide +kernel
theorem dX11_recordsOf_107 : decode cX11_recordsOf 107 = .ok (.laload, 1) := by decide +kernel
theorem dX11_recordsOf_108 : decode cX11_recordsOf 108 = .ok (.aload_n 0, 1) := by decide +kernel
theorem dX11_recordsOf_109 : decode cX11_recordsOf 109 = .ok (.aload_n 0, 1) := by decide +kernel
theorem dX11_recordsOf_110 : decode cX11_recordsOf 110 = .ok (.getfield 13, 3) := by decide +kernel
theorem dX11_recordsOf_113 : decode cX11_recordsOf 113 = .ok (.iload_n 3, 1) := by decide +kernel
theorem dX11_recordsOf_114 : decode cX11_recordsOf 114 = .ok (.iaload, 1) := by decide +kernel
theorem dX11_recordsOf_115 : decode cX11_recordsOf 115 = .ok (.iload 9, 2) := by decide +kernel
theorem dX11_recordsOf_117 : decode cX11_recordsOf 117 = .ok (.invokevirtual 188, 3) := by decide +kernel
theorem dX11_recordsOf_12 : decode cX11_recordsOf 12 = .ok (.iconst 0, 1) := by decide +kernel
theorem dX11_recordsOf_120 : decode cX11_recordsOf 120 = .ok (.invokestatic 222, 3) := by decide +kernel
theorem dX11_recordsOf_123 : decode cX11_recordsOf 123 = .ok (.invokestatic 217, 3) := by decide +kernel
theorem dX11_recordsOf_126 : decode cX11_recordsOf 126 = .ok (.lstore 7, 2) := by decide +kernel
theorem dX11_recordsOf_128 : decode cX11_recordsOf 128 = .ok (.iinc 9 1, 3) := by decide +kernel
theorem dX11_recordsOf_13 : decode cX11_recordsOf 13 = .ok (.lconst 1, 1) := by decide +kernel
theorem dX11_recordsOf_131 : decode cX11_recordsOf 131 = .ok (.goto (-44), 3) := by decide +kernel
theorem dX11_recordsOf_134 : decode cX11_recordsOf 134 = .ok (.aload_n 0, 1) := by decide +kernel
theorem dX11_recordsOf_135 : decode cX11_recordsOf 135 = .ok (.getfield 48, 3) := by decide +kernel
theorem dX11_recordsOf_138 : decode cX11_recordsOf 138 = .ok (.iload 6, 2) := by decide +kernel
theorem dX11_recordsOf_14 : decode cX11_recordsOf 14 = .ok (.lastore, 1) := by decide +kernel
theorem dX11_recordsOf_140 : decode cX11_recordsOf 140 = .ok (.lload 7, 2) := by decide +kernel
theorem dX11_recordsOf_142 : decode cX11_recordsOf 142 = .ok (.lastore, 1) := by decide +kernel
theorem dX11_recordsOf_143 : decode cX11_recordsOf 143 = .ok (.iinc 6 (-1), 3) := by decide +kernel
theorem dX11_recordsOf_146 : decode cX11_recordsOf 146 = .ok (.goto (-85), 3) := by decide +kernel
theorem dX11_recordsOf_149 : decode cX11_recordsOf 149 = .ok (.aload_n 0, 1) := by decide +kernel
theorem dX11_recordsOf_15 : decode cX11_recordsOf 15 = .ok (.aload_n 0, 1) := by decide +kernel
theorem dX11_recordsOf_150 : decode cX11_recordsOf 150 = .ok (.getfield 16, 3) := by decide +kernel
theorem dX11_recordsOf_153 : decode cX11_recordsOf 153 = .ok (.iload_n 3, 1) := by decide +kernel
theorem dX11_recordsOf_154 : decode cX11_recordsOf 154 = .ok (.iaload, 1) := by decide +kernel
theorem dX11_recordsOf_155 : decode cX11_recordsOf 155 = .ok (.istore_n 3, 1) := by decide +kernel
theorem dX11_recordsOf_156 : decode cX11_recordsOf 156 = .ok (.iinc 4 1, 3) := by decide +kernel
theorem dX11_recordsOf_159 : decode cX11_recordsOf 159 = .ok (.goto (-134), 3) := by decide +kernel
theorem dX11_recordsOf_16 : decode cX11_recordsOf 16 = .ok (.getfield 13, 3) := by decide +kernel
theorem dX11_recordsOf_162 : decode cX11_recordsOf 162 = .ok (.aload_n 0, 1) := by decide +kernel
theorem dX11_recordsOf_163 : decode cX11_recordsOf 163 = .ok (.getfield 48, 3) := by decide +kernel
theorem dX11_recordsOf_166 : decode cX11_recordsOf 166 = .ok (.iload_n 2, 1) := by decide +kernel
theorem dX11_recordsOf_167 : decode cX11_recordsOf 167 = .ok (.iconst 1, 1) := by decide +kernel
theorem dX11_recordsOf_168 : decode cX11_recordsOf 168 = .ok (.isub, 1) := by decide +kernel
theorem dX11_recordsOf_169 : decode cX11_recordsOf 169 = .ok (.laload, 1) := by decide +kernel
theorem dX11_recordsOf_170 : decode cX11_recordsOf 170 = .ok (.lreturn, 1) := by decide +kernel
theorem dX11_recordsOf_19 : decode cX11_recordsOf 19 = .ok (.iload_n 1, 1) := by decide +kernel
theorem dX11_recordsOf_20 : decode cX11_recordsOf 20 = .ok (.iaload, 1) := by decide +kernel
theorem dX11_recordsOf_21 : decode cX11_recordsOf 21 = .ok (.istore_n 3, 1) := by decide +kernel
theorem dX11_recordsOf_22 : decode cX11_recordsOf 22 = .ok (.iconst 0, 1) := by decide +kernel
theorem dX11_recordsOf_23 : decode cX11_recordsOf 23 = .ok (.istore 4, 2) := by decide +kernel
theorem dX11_recordsOf_25 : decode cX11_recordsOf 25 = .ok (.iload 4, 2) := by decide +kernel
theorem dX11_recordsOf_27 : decode cX11_recordsOf 27 = .ok (.aload_n 0, 1) := by decide +kernel
theorem dX11_recordsOf_28 : decode cX11_recordsOf 28 = .ok (.getfield 22, 3) := by decide +kernel
theorem dX11_recordsOf_31 : decode cX11_recordsOf 31 = .ok (.iload_n 1, 1) := by decide +kernel
theorem dX11_recordsOf_32 : decode cX11_recordsOf 32 = .ok (.iaload, 1) := by decide +kernel
theorem dX11_recordsOf_33 : decode cX11_recordsOf 33 = .ok (.if_icmp .ge 129, 3) := by decide +kernel
theorem dX11_recordsOf_36 : decode cX11_recordsOf 36 = .ok (.iload_n 3, 1) := by decide +kernel
theorem dX11_recordsOf_37 : decode cX11_recordsOf 37 = .ok (.ifCond .lt 125, 3) := by decide +kernel
theorem dX11_recordsOf_4 : decode cX11_recordsOf 4 = .ok (.lconst 0, 1) := by decide +kernel
theorem dX11_recordsOf_40 : decode cX11_recordsOf 40 = .ok (.aload_n 0, 1) := by decide +kernel
theorem dX11_recordsOf_41 : decode cX11_recordsOf 41 = .ok (.getfield 22, 3) := by decide +kernel
theorem dX11_recordsOf_44 : decode cX11_recordsOf 44 = .ok (.iload_n 3, 1) := by decide +kernel
theorem dX11_recordsOf_45 : decode cX11_recordsOf 45 = .ok (.iaload, 1) := by decide +kernel
theorem dX11_recordsOf_46 : decode cX11_recordsOf 46 = .ok (.ifCond .eq 7, 3) := by decide +kernel
theorem dX11_recordsOf_49 : decode cX11_recordsOf 49 = .ok (.iconst 1, 1) := by decide +kernel
theorem dX11_recordsOf_5 : decode cX11_recordsOf 5 = .ok (.invokestatic 145, 3) := by decide +kernel
theorem dX11_recordsOf_50 : decode cX11_recordsOf 50 = .ok (.goto 4, 3) := by decide +kernel
theorem dX11_recordsOf_53 : decode cX11_recordsOf 53 = .ok (.iconst 0, 1) := by decide +kernel
theorem dX11_recordsOf_54 : decode cX11_recordsOf 54 = .ok (.istore 5, 2) := by decide +kernel
theorem dX11_recordsOf_56 : decode cX11_recordsOf 56 = .ok (.iload_n 2, 1) := by decide +kernel
theorem dX11_recordsOf_57 : decode cX11_recordsOf 57 = .ok (.iconst 1, 1) := by decide +kernel
theorem dX11_recordsOf_58 : decode cX11_recordsOf 58 = .ok (.isub, 1) := by decide +kernel
theorem dX11_recordsOf_59 : decode cX11_recordsOf 59 = .ok (.istore 6, 2) := by decide +kernel
theorem dX11_recordsOf_61 : decode cX11_recordsOf 61 = .ok (.iload 6, 2) := by decide +kernel
theorem dX11_recordsOf_63 : decode cX11_recordsOf 63 = .ok (.ifCond .lt 86, 3) := by decide +kernel
theorem dX11_recordsOf_66 : decode cX11_recordsOf 66 = .ok (.iload 5, 2) := by decide +kernel
theorem dX11_recordsOf_68 : decode cX11_recordsOf 68 = .ok (.ifCond .eq 13, 3) := by decide +kernel
theorem dX11_recordsOf_71 : decode cX11_recordsOf 71 = .ok (.aload_n 0, 1) := by decide +kernel
theorem dX11_recordsOf_72 : decode cX11_recordsOf 72 = .ok (.getfield 48, 3) := by decide +kernel
theorem dX11_recordsOf_75 : decode cX11_recordsOf 75 = .ok (.iload 6, 2) := by decide +kernel
theorem dX11_recordsOf_77 : decode cX11_recordsOf 77 = .ok (.laload, 1) := by decide +kernel
theorem dX11_recordsOf_78 : decode cX11_recordsOf 78 = .ok (.goto 4, 3) := by decide +kernel
theorem dX11_recordsOf_8 : decode cX11_recordsOf 8 = .ok (.aload_n 0, 1) := by decide +kernel
theorem dX11_recordsOf_81 : decode cX11_recordsOf 81 = .ok (.lconst 0, 1) := by decide +kernel
theorem dX11_recordsOf_82 : decode cX11_recordsOf 82 = .ok (.lstore 7, 2) := by decide +kernel
theorem dX11_recordsOf_84 : decode cX11_recordsOf 84 = .ok (.iconst 1, 1) := by decide +kernel
theorem dX11_recordsOf_85 : decode cX11_recordsOf 85 = .ok (.istore 9, 2) := by decide +kernel
theorem dX11_recordsOf_87 : decode cX11_recordsOf 87 = .ok (.iload 9, 2) := by decide +kernel
theorem dX11_recordsOf_89 : decode cX11_recordsOf 89 = .ok (.iload 6, 2) := by decide +kernel
theorem dX11_recordsOf_9 : decode cX11_recordsOf 9 = .ok (.getfield 48, 3) := by decide +kernel
theorem dX11_recordsOf_91 : decode cX11_recordsOf 91 = .ok (.if_icmp .ge 43, 3) := by decide +kernel
theorem dX11_recordsOf_94 : decode cX11_recordsOf 94 = .ok (.lload 7, 2) := by decide +kernel
theorem dX11_recordsOf_96 : decode cX11_recordsOf 96 = .ok (.aload_n 0, 1) := by decide +kernel
theorem dX11_recordsOf_97 : decode cX11_recordsOf 97 = .ok (.getfield 48, 3) := by decide +kernel
noncomputable def k_X11_recordsOf_162 (l2 : Int32) (s : t_S) : Option (Int64 × t_S) :=
 if t_ix (l2 - (1 : Int32)) 42 = true then
  some ((s.2.1 329 ((l2 - (1 : Int32)).toNatClampNeg)), s)
else none
set_option maxRecDepth 4000 in
set_option maxHeartbeats 1000000 in
theorem B_X11_recordsOf_162 {D : va_G} {cy : Nat → ClassId} {ad : Nat → Nat} {bs : Nat} {X : State → Heap → Prop} (l2 : Int32) (s : t_S) (Q : Int64 × t_S → Prop) (hk : t_hk (k_X11_recordsOf_162 l2 s) Q) : mj_G D cy ad bs X cX11_recordsOf 10 yX11_recordsOf.cls (some .long) yX11_recordsOf.name 3 0 0 1065 (t_P (fun v s' => ∃ x, v = some (.long x) ∧ Q ((x, s')))) 162 [(0, .ref 316), (2, .int l2)] [] (t_m s) 1065 0 0 := by
  refine mj_aload_n dX11_recordsOf_162 0 rfl ?_
  refine t_getR 329 dX11_recordsOf_163 F_X11_48 qr_316_16 ?_
  refine mj_iload_n dX11_recordsOf_166 1 rfl ?_
  refine mj_iconst (v := 1) dX11_recordsOf_167 (by decide) ?_
  refine mj_isub dX11_recordsOf_168 ?_
  refine t_chkK hk (fun c0 hk => ?_)
  refine t_lald dX11_recordsOf_169 qa_329 (t_ixv c0) ?_
  exact t_somK hk (fun hf => t_lret dX11_recordsOf_170 rfl ⟨_, rfl, hf⟩ (Nat.le_of_ble_eq_true rfl) (Nat.le_of_ble_eq_true rfl))
noncomputable def k_X11_recordsOf_87 (l1 : Int32) (l2 : Int32) (l3 : Int32) (l4 : Int32) (l5 : Int32) (l6 : Int32) (l7 : Int64) (l9 : Int32) (s : t_S) : Option ((Int32 × Int32 × Int32 × Int32 × Int32 × Int32 × Int64 × Int32 × t_S) ⊕ ((Int32 × Int32 × Int32 × Int32 × Int32 × Int32 × t_S) ⊕ ((Int32 × Int32 × Int32 × Int32 × t_S) ⊕ (Int64 × t_S)))) :=
 if l6 ≤ l9 then ((if t_ix l6 42 = true then
  t_let (t_setJ s 329 (l6.toNatClampNeg) l7) (fun s1 =>
 some (.inl (l1, l2, l3, l4, l5, (l6 + (-1)), s1)))
else none).map Sum.inr)
 else (if t_ix ((l6 - (1 : Int32)) - l9) 42 = true then
  if t_ix l3 3001 = true then
  (f_X11_waysAt (s.1 318 (l3.toNatClampNeg)) l9 s).bind (fun r4 =>
 (f_X11_times (s.2.1 329 (((l6 - (1 : Int32)) - l9).toNatClampNeg)) r4 s).bind (fun r5 =>
 some (.inl (l1, l2, l3, l4, l5, l6, (f_X11_plus l7 r5 s), (l9 + 1), s))))
else none
else none)
set_option maxRecDepth 4000 in
set_option maxHeartbeats 1000000 in
theorem B_X11_recordsOf_87 {D : va_G} {cy : Nat → ClassId} {ad : Nat → Nat} {bs : Nat} {X : State → Heap → Prop} (l1 : Int32) (l2 : Int32) (l3 : Int32) (l4 : Int32) (l5 : Int32) (l6 : Int32) (l7 : Int64) (l9 : Int32) (s : t_S) (Q : (Int32 × Int32 × Int32 × Int32 × Int32 × Int32 × Int64 × Int32 × t_S) ⊕ ((Int32 × Int32 × Int32 × Int32 × Int32 × Int32 × t_S) ⊕ ((Int32 × Int32 × Int32 × Int32 × t_S) ⊕ (Int64 × t_S))) → Prop) (Hb25 : ∀ (y0 : Int32) (y1 : Int32) (y2 : Int32) (y3 : Int32) (y4 : t_S), Q (.inr (.inr (.inl (y0, y1, y2, y3, y4)))) → mj_G D cy ad bs X cX11_recordsOf 10 yX11_recordsOf.cls (some .long) yX11_recordsOf.name 3 0 0 1065 (t_P (fun v s' => ∃ x, v = some (.long x) ∧ Q (.inr (.inr (.inr ((x, s'))))))) 25 [(0, .ref 316), (1, .int (y0)), (2, .int (y1)), (3, .int (y2)), (4, .int (y3))] [] (t_m y4) 1065 0 0) (Hb61 : ∀ (y0 : Int32) (y1 : Int32) (y2 : Int32) (y3 : Int32) (y4 : Int32) (y5 : Int32) (y6 : t_S), Q (.inr (.inl (y0, y1, y2, y3, y4, y5, y6))) → mj_G D cy ad bs X cX11_recordsOf 10 yX11_recordsOf.cls (some .long) yX11_recordsOf.name 3 0 0 1065 (t_P (fun v s' => ∃ x, v = some (.long x) ∧ Q (.inr (.inr (.inr ((x, s'))))))) 61 [(0, .ref 316), (1, .int (y0)), (2, .int (y1)), (3, .int (y2)), (4, .int (y3)), (5, .int (y4)), (6, .int (y5))] [] (t_m y6) 1065 0 0) (Hb87 : ∀ (y0 : Int32) (y1 : Int32) (y2 : Int32) (y3 : Int32) (y4 : Int32) (y5 : Int32) (y6 : Int64) (y7 : Int32) (y8 : t_S), Q (.inl (y0, y1, y2, y3, y4, y5, y6, y7, y8)) → mj_G D cy ad bs X cX11_recordsOf 10 yX11_recordsOf.cls (some .long) yX11_recordsOf.name 3 0 0 1065 (t_P (fun v s' => ∃ x, v = some (.long x) ∧ Q (.inr (.inr (.inr ((x, s'))))))) 87 [(0, .ref 316), (1, .int (y0)), (2, .int (y1)), (3, .int (y2)), (4, .int (y3)), (5, .int (y4)), (6, .int (y5)), (7, .long (y6)), (9, .int (y7))] [] (t_m y8) 1065 0 0) (hk : t_hk (k_X11_recordsOf_87 l1 l2 l3 l4 l5 l6 l7 l9 s) Q) : mj_G D cy ad bs X cX11_recordsOf 10 yX11_recordsOf.cls (some .long) yX11_recordsOf.name 3 0 0 1065 (t_P (fun v s' => ∃ x, v = some (.long x) ∧ Q (.inr (.inr (.inr ((x, s'))))))) 87 [(0, .ref 316), (1, .int l1), (2, .int l2), (3, .int l3), (4, .int l4), (5, .int l5), (6, .int l6), (7, .long l7), (9, .int l9)] [] (t_m s) 1065 0 0 := by
  refine mj_iload dX11_recordsOf_87 8 rfl ?_
  refine mj_iload dX11_recordsOf_89 6 rfl ?_
  refine mj_icmp_ge 134 dX11_recordsOf_91 (by decide) (fun z => t_posK hk z (fun hk => ?_)) (fun z => t_negK hk z (fun hk => ?_))
  · refine t_mapK hk (fun hk => ?_)
    refine mj_aload_n dX11_recordsOf_134 0 rfl ?_
    refine t_getR 329 dX11_recordsOf_135 F_X11_48 qr_316_16 ?_
    refine mj_iload dX11_recordsOf_138 6 rfl ?_
    refine mj_lload dX11_recordsOf_140 7 rfl ?_
    refine t_chkK hk (fun c0 hk => ?_)
    refine t_lastK dX11_recordsOf_142 qa_329 (t_ixv c0) (fun s1 ws1 => t_letE hk ws1 (fun hk => ?_))
    refine mj_iinc (k := 6) (v := (l6 + (-1))) (lv2 := [(6, .int (l6 + (-1))), (0, .ref 316), (1, .int l1), (2, .int l2), (3, .int l3), (4, .int l4), (5, .int l5), (7, .long l7), (9, .int l9)]) dX11_recordsOf_143 rfl rfl (by decide) rfl ?_
    refine mj_goto 61 dX11_recordsOf_146 (by decide) ?_
    refine mj_sublv [(0, .ref 316), (1, .int l1), (2, .int l2), (3, .int l3), (4, .int l4), (5, .int l5), (6, .int (l6 + (-1)))] [1, 2, 3, 4, 5, 6, 0] rfl ?_
    exact t_somK hk (fun hf => Hb61 l1 l2 l3 l4 l5 (l6 + (-1)) s1 hf)
  · refine mj_lload dX11_recordsOf_94 7 rfl ?_
    refine mj_aload_n dX11_recordsOf_96 0 rfl ?_
    refine t_getR 329 dX11_recordsOf_97 F_X11_48 qr_316_16 ?_
    refine mj_iload dX11_recordsOf_100 6 rfl ?_
    refine mj_iconst (v := 1) dX11_recordsOf_102 (by decide) ?_
    refine mj_isub dX11_recordsOf_103 ?_
    refine mj_iload dX11_recordsOf_104 8 rfl ?_
    refine mj_isub dX11_recordsOf_106 ?_
    refine t_chkK hk (fun c1 hk => ?_)
    refine t_lald dX11_recordsOf_107 qa_329 (t_ixv c1) ?_
    refine mj_aload_n dX11_recordsOf_108 0 rfl ?_
    refine mj_aload_n dX11_recordsOf_109 0 rfl ?_
    refine t_getR 318 dX11_recordsOf_110 F_X11_13 qr_316_1 ?_
    refine mj_iload_n dX11_recordsOf_113 3 rfl ?_
    refine t_chkK hk (fun c2 hk => ?_)
    refine t_iald dX11_recordsOf_114 qa_318 (t_ixv c2) ?_
    refine mj_iload dX11_recordsOf_115 8 rfl ?_
    refine t_bndK hk (fun r4 er4 hk => ?_)
    refine t_callVlP dX11_recordsOf_117 M_X11_waysAt (C_X11_waysAt _ _ _ _ er4) ML_X11_188 IM_X11_waysAt SE_X11_waysAt qc_316 rfl (As := [.int (s.1 318 (l3.toNatClampNeg)), .int l9]) rfl rfl (Nat.le_of_ble_eq_true rfl) (Nat.le_of_ble_eq_true rfl) (Nat.le_of_ble_eq_true rfl) (Nat.le_of_ble_eq_true rfl) ?_
    refine t_bndK hk (fun r5 er5 hk => ?_)
    refine t_callSlP dX11_recordsOf_120 M_X11_times (C_X11_times _ _ _ _ er5) ML_X11_222 SM_X11_times (As := [.long (s.2.1 329 (((l6 - (1 : Int32)) - l9).toNatClampNeg)), .long r4]) rfl rfl (Nat.le_of_ble_eq_true rfl) (Nat.le_of_ble_eq_true rfl) (Nat.le_of_ble_eq_true rfl) (Nat.le_of_ble_eq_true rfl) ?_
    refine t_callSlP dX11_recordsOf_123 M_X11_plus (C_X11_plus _ _ _) ML_X11_217 SM_X11_plus (As := [.long l7, .long r5]) rfl rfl (Nat.le_of_ble_eq_true rfl) (Nat.le_of_ble_eq_true rfl) (Nat.le_of_ble_eq_true rfl) (Nat.le_of_ble_eq_true rfl) ?_
    refine mj_lstore (lv2 := [(7, .long (f_X11_plus l7 r5 s)), (0, .ref 316), (1, .int l1), (2, .int l2), (3, .int l3), (4, .int l4), (5, .int l5), (6, .int l6), (9, .int l9)]) dX11_recordsOf_126 (by decide) rfl ?_
    refine mj_iinc (k := 8) (v := (l9 + 1)) (lv2 := [(9, .int (l9 + 1)), (7, .long (f_X11_plus l7 r5 s)), (0, .ref 316), (1, .int l1), (2, .int l2), (3, .int l3), (4, .int l4), (5, .int l5), (6, .int l6)]) dX11_recordsOf_128 rfl rfl (by decide) rfl ?_
    refine mj_goto 87 dX11_recordsOf_131 (by decide) ?_
    refine mj_sublv [(0, .ref 316), (1, .int l1), (2, .int l2), (3, .int l3), (4, .int l4), (5, .int l5), (6, .int l6), (7, .long (f_X11_plus l7 r5 s)), (9, .int (l9 + 1))] [2, 3, 4, 5, 6, 7, 8, 1, 0] rfl ?_
    exact t_somK hk (fun hf => Hb87 l1 l2 l3 l4 l5 l6 (f_X11_plus l7 r5 s) (l9 + 1) s hf)
noncomputable def b_X11_recordsOf_87 (x : Int32 × Int32 × Int32 × Int32 × Int32 × Int32 × Int64 × Int32 × t_S) : Option ((Int32 × Int32 × Int32 × Int32 × Int32 × Int32 × Int64 × Int32 × t_S) ⊕ ((Int32 × Int32 × Int32 × Int32 × Int32 × Int32 × t_S) ⊕ ((Int32 × Int32 × Int32 × Int32 × t_S) ⊕ (Int64 × t_S)))) := k_X11_recordsOf_87 x.1 x.2.1 x.2.2.1 x.2.2.2.1 x.2.2.2.2.1 x.2.2.2.2.2.1 x.2.2.2.2.2.2.1 x.2.2.2.2.2.2.2.1 x.2.2.2.2.2.2.2.2
set_option maxRecDepth 4000 in
set_option maxHeartbeats 1000000 in
theorem LH_X11_recordsOf_87 {D : va_G} {cy : Nat → ClassId} {ad : Nat → Nat} {bs : Nat} {X : State → Heap → Prop} : ∀ (n : Nat) (y0 : Int32) (y1 : Int32) (y2 : Int32) (y3 : Int32) (y4 : Int32) (y5 : Int32) (y6 : Int64) (y7 : Int32) (y8 : t_S) (Q : (Int32 × Int32 × Int32 × Int32 × Int32 × Int32 × t_S) ⊕ ((Int32 × Int32 × Int32 × Int32 × t_S) ⊕ (Int64 × t_S)) → Prop) (Hb25 : ∀ (y0 : Int32) (y1 : Int32) (y2 : Int32) (y3 : Int32) (y4 : t_S), Q (.inr (.inl (y0, y1, y2, y3, y4))) → mj_G D cy ad bs X cX11_recordsOf 10 yX11_recordsOf.cls (some .long) yX11_recordsOf.name 3 0 0 1065 (t_P (fun v s' => ∃ x, v = some (.long x) ∧ Q (.inr (.inr ((x, s')))))) 25 [(0, .ref 316), (1, .int (y0)), (2, .int (y1)), (3, .int (y2)), (4, .int (y3))] [] (t_m y4) 1065 0 0) (Hb61 : ∀ (y0 : Int32) (y1 : Int32) (y2 : Int32) (y3 : Int32) (y4 : Int32) (y5 : Int32) (y6 : t_S), Q (.inl (y0, y1, y2, y3, y4, y5, y6)) → mj_G D cy ad bs X cX11_recordsOf 10 yX11_recordsOf.cls (some .long) yX11_recordsOf.name 3 0 0 1065 (t_P (fun v s' => ∃ x, v = some (.long x) ∧ Q (.inr (.inr ((x, s')))))) 61 [(0, .ref 316), (1, .int (y0)), (2, .int (y1)), (3, .int (y2)), (4, .int (y3)), (5, .int (y4)), (6, .int (y5))] [] (t_m y6) 1065 0 0) (hk : t_hk (t_loop (b_X11_recordsOf_87) n (y0, y1, y2, y3, y4, y5, y6, y7, y8)) Q), mj_G D cy ad bs X cX11_recordsOf 10 yX11_recordsOf.cls (some .long) yX11_recordsOf.name 3 0 0 1065 (t_P (fun v s' => ∃ x, v = some (.long x) ∧ Q (.inr (.inr ((x, s')))))) 87 [(0, .ref 316), (1, .int (y0)), (2, .int (y1)), (3, .int (y2)), (4, .int (y3)), (5, .int (y4)), (6, .int (y5)), (7, .long (y6)), (9, .int (y7))] [] (t_m y8) 1065 0 0 := by
  intro n
  induction n with
  | zero => intro y0 y1 y2 y3 y4 y5 y6 y7 y8 Q Hb25 Hb61 hk; obtain ⟨r, hr, _⟩ := hk; cases hr
  | succ n ih =>
    intro y0 y1 y2 y3 y4 y5 y6 y7 y8 Q Hb25 Hb61 hk
    exact B_X11_recordsOf_87 y0 y1 y2 y3 y4 y5 y6 y7 y8 (fun y => t_lq (b_X11_recordsOf_87) n Q y) (fun y0' y1' y2' y3' y4' hy => Hb25 y0' y1' y2' y3' y4' hy) (fun y0' y1' y2' y3' y4' y5' y6' hy => Hb61 y0' y1' y2' y3' y4' y5' y6' hy) (fun y0' y1' y2' y3' y4' y5' y6' y7' y8' hy => ih y0' y1' y2' y3' y4' y5' y6' y7' y8' Q Hb25 Hb61 hy) (t_lp hk)
noncomputable def k_X11_recordsOf_82 (l1 : Int32) (l2 : Int32) (l3 : Int32) (l4 : Int32) (l5 : Int32) (l6 : Int32) (k0 : Int64) (s : t_S) : Option ((Int32 × Int32 × Int32 × Int32 × Int32 × Int32 × t_S) ⊕ ((Int32 × Int32 × Int32 × Int32 × t_S) ⊕ (Int64 × t_S))) :=
 t_loop (b_X11_recordsOf_87) t_N (l1, l2, l3, l4, l5, l6, k0, 1, s)
set_option maxRecDepth 4000 in
set_option maxHeartbeats 1000000 in
theorem B_X11_recordsOf_82 {D : va_G} {cy : Nat → ClassId} {ad : Nat → Nat} {bs : Nat} {X : State → Heap → Prop} (l1 : Int32) (l2 : Int32) (l3 : Int32) (l4 : Int32) (l5 : Int32) (l6 : Int32) (k0 : Int64) (s : t_S) (Q : (Int32 × Int32 × Int32 × Int32 × Int32 × Int32 × t_S) ⊕ ((Int32 × Int32 × Int32 × Int32 × t_S) ⊕ (Int64 × t_S)) → Prop) (Hb25 : ∀ (y0 : Int32) (y1 : Int32) (y2 : Int32) (y3 : Int32) (y4 : t_S), Q (.inr (.inl (y0, y1, y2, y3, y4))) → mj_G D cy ad bs X cX11_recordsOf 10 yX11_recordsOf.cls (some .long) yX11_recordsOf.name 3 0 0 1065 (t_P (fun v s' => ∃ x, v = some (.long x) ∧ Q (.inr (.inr ((x, s')))))) 25 [(0, .ref 316), (1, .int (y0)), (2, .int (y1)), (3, .int (y2)), (4, .int (y3))] [] (t_m y4) 1065 0 0) (Hb61 : ∀ (y0 : Int32) (y1 : Int32) (y2 : Int32) (y3 : Int32) (y4 : Int32) (y5 : Int32) (y6 : t_S), Q (.inl (y0, y1, y2, y3, y4, y5, y6)) → mj_G D cy ad bs X cX11_recordsOf 10 yX11_recordsOf.cls (some .long) yX11_recordsOf.name 3 0 0 1065 (t_P (fun v s' => ∃ x, v = some (.long x) ∧ Q (.inr (.inr ((x, s')))))) 61 [(0, .ref 316), (1, .int (y0)), (2, .int (y1)), (3, .int (y2)), (4, .int (y3)), (5, .int (y4)), (6, .int (y5))] [] (t_m y6) 1065 0 0) (hk : t_hk (k_X11_recordsOf_82 l1 l2 l3 l4 l5 l6 k0 s) Q) : mj_G D cy ad bs X cX11_recordsOf 10 yX11_recordsOf.cls (some .long) yX11_recordsOf.name 3 0 0 1065 (t_P (fun v s' => ∃ x, v = some (.long x) ∧ Q (.inr (.inr ((x, s')))))) 82 [(0, .ref 316), (1, .int l1), (2, .int l2), (3, .int l3), (4, .int l4), (5, .int l5), (6, .int l6)] [.long k0] (t_m s) 1065 0 0 := by
  refine mj_lstore (lv2 := [(7, .long k0), (0, .ref 316), (1, .int l1), (2, .int l2), (3, .int l3), (4, .int l4), (5, .int l5), (6, .int l6)]) dX11_recordsOf_82 (by decide) rfl ?_
  refine mj_iconst (v := 1) dX11_recordsOf_84 (by decide) ?_
  refine mj_istore (lv2 := [(9, .int 1), (7, .long k0), (0, .ref 316), (1, .int l1), (2, .int l2), (3, .int l3), (4, .int l4), (5, .int l5), (6, .int l6)]) dX11_recordsOf_85 (by decide) rfl ?_
  refine mj_sublv [(0, .ref 316), (1, .int l1), (2, .int l2), (3, .int l3), (4, .int l4), (5, .int l5), (6, .int l6), (7, .long k0), (9, .int 1)] [2, 3, 4, 5, 6, 7, 8, 1, 0] rfl ?_
  exact LH_X11_recordsOf_87 _ l1 l2 l3 l4 l5 l6 k0 1 s _ (fun y0 y1 y2 y3 y4 hx => Hb25 y0 y1 y2 y3 y4 hx) (fun y0 y1 y2 y3 y4 y5 y6 hx => Hb61 y0 y1 y2 y3 y4 y5 y6 hx) hk
noncomputable def k_X11_recordsOf_61 (l1 : Int32) (l2 : Int32) (l3 : Int32) (l4 : Int32) (l5 : Int32) (l6 : Int32) (s : t_S) : Option ((Int32 × Int32 × Int32 × Int32 × Int32 × Int32 × t_S) ⊕ ((Int32 × Int32 × Int32 × Int32 × t_S) ⊕ (Int64 × t_S))) :=
 if l6 < (0 : Int32) then ((if t_ix l3 3001 = true then
  some (.inl (l1, l2, (s.1 319 (l3.toNatClampNeg)), (l4 + 1), s))
else none).map Sum.inr)
 else (if l5 = (0 : Int32) then (k_X11_recordsOf_82 l1 l2 l3 l4 l5 l6 0 s)
 else (if t_ix l6 42 = true then
  k_X11_recordsOf_82 l1 l2 l3 l4 l5 l6 (s.2.1 329 (l6.toNatClampNeg)) s
else none))
set_option maxRecDepth 4000 in
set_option maxHeartbeats 1000000 in
theorem B_X11_recordsOf_61 {D : va_G} {cy : Nat → ClassId} {ad : Nat → Nat} {bs : Nat} {X : State → Heap → Prop} (l1 : Int32) (l2 : Int32) (l3 : Int32) (l4 : Int32) (l5 : Int32) (l6 : Int32) (s : t_S) (Q : (Int32 × Int32 × Int32 × Int32 × Int32 × Int32 × t_S) ⊕ ((Int32 × Int32 × Int32 × Int32 × t_S) ⊕ (Int64 × t_S)) → Prop) (Hb25 : ∀ (y0 : Int32) (y1 : Int32) (y2 : Int32) (y3 : Int32) (y4 : t_S), Q (.inr (.inl (y0, y1, y2, y3, y4))) → mj_G D cy ad bs X cX11_recordsOf 10 yX11_recordsOf.cls (some .long) yX11_recordsOf.name 3 0 0 1065 (t_P (fun v s' => ∃ x, v = some (.long x) ∧ Q (.inr (.inr ((x, s')))))) 25 [(0, .ref 316), (1, .int (y0)), (2, .int (y1)), (3, .int (y2)), (4, .int (y3))] [] (t_m y4) 1065 0 0) (Hb61 : ∀ (y0 : Int32) (y1 : Int32) (y2 : Int32) (y3 : Int32) (y4 : Int32) (y5 : Int32) (y6 : t_S), Q (.inl (y0, y1, y2, y3, y4, y5, y6)) → mj_G D cy ad bs X cX11_recordsOf 10 yX11_recordsOf.cls (some .long) yX11_recordsOf.name 3 0 0 1065 (t_P (fun v s' => ∃ x, v = some (.long x) ∧ Q (.inr (.inr ((x, s')))))) 61 [(0, .ref 316), (1, .int (y0)), (2, .int (y1)), (3, .int (y2)), (4, .int (y3)), (5, .int (y4)), (6, .int (y5))] [] (t_m y6) 1065 0 0) (hk : t_hk (k_X11_recordsOf_61 l1 l2 l3 l4 l5 l6 s) Q) : mj_G D cy ad bs X cX11_recordsOf 10 yX11_recordsOf.cls (some .long) yX11_recordsOf.name 3 0 0 1065 (t_P (fun v s' => ∃ x, v = some (.long x) ∧ Q (.inr (.inr ((x, s')))))) 61 [(0, .ref 316), (1, .int l1), (2, .int l2), (3, .int l3), (4, .int l4), (5, .int l5), (6, .int l6)] [] (t_m s) 1065 0 0 := by
  refine mj_iload dX11_recordsOf_61 6 rfl ?_
  refine mj_if_lt 149 dX11_recordsOf_63 (by decide) (fun z => t_posK hk z (fun hk => ?_)) (fun z => t_negK hk z (fun hk => ?_))
  · refine t_mapK hk (fun hk => ?_)
    refine mj_aload_n dX11_recordsOf_149 0 rfl ?_
    refine t_getR 319 dX11_recordsOf_150 F_X11_16 qr_316_2 ?_
    refine mj_iload_n dX11_recordsOf_153 3 rfl ?_
    refine t_chkK hk (fun c0 hk => ?_)
    refine t_iald dX11_recordsOf_154 qa_319 (t_ixv c0) ?_
    refine mj_istore_n 3 (lv2 := [(3, .int (s.1 319 (l3.toNatClampNeg))), (0, .ref 316), (1, .int l1), (2, .int l2), (4, .int l4), (5, .int l5), (6, .int l6)]) dX11_recordsOf_155 rfl (by decide) rfl ?_
    refine mj_iinc (k := 4) (v := (l4 + 1)) (lv2 := [(4, .int (l4 + 1)), (3, .int (s.1 319 (l3.toNatClampNeg))), (0, .ref 316), (1, .int l1), (2, .int l2), (5, .int l5), (6, .int l6)]) dX11_recordsOf_156 rfl rfl (by decide) rfl ?_
    refine mj_goto 25 dX11_recordsOf_159 (by decide) ?_
    refine mj_sublv [(0, .ref 316), (1, .int l1), (2, .int l2), (3, .int (s.1 319 (l3.toNatClampNeg))), (4, .int (l4 + 1))] [2, 3, 4, 1, 0] rfl ?_
    exact t_somK hk (fun hf => Hb25 l1 l2 (s.1 319 (l3.toNatClampNeg)) (l4 + 1) s hf)
  · refine mj_iload dX11_recordsOf_66 5 rfl ?_
    refine mj_if_eq 81 dX11_recordsOf_68 (by decide) (fun z => t_posK hk z (fun hk => ?_)) (fun z => t_negK hk z (fun hk => ?_))
    · refine mj_lconst (v := 0) dX11_recordsOf_81 (by decide) ?_
      exact B_X11_recordsOf_82 _ _ _ _ _ _ _ _ _ (fun y0 y1 y2 y3 y4 hx => Hb25 y0 y1 y2 y3 y4 hx) (fun y0 y1 y2 y3 y4 y5 y6 hx => Hb61 y0 y1 y2 y3 y4 y5 y6 hx) hk
    · refine mj_aload_n dX11_recordsOf_71 0 rfl ?_
      refine t_getR 329 dX11_recordsOf_72 F_X11_48 qr_316_16 ?_
      refine mj_iload dX11_recordsOf_75 6 rfl ?_
      refine t_chkK hk (fun c1 hk => ?_)
      refine t_lald dX11_recordsOf_77 qa_329 (t_ixv c1) ?_
      refine mj_goto 82 dX11_recordsOf_78 (by decide) ?_
      exact B_X11_recordsOf_82 _ _ _ _ _ _ _ _ _ (fun y0 y1 y2 y3 y4 hx => Hb25 y0 y1 y2 y3 y4 hx) (fun y0 y1 y2 y3 y4 y5 y6 hx => Hb61 y0 y1 y2 y3 y4 y5 y6 hx) hk
noncomputable def b_X11_recordsOf_61 (x : Int32 × Int32 × Int32 × Int32 × Int32 × Int32 × t_S) : Option ((Int32 × Int32 × Int32 × Int32 × Int32 × Int32 × t_S) ⊕ ((Int32 × Int32 × Int32 × Int32 × t_S) ⊕ (Int64 × t_S))) := k_X11_recordsOf_61 x.1 x.2.1 x.2.2.1 x.2.2.2.1 x.2.2.2.2.1 x.2.2.2.2.2.1 x.2.2.2.2.2.2
set_option maxRecDepth 4000 in
set_option maxHeartbeats 1000000 in
theorem LH_X11_recordsOf_61 {D : va_G} {cy : Nat → ClassId} {ad : Nat → Nat} {bs : Nat} {X : State → Heap → Prop} : ∀ (n : Nat) (y0 : Int32) (y1 : Int32) (y2 : Int32) (y3 : Int32) (y4 : Int32) (y5 : Int32) (y6 : t_S) (Q : (Int32 × Int32 × Int32 × Int32 × t_S) ⊕ (Int64 × t_S) → Prop) (Hb25 : ∀ (y0 : Int32) (y1 : Int32) (y2 : Int32) (y3 : Int32) (y4 : t_S), Q (.inl (y0, y1, y2, y3, y4)) → mj_G D cy ad bs X cX11_recordsOf 10 yX11_recordsOf.cls (some .long) yX11_recordsOf.name 3 0 0 1065 (t_P (fun v s' => ∃ x, v = some (.long x) ∧ Q (.inr ((x, s'))))) 25 [(0, .ref 316), (1, .int (y0)), (2, .int (y1)), (3, .int (y2)), (4, .int (y3))] [] (t_m y4) 1065 0 0) (hk : t_hk (t_loop (b_X11_recordsOf_61) n (y0, y1, y2, y3, y4, y5, y6)) Q), mj_G D cy ad bs X cX11_recordsOf 10 yX11_recordsOf.cls (some .long) yX11_recordsOf.name 3 0 0 1065 (t_P (fun v s' => ∃ x, v = some (.long x) ∧ Q (.inr ((x, s'))))) 61 [(0, .ref 316), (1, .int (y0)), (2, .int (y1)), (3, .int (y2)), (4, .int (y3)), (5, .int (y4)), (6, .int (y5))] [] (t_m y6) 1065 0 0 := by
  intro n
  induction n with
  | zero => intro y0 y1 y2 y3 y4 y5 y6 Q Hb25 hk; obtain ⟨r, hr, _⟩ := hk; cases hr
  | succ n ih =>
    intro y0 y1 y2 y3 y4 y5 y6 Q Hb25 hk
    exact B_X11_recordsOf_61 y0 y1 y2 y3 y4 y5 y6 (fun y => t_lq (b_X11_recordsOf_61) n Q y) (fun y0' y1' y2' y3' y4' hy => Hb25 y0' y1' y2' y3' y4' hy) (fun y0' y1' y2' y3' y4' y5' y6' hy => ih y0' y1' y2' y3' y4' y5' y6' Q Hb25 hy) (t_lp hk)
noncomputable def k_X11_recordsOf_54 (l1 : Int32) (l2 : Int32) (l3 : Int32) (l4 : Int32) (k0 : Int32) (s : t_S) : Option ((Int32 × Int32 × Int32 × Int32 × t_S) ⊕ (Int64 × t_S)) :=
 t_loop (b_X11_recordsOf_61) t_N (l1, l2, l3, l4, k0, (l2 - (1 : Int32)), s)
set_option maxRecDepth 4000 in
set_option maxHeartbeats 1000000 in
theorem B_X11_recordsOf_54 {D : va_G} {cy : Nat → ClassId} {ad : Nat → Nat} {bs : Nat} {X : State → Heap → Prop} (l1 : Int32) (l2 : Int32) (l3 : Int32) (l4 : Int32) (k0 : Int32) (s : t_S) (Q : (Int32 × Int32 × Int32 × Int32 × t_S) ⊕ (Int64 × t_S) → Prop) (Hb25 : ∀ (y0 : Int32) (y1 : Int32) (y2 : Int32) (y3 : Int32) (y4 : t_S), Q (.inl (y0, y1, y2, y3, y4)) → mj_G D cy ad bs X cX11_recordsOf 10 yX11_recordsOf.cls (some .long) yX11_recordsOf.name 3 0 0 1065 (t_P (fun v s' => ∃ x, v = some (.long x) ∧ Q (.inr ((x, s'))))) 25 [(0, .ref 316), (1, .int (y0)), (2, .int (y1)), (3, .int (y2)), (4, .int (y3))] [] (t_m y4) 1065 0 0) (hk : t_hk (k_X11_recordsOf_54 l1 l2 l3 l4 k0 s) Q) : mj_G D cy ad bs X cX11_recordsOf 10 yX11_recordsOf.cls (some .long) yX11_recordsOf.name 3 0 0 1065 (t_P (fun v s' => ∃ x, v = some (.long x) ∧ Q (.inr ((x, s'))))) 54 [(0, .ref 316), (1, .int l1), (2, .int l2), (3, .int l3), (4, .int l4)] [.int k0] (t_m s) 1065 0 0 := by
  refine mj_istore (lv2 := [(5, .int k0), (0, .ref 316), (1, .int l1), (2, .int l2), (3, .int l3), (4, .int l4)]) dX11_recordsOf_54 (by decide) rfl ?_
  refine mj_iload_n dX11_recordsOf_56 3 rfl ?_
  refine mj_iconst (v := 1) dX11_recordsOf_57 (by decide) ?_
  refine mj_isub dX11_recordsOf_58 ?_
  refine mj_istore (lv2 := [(6, .int (l2 - (1 : Int32))), (5, .int k0), (0, .ref 316), (1, .int l1), (2, .int l2), (3, .int l3), (4, .int l4)]) dX11_recordsOf_59 (by decide) rfl ?_
  refine mj_sublv [(0, .ref 316), (1, .int l1), (2, .int l2), (3, .int l3), (4, .int l4), (5, .int k0), (6, .int (l2 - (1 : Int32)))] [2, 3, 4, 5, 6, 1, 0] rfl ?_
  exact LH_X11_recordsOf_61 _ l1 l2 l3 l4 k0 (l2 - (1 : Int32)) s _ (fun y0 y1 y2 y3 y4 hx => Hb25 y0 y1 y2 y3 y4 hx) hk
noncomputable def k_X11_recordsOf_25 (l1 : Int32) (l2 : Int32) (l3 : Int32) (l4 : Int32) (s : t_S) : Option ((Int32 × Int32 × Int32 × Int32 × t_S) ⊕ (Int64 × t_S)) :=
 if t_ix l1 3001 = true then
  if (s.1 321 (l1.toNatClampNeg)) ≤ l4 then ((k_X11_recordsOf_162 l2 s).map Sum.inr)
 else (if l3 < (0 : Int32) then ((k_X11_recordsOf_162 l2 s).map Sum.inr)
 else (if t_ix l3 3001 = true then
  if (s.1 321 (l3.toNatClampNeg)) = (0 : Int32) then (k_X11_recordsOf_54 l1 l2 l3 l4 0 s)
 else (k_X11_recordsOf_54 l1 l2 l3 l4 1 s)
else none))
else none
set_option maxRecDepth 4000 in
set_option maxHeartbeats 1000000 in
theorem B_X11_recordsOf_25 {D : va_G} {cy : Nat → ClassId} {ad : Nat → Nat} {bs : Nat} {X : State → Heap → Prop} (l1 : Int32) (l2 : Int32) (l3 : Int32) (l4 : Int32) (s : t_S) (Q : (Int32 × Int32 × Int32 × Int32 × t_S) ⊕ (Int64 × t_S) → Prop) (Hb25 : ∀ (y0 : Int32) (y1 : Int32) (y2 : Int32) (y3 : Int32) (y4 : t_S), Q (.inl (y0, y1, y2, y3, y4)) → mj_G D cy ad bs X cX11_recordsOf 10 yX11_recordsOf.cls (some .long) yX11_recordsOf.name 3 0 0 1065 (t_P (fun v s' => ∃ x, v = some (.long x) ∧ Q (.inr ((x, s'))))) 25 [(0, .ref 316), (1, .int (y0)), (2, .int (y1)), (3, .int (y2)), (4, .int (y3))] [] (t_m y4) 1065 0 0) (hk : t_hk (k_X11_recordsOf_25 l1 l2 l3 l4 s) Q) : mj_G D cy ad bs X cX11_recordsOf 10 yX11_recordsOf.cls (some .long) yX11_recordsOf.name 3 0 0 1065 (t_P (fun v s' => ∃ x, v = some (.long x) ∧ Q (.inr ((x, s'))))) 25 [(0, .ref 316), (1, .int l1), (2, .int l2), (3, .int l3), (4, .int l4)] [] (t_m s) 1065 0 0 := by
  refine mj_iload dX11_recordsOf_25 4 rfl ?_
  refine mj_aload_n dX11_recordsOf_27 0 rfl ?_
  refine t_getR 321 dX11_recordsOf_28 F_X11_22 qr_316_4 ?_
  refine mj_iload_n dX11_recordsOf_31 1 rfl ?_
  refine t_chkK hk (fun c0 hk => ?_)
  refine t_iald dX11_recordsOf_32 qa_321 (t_ixv c0) ?_
  refine mj_icmp_ge 162 dX11_recordsOf_33 (by decide) (fun z => t_posK hk z (fun hk => ?_)) (fun z => t_negK hk z (fun hk => ?_))
  · refine mj_sublv [(0, .ref 316), (2, .int l2)] [0, 2] rfl ?_
    refine t_mapK hk (fun hk => ?_)
    exact B_X11_recordsOf_162 _ _ _ hk
  · refine mj_iload_n dX11_recordsOf_36 3 rfl ?_
    refine mj_if_lt 162 dX11_recordsOf_37 (by decide) (fun z => t_posK hk z (fun hk => ?_)) (fun z => t_negK hk z (fun hk => ?_))
    · refine mj_sublv [(0, .ref 316), (2, .int l2)] [0, 2] rfl ?_
      refine t_mapK hk (fun hk => ?_)
      exact B_X11_recordsOf_162 _ _ _ hk
    · refine mj_aload_n dX11_recordsOf_40 0 rfl ?_
      refine t_getR 321 dX11_recordsOf_41 F_X11_22 qr_316_4 ?_
      refine mj_iload_n dX11_recordsOf_44 3 rfl ?_
      refine t_chkK hk (fun c1 hk => ?_)
      refine t_iald dX11_recordsOf_45 qa_321 (t_ixv c1) ?_
      refine mj_if_eq 53 dX11_recordsOf_46 (by decide) (fun z => t_posK hk z (fun hk => ?_)) (fun z => t_negK hk z (fun hk => ?_))
      · refine mj_iconst (v := 0) dX11_recordsOf_53 (by decide) ?_
        exact B_X11_recordsOf_54 _ _ _ _ _ _ _ (fun y0 y1 y2 y3 y4 hx => Hb25 y0 y1 y2 y3 y4 hx) hk
      · refine mj_iconst (v := 1) dX11_recordsOf_49 (by decide) ?_
        refine mj_goto 54 dX11_recordsOf_50 (by decide) ?_
        exact B_X11_recordsOf_54 _ _ _ _ _ _ _ (fun y0 y1 y2 y3 y4 hx => Hb25 y0 y1 y2 y3 y4 hx) hk
noncomputable def b_X11_recordsOf_25 (x : Int32 × Int32 × Int32 × Int32 × t_S) : Option ((Int32 × Int32 × Int32 × Int32 × t_S) ⊕ (Int64 × t_S)) := k_X11_recordsOf_25 x.1 x.2.1 x.2.2.1 x.2.2.2.1 x.2.2.2.2
set_option maxRecDepth 4000 in
set_option maxHeartbeats 1000000 in
theorem LH_X11_recordsOf_25 {D : va_G} {cy : Nat → ClassId} {ad : Nat → Nat} {bs : Nat} {X : State → Heap → Prop} : ∀ (n : Nat) (y0 : Int32) (y1 : Int32) (y2 : Int32) (y3 : Int32) (y4 : t_S) (Q : Int64 × t_S → Prop) (hk : t_hk (t_loop (b_X11_recordsOf_25) n (y0, y1, y2, y3, y4)) Q), mj_G D cy ad bs X cX11_recordsOf 10 yX11_recordsOf.cls (some .long) yX11_recordsOf.name 3 0 0 1065 (t_P (fun v s' => ∃ x, v = some (.long x) ∧ Q ((x, s')))) 25 [(0, .ref 316), (1, .int (y0)), (2, .int (y1)), (3, .int (y2)), (4, .int (y3))] [] (t_m y4) 1065 0 0 := by
  intro n
  induction n with
  | zero => intro y0 y1 y2 y3 y4 Q hk; obtain ⟨r, hr, _⟩ := hk; cases hr
  | succ n ih =>
    intro y0 y1 y2 y3 y4 Q hk
    exact B_X11_recordsOf_25 y0 y1 y2 y3 y4 (fun y => t_lq (b_X11_recordsOf_25) n Q y) (fun y0' y1' y2' y3' y4' hy => ih y0' y1' y2' y3' y4' Q hy) (t_lp hk)
noncomputable def f_X11_recordsOf (x1 : Int32) (x2 : Int32) (s : t_S) : Option (Int64 × t_S) :=
 (f_J7_fill_d0a16 329 (0 : Int64) s).bind (fun r1 =>
 t_let (t_setJ r1 329 ((0 : Int32).toNatClampNeg) (1 : Int64)) (fun s1 =>
 if t_ix x1 3001 = true then
  t_loop (b_X11_recordsOf_25) t_N (x1, x2, (s1.1 318 (x1.toNatClampNeg)), 0, s1)
else none))
set_option maxRecDepth 4000 in
set_option maxHeartbeats 1000000 in
theorem C_X11_recordsOf (x1 : Int32) (x2 : Int32) (s : t_S) (r : Int64 × t_S) (hr : f_X11_recordsOf x1 x2 s = some r) : t_C yX11_recordsOf cX11_recordsOf 10 (some .long) 3 [.ref 316, .int x1, .int x2] s (fun v s' => v = some (.long r.1) ∧ s' = r.2) := by
  refine t_C.imp (P := fun v s' => ∃ x, v = some (.long x) ∧ (fun q => q = r) ((x, s'))) (t_C.of (by decide +kernel) (Nat.le_of_ble_eq_true rfl) ?_) (fun v s' hp => by obtain ⟨x, rfl, rfl⟩ := hp; exact ⟨rfl, rfl⟩)
  intro D cy ad bs X
  have hk : t_hk (f_X11_recordsOf x1 x2 s) (fun q => q = r) := ⟨r, hr, rfl⟩
  show mj_G D cy ad bs X cX11_recordsOf 10 yX11_recordsOf.cls (some .long) yX11_recordsOf.name 3 0 0 1065 (t_P (fun v s' => ∃ x, v = some (.long x) ∧ (fun q => q = r) ((x, s')))) 0 [(0, .ref 316), (1, .int x1), (2, .int x2)] [] (t_m s) 1065 0 0
  refine mj_aload_n dX11_recordsOf_0 0 rfl ?_
  refine t_getR 329 dX11_recordsOf_1 F_X11_48 qr_316_16 ?_
  refine mj_lconst (v := 0) dX11_recordsOf_4 (by decide) ?_
  refine t_bndK hk (fun r1 er1 hk => ?_)
  refine t_callSvE dX11_recordsOf_5 M_J7_fill_d0a16 (C_J7_fill_d0a16 _ _ _ _ er1) ML_X11_145 SM_J7_fill_d0a16 (As := [.ref 329, .long 0]) rfl rfl (Nat.le_of_ble_eq_true rfl) (Nat.le_of_ble_eq_true rfl) (Nat.le_of_ble_eq_true rfl) (Nat.le_of_ble_eq_true rfl) ?_
  refine mj_aload_n dX11_recordsOf_8 0 rfl ?_
  refine t_getR 329 dX11_recordsOf_9 F_X11_48 qr_316_16 ?_
  refine mj_iconst (v := 0) dX11_recordsOf_12 (by decide) ?_
  refine mj_lconst (v := 1) dX11_recordsOf_13 (by decide) ?_
  refine t_lastK dX11_recordsOf_14 qa_329 (by unfold vp_in; decide) (fun s1 ws1 => t_letE hk ws1 (fun hk => ?_))
  refine mj_aload_n dX11_recordsOf_15 0 rfl ?_
  refine t_getR 318 dX11_recordsOf_16 F_X11_13 qr_316_1 ?_
  refine mj_iload_n dX11_recordsOf_19 1 rfl ?_
  refine t_chkK hk (fun c1 hk => ?_)
  refine t_iald dX11_recordsOf_20 qa_318 (t_ixv c1) ?_
  refine mj_istore_n 3 (lv2 := [(3, .int (s1.1 318 (x1.toNatClampNeg))), (0, .ref 316), (1, .int x1), (2, .int x2)]) dX11_recordsOf_21 rfl (by decide) rfl ?_
  refine mj_iconst (v := 0) dX11_recordsOf_22 (by decide) ?_
  refine mj_istore (lv2 := [(4, .int 0), (3, .int (s1.1 318 (x1.toNatClampNeg))), (0, .ref 316), (1, .int x1), (2, .int x2)]) dX11_recordsOf_23 (by decide) rfl ?_
  refine mj_sublv [(0, .ref 316), (1, .int x1), (2, .int x2), (3, .int (s1.1 318 (x1.toNatClampNeg))), (4, .int 0)] [2, 3, 4, 1, 0] rfl ?_
  exact LH_X11_recordsOf_25 _ x1 x2 (s1.1 318 (x1.toNatClampNeg)) 0 s1 _ hk

theorem dX11_settle_0 : decode cX11_settle 0 = .ok (.aload_n 0, 1) := by decide +kernel
theorem dX11_settle_1 : decode cX11_settle 1 = .ok (.iconst 0, 1) := by decide +kernel
theorem dX11_settle_11 : decode cX11_settle 11 = .ok (.invokestatic 83, 3) := by decide +kernel
theorem dX11_settle_14 : decode cX11_settle 14 = .ok (.iconst 1, 1) := by decide +kernel
theorem dX11_settle_15 : decode cX11_settle 15 = .ok (.istore_n 1, 1) := by decide +kernel
theorem dX11_settle_16 : decode cX11_settle 16 = .ok (.iconst 0, 1) := by decide +kernel
theorem dX11_settle_17 : decode cX11_settle 17 = .ok (.istore_n 2, 1) := by decide +kernel
theorem dX11_settle_18 : decode cX11_settle 18 = .ok (.iload_n 1, 1) := by decide +kernel
theorem dX11_settle_19 : decode cX11_settle 19 = .ok (.ifCond .eq 63, 3) := by decide +kernel
theorem dX11_settle_2 : decode cX11_settle 2 = .ok (.putfield 79, 3) := by decide +kernel
theorem dX11_settle_22 : decode cX11_settle 22 = .ok (.iload_n 2, 1) := by decide +kernel
theorem dX11_settle_23 : decode cX11_settle 23 = .ok (.sipush 3001, 3) := by decide +kernel
theorem dX11_settle_26 : decode cX11_settle 26 = .ok (.if_icmp .gt 56, 3) := by decide +kernel
theorem dX11_settle_29 : decode cX11_settle 29 = .ok (.iconst 0, 1) := by decide +kernel
theorem dX11_settle_30 : decode cX11_settle 30 = .ok (.istore_n 1, 1) := by decide +kernel
theorem dX11_settle_31 : decode cX11_settle 31 = .ok (.aload_n 0, 1) := by decide +kernel
theorem dX11_settle_32 : decode cX11_settle 32 = .ok (.getfield 65, 3) := by decide +kernel
theorem dX11_settle_35 : decode cX11_settle 35 = .ok (.iconst 1, 1) := by decide +kernel
theorem dX11_settle_36 : decode cX11_settle 36 = .ok (.isub, 1) := by decide +kernel
theorem dX11_settle_37 : decode cX11_settle 37 = .ok (.istore_n 3, 1) := by decide +kernel
theorem dX11_settle_38 : decode cX11_settle 38 = .ok (.iload_n 3, 1) := by decide +kernel
theorem dX11_settle_39 : decode cX11_settle 39 = .ok (.ifCond .lt 37, 3) := by decide +kernel
theorem dX11_settle_42 : decode cX11_settle 42 = .ok (.aload_n 0, 1) := by decide +kernel
theorem dX11_settle_43 : decode cX11_settle 43 = .ok (.iload_n 3, 1) := by decide +kernel
theorem dX11_settle_44 : decode cX11_settle 44 = .ok (.invokevirtual 89, 3) := by decide +kernel
theorem dX11_settle_47 : decode cX11_settle 47 = .ok (.istore 4, 2) := by decide +kernel
theorem dX11_settle_49 : decode cX11_settle 49 = .ok (.iload 4, 2) := by decide +kernel
theorem dX11_settle_5 : decode cX11_settle 5 = .ok (.aload_n 0, 1) := by decide +kernel
theorem dX11_settle_51 : decode cX11_settle 51 = .ok (.aload_n 0, 1) := by decide +kernel
theorem dX11_settle_52 : decode cX11_settle 52 = .ok (.getfield 32, 3) := by decide +kernel
theorem dX11_settle_55 : decode cX11_settle 55 = .ok (.iload_n 3, 1) := by decide +kernel
theorem dX11_settle_56 : decode cX11_settle 56 = .ok (.iaload, 1) := by decide +kernel
theorem dX11_settle_57 : decode cX11_settle 57 = .ok (.if_icmp .ge 13, 3) := by decide +kernel
theorem dX11_settle_6 : decode cX11_settle 6 = .ok (.getfield 32, 3) := by decide +kernel
theorem dX11_settle_60 : decode cX11_settle 60 = .ok (.aload_n 0, 1) := by decide +kernel
theorem dX11_settle_61 : decode cX11_settle 61 = .ok (.getfield 32, 3) := by decide +kernel
theorem dX11_settle_64 : decode cX11_settle 64 = .ok (.iload_n 3, 1) := by decide +kernel
theorem dX11_settle_65 : decode cX11_settle 65 = .ok (.iload 4, 2) := by decide +kernel
theorem dX11_settle_67 : decode cX11_settle 67 = .ok (.iastore, 1) := by decide +kernel
theorem dX11_settle_68 : decode cX11_settle 68 = .ok (.iconst 1, 1) := by decide +kernel
theorem dX11_settle_69 : decode cX11_settle 69 = .ok (.istore_n 1, 1) := by decide +kernel
theorem dX11_settle_70 : decode cX11_settle 70 = .ok (.iinc 3 (-1), 3) := by decide +kernel
theorem dX11_settle_73 : decode cX11_settle 73 = .ok (.goto (-35), 3) := by decide +kernel
theorem dX11_settle_76 : decode cX11_settle 76 = .ok (.iinc 2 1, 3) := by decide +kernel
theorem dX11_settle_79 : decode cX11_settle 79 = .ok (.goto (-61), 3) := by decide +kernel
theorem dX11_settle_82 : decode cX11_settle 82 = .ok (.return_, 1) := by decide +kernel
theorem dX11_settle_9 : decode cX11_settle 9 = .ok (.ldc 82, 2) := by decide +kernel
noncomputable def k_X11_settle_70 (l1 : Int32) (l2 : Int32) (l3 : Int32) (s : t_S) : Option ((Int32 × Int32 × Int32 × t_S) ⊕ ((Int32 × Int32 × t_S) ⊕ (t_S))) :=
 some (.inl (l1, l2, (l3 + (-1)), s))
set_option maxRecDepth 4000 in
set_option maxHeartbeats 1000000 in
theorem B_X11_settle_70 {D : va_G} {cy : Nat → ClassId} {ad : Nat → Nat} {bs : Nat} {X : State → Heap → Prop} (l1 : Int32) (l2 : Int32) (l3 : Int32) (s : t_S) (Q : (Int32 × Int32 × Int32 × t_S) ⊕ ((Int32 × Int32 × t_S) ⊕ (t_S)) → Prop) (Hb18 : ∀ (y0 : Int32) (y1 : Int32) (y2 : t_S), Q (.inr (.inl (y0, y1, y2))) → mj_G D cy ad bs X cX11_settle 5 yX11_settle.cls none yX11_settle.name 3 0 0 1065 (t_P (fun v s' => v = none ∧ Q (.inr (.inr (s'))))) 18 [(0, .ref 316), (1, .int (y0)), (2, .int (y1))] [] (t_m y2) 1065 0 0) (Hb38 : ∀ (y0 : Int32) (y1 : Int32) (y2 : Int32) (y3 : t_S), Q (.inl (y0, y1, y2, y3)) → mj_G D cy ad bs X cX11_settle 5 yX11_settle.cls none yX11_settle.name 3 0 0 1065 (t_P (fun v s' => v = none ∧ Q (.inr (.inr (s'))))) 38 [(0, .ref 316), (1, .int (y0)), (2, .int (y1)), (3, .int (y2))] [] (t_m y3) 1065 0 0) (hk : t_hk (k_X11_settle_70 l1 l2 l3 s) Q) : mj_G D cy ad bs X cX11_settle 5 yX11_settle.cls none yX11_settle.name 3 0 0 1065 (t_P (fun v s' => v = none ∧ Q (.inr (.inr (s'))))) 70 [(0, .ref 316), (1, .int l1), (2, .int l2), (3, .int l3)] [] (t_m s) 1065 0 0 := by
  refine mj_iinc (k := 3) (v := (l3 + (-1))) (lv2 := [(3, .int (l3 + (-1))), (0, .ref 316), (1, .int l1), (2, .int l2)]) dX11_settle_70 rfl rfl (by decide) rfl ?_
  refine mj_goto 38 dX11_settle_73 (by decide) ?_
  refine mj_sublv [(0, .ref 316), (1, .int l1), (2, .int l2), (3, .int (l3 + (-1)))] [1, 2, 3, 0] rfl ?_
  exact t_somK hk (fun hf => Hb38 l1 l2 (l3 + (-1)) s hf)
noncomputable def k_X11_settle_38 (l1 : Int32) (l2 : Int32) (l3 : Int32) (s : t_S) : Option ((Int32 × Int32 × Int32 × t_S) ⊕ ((Int32 × Int32 × t_S) ⊕ (t_S))) :=
 if l3 < (0 : Int32) then ((some (.inl (l1, (l2 + 1), s))).map Sum.inr)
 else ((f_X11_leastOf l3 s).bind (fun r1 =>
 if t_ix l3 3001 = true then
  if (s.1 324 (l3.toNatClampNeg)) ≤ r1 then (k_X11_settle_70 l1 l2 l3 s)
 else (t_let (t_setI s 324 (l3.toNatClampNeg) r1) (fun s1 =>
 k_X11_settle_70 1 l2 l3 s1))
else none))
set_option maxRecDepth 4000 in
set_option maxHeartbeats 1000000 in
theorem B_X11_settle_38 {D : va_G} {cy : Nat → ClassId} {ad : Nat → Nat} {bs : Nat} {X : State → Heap → Prop} (l1 : Int32) (l2 : Int32) (l3 : Int32) (s : t_S) (Q : (Int32 × Int32 × Int32 × t_S) ⊕ ((Int32 × Int32 × t_S) ⊕ (t_S)) → Prop) (Hb18 : ∀ (y0 : Int32) (y1 : Int32) (y2 : t_S), Q (.inr (.inl (y0, y1, y2))) → mj_G D cy ad bs X cX11_settle 5 yX11_settle.cls none yX11_settle.name 3 0 0 1065 (t_P (fun v s' => v = none ∧ Q (.inr (.inr (s'))))) 18 [(0, .ref 316), (1, .int (y0)), (2, .int (y1))] [] (t_m y2) 1065 0 0) (Hb38 : ∀ (y0 : Int32) (y1 : Int32) (y2 : Int32) (y3 : t_S), Q (.inl (y0, y1, y2, y3)) → mj_G D cy ad bs X cX11_settle 5 yX11_settle.cls none yX11_settle.name 3 0 0 1065 (t_P (fun v s' => v = none ∧ Q (.inr (.inr (s'))))) 38 [(0, .ref 316), (1, .int (y0)), (2, .int (y1)), (3, .int (y2))] [] (t_m y3) 1065 0 0) (hk : t_hk (k_X11_settle_38 l1 l2 l3 s) Q) : mj_G D cy ad bs X cX11_settle 5 yX11_settle.cls none yX11_settle.name 3 0 0 1065 (t_P (fun v s' => v = none ∧ Q (.inr (.inr (s'))))) 38 [(0, .ref 316), (1, .int l1), (2, .int l2), (3, .int l3)] [] (t_m s) 1065 0 0 := by
  refine mj_iload_n dX11_settle_38 3 rfl ?_
  refine mj_if_lt 76 dX11_settle_39 (by decide) (fun z => t_posK hk z (fun hk => ?_)) (fun z => t_negK hk z (fun hk => ?_))
  · refine t_mapK hk (fun hk => ?_)
    refine mj_iinc (k := 2) (v := (l2 + 1)) (lv2 := [(2, .int (l2 + 1)), (0, .ref 316), (1, .int l1), (3, .int l3)]) dX11_settle_76 rfl rfl (by decide) rfl ?_
    refine mj_goto 18 dX11_settle_79 (by decide) ?_
    refine mj_sublv [(0, .ref 316), (1, .int l1), (2, .int (l2 + 1))] [1, 2, 0] rfl ?_
    exact t_somK hk (fun hf => Hb18 l1 (l2 + 1) s hf)
  · refine mj_aload_n dX11_settle_42 0 rfl ?_
    refine mj_iload_n dX11_settle_43 3 rfl ?_
    refine t_bndK hk (fun r1 er1 hk => ?_)
    refine t_callViP dX11_settle_44 M_X11_leastOf (C_X11_leastOf _ _ _ er1) ML_X11_89 IM_X11_leastOf SE_X11_leastOf qc_316 rfl (As := [.int l3]) rfl rfl (Nat.le_of_ble_eq_true rfl) (Nat.le_of_ble_eq_true rfl) (Nat.le_of_ble_eq_true rfl) (Nat.le_of_ble_eq_true rfl) ?_
    refine mj_istore (lv2 := [(4, .int r1), (0, .ref 316), (1, .int l1), (2, .int l2), (3, .int l3)]) dX11_settle_47 (by decide) rfl ?_
    refine mj_iload dX11_settle_49 0 rfl ?_
    refine mj_aload_n dX11_settle_51 1 rfl ?_
    refine t_getR 324 dX11_settle_52 F_X11_32 qr_316_7 ?_
    refine mj_iload_n dX11_settle_55 4 rfl ?_
    refine t_chkK hk (fun c1 hk => ?_)
    refine t_iald dX11_settle_56 qa_324 (t_ixv c1) ?_
    refine mj_icmp_ge 70 dX11_settle_57 (by decide) (fun z => t_posK hk z (fun hk => ?_)) (fun z => t_negK hk z (fun hk => ?_))
    · refine mj_sublv [(0, .ref 316), (1, .int l1), (2, .int l2), (3, .int l3)] [1, 2, 3, 4] rfl ?_
      exact B_X11_settle_70 _ _ _ _ _ (fun y0 y1 y2 hx => Hb18 y0 y1 y2 hx) (fun y0 y1 y2 y3 hx => Hb38 y0 y1 y2 y3 hx) hk
    · refine mj_aload_n dX11_settle_60 1 rfl ?_
      refine t_getR 324 dX11_settle_61 F_X11_32 qr_316_7 ?_
      refine mj_iload_n dX11_settle_64 4 rfl ?_
      refine mj_iload dX11_settle_65 0 rfl ?_
      refine t_iastK dX11_settle_67 qa_324 (t_ixv c1) (fun s1 ws1 => t_letE hk ws1 (fun hk => ?_))
      refine mj_iconst (v := 1) dX11_settle_68 (by decide) ?_
      refine mj_istore_n 1 (lv2 := [(1, .int 1), (4, .int r1), (0, .ref 316), (2, .int l2), (3, .int l3)]) dX11_settle_69 rfl (by decide) rfl ?_
      refine mj_sublv [(0, .ref 316), (1, .int 1), (2, .int l2), (3, .int l3)] [2, 0, 3, 4] rfl ?_
      exact B_X11_settle_70 _ _ _ _ _ (fun y0 y1 y2 hx => Hb18 y0 y1 y2 hx) (fun y0 y1 y2 y3 hx => Hb38 y0 y1 y2 y3 hx) hk
noncomputable def b_X11_settle_38 (x : Int32 × Int32 × Int32 × t_S) : Option ((Int32 × Int32 × Int32 × t_S) ⊕ ((Int32 × Int32 × t_S) ⊕ (t_S))) := k_X11_settle_38 x.1 x.2.1 x.2.2.1 x.2.2.2
set_option maxRecDepth 4000 in
set_option maxHeartbeats 1000000 in
theorem LH_X11_settle_38 {D : va_G} {cy : Nat → ClassId} {ad : Nat → Nat} {bs : Nat} {X : State → Heap → Prop} : ∀ (n : Nat) (y0 : Int32) (y1 : Int32) (y2 : Int32) (y3 : t_S) (Q : (Int32 × Int32 × t_S) ⊕ (t_S) → Prop) (Hb18 : ∀ (y0 : Int32) (y1 : Int32) (y2 : t_S), Q (.inl (y0, y1, y2)) → mj_G D cy ad bs X cX11_settle 5 yX11_settle.cls none yX11_settle.name 3 0 0 1065 (t_P (fun v s' => v = none ∧ Q (.inr (s')))) 18 [(0, .ref 316), (1, .int (y0)), (2, .int (y1))] [] (t_m y2) 1065 0 0) (hk : t_hk (t_loop (b_X11_settle_38) n (y0, y1, y2, y3)) Q), mj_G D cy ad bs X cX11_settle 5 yX11_settle.cls none yX11_settle.name 3 0 0 1065 (t_P (fun v s' => v = none ∧ Q (.inr (s')))) 38 [(0, .ref 316), (1, .int (y0)), (2, .int (y1)), (3, .int (y2))] [] (t_m y3) 1065 0 0 := by
  intro n
  induction n with
  | zero => intro y0 y1 y2 y3 Q Hb18 hk; obtain ⟨r, hr, _⟩ := hk; cases hr
  | succ n ih =>
    intro y0 y1 y2 y3 Q Hb18 hk
    exact B_X11_settle_38 y0 y1 y2 y3 (fun y => t_lq (b_X11_settle_38) n Q y) (fun y0' y1' y2' hy => Hb18 y0' y1' y2' hy) (fun y0' y1' y2' y3' hy => ih y0' y1' y2' y3' Q Hb18 hy) (t_lp hk)
noncomputable def k_X11_settle_18 (l1 : Int32) (l2 : Int32) (s : t_S) : Option ((Int32 × Int32 × t_S) ⊕ (t_S)) :=
 if l1 = (0 : Int32) then ((some (s)).map Sum.inr)
 else (if (3001 : Int32) < l2 then ((some (s)).map Sum.inr)
 else (t_loop (b_X11_settle_38) t_N (0, l2, ((s.1 316 8) - (1 : Int32)), s)))
set_option maxRecDepth 4000 in
set_option maxHeartbeats 1000000 in
theorem B_X11_settle_18 {D : va_G} {cy : Nat → ClassId} {ad : Nat → Nat} {bs : Nat} {X : State → Heap → Prop} (l1 : Int32) (l2 : Int32) (s : t_S) (Q : (Int32 × Int32 × t_S) ⊕ (t_S) → Prop) (Hb18 : ∀ (y0 : Int32) (y1 : Int32) (y2 : t_S), Q (.inl (y0, y1, y2)) → mj_G D cy ad bs X cX11_settle 5 yX11_settle.cls none yX11_settle.name 3 0 0 1065 (t_P (fun v s' => v = none ∧ Q (.inr (s')))) 18 [(0, .ref 316), (1, .int (y0)), (2, .int (y1))] [] (t_m y2) 1065 0 0) (hk : t_hk (k_X11_settle_18 l1 l2 s) Q) : mj_G D cy ad bs X cX11_settle 5 yX11_settle.cls none yX11_settle.name 3 0 0 1065 (t_P (fun v s' => v = none ∧ Q (.inr (s')))) 18 [(0, .ref 316), (1, .int l1), (2, .int l2)] [] (t_m s) 1065 0 0 := by
  refine mj_iload_n dX11_settle_18 1 rfl ?_
  refine mj_if_eq 82 dX11_settle_19 (by decide) (fun z => t_posK hk z (fun hk => ?_)) (fun z => t_negK hk z (fun hk => ?_))
  · refine t_mapK hk (fun hk => ?_)
    exact t_somK hk (fun hf => t_vret dX11_settle_82 rfl ⟨rfl, hf⟩ (Nat.le_of_ble_eq_true rfl) (Nat.le_of_ble_eq_true rfl))
  · refine mj_iload_n dX11_settle_22 2 rfl ?_
    refine mj_sipush (v := 3001) dX11_settle_23 (by decide) ?_
    refine mj_icmp_gt 82 dX11_settle_26 (by decide) (fun z => t_posK hk z (fun hk => ?_)) (fun z => t_negK hk z (fun hk => ?_))
    · refine t_mapK hk (fun hk => ?_)
      exact t_somK hk (fun hf => t_vret dX11_settle_82 rfl ⟨rfl, hf⟩ (Nat.le_of_ble_eq_true rfl) (Nat.le_of_ble_eq_true rfl))
    · refine mj_iconst (v := 0) dX11_settle_29 (by decide) ?_
      refine mj_istore_n 1 (lv2 := [(1, .int 0), (0, .ref 316), (2, .int l2)]) dX11_settle_30 rfl (by decide) rfl ?_
      refine mj_aload_n dX11_settle_31 1 rfl ?_
      refine t_getI dX11_settle_32 F_X11_65 qf_316_8 ?_
      refine mj_iconst (v := 1) dX11_settle_35 (by decide) ?_
      refine mj_isub dX11_settle_36 ?_
      refine mj_istore_n 3 (lv2 := [(3, .int ((s.1 316 8) - (1 : Int32))), (1, .int 0), (0, .ref 316), (2, .int l2)]) dX11_settle_37 rfl (by decide) rfl ?_
      refine mj_sublv [(0, .ref 316), (1, .int 0), (2, .int l2), (3, .int ((s.1 316 8) - (1 : Int32)))] [2, 1, 3, 0] rfl ?_
      exact LH_X11_settle_38 _ 0 l2 ((s.1 316 8) - (1 : Int32)) s _ (fun y0 y1 y2 hx => Hb18 y0 y1 y2 hx) hk
noncomputable def b_X11_settle_18 (x : Int32 × Int32 × t_S) : Option ((Int32 × Int32 × t_S) ⊕ (t_S)) := k_X11_settle_18 x.1 x.2.1 x.2.2
set_option maxRecDepth 4000 in
set_option maxHeartbeats 1000000 in
theorem LH_X11_settle_18 {D : va_G} {cy : Nat → ClassId} {ad : Nat → Nat} {bs : Nat} {X : State → Heap → Prop} : ∀ (n : Nat) (y0 : Int32) (y1 : Int32) (y2 : t_S) (Q : t_S → Prop) (hk : t_hk (t_loop (b_X11_settle_18) n (y0, y1, y2)) Q), mj_G D cy ad bs X cX11_settle 5 yX11_settle.cls none yX11_settle.name 3 0 0 1065 (t_P (fun v s' => v = none ∧ Q (s'))) 18 [(0, .ref 316), (1, .int (y0)), (2, .int (y1))] [] (t_m y2) 1065 0 0 := by
  intro n
  induction n with
  | zero => intro y0 y1 y2 Q hk; obtain ⟨r, hr, _⟩ := hk; cases hr
  | succ n ih =>
    intro y0 y1 y2 Q hk
    exact B_X11_settle_18 y0 y1 y2 (fun y => t_lq (b_X11_settle_18) n Q y) (fun y0' y1' y2' hy => ih y0' y1' y2' Q hy) (t_lp hk)
noncomputable def f_X11_settle (s : t_S) : Option (t_S) :=
 t_let (t_setI s 316 15 (0 : Int32)) (fun s1 =>
 (f_J7_fill_53178 324 (2000000 : Int32) s1).bind (fun r1 =>
 t_loop (b_X11_settle_18) t_N (1, 0, r1)))
set_option maxRecDepth 4000 in
set_option maxHeartbeats 1000000 in
theorem C_X11_settle (s : t_S) (r : t_S) (hr : f_X11_settle s = some r) : t_C yX11_settle cX11_settle 5 none 3 [.ref 316] s (fun v s' => v = none ∧ s' = r) := by
  refine t_C.imp (P := fun v s' => v = none ∧ (fun q => q = r) (s')) (t_C.of (by decide +kernel) (Nat.le_of_ble_eq_true rfl) ?_) (fun v s' hp => hp)
  intro D cy ad bs X
  have hk : t_hk (f_X11_settle s) (fun q => q = r) := ⟨r, hr, rfl⟩
  show mj_G D cy ad bs X cX11_settle 5 yX11_settle.cls none yX11_settle.name 3 0 0 1065 (t_P (fun v s' => v = none ∧ (fun q => q = r) (s'))) 0 [(0, .ref 316)] [] (t_m s) 1065 0 0
  refine mj_aload_n dX11_settle_0 0 rfl ?_
  refine mj_iconst (v := 0) dX11_settle_1 (by decide) ?_
  refine t_putIK dX11_settle_2 F_X11_79 qf_316_15 rfl (fun s1 ws1 => t_letE hk ws1 (fun hk => ?_))
  refine mj_aload_n dX11_settle_5 0 rfl ?_
  refine t_getR 324 dX11_settle_6 F_X11_32 qr_316_7 ?_
  refine mj_ldc dX11_settle_9 K_X11_82 ?_
  refine t_bndK hk (fun r1 er1 hk => ?_)
  refine t_callSvE dX11_settle_11 M_J7_fill_53178 (C_J7_fill_53178 _ _ _ _ er1) ML_X11_83 SM_J7_fill_53178 (As := [.ref 324, .int 2000000]) rfl rfl (Nat.le_of_ble_eq_true rfl) (Nat.le_of_ble_eq_true rfl) (Nat.le_of_ble_eq_true rfl) (Nat.le_of_ble_eq_true rfl) ?_
  refine mj_iconst (v := 1) dX11_settle_14 (by decide) ?_
  refine mj_istore_n 1 (lv2 := [(1, .int 1), (0, .ref 316)]) dX11_settle_15 rfl (by decide) rfl ?_
  refine mj_iconst (v := 0) dX11_settle_16 (by decide) ?_
  refine mj_istore_n 2 (lv2 := [(2, .int 0), (1, .int 1), (0, .ref 316)]) dX11_settle_17 rfl (by decide) rfl ?_
  refine mj_sublv [(0, .ref 316), (1, .int 1), (2, .int 0)] [2, 1, 0] rfl ?_
  exact LH_X11_settle_18 _ 1 0 r1 _ hk

theorem dX11_textsOf_0 : decode cX11_textsOf 0 = .ok (.lconst 0, 1) := by decide +kernel
theorem dX11_textsOf_1 : decode cX11_textsOf 1 = .ok (.lstore_n 3, 1) := by decide +kernel
theorem dX11_textsOf_10 : decode cX11_textsOf 10 = .ok (.bipush 40, 2) := by decide +kernel
theorem dX11_textsOf_12 : decode cX11_textsOf 12 = .ok (.if_icmp .gt 66, 3) := by decide +kernel
theorem dX11_textsOf_15 : decode cX11_textsOf 15 = .ok (.iload 7, 2) := by decide +kernel
theorem dX11_textsOf_17 : decode cX11_textsOf 17 = .ok (.i2l, 1) := by decide +kernel
theorem dX11_textsOf_18 : decode cX11_textsOf 18 = .ok (.aload_n 0, 1) := by decide +kernel
theorem dX11_textsOf_19 : decode cX11_textsOf 19 = .ok (.getfield 25, 3) := by decide +kernel
theorem dX11_textsOf_2 : decode cX11_textsOf 2 = .ok (.lconst 1, 1) := by decide +kernel
theorem dX11_textsOf_22 : decode cX11_textsOf 22 = .ok (.iload_n 1, 1) := by decide +kernel
theorem dX11_textsOf_23 : decode cX11_textsOf 23 = .ok (.laload, 1) := by decide +kernel
theorem dX11_textsOf_24 : decode cX11_textsOf 24 = .ok (.lcmp, 1) := by decide +kernel
theorem dX11_textsOf_25 : decode cX11_textsOf 25 = .ok (.ifCond .lt 37, 3) := by decide +kernel
theorem dX11_textsOf_28 : decode cX11_textsOf 28 = .ok (.iload 7, 2) := by decide +kernel
theorem dX11_textsOf_3 : decode cX11_textsOf 3 = .ok (.lstore 5, 2) := by decide +kernel
theorem dX11_textsOf_30 : decode cX11_textsOf 30 = .ok (.i2l, 1) := by decide +kernel
theorem dX11_textsOf_31 : decode cX11_textsOf 31 = .ok (.aload_n 0, 1) := by decide +kernel
theorem dX11_textsOf_32 : decode cX11_textsOf 32 = .ok (.getfield 29, 3) := by decide +kernel
theorem dX11_textsOf_35 : decode cX11_textsOf 35 = .ok (.iload_n 1, 1) := by decide +kernel
theorem dX11_textsOf_36 : decode cX11_textsOf 36 = .ok (.laload, 1) := by decide +kernel
theorem dX11_textsOf_37 : decode cX11_textsOf 37 = .ok (.lcmp, 1) := by decide +kernel
theorem dX11_textsOf_38 : decode cX11_textsOf 38 = .ok (.ifCond .gt 24, 3) := by decide +kernel
theorem dX11_textsOf_41 : decode cX11_textsOf 41 = .ok (.iconst 1, 1) := by decide +kernel
theorem dX11_textsOf_42 : decode cX11_textsOf 42 = .ok (.iload 7, 2) := by decide +kernel
theorem dX11_textsOf_44 : decode cX11_textsOf 44 = .ok (.bipush 7, 2) := by decide +kernel
theorem dX11_textsOf_46 : decode cX11_textsOf 46 = .ok (.iadd, 1) := by decide +kernel
theorem dX11_textsOf_47 : decode cX11_textsOf 47 = .ok (.bipush 8, 2) := by decide +kernel
theorem dX11_textsOf_49 : decode cX11_textsOf 49 = .ok (.idiv, 1) := by decide +kernel
theorem dX11_textsOf_5 : decode cX11_textsOf 5 = .ok (.iconst 0, 1) := by decide +kernel
theorem dX11_textsOf_50 : decode cX11_textsOf 50 = .ok (.iadd, 1) := by decide +kernel
theorem dX11_textsOf_51 : decode cX11_textsOf 51 = .ok (.iload_n 2, 1) := by decide +kernel
theorem dX11_textsOf_52 : decode cX11_textsOf 52 = .ok (.if_icmp .ne 10, 3) := by decide +kernel
theorem dX11_textsOf_55 : decode cX11_textsOf 55 = .ok (.lload_n 3, 1) := by decide +kernel
theorem dX11_textsOf_56 : decode cX11_textsOf 56 = .ok (.lload 5, 2) := by decide +kernel
theorem dX11_textsOf_58 : decode cX11_textsOf 58 = .ok (.invokestatic 217, 3) := by decide +kernel
theorem dX11_textsOf_6 : decode cX11_textsOf 6 = .ok (.istore 7, 2) := by decide +kernel
theorem dX11_textsOf_61 : decode cX11_textsOf 61 = .ok (.lstore_n 3, 1) := by decide +kernel
theorem dX11_textsOf_62 : decode cX11_textsOf 62 = .ok (.lload 5, 2) := by decide +kernel
theorem dX11_textsOf_64 : decode cX11_textsOf 64 = .ok (.ldc2_w 220, 3) := by decide +kernel
theorem dX11_textsOf_67 : decode cX11_textsOf 67 = .ok (.invokestatic 222, 3) := by decide +kernel
theorem dX11_textsOf_70 : decode cX11_textsOf 70 = .ok (.lstore 5, 2) := by decide +kernel
theorem dX11_textsOf_72 : decode cX11_textsOf 72 = .ok (.iinc 7 1, 3) := by decide +kernel
theorem dX11_textsOf_75 : decode cX11_textsOf 75 = .ok (.goto (-67), 3) := by decide +kernel
theorem dX11_textsOf_78 : decode cX11_textsOf 78 = .ok (.lload_n 3, 1) := by decide +kernel
theorem dX11_textsOf_79 : decode cX11_textsOf 79 = .ok (.lreturn, 1) := by decide +kernel
theorem dX11_textsOf_8 : decode cX11_textsOf 8 = .ok (.iload 7, 2) := by decide +kernel
noncomputable def k_X11_textsOf_62 (l1 : Int32) (l2 : Int32) (l3 : Int64) (l5 : Int64) (l7 : Int32) (s : t_S) : Option ((Int32 × Int32 × Int64 × Int64 × Int32) ⊕ (Int64)) :=
 (f_X11_times l5 (94 : Int64) s).bind (fun r1 =>
 some (.inl (l1, l2, l3, r1, (l7 + 1))))
set_option maxRecDepth 4000 in
set_option maxHeartbeats 1000000 in
theorem B_X11_textsOf_62 {D : va_G} {cy : Nat → ClassId} {ad : Nat → Nat} {bs : Nat} {X : State → Heap → Prop} (l1 : Int32) (l2 : Int32) (l3 : Int64) (l5 : Int64) (l7 : Int32) (s : t_S) (Q : (Int32 × Int32 × Int64 × Int64 × Int32) ⊕ (Int64) → Prop) (Hb8 : ∀ (y0 : Int32) (y1 : Int32) (y2 : Int64) (y3 : Int64) (y4 : Int32), Q (.inl (y0, y1, y2, y3, y4)) → mj_G D cy ad bs X cX11_textsOf 8 yX11_textsOf.cls (some .long) yX11_textsOf.name 1 0 0 1065 (t_P (fun v s' => s' = s ∧ ∃ x, v = some (.long x) ∧ Q (.inr (x)))) 8 [(0, .ref 316), (1, .int (y0)), (2, .int (y1)), (3, .long (y2)), (5, .long (y3)), (7, .int (y4))] [] (t_m s) 1065 0 0) (hk : t_hk (k_X11_textsOf_62 l1 l2 l3 l5 l7 s) Q) : mj_G D cy ad bs X cX11_textsOf 8 yX11_textsOf.cls (some .long) yX11_textsOf.name 1 0 0 1065 (t_P (fun v s' => s' = s ∧ ∃ x, v = some (.long x) ∧ Q (.inr (x)))) 62 [(0, .ref 316), (1, .int l1), (2, .int l2), (3, .long l3), (5, .long l5), (7, .int l7)] [] (t_m s) 1065 0 0 := by
  refine mj_lload dX11_textsOf_62 4 rfl ?_
  refine mj_ldc2 dX11_textsOf_64 K_X11_220 ?_
  refine t_bndK hk (fun r1 er1 hk => ?_)
  refine t_callSlP dX11_textsOf_67 M_X11_times (C_X11_times _ _ _ _ er1) ML_X11_222 SM_X11_times (As := [.long l5, .long 94]) rfl rfl (Nat.le_of_ble_eq_true rfl) (Nat.le_of_ble_eq_true rfl) (Nat.le_of_ble_eq_true rfl) (Nat.le_of_ble_eq_true rfl) ?_
  refine mj_lstore (lv2 := [(5, .long r1), (0, .ref 316), (1, .int l1), (2, .int l2), (3, .long l3), (7, .int l7)]) dX11_textsOf_70 (by decide) rfl ?_
  refine mj_iinc (k := 5) (v := (l7 + 1)) (lv2 := [(7, .int (l7 + 1)), (5, .long r1), (0, .ref 316), (1, .int l1), (2, .int l2), (3, .long l3)]) dX11_textsOf_72 rfl rfl (by decide) rfl ?_
  refine mj_goto 8 dX11_textsOf_75 (by decide) ?_
  refine mj_sublv [(0, .ref 316), (1, .int l1), (2, .int l2), (3, .long l3), (5, .long r1), (7, .int (l7 + 1))] [2, 3, 4, 5, 1, 0] rfl ?_
  exact t_somK hk (fun hf => Hb8 l1 l2 l3 r1 (l7 + 1) hf)
noncomputable def k_X11_textsOf_8 (l1 : Int32) (l2 : Int32) (l3 : Int64) (l5 : Int64) (l7 : Int32) (s : t_S) : Option ((Int32 × Int32 × Int64 × Int64 × Int32) ⊕ (Int64)) :=
 if (40 : Int32) < l7 then ((some (l3)).map Sum.inr)
 else (if t_ix l1 3001 = true then
  if (lg_cmp l7.toInt64 (s.2.1 322 (l1.toNatClampNeg))) < (0 : Int32) then (k_X11_textsOf_62 l1 l2 l3 l5 l7 s)
 else (if (0 : Int32) < (lg_cmp l7.toInt64 (s.2.1 323 (l1.toNatClampNeg))) then (k_X11_textsOf_62 l1 l2 l3 l5 l7 s)
 else (if ((1 : Int32) + ((l7 + (7 : Int32)) / (8 : Int32))) = l2 then (k_X11_textsOf_62 l1 l2 (f_X11_plus l3 l5 s) l5 l7 s)
 else (k_X11_textsOf_62 l1 l2 l3 l5 l7 s)))
else none)
set_option maxRecDepth 4000 in
set_option maxHeartbeats 1000000 in
theorem B_X11_textsOf_8 {D : va_G} {cy : Nat → ClassId} {ad : Nat → Nat} {bs : Nat} {X : State → Heap → Prop} (l1 : Int32) (l2 : Int32) (l3 : Int64) (l5 : Int64) (l7 : Int32) (s : t_S) (Q : (Int32 × Int32 × Int64 × Int64 × Int32) ⊕ (Int64) → Prop) (Hb8 : ∀ (y0 : Int32) (y1 : Int32) (y2 : Int64) (y3 : Int64) (y4 : Int32), Q (.inl (y0, y1, y2, y3, y4)) → mj_G D cy ad bs X cX11_textsOf 8 yX11_textsOf.cls (some .long) yX11_textsOf.name 1 0 0 1065 (t_P (fun v s' => s' = s ∧ ∃ x, v = some (.long x) ∧ Q (.inr (x)))) 8 [(0, .ref 316), (1, .int (y0)), (2, .int (y1)), (3, .long (y2)), (5, .long (y3)), (7, .int (y4))] [] (t_m s) 1065 0 0) (hk : t_hk (k_X11_textsOf_8 l1 l2 l3 l5 l7 s) Q) : mj_G D cy ad bs X cX11_textsOf 8 yX11_textsOf.cls (some .long) yX11_textsOf.name 1 0 0 1065 (t_P (fun v s' => s' = s ∧ ∃ x, v = some (.long x) ∧ Q (.inr (x)))) 8 [(0, .ref 316), (1, .int l1), (2, .int l2), (3, .long l3), (5, .long l5), (7, .int l7)] [] (t_m s) 1065 0 0 := by
  refine mj_iload dX11_textsOf_8 5 rfl ?_
  refine mj_bipush (v := 40) dX11_textsOf_10 (by decide) ?_
  refine mj_icmp_gt 78 dX11_textsOf_12 (by decide) (fun z => t_posK hk z (fun hk => ?_)) (fun z => t_negK hk z (fun hk => ?_))
  · refine t_mapK hk (fun hk => ?_)
    refine mj_lload_n dX11_textsOf_78 3 rfl ?_
    exact t_somK hk (fun hf => t_lret dX11_textsOf_79 rfl ⟨rfl, _, rfl, hf⟩ (Nat.le_of_ble_eq_true rfl) (Nat.le_of_ble_eq_true rfl))
  · refine mj_iload dX11_textsOf_15 5 rfl ?_
    refine mj_i2l (v := l7.toInt64) dX11_textsOf_17 rfl ?_
    refine mj_aload_n dX11_textsOf_18 0 rfl ?_
    refine t_getR 322 dX11_textsOf_19 F_X11_25 qr_316_5 ?_
    refine mj_iload_n dX11_textsOf_22 1 rfl ?_
    refine t_chkK hk (fun c0 hk => ?_)
    refine t_lald dX11_textsOf_23 qa_322 (t_ixv c0) ?_
    refine mj_lcmp dX11_textsOf_24 ?_
    refine mj_if_lt 62 dX11_textsOf_25 (by decide) (fun z => t_posK hk z (fun hk => ?_)) (fun z => t_negK hk z (fun hk => ?_))
    · exact B_X11_textsOf_62 _ _ _ _ _ _ _ (fun y0 y1 y2 y3 y4 hx => Hb8 y0 y1 y2 y3 y4 hx) hk
    · refine mj_iload dX11_textsOf_28 5 rfl ?_
      refine mj_i2l (v := l7.toInt64) dX11_textsOf_30 rfl ?_
      refine mj_aload_n dX11_textsOf_31 0 rfl ?_
      refine t_getR 323 dX11_textsOf_32 F_X11_29 qr_316_6 ?_
      refine mj_iload_n dX11_textsOf_35 1 rfl ?_
      refine t_lald dX11_textsOf_36 qa_323 (t_ixv c0) ?_
      refine mj_lcmp dX11_textsOf_37 ?_
      refine mj_if_gt 62 dX11_textsOf_38 (by decide) (fun z => t_posK hk z (fun hk => ?_)) (fun z => t_negK hk z (fun hk => ?_))
      · exact B_X11_textsOf_62 _ _ _ _ _ _ _ (fun y0 y1 y2 y3 y4 hx => Hb8 y0 y1 y2 y3 y4 hx) hk
      · refine mj_iconst (v := 1) dX11_textsOf_41 (by decide) ?_
        refine mj_iload dX11_textsOf_42 5 rfl ?_
        refine mj_bipush (v := 7) dX11_textsOf_44 (by decide) ?_
        refine mj_iadd dX11_textsOf_46 ?_
        refine mj_bipush (v := 8) dX11_textsOf_47 (by decide) ?_
        refine mj_idiv dX11_textsOf_49 (by decide) ?_
        refine mj_iadd dX11_textsOf_50 ?_
        refine mj_iload_n dX11_textsOf_51 2 rfl ?_
        refine mj_icmp_ne 62 dX11_textsOf_52 (by decide) (fun z => t_negK hk z (fun hk => ?_)) (fun z => t_posK hk z (fun hk => ?_))
        · exact B_X11_textsOf_62 _ _ _ _ _ _ _ (fun y0 y1 y2 y3 y4 hx => Hb8 y0 y1 y2 y3 y4 hx) hk
        · refine mj_lload_n dX11_textsOf_55 3 rfl ?_
          refine mj_lload dX11_textsOf_56 4 rfl ?_
          refine t_callSlP dX11_textsOf_58 M_X11_plus (C_X11_plus _ _ _) ML_X11_217 SM_X11_plus (As := [.long l3, .long l5]) rfl rfl (Nat.le_of_ble_eq_true rfl) (Nat.le_of_ble_eq_true rfl) (Nat.le_of_ble_eq_true rfl) (Nat.le_of_ble_eq_true rfl) ?_
          refine mj_lstore_n 3 (lv2 := [(3, .long (f_X11_plus l3 l5 s)), (0, .ref 316), (1, .int l1), (2, .int l2), (5, .long l5), (7, .int l7)]) dX11_textsOf_61 rfl (by decide) rfl ?_
          refine mj_sublv [(0, .ref 316), (1, .int l1), (2, .int l2), (3, .long (f_X11_plus l3 l5 s)), (5, .long l5), (7, .int l7)] [1, 2, 3, 0, 4, 5] rfl ?_
          exact B_X11_textsOf_62 _ _ _ _ _ _ _ (fun y0 y1 y2 y3 y4 hx => Hb8 y0 y1 y2 y3 y4 hx) hk
noncomputable def b_X11_textsOf_8 (s : t_S) (x : Int32 × Int32 × Int64 × Int64 × Int32) : Option ((Int32 × Int32 × Int64 × Int64 × Int32) ⊕ (Int64)) := k_X11_textsOf_8 x.1 x.2.1 x.2.2.1 x.2.2.2.1 x.2.2.2.2 s
set_option maxRecDepth 4000 in
set_option maxHeartbeats 1000000 in
theorem LH_X11_textsOf_8 {D : va_G} {cy : Nat → ClassId} {ad : Nat → Nat} {bs : Nat} {X : State → Heap → Prop} (s : t_S) : ∀ (n : Nat) (y0 : Int32) (y1 : Int32) (y2 : Int64) (y3 : Int64) (y4 : Int32) (Q : Int64 → Prop) (hk : t_hk (t_loop (b_X11_textsOf_8 s) n (y0, y1, y2, y3, y4)) Q), mj_G D cy ad bs X cX11_textsOf 8 yX11_textsOf.cls (some .long) yX11_textsOf.name 1 0 0 1065 (t_P (fun v s' => s' = s ∧ ∃ x, v = some (.long x) ∧ Q (x))) 8 [(0, .ref 316), (1, .int (y0)), (2, .int (y1)), (3, .long (y2)), (5, .long (y3)), (7, .int (y4))] [] (t_m s) 1065 0 0 := by
  intro n
  induction n with
  | zero => intro y0 y1 y2 y3 y4 Q hk; obtain ⟨r, hr, _⟩ := hk; cases hr
  | succ n ih =>
    intro y0 y1 y2 y3 y4 Q hk
    exact B_X11_textsOf_8 y0 y1 y2 y3 y4 s (fun y => t_lq (b_X11_textsOf_8 s) n Q y) (fun y0' y1' y2' y3' y4' hy => ih y0' y1' y2' y3' y4' Q hy) (t_lp hk)
noncomputable def f_X11_textsOf (x1 : Int32) (x2 : Int32) (s : t_S) : Option (Int64) :=
 t_loop (b_X11_textsOf_8 s) t_N (x1, x2, 0, 1, 0)
set_option maxRecDepth 4000 in
set_option maxHeartbeats 1000000 in
theorem C_X11_textsOf (x1 : Int32) (x2 : Int32) (s : t_S) (r : Int64) (hr : f_X11_textsOf x1 x2 s = some r) : t_C yX11_textsOf cX11_textsOf 8 (some .long) 1 [.ref 316, .int x1, .int x2] s (fun v s' => v = some (.long r) ∧ s' = s) := by
  refine t_C.imp (P := fun v s' => s' = s ∧ ∃ x, v = some (.long x) ∧ (fun q => q = r) (x)) (t_C.of (by decide +kernel) (Nat.le_of_ble_eq_true rfl) ?_) (fun v s' hp => by obtain ⟨rfl, x, rfl, rfl⟩ := hp; exact ⟨rfl, rfl⟩)
  intro D cy ad bs X
  have hk : t_hk (f_X11_textsOf x1 x2 s) (fun q => q = r) := ⟨r, hr, rfl⟩
  show mj_G D cy ad bs X cX11_textsOf 8 yX11_textsOf.cls (some .long) yX11_textsOf.name 1 0 0 1065 (t_P (fun v s' => s' = s ∧ ∃ x, v = some (.long x) ∧ (fun q => q = r) (x))) 0 [(0, .ref 316), (1, .int x1), (2, .int x2)] [] (t_m s) 1065 0 0
  refine mj_lconst (v := 0) dX11_textsOf_0 (by decide) ?_
  refine mj_lstore_n 3 (lv2 := [(3, .long 0), (0, .ref 316), (1, .int x1), (2, .int x2)]) dX11_textsOf_1 rfl (by decide) rfl ?_
  refine mj_lconst (v := 1) dX11_textsOf_2 (by decide) ?_
  refine mj_lstore (lv2 := [(5, .long 1), (3, .long 0), (0, .ref 316), (1, .int x1), (2, .int x2)]) dX11_textsOf_3 (by decide) rfl ?_
  refine mj_iconst (v := 0) dX11_textsOf_5 (by decide) ?_
  refine mj_istore (lv2 := [(7, .int 0), (5, .long 1), (3, .long 0), (0, .ref 316), (1, .int x1), (2, .int x2)]) dX11_textsOf_6 (by decide) rfl ?_
  refine mj_sublv [(0, .ref 316), (1, .int x1), (2, .int x2), (3, .long 0), (5, .long 1), (7, .int 0)] [3, 4, 5, 2, 1, 0] rfl ?_
  exact LH_X11_textsOf_8 _ _ x1 x2 0 1 0 _ hk

theorem dX11_waysOf_0 : decode cX11_waysOf 0 = .ok (.aload_n 0, 1) := by decide +kernel
theorem dX11_waysOf_1 : decode cX11_waysOf 1 = .ok (.getfield 9, 3) := by decide +kernel
theorem dX11_waysOf_100 : decode cX11_waysOf 100 = .ok (.aload_n 0, 1) := by decide +kernel
theorem dX11_waysOf_101 : decode cX11_waysOf 101 = .ok (.iload_n 1, 1) := by decide +kernel
theorem dX11_waysOf_102 : decode cX11_waysOf 102 = .ok (.iload_n 2, 1) := by decide +kernel
theorem dX11_waysOf_103 : decode cX11_waysOf 103 = .ok (.invokevirtual 200, 3) := by decide +kernel
theorem dX11_waysOf_106 : decode cX11_waysOf 106 = .ok (.lreturn, 1) := by decide +kernel
theorem dX11_waysOf_107 : decode cX11_waysOf 107 = .ok (.aload_n 0, 1) := by decide +kernel
theorem dX11_waysOf_108 : decode cX11_waysOf 108 = .ok (.iload_n 1, 1) := by decide +kernel
theorem dX11_waysOf_109 : decode cX11_waysOf 109 = .ok (.iload_n 2, 1) := by decide +kernel
theorem dX11_waysOf_110 : decode cX11_waysOf 110 = .ok (.invokevirtual 203, 3) := by decide +kernel
theorem dX11_waysOf_113 : decode cX11_waysOf 113 = .ok (.lreturn, 1) := by decide +kernel
theorem dX11_waysOf_114 : decode cX11_waysOf 114 = .ok (.aload_n 0, 1) := by decide +kernel
theorem dX11_waysOf_115 : decode cX11_waysOf 115 = .ok (.iload_n 1, 1) := by decide +kernel
theorem dX11_waysOf_116 : decode cX11_waysOf 116 = .ok (.iload_n 2, 1) := by decide +kernel
theorem dX11_waysOf_117 : decode cX11_waysOf 117 = .ok (.invokevirtual 206, 3) := by decide +kernel
theorem dX11_waysOf_120 : decode cX11_waysOf 120 = .ok (.lreturn, 1) := by decide +kernel
theorem dX11_waysOf_121 : decode cX11_waysOf 121 = .ok (.lconst 0, 1) := by decide +kernel
theorem dX11_waysOf_122 : decode cX11_waysOf 122 = .ok (.lreturn, 1) := by decide +kernel
theorem dX11_waysOf_4 : decode cX11_waysOf 4 = .ok (.iload_n 1, 1) := by decide +kernel
theorem dX11_waysOf_48 : decode cX11_waysOf 48 = .ok (.iload_n 2, 1) := by decide +kernel
theorem dX11_waysOf_49 : decode cX11_waysOf 49 = .ok (.iconst 1, 1) := by decide +kernel
theorem dX11_waysOf_5 : decode cX11_waysOf 5 = .ok (.iaload, 1) := by decide +kernel
theorem dX11_waysOf_50 : decode cX11_waysOf 50 = .ok (.if_icmp .ne 11, 3) := by decide +kernel
theorem dX11_waysOf_53 : decode cX11_waysOf 53 = .ok (.aload_n 0, 1) := by decide +kernel
theorem dX11_waysOf_54 : decode cX11_waysOf 54 = .ok (.iload_n 1, 1) := by decide +kernel
theorem dX11_waysOf_55 : decode cX11_waysOf 55 = .ok (.invokevirtual 191, 3) := by decide +kernel
theorem dX11_waysOf_58 : decode cX11_waysOf 58 = .ok (.goto 4, 3) := by decide +kernel
theorem dX11_waysOf_6 : decode cX11_waysOf 6 = .ok (.tableswitch 115 1 7 #[42, 57, 87, 70, 94, 101, 108], 42) := by decide +kernel
theorem dX11_waysOf_61 : decode cX11_waysOf 61 = .ok (.lconst 0, 1) := by decide +kernel
theorem dX11_waysOf_62 : decode cX11_waysOf 62 = .ok (.lreturn, 1) := by decide +kernel
theorem dX11_waysOf_63 : decode cX11_waysOf 63 = .ok (.iload_n 2, 1) := by decide +kernel
theorem dX11_waysOf_64 : decode cX11_waysOf 64 = .ok (.iconst 1, 1) := by decide +kernel
theorem dX11_waysOf_65 : decode cX11_waysOf 65 = .ok (.if_icmp .ne 9, 3) := by decide +kernel
theorem dX11_waysOf_68 : decode cX11_waysOf 68 = .ok (.ldc2_w 195, 3) := by decide +kernel
theorem dX11_waysOf_71 : decode cX11_waysOf 71 = .ok (.goto 4, 3) := by decide +kernel
theorem dX11_waysOf_74 : decode cX11_waysOf 74 = .ok (.lconst 0, 1) := by decide +kernel
theorem dX11_waysOf_75 : decode cX11_waysOf 75 = .ok (.lreturn, 1) := by decide +kernel
theorem dX11_waysOf_76 : decode cX11_waysOf 76 = .ok (.iload_n 2, 1) := by decide +kernel
theorem dX11_waysOf_77 : decode cX11_waysOf 77 = .ok (.iconst 1, 1) := by decide +kernel
theorem dX11_waysOf_78 : decode cX11_waysOf 78 = .ok (.if_icmp .ne 13, 3) := by decide +kernel
theorem dX11_waysOf_81 : decode cX11_waysOf 81 = .ok (.aload_n 0, 1) := by decide +kernel
theorem dX11_waysOf_82 : decode cX11_waysOf 82 = .ok (.getfield 22, 3) := by decide +kernel
theorem dX11_waysOf_85 : decode cX11_waysOf 85 = .ok (.iload_n 1, 1) := by decide +kernel
theorem dX11_waysOf_86 : decode cX11_waysOf 86 = .ok (.iaload, 1) := by decide +kernel
theorem dX11_waysOf_87 : decode cX11_waysOf 87 = .ok (.i2l, 1) := by decide +kernel
theorem dX11_waysOf_88 : decode cX11_waysOf 88 = .ok (.goto 4, 3) := by decide +kernel
theorem dX11_waysOf_91 : decode cX11_waysOf 91 = .ok (.lconst 0, 1) := by decide +kernel
theorem dX11_waysOf_92 : decode cX11_waysOf 92 = .ok (.lreturn, 1) := by decide +kernel
theorem dX11_waysOf_93 : decode cX11_waysOf 93 = .ok (.aload_n 0, 1) := by decide +kernel
theorem dX11_waysOf_94 : decode cX11_waysOf 94 = .ok (.iload_n 1, 1) := by decide +kernel
theorem dX11_waysOf_95 : decode cX11_waysOf 95 = .ok (.iload_n 2, 1) := by decide +kernel
theorem dX11_waysOf_96 : decode cX11_waysOf 96 = .ok (.invokevirtual 197, 3) := by decide +kernel
theorem dX11_waysOf_99 : decode cX11_waysOf 99 = .ok (.lreturn, 1) := by decide +kernel
noncomputable def f_X11_waysOf (x1 : Int32) (x2 : Int32) (s : t_S) : Option (Int64 × t_S) :=
 if t_ix x1 3001 = true then
  if (s.1 317 (x1.toNatClampNeg)).toInt < 1 ∨ 7 < (s.1 317 (x1.toNatClampNeg)).toInt then (some ((0 : Int64), s))
 else if (s.1 317 (x1.toNatClampNeg)).toInt = 1 then (if x2 = (1 : Int32) then ((f_X11_numbersOf x1 s).bind (fun r2 =>
 some (r2, s)))
 else (some ((0 : Int64), s)))
 else if (s.1 317 (x1.toNatClampNeg)).toInt = 2 then (if x2 = (1 : Int32) then (some ((2 : Int64), s))
 else (some ((0 : Int64), s)))
 else if (s.1 317 (x1.toNatClampNeg)).toInt = 3 then ((f_X11_textsOf x1 x2 s).bind (fun r3 =>
 some (r3, s)))
 else if (s.1 317 (x1.toNatClampNeg)).toInt = 4 then (if x2 = (1 : Int32) then (some (((s.1 321 (x1.toNatClampNeg)).toInt64), s))
 else (some ((0 : Int64), s)))
 else if (s.1 317 (x1.toNatClampNeg)).toInt = 5 then ((f_X11_recordsOf x1 x2 s).bind (fun r4 =>
 some (r4.1, r4.2)))
 else if (s.1 317 (x1.toNatClampNeg)).toInt = 6 then ((f_X11_choicesOf x1 x2 s).bind (fun r5 =>
 some (r5, s)))
 else ((f_X11_listsOf x1 x2 s).bind (fun r6 =>
 some (r6.1, r6.2)))
else none
set_option maxRecDepth 4000 in
set_option maxHeartbeats 1000000 in
theorem C_X11_waysOf (x1 : Int32) (x2 : Int32) (s : t_S) (r : Int64 × t_S) (hr : f_X11_waysOf x1 x2 s = some r) : t_C yX11_waysOf cX11_waysOf 3 (some .long) 4 [.ref 316, .int x1, .int x2] s (fun v s' => v = some (.long r.1) ∧ s' = r.2) := by
  refine t_C.imp (P := fun v s' => ∃ x, v = some (.long x) ∧ (fun q => q = r) ((x, s'))) (t_C.of (by decide +kernel) (Nat.le_of_ble_eq_true rfl) ?_) (fun v s' hp => by obtain ⟨x, rfl, rfl⟩ := hp; exact ⟨rfl, rfl⟩)
  intro D cy ad bs X
  have hk : t_hk (f_X11_waysOf x1 x2 s) (fun q => q = r) := ⟨r, hr, rfl⟩
  show mj_G D cy ad bs X cX11_waysOf 3 yX11_waysOf.cls (some .long) yX11_waysOf.name 4 0 0 1065 (t_P (fun v s' => ∃ x, v = some (.long x) ∧ (fun q => q = r) ((x, s')))) 0 [(0, .ref 316), (1, .int x1), (2, .int x2)] [] (t_m s) 1065 0 0
  refine mj_aload_n dX11_waysOf_0 0 rfl ?_
  refine t_getR 317 dX11_waysOf_1 F_X11_9 qr_316_0 ?_
  refine mj_iload_n dX11_waysOf_4 1 rfl ?_
  refine t_chkK hk (fun c0 hk => ?_)
  refine t_iald dX11_waysOf_5 qa_317 (t_ixv c0) ?_
  by_cases hout : (s.1 317 (x1.toNatClampNeg)).toInt < 1 ∨ 7 < (s.1 317 (x1.toNatClampNeg)).toInt
  · replace hk := t_pos hk hout
    refine mj_tableOut 121 dX11_waysOf_6 hout (by decide) ?_
    refine mj_lconst (v := 0) dX11_waysOf_121 (by decide) ?_
    exact t_somK hk (fun hf => t_lret dX11_waysOf_122 rfl ⟨_, rfl, hf⟩ (Nat.le_of_ble_eq_true rfl) (Nat.le_of_ble_eq_true rfl))
  · replace hk := t_neg hk hout
    have hh1 : ¬ (s.1 317 (x1.toNatClampNeg)).toInt < 1 := fun z => hout (Or.inl z)
    have hh2 : ¬ (7 : Int) < (s.1 317 (x1.toNatClampNeg)).toInt := fun z => hout (Or.inr z)
    by_cases h0 : (s.1 317 (x1.toNatClampNeg)).toInt = 1
    · replace hk := t_pos hk h0
      refine mj_tableIn 48 dX11_waysOf_6 hh1 hh2 (by rw [h0]; rfl) (by decide) ?_
      refine mj_iload_n dX11_waysOf_48 2 rfl ?_
      refine mj_iconst (v := 1) dX11_waysOf_49 (by decide) ?_
      refine mj_icmp_ne 61 dX11_waysOf_50 (by decide) (fun z => t_negK hk z (fun hk => ?_)) (fun z => t_posK hk z (fun hk => ?_))
      · refine mj_lconst (v := 0) dX11_waysOf_61 (by decide) ?_
        exact t_somK hk (fun hf => t_lret dX11_waysOf_62 rfl ⟨_, rfl, hf⟩ (Nat.le_of_ble_eq_true rfl) (Nat.le_of_ble_eq_true rfl))
      · refine mj_aload_n dX11_waysOf_53 0 rfl ?_
        refine mj_iload_n dX11_waysOf_54 1 rfl ?_
        refine t_bndK hk (fun r2 er2 hk => ?_)
        refine t_callVlP dX11_waysOf_55 M_X11_numbersOf (C_X11_numbersOf _ _ _ er2) ML_X11_191 IM_X11_numbersOf SE_X11_numbersOf qc_316 rfl (As := [.int x1]) rfl rfl (Nat.le_of_ble_eq_true rfl) (Nat.le_of_ble_eq_true rfl) (Nat.le_of_ble_eq_true rfl) (Nat.le_of_ble_eq_true rfl) ?_
        refine mj_goto 62 dX11_waysOf_58 (by decide) ?_
        exact t_somK hk (fun hf => t_lret dX11_waysOf_62 rfl ⟨_, rfl, hf⟩ (Nat.le_of_ble_eq_true rfl) (Nat.le_of_ble_eq_true rfl))
    replace hk := t_neg hk h0
    by_cases h1 : (s.1 317 (x1.toNatClampNeg)).toInt = 2
    · replace hk := t_pos hk h1
      refine mj_tableIn 63 dX11_waysOf_6 hh1 hh2 (by rw [h1]; rfl) (by decide) ?_
      refine mj_iload_n dX11_waysOf_63 2 rfl ?_
      refine mj_iconst (v := 1) dX11_waysOf_64 (by decide) ?_
      refine mj_icmp_ne 74 dX11_waysOf_65 (by decide) (fun z => t_negK hk z (fun hk => ?_)) (fun z => t_posK hk z (fun hk => ?_))
      · refine mj_lconst (v := 0) dX11_waysOf_74 (by decide) ?_
        exact t_somK hk (fun hf => t_lret dX11_waysOf_75 rfl ⟨_, rfl, hf⟩ (Nat.le_of_ble_eq_true rfl) (Nat.le_of_ble_eq_true rfl))
      · refine mj_ldc2 dX11_waysOf_68 K_X11_195 ?_
        refine mj_goto 75 dX11_waysOf_71 (by decide) ?_
        exact t_somK hk (fun hf => t_lret dX11_waysOf_75 rfl ⟨_, rfl, hf⟩ (Nat.le_of_ble_eq_true rfl) (Nat.le_of_ble_eq_true rfl))
    replace hk := t_neg hk h1
    by_cases h2 : (s.1 317 (x1.toNatClampNeg)).toInt = 3
    · replace hk := t_pos hk h2
      refine mj_tableIn 93 dX11_waysOf_6 hh1 hh2 (by rw [h2]; rfl) (by decide) ?_
      refine mj_aload_n dX11_waysOf_93 0 rfl ?_
      refine mj_iload_n dX11_waysOf_94 1 rfl ?_
      refine mj_iload_n dX11_waysOf_95 2 rfl ?_
      refine t_bndK hk (fun r3 er3 hk => ?_)
      refine t_callVlP dX11_waysOf_96 M_X11_textsOf (C_X11_textsOf _ _ _ _ er3) ML_X11_197 IM_X11_textsOf SE_X11_textsOf qc_316 rfl (As := [.int x1, .int x2]) rfl rfl (Nat.le_of_ble_eq_true rfl) (Nat.le_of_ble_eq_true rfl) (Nat.le_of_ble_eq_true rfl) (Nat.le_of_ble_eq_true rfl) ?_
      exact t_somK hk (fun hf => t_lret dX11_waysOf_99 rfl ⟨_, rfl, hf⟩ (Nat.le_of_ble_eq_true rfl) (Nat.le_of_ble_eq_true rfl))
    replace hk := t_neg hk h2
    by_cases h3 : (s.1 317 (x1.toNatClampNeg)).toInt = 4
    · replace hk := t_pos hk h3
      refine mj_tableIn 76 dX11_waysOf_6 hh1 hh2 (by rw [h3]; rfl) (by decide) ?_
      refine mj_iload_n dX11_waysOf_76 2 rfl ?_
      refine mj_iconst (v := 1) dX11_waysOf_77 (by decide) ?_
      refine mj_icmp_ne 91 dX11_waysOf_78 (by decide) (fun z => t_negK hk z (fun hk => ?_)) (fun z => t_posK hk z (fun hk => ?_))
      · refine mj_lconst (v := 0) dX11_waysOf_91 (by decide) ?_
        exact t_somK hk (fun hf => t_lret dX11_waysOf_92 rfl ⟨_, rfl, hf⟩ (Nat.le_of_ble_eq_true rfl) (Nat.le_of_ble_eq_true rfl))
      · refine mj_aload_n dX11_waysOf_81 0 rfl ?_
        refine t_getR 321 dX11_waysOf_82 F_X11_22 qr_316_4 ?_
        refine mj_iload_n dX11_waysOf_85 1 rfl ?_
        refine t_iald dX11_waysOf_86 qa_321 (t_ixv c0) ?_
        refine mj_i2l (v := (s.1 321 (x1.toNatClampNeg)).toInt64) dX11_waysOf_87 rfl ?_
        refine mj_goto 92 dX11_waysOf_88 (by decide) ?_
        exact t_somK hk (fun hf => t_lret dX11_waysOf_92 rfl ⟨_, rfl, hf⟩ (Nat.le_of_ble_eq_true rfl) (Nat.le_of_ble_eq_true rfl))
    replace hk := t_neg hk h3
    by_cases h4 : (s.1 317 (x1.toNatClampNeg)).toInt = 5
    · replace hk := t_pos hk h4
      refine mj_tableIn 100 dX11_waysOf_6 hh1 hh2 (by rw [h4]; rfl) (by decide) ?_
      refine mj_aload_n dX11_waysOf_100 0 rfl ?_
      refine mj_iload_n dX11_waysOf_101 1 rfl ?_
      refine mj_iload_n dX11_waysOf_102 2 rfl ?_
      refine t_bndK hk (fun r4 er4 hk => ?_)
      refine t_callVlE dX11_waysOf_103 M_X11_recordsOf (C_X11_recordsOf _ _ _ _ er4) ML_X11_200 IM_X11_recordsOf SE_X11_recordsOf qc_316 rfl (As := [.int x1, .int x2]) rfl rfl (Nat.le_of_ble_eq_true rfl) (Nat.le_of_ble_eq_true rfl) (Nat.le_of_ble_eq_true rfl) (Nat.le_of_ble_eq_true rfl) ?_
      exact t_somK hk (fun hf => t_lret dX11_waysOf_106 rfl ⟨_, rfl, hf⟩ (Nat.le_of_ble_eq_true rfl) (Nat.le_of_ble_eq_true rfl))
    replace hk := t_neg hk h4
    by_cases h5 : (s.1 317 (x1.toNatClampNeg)).toInt = 6
    · replace hk := t_pos hk h5
      refine mj_tableIn 107 dX11_waysOf_6 hh1 hh2 (by rw [h5]; rfl) (by decide) ?_
      refine mj_aload_n dX11_waysOf_107 0 rfl ?_
      refine mj_iload_n dX11_waysOf_108 1 rfl ?_
      refine mj_iload_n dX11_waysOf_109 2 rfl ?_
      refine t_bndK hk (fun r5 er5 hk => ?_)
      refine t_callVlP dX11_waysOf_110 M_X11_choicesOf (C_X11_choicesOf _ _ _ _ er5) ML_X11_203 IM_X11_choicesOf SE_X11_choicesOf qc_316 rfl (As := [.int x1, .int x2]) rfl rfl (Nat.le_of_ble_eq_true rfl) (Nat.le_of_ble_eq_true rfl) (Nat.le_of_ble_eq_true rfl) (Nat.le_of_ble_eq_true rfl) ?_
      exact t_somK hk (fun hf => t_lret dX11_waysOf_113 rfl ⟨_, rfl, hf⟩ (Nat.le_of_ble_eq_true rfl) (Nat.le_of_ble_eq_true rfl))
    replace hk := t_neg hk h5
    have h6 : (s.1 317 (x1.toNatClampNeg)).toInt = 7 := by omega
    refine mj_tableIn 114 dX11_waysOf_6 hh1 hh2 (by rw [h6]; rfl) (by decide) ?_
    refine mj_aload_n dX11_waysOf_114 0 rfl ?_
    refine mj_iload_n dX11_waysOf_115 1 rfl ?_
    refine mj_iload_n dX11_waysOf_116 2 rfl ?_
    refine t_bndK hk (fun r6 er6 hk => ?_)
    refine t_callVlE dX11_waysOf_117 M_X11_listsOf (C_X11_listsOf _ _ _ _ er6) ML_X11_206 IM_X11_listsOf SE_X11_listsOf qc_316 rfl (As := [.int x1, .int x2]) rfl rfl (Nat.le_of_ble_eq_true rfl) (Nat.le_of_ble_eq_true rfl) (Nat.le_of_ble_eq_true rfl) (Nat.le_of_ble_eq_true rfl) ?_
    exact t_somK hk (fun hf => t_lret dX11_waysOf_120 rfl ⟨_, rfl, hf⟩ (Nat.le_of_ble_eq_true rfl) (Nat.le_of_ble_eq_true rfl))

theorem dX11_ways_0 : decode cX11_ways 0 = .ok (.aload_n 0, 1) := by decide +kernel
theorem dX11_ways_1 : decode cX11_ways 1 = .ok (.getfield 79, 3) := by decide +kernel
theorem dX11_ways_12 : decode cX11_ways 12 = .ok (.bipush 20, 2) := by decide +kernel
theorem dX11_ways_14 : decode cX11_ways 14 = .ok (.if_icmp .ge 59, 3) := by decide +kernel
theorem dX11_ways_17 : decode cX11_ways 17 = .ok (.iconst 0, 1) := by decide +kernel
theorem dX11_ways_18 : decode cX11_ways 18 = .ok (.istore_n 3, 1) := by decide +kernel
theorem dX11_ways_19 : decode cX11_ways 19 = .ok (.iload_n 3, 1) := by decide +kernel
theorem dX11_ways_20 : decode cX11_ways 20 = .ok (.aload_n 0, 1) := by decide +kernel
theorem dX11_ways_21 : decode cX11_ways 21 = .ok (.getfield 65, 3) := by decide +kernel
theorem dX11_ways_24 : decode cX11_ways 24 = .ok (.if_icmp .ge 36, 3) := by decide +kernel
theorem dX11_ways_27 : decode cX11_ways 27 = .ok (.aload_n 0, 1) := by decide +kernel
theorem dX11_ways_28 : decode cX11_ways 28 = .ok (.getfield 45, 3) := by decide +kernel
theorem dX11_ways_31 : decode cX11_ways 31 = .ok (.iload_n 3, 1) := by decide +kernel
theorem dX11_ways_32 : decode cX11_ways 32 = .ok (.bipush 21, 2) := by decide +kernel
theorem dX11_ways_34 : decode cX11_ways 34 = .ok (.imul, 1) := by decide +kernel
theorem dX11_ways_35 : decode cX11_ways 35 = .ok (.aload_n 0, 1) := by decide +kernel
theorem dX11_ways_36 : decode cX11_ways 36 = .ok (.getfield 79, 3) := by decide +kernel
theorem dX11_ways_39 : decode cX11_ways 39 = .ok (.iadd, 1) := by decide +kernel
theorem dX11_ways_4 : decode cX11_ways 4 = .ok (.iload_n 2, 1) := by decide +kernel
theorem dX11_ways_40 : decode cX11_ways 40 = .ok (.iconst 1, 1) := by decide +kernel
theorem dX11_ways_41 : decode cX11_ways 41 = .ok (.iadd, 1) := by decide +kernel
theorem dX11_ways_42 : decode cX11_ways 42 = .ok (.aload_n 0, 1) := by decide +kernel
theorem dX11_ways_43 : decode cX11_ways 43 = .ok (.iload_n 3, 1) := by decide +kernel
theorem dX11_ways_44 : decode cX11_ways 44 = .ok (.aload_n 0, 1) := by decide +kernel
theorem dX11_ways_45 : decode cX11_ways 45 = .ok (.getfield 79, 3) := by decide +kernel
theorem dX11_ways_48 : decode cX11_ways 48 = .ok (.iconst 1, 1) := by decide +kernel
theorem dX11_ways_49 : decode cX11_ways 49 = .ok (.iadd, 1) := by decide +kernel
theorem dX11_ways_5 : decode cX11_ways 5 = .ok (.if_icmp .ge 68, 3) := by decide +kernel
theorem dX11_ways_50 : decode cX11_ways 50 = .ok (.invokevirtual 184, 3) := by decide +kernel
theorem dX11_ways_53 : decode cX11_ways 53 = .ok (.lastore, 1) := by decide +kernel
theorem dX11_ways_54 : decode cX11_ways 54 = .ok (.iinc 3 1, 3) := by decide +kernel
theorem dX11_ways_57 : decode cX11_ways 57 = .ok (.goto (-38), 3) := by decide +kernel
theorem dX11_ways_60 : decode cX11_ways 60 = .ok (.aload_n 0, 1) := by decide +kernel
theorem dX11_ways_61 : decode cX11_ways 61 = .ok (.dup, 1) := by decide +kernel
theorem dX11_ways_62 : decode cX11_ways 62 = .ok (.getfield 79, 3) := by decide +kernel
theorem dX11_ways_65 : decode cX11_ways 65 = .ok (.iconst 1, 1) := by decide +kernel
theorem dX11_ways_66 : decode cX11_ways 66 = .ok (.iadd, 1) := by decide +kernel
theorem dX11_ways_67 : decode cX11_ways 67 = .ok (.putfield 79, 3) := by decide +kernel
theorem dX11_ways_70 : decode cX11_ways 70 = .ok (.goto (-70), 3) := by decide +kernel
theorem dX11_ways_73 : decode cX11_ways 73 = .ok (.aload_n 0, 1) := by decide +kernel
theorem dX11_ways_74 : decode cX11_ways 74 = .ok (.aload_n 0, 1) := by decide +kernel
theorem dX11_ways_75 : decode cX11_ways 75 = .ok (.getfield 38, 3) := by decide +kernel
theorem dX11_ways_78 : decode cX11_ways 78 = .ok (.iload_n 1, 1) := by decide +kernel
theorem dX11_ways_79 : decode cX11_ways 79 = .ok (.iaload, 1) := by decide +kernel
theorem dX11_ways_8 : decode cX11_ways 8 = .ok (.aload_n 0, 1) := by decide +kernel
theorem dX11_ways_80 : decode cX11_ways 80 = .ok (.iload_n 2, 1) := by decide +kernel
theorem dX11_ways_81 : decode cX11_ways 81 = .ok (.invokevirtual 188, 3) := by decide +kernel
theorem dX11_ways_84 : decode cX11_ways 84 = .ok (.lreturn, 1) := by decide +kernel
theorem dX11_ways_9 : decode cX11_ways 9 = .ok (.getfield 79, 3) := by decide +kernel
noncomputable def k_X11_ways_73 (l1 : Int32) (l2 : Int32) (s : t_S) : Option (Int64 × t_S) :=
 if t_ix l1 60 = true then
  (f_X11_waysAt (s.1 326 (l1.toNatClampNeg)) l2 s).bind (fun r2 =>
 some (r2, s))
else none
set_option maxRecDepth 4000 in
set_option maxHeartbeats 1000000 in
theorem B_X11_ways_73 {D : va_G} {cy : Nat → ClassId} {ad : Nat → Nat} {bs : Nat} {X : State → Heap → Prop} (l1 : Int32) (l2 : Int32) (s : t_S) (Q : Int64 × t_S → Prop) (hk : t_hk (k_X11_ways_73 l1 l2 s) Q) : mj_G D cy ad bs X cX11_ways 4 yX11_ways.cls (some .long) yX11_ways.name 5 0 0 1065 (t_P (fun v s' => ∃ x, v = some (.long x) ∧ Q ((x, s')))) 73 [(0, .ref 316), (1, .int l1), (2, .int l2)] [] (t_m s) 1065 0 0 := by
  refine mj_aload_n dX11_ways_73 0 rfl ?_
  refine mj_aload_n dX11_ways_74 0 rfl ?_
  refine t_getR 326 dX11_ways_75 F_X11_38 qr_316_11 ?_
  refine mj_iload_n dX11_ways_78 1 rfl ?_
  refine t_chkK hk (fun c0 hk => ?_)
  refine t_iald dX11_ways_79 qa_326 (t_ixv c0) ?_
  refine mj_iload_n dX11_ways_80 2 rfl ?_
  refine t_bndK hk (fun r2 er2 hk => ?_)
  refine t_callVlP dX11_ways_81 M_X11_waysAt (C_X11_waysAt _ _ _ _ er2) ML_X11_188 IM_X11_waysAt SE_X11_waysAt qc_316 rfl (As := [.int (s.1 326 (l1.toNatClampNeg)), .int l2]) rfl rfl (Nat.le_of_ble_eq_true rfl) (Nat.le_of_ble_eq_true rfl) (Nat.le_of_ble_eq_true rfl) (Nat.le_of_ble_eq_true rfl) ?_
  exact t_somK hk (fun hf => t_lret dX11_ways_84 rfl ⟨_, rfl, hf⟩ (Nat.le_of_ble_eq_true rfl) (Nat.le_of_ble_eq_true rfl))
noncomputable def k_X11_ways_19 (l1 : Int32) (l2 : Int32) (l3 : Int32) (s : t_S) : Option ((Int32 × Int32 × Int32 × t_S) ⊕ ((Int32 × Int32 × t_S) ⊕ (Int64 × t_S))) :=
 if (s.1 316 8) ≤ l3 then ((t_let (t_setI s 316 15 ((s.1 316 15) + (1 : Int32))) (fun s1 =>
 some (.inl (l1, l2, s1)))).map Sum.inr)
 else ((f_X11_waysOf l3 ((s.1 316 15) + (1 : Int32)) s).bind (fun r1 =>
 if t_ix (((l3 * (21 : Int32)) + (s.1 316 15)) + (1 : Int32)) 63021 = true then
  t_let (t_setJ r1.2 328 ((((l3 * (21 : Int32)) + (s.1 316 15)) + (1 : Int32)).toNatClampNeg) r1.1) (fun s2 =>
 some (.inl (l1, l2, (l3 + 1), s2)))
else none))
set_option maxRecDepth 4000 in
set_option maxHeartbeats 1000000 in
theorem B_X11_ways_19 {D : va_G} {cy : Nat → ClassId} {ad : Nat → Nat} {bs : Nat} {X : State → Heap → Prop} (l1 : Int32) (l2 : Int32) (l3 : Int32) (s : t_S) (Q : (Int32 × Int32 × Int32 × t_S) ⊕ ((Int32 × Int32 × t_S) ⊕ (Int64 × t_S)) → Prop) (Hb0 : ∀ (y0 : Int32) (y1 : Int32) (y2 : t_S), Q (.inr (.inl (y0, y1, y2))) → mj_G D cy ad bs X cX11_ways 4 yX11_ways.cls (some .long) yX11_ways.name 5 0 0 1065 (t_P (fun v s' => ∃ x, v = some (.long x) ∧ Q (.inr (.inr ((x, s')))))) 0 [(0, .ref 316), (1, .int (y0)), (2, .int (y1))] [] (t_m y2) 1065 0 0) (Hb19 : ∀ (y0 : Int32) (y1 : Int32) (y2 : Int32) (y3 : t_S), Q (.inl (y0, y1, y2, y3)) → mj_G D cy ad bs X cX11_ways 4 yX11_ways.cls (some .long) yX11_ways.name 5 0 0 1065 (t_P (fun v s' => ∃ x, v = some (.long x) ∧ Q (.inr (.inr ((x, s')))))) 19 [(0, .ref 316), (1, .int (y0)), (2, .int (y1)), (3, .int (y2))] [] (t_m y3) 1065 0 0) (hk : t_hk (k_X11_ways_19 l1 l2 l3 s) Q) : mj_G D cy ad bs X cX11_ways 4 yX11_ways.cls (some .long) yX11_ways.name 5 0 0 1065 (t_P (fun v s' => ∃ x, v = some (.long x) ∧ Q (.inr (.inr ((x, s')))))) 19 [(0, .ref 316), (1, .int l1), (2, .int l2), (3, .int l3)] [] (t_m s) 1065 0 0 := by
  refine mj_iload_n dX11_ways_19 3 rfl ?_
  refine mj_aload_n dX11_ways_20 0 rfl ?_
  refine t_getI dX11_ways_21 F_X11_65 qf_316_8 ?_
  refine mj_icmp_ge 60 dX11_ways_24 (by decide) (fun z => t_posK hk z (fun hk => ?_)) (fun z => t_negK hk z (fun hk => ?_))
  · refine t_mapK hk (fun hk => ?_)
    refine mj_aload_n dX11_ways_60 0 rfl ?_
    refine mj_dup dX11_ways_61 rfl ?_
    refine t_getI dX11_ways_62 F_X11_79 qf_316_15 ?_
    refine mj_iconst (v := 1) dX11_ways_65 (by decide) ?_
    refine mj_iadd dX11_ways_66 ?_
    refine t_putIK dX11_ways_67 F_X11_79 qf_316_15 rfl (fun s1 ws1 => t_letE hk ws1 (fun hk => ?_))
    refine mj_goto 0 dX11_ways_70 (by decide) ?_
    refine mj_sublv [(0, .ref 316), (1, .int l1), (2, .int l2)] [0, 1, 2] rfl ?_
    exact t_somK hk (fun hf => Hb0 l1 l2 s1 hf)
  · refine mj_aload_n dX11_ways_27 0 rfl ?_
    refine t_getR 328 dX11_ways_28 F_X11_45 qr_316_14 ?_
    refine mj_iload_n dX11_ways_31 3 rfl ?_
    refine mj_bipush (v := 21) dX11_ways_32 (by decide) ?_
    refine mj_imul dX11_ways_34 ?_
    refine mj_aload_n dX11_ways_35 0 rfl ?_
    refine t_getI dX11_ways_36 F_X11_79 qf_316_15 ?_
    refine mj_iadd dX11_ways_39 ?_
    refine mj_iconst (v := 1) dX11_ways_40 (by decide) ?_
    refine mj_iadd dX11_ways_41 ?_
    refine mj_aload_n dX11_ways_42 0 rfl ?_
    refine mj_iload_n dX11_ways_43 3 rfl ?_
    refine mj_aload_n dX11_ways_44 0 rfl ?_
    refine t_getI dX11_ways_45 F_X11_79 qf_316_15 ?_
    refine mj_iconst (v := 1) dX11_ways_48 (by decide) ?_
    refine mj_iadd dX11_ways_49 ?_
    refine t_bndK hk (fun r1 er1 hk => ?_)
    refine t_callVlE dX11_ways_50 M_X11_waysOf (C_X11_waysOf _ _ _ _ er1) ML_X11_184 IM_X11_waysOf SE_X11_waysOf qc_316 rfl (As := [.int l3, .int ((s.1 316 15) + (1 : Int32))]) rfl rfl (Nat.le_of_ble_eq_true rfl) (Nat.le_of_ble_eq_true rfl) (Nat.le_of_ble_eq_true rfl) (Nat.le_of_ble_eq_true rfl) ?_
    refine t_chkK hk (fun c1 hk => ?_)
    refine t_lastK dX11_ways_53 qa_328 (t_ixv c1) (fun s2 ws2 => t_letE hk ws2 (fun hk => ?_))
    refine mj_iinc (k := 3) (v := (l3 + 1)) (lv2 := [(3, .int (l3 + 1)), (0, .ref 316), (1, .int l1), (2, .int l2)]) dX11_ways_54 rfl rfl (by decide) rfl ?_
    refine mj_goto 19 dX11_ways_57 (by decide) ?_
    refine mj_sublv [(0, .ref 316), (1, .int l1), (2, .int l2), (3, .int (l3 + 1))] [1, 2, 3, 0] rfl ?_
    exact t_somK hk (fun hf => Hb19 l1 l2 (l3 + 1) s2 hf)
noncomputable def b_X11_ways_19 (x : Int32 × Int32 × Int32 × t_S) : Option ((Int32 × Int32 × Int32 × t_S) ⊕ ((Int32 × Int32 × t_S) ⊕ (Int64 × t_S))) := k_X11_ways_19 x.1 x.2.1 x.2.2.1 x.2.2.2
set_option maxRecDepth 4000 in
set_option maxHeartbeats 1000000 in
theorem LH_X11_ways_19 {D : va_G} {cy : Nat → ClassId} {ad : Nat → Nat} {bs : Nat} {X : State → Heap → Prop} : ∀ (n : Nat) (y0 : Int32) (y1 : Int32) (y2 : Int32) (y3 : t_S) (Q : (Int32 × Int32 × t_S) ⊕ (Int64 × t_S) → Prop) (Hb0 : ∀ (y0 : Int32) (y1 : Int32) (y2 : t_S), Q (.inl (y0, y1, y2)) → mj_G D cy ad bs X cX11_ways 4 yX11_ways.cls (some .long) yX11_ways.name 5 0 0 1065 (t_P (fun v s' => ∃ x, v = some (.long x) ∧ Q (.inr ((x, s'))))) 0 [(0, .ref 316), (1, .int (y0)), (2, .int (y1))] [] (t_m y2) 1065 0 0) (hk : t_hk (t_loop (b_X11_ways_19) n (y0, y1, y2, y3)) Q), mj_G D cy ad bs X cX11_ways 4 yX11_ways.cls (some .long) yX11_ways.name 5 0 0 1065 (t_P (fun v s' => ∃ x, v = some (.long x) ∧ Q (.inr ((x, s'))))) 19 [(0, .ref 316), (1, .int (y0)), (2, .int (y1)), (3, .int (y2))] [] (t_m y3) 1065 0 0 := by
  intro n
  induction n with
  | zero => intro y0 y1 y2 y3 Q Hb0 hk; obtain ⟨r, hr, _⟩ := hk; cases hr
  | succ n ih =>
    intro y0 y1 y2 y3 Q Hb0 hk
    exact B_X11_ways_19 y0 y1 y2 y3 (fun y => t_lq (b_X11_ways_19) n Q y) (fun y0' y1' y2' hy => Hb0 y0' y1' y2' hy) (fun y0' y1' y2' y3' hy => ih y0' y1' y2' y3' Q Hb0 hy) (t_lp hk)
noncomputable def k_X11_ways_0 (l1 : Int32) (l2 : Int32) (s : t_S) : Option ((Int32 × Int32 × t_S) ⊕ (Int64 × t_S)) :=
 if l2 ≤ (s.1 316 15) then ((k_X11_ways_73 l1 l2 s).map Sum.inr)
 else (if (20 : Int32) ≤ (s.1 316 15) then ((k_X11_ways_73 l1 l2 s).map Sum.inr)
 else (t_loop (b_X11_ways_19) t_N (l1, l2, 0, s)))
set_option maxRecDepth 4000 in
set_option maxHeartbeats 1000000 in
theorem B_X11_ways_0 {D : va_G} {cy : Nat → ClassId} {ad : Nat → Nat} {bs : Nat} {X : State → Heap → Prop} (l1 : Int32) (l2 : Int32) (s : t_S) (Q : (Int32 × Int32 × t_S) ⊕ (Int64 × t_S) → Prop) (Hb0 : ∀ (y0 : Int32) (y1 : Int32) (y2 : t_S), Q (.inl (y0, y1, y2)) → mj_G D cy ad bs X cX11_ways 4 yX11_ways.cls (some .long) yX11_ways.name 5 0 0 1065 (t_P (fun v s' => ∃ x, v = some (.long x) ∧ Q (.inr ((x, s'))))) 0 [(0, .ref 316), (1, .int (y0)), (2, .int (y1))] [] (t_m y2) 1065 0 0) (hk : t_hk (k_X11_ways_0 l1 l2 s) Q) : mj_G D cy ad bs X cX11_ways 4 yX11_ways.cls (some .long) yX11_ways.name 5 0 0 1065 (t_P (fun v s' => ∃ x, v = some (.long x) ∧ Q (.inr ((x, s'))))) 0 [(0, .ref 316), (1, .int l1), (2, .int l2)] [] (t_m s) 1065 0 0 := by
  refine mj_aload_n dX11_ways_0 0 rfl ?_
  refine t_getI dX11_ways_1 F_X11_79 qf_316_15 ?_
  refine mj_iload_n dX11_ways_4 2 rfl ?_
  refine mj_icmp_ge 73 dX11_ways_5 (by decide) (fun z => t_posK hk z (fun hk => ?_)) (fun z => t_negK hk z (fun hk => ?_))
  · refine t_mapK hk (fun hk => ?_)
    exact B_X11_ways_73 _ _ _ _ hk
  · refine mj_aload_n dX11_ways_8 0 rfl ?_
    refine t_getI dX11_ways_9 F_X11_79 qf_316_15 ?_
    refine mj_bipush (v := 20) dX11_ways_12 (by decide) ?_
    refine mj_icmp_ge 73 dX11_ways_14 (by decide) (fun z => t_posK hk z (fun hk => ?_)) (fun z => t_negK hk z (fun hk => ?_))
    · refine t_mapK hk (fun hk => ?_)
      exact B_X11_ways_73 _ _ _ _ hk
    · refine mj_iconst (v := 0) dX11_ways_17 (by decide) ?_
      refine mj_istore_n 3 (lv2 := [(3, .int 0), (0, .ref 316), (1, .int l1), (2, .int l2)]) dX11_ways_18 rfl (by decide) rfl ?_
      refine mj_sublv [(0, .ref 316), (1, .int l1), (2, .int l2), (3, .int 0)] [1, 2, 3, 0] rfl ?_
      exact LH_X11_ways_19 _ l1 l2 0 s _ (fun y0 y1 y2 hx => Hb0 y0 y1 y2 hx) hk
noncomputable def b_X11_ways_0 (x : Int32 × Int32 × t_S) : Option ((Int32 × Int32 × t_S) ⊕ (Int64 × t_S)) := k_X11_ways_0 x.1 x.2.1 x.2.2
set_option maxRecDepth 4000 in
set_option maxHeartbeats 1000000 in
theorem LH_X11_ways_0 {D : va_G} {cy : Nat → ClassId} {ad : Nat → Nat} {bs : Nat} {X : State → Heap → Prop} : ∀ (n : Nat) (y0 : Int32) (y1 : Int32) (y2 : t_S) (Q : Int64 × t_S → Prop) (hk : t_hk (t_loop (b_X11_ways_0) n (y0, y1, y2)) Q), mj_G D cy ad bs X cX11_ways 4 yX11_ways.cls (some .long) yX11_ways.name 5 0 0 1065 (t_P (fun v s' => ∃ x, v = some (.long x) ∧ Q ((x, s')))) 0 [(0, .ref 316), (1, .int (y0)), (2, .int (y1))] [] (t_m y2) 1065 0 0 := by
  intro n
  induction n with
  | zero => intro y0 y1 y2 Q hk; obtain ⟨r, hr, _⟩ := hk; cases hr
  | succ n ih =>
    intro y0 y1 y2 Q hk
    exact B_X11_ways_0 y0 y1 y2 (fun y => t_lq (b_X11_ways_0) n Q y) (fun y0' y1' y2' hy => ih y0' y1' y2' Q hy) (t_lp hk)
noncomputable def f_X11_ways (x1 : Int32) (x2 : Int32) (s : t_S) : Option (Int64 × t_S) :=
 t_loop (b_X11_ways_0) t_N (x1, x2, s)
set_option maxRecDepth 4000 in
set_option maxHeartbeats 1000000 in
theorem C_X11_ways (x1 : Int32) (x2 : Int32) (s : t_S) (r : Int64 × t_S) (hr : f_X11_ways x1 x2 s = some r) : t_C yX11_ways cX11_ways 4 (some .long) 5 [.ref 316, .int x1, .int x2] s (fun v s' => v = some (.long r.1) ∧ s' = r.2) := by
  refine t_C.imp (P := fun v s' => ∃ x, v = some (.long x) ∧ (fun q => q = r) ((x, s'))) (t_C.of (by decide +kernel) (Nat.le_of_ble_eq_true rfl) ?_) (fun v s' hp => by obtain ⟨x, rfl, rfl⟩ := hp; exact ⟨rfl, rfl⟩)
  intro D cy ad bs X
  have hk : t_hk (f_X11_ways x1 x2 s) (fun q => q = r) := ⟨r, hr, rfl⟩
  show mj_G D cy ad bs X cX11_ways 4 yX11_ways.cls (some .long) yX11_ways.name 5 0 0 1065 (t_P (fun v s' => ∃ x, v = some (.long x) ∧ (fun q => q = r) ((x, s')))) 0 [(0, .ref 316), (1, .int x1), (2, .int x2)] [] (t_m s) 1065 0 0
  exact LH_X11_ways_0 _ x1 x2 s _ hk

theorem dX12_isKept_0 : decode cX12_isKept 0 = .ok (.iload_n 1, 1) := by decide +kernel
theorem dX12_isKept_1 : decode cX12_isKept 1 = .ok (.ifCond .lt 18, 3) := by decide +kernel
theorem dX12_isKept_12 : decode cX12_isKept 12 = .ok (.if_icmp .ge 7, 3) := by decide +kernel
theorem dX12_isKept_15 : decode cX12_isKept 15 = .ok (.iconst 1, 1) := by decide +kernel
theorem dX12_isKept_16 : decode cX12_isKept 16 = .ok (.goto 4, 3) := by decide +kernel
theorem dX12_isKept_19 : decode cX12_isKept 19 = .ok (.iconst 0, 1) := by decide +kernel
theorem dX12_isKept_20 : decode cX12_isKept 20 = .ok (.ireturn, 1) := by decide +kernel
theorem dX12_isKept_4 : decode cX12_isKept 4 = .ok (.iload_n 1, 1) := by decide +kernel
theorem dX12_isKept_5 : decode cX12_isKept 5 = .ok (.aload_n 0, 1) := by decide +kernel
theorem dX12_isKept_6 : decode cX12_isKept 6 = .ok (.getfield 19, 3) := by decide +kernel
theorem dX12_isKept_9 : decode cX12_isKept 9 = .ok (.getfield 107, 3) := by decide +kernel
noncomputable def f_X12_isKept (x1 : Int32) (s : t_S) : Int32 :=
 if x1 < (0 : Int32) then ((0 : Int32))
 else (if (s.1 12 2) ≤ x1 then ((0 : Int32))
 else ((1 : Int32)))
set_option maxRecDepth 4000 in
set_option maxHeartbeats 1000000 in
theorem C_X12_isKept (x1 : Int32) (s : t_S) : t_C yX12_isKept cX12_isKept 2 (some .boolean) 0 [.ref 0, .int x1] s (fun v s' => v = some (.int (f_X12_isKept x1 s)) ∧ s' = s) := by
  refine t_C.imp (P := fun v s' => s' = s ∧ ∃ x, v = some (.int x) ∧ (fun r => r = f_X12_isKept x1 s) (x)) (t_C.of (by decide +kernel) (Nat.le_of_ble_eq_true rfl) ?_) (fun v s' hp => by obtain ⟨rfl, x, rfl, rfl⟩ := hp; exact ⟨rfl, rfl⟩)
  intro D cy ad bs X
  have hk : t_ht (f_X12_isKept x1 s) (fun r => r = f_X12_isKept x1 s) := rfl
  show mj_G D cy ad bs X cX12_isKept 2 yX12_isKept.cls (some .boolean) yX12_isKept.name 0 0 0 1065 (t_P (fun v s' => s' = s ∧ ∃ x, v = some (.int x) ∧ (fun r => r = f_X12_isKept x1 s) (x))) 0 [(0, .ref 0), (1, .int x1)] [] (t_m s) 1065 0 0
  refine mj_iload_n dX12_isKept_0 1 rfl ?_
  refine mj_if_lt 19 dX12_isKept_1 (by decide) (fun z => t_posTK hk z (fun hk => ?_)) (fun z => t_negTK hk z (fun hk => ?_))
  · refine mj_iconst (v := 0) dX12_isKept_19 (by decide) ?_
    exact t_iret dX12_isKept_20 rfl (by decide) ⟨rfl, _, rfl, hk⟩ (Nat.le_of_ble_eq_true rfl) (Nat.le_of_ble_eq_true rfl)
  · refine mj_iload_n dX12_isKept_4 1 rfl ?_
    refine mj_aload_n dX12_isKept_5 0 rfl ?_
    refine t_getR 12 dX12_isKept_6 F_X12_19 qr_0_1 ?_
    refine t_getI dX12_isKept_9 F_X12_107 qf_12_2 ?_
    refine mj_icmp_ge 19 dX12_isKept_12 (by decide) (fun z => t_posTK hk z (fun hk => ?_)) (fun z => t_negTK hk z (fun hk => ?_))
    · refine mj_iconst (v := 0) dX12_isKept_19 (by decide) ?_
      exact t_iret dX12_isKept_20 rfl (by decide) ⟨rfl, _, rfl, hk⟩ (Nat.le_of_ble_eq_true rfl) (Nat.le_of_ble_eq_true rfl)
    · refine mj_iconst (v := 1) dX12_isKept_15 (by decide) ?_
      refine mj_goto 20 dX12_isKept_16 (by decide) ?_
      exact t_iret dX12_isKept_20 rfl (by decide) ⟨rfl, _, rfl, hk⟩ (Nat.le_of_ble_eq_true rfl) (Nat.le_of_ble_eq_true rfl)

theorem dX12_keptAt_0 : decode cX12_keptAt 0 = .ok (.sipush 1548, 3) := by decide +kernel
theorem dX12_keptAt_3 : decode cX12_keptAt 3 = .ok (.iload_n 0, 1) := by decide +kernel
theorem dX12_keptAt_4 : decode cX12_keptAt 4 = .ok (.iadd, 1) := by decide +kernel
theorem dX12_keptAt_5 : decode cX12_keptAt 5 = .ok (.bipush 120, 2) := by decide +kernel
theorem dX12_keptAt_7 : decode cX12_keptAt 7 = .ok (.imul, 1) := by decide +kernel
theorem dX12_keptAt_8 : decode cX12_keptAt 8 = .ok (.ireturn, 1) := by decide +kernel
noncomputable def f_X12_keptAt (x1 : Int32) (s : t_S) : Int32 :=
 (((1548 : Int32) + x1) * (120 : Int32))
set_option maxRecDepth 4000 in
set_option maxHeartbeats 1000000 in
theorem C_X12_keptAt (x1 : Int32) (s : t_S) : t_C yX12_keptAt cX12_keptAt 1 (some .int) 0 [.int x1] s (fun v s' => v = some (.int (f_X12_keptAt x1 s)) ∧ s' = s) := by
  refine t_C.imp (P := fun v s' => s' = s ∧ ∃ x, v = some (.int x) ∧ (fun r => r = f_X12_keptAt x1 s) (x)) (t_C.of (by decide +kernel) (Nat.le_of_ble_eq_true rfl) ?_) (fun v s' hp => by obtain ⟨rfl, x, rfl, rfl⟩ := hp; exact ⟨rfl, rfl⟩)
  intro D cy ad bs X
  have hk : t_ht (f_X12_keptAt x1 s) (fun r => r = f_X12_keptAt x1 s) := rfl
  show mj_G D cy ad bs X cX12_keptAt 1 yX12_keptAt.cls (some .int) yX12_keptAt.name 0 0 0 1065 (t_P (fun v s' => s' = s ∧ ∃ x, v = some (.int x) ∧ (fun r => r = f_X12_keptAt x1 s) (x))) 0 [(0, .int x1)] [] (t_m s) 1065 0 0
  refine mj_sipush (v := 1548) dX12_keptAt_0 (by decide) ?_
  refine mj_iload_n dX12_keptAt_3 0 rfl ?_
  refine mj_iadd dX12_keptAt_4 ?_
  refine mj_bipush (v := 120) dX12_keptAt_5 (by decide) ?_
  refine mj_imul dX12_keptAt_7 ?_
  exact t_iret dX12_keptAt_8 rfl rfl ⟨rfl, _, rfl, hk⟩ (Nat.le_of_ble_eq_true rfl) (Nat.le_of_ble_eq_true rfl)

theorem dX8_plain_0 : decode cX8_plain 0 = .ok (.lload_n 0, 1) := by decide +kernel
theorem dX8_plain_1 : decode cX8_plain 1 = .ok (.invokestatic 32, 3) := by decide +kernel
theorem dX8_plain_10 : decode cX8_plain 10 = .ok (.iconst 1, 1) := by decide +kernel
theorem dX8_plain_11 : decode cX8_plain 11 = .ok (.if_icmp .eq 10, 3) := by decide +kernel
theorem dX8_plain_14 : decode cX8_plain 14 = .ok (.iload_n 2, 1) := by decide +kernel
theorem dX8_plain_15 : decode cX8_plain 15 = .ok (.iconst 5, 1) := by decide +kernel
theorem dX8_plain_16 : decode cX8_plain 16 = .ok (.if_icmp .eq 5, 3) := by decide +kernel
theorem dX8_plain_19 : decode cX8_plain 19 = .ok (.iconst 0, 1) := by decide +kernel
theorem dX8_plain_20 : decode cX8_plain 20 = .ok (.ireturn, 1) := by decide +kernel
theorem dX8_plain_21 : decode cX8_plain 21 = .ok (.ldc2_w 38, 3) := by decide +kernel
theorem dX8_plain_24 : decode cX8_plain 24 = .ok (.ldc2_w 40, 3) := by decide +kernel
theorem dX8_plain_27 : decode cX8_plain 27 = .ok (.lload_n 0, 1) := by decide +kernel
theorem dX8_plain_28 : decode cX8_plain 28 = .ok (.invokestatic 42, 3) := by decide +kernel
theorem dX8_plain_31 : decode cX8_plain 31 = .ok (.invokestatic 46, 3) := by decide +kernel
theorem dX8_plain_34 : decode cX8_plain 34 = .ok (.invokestatic 52, 3) := by decide +kernel
theorem dX8_plain_37 : decode cX8_plain 37 = .ok (.l2i, 1) := by decide +kernel
theorem dX8_plain_38 : decode cX8_plain 38 = .ok (.ireturn, 1) := by decide +kernel
theorem dX8_plain_4 : decode cX8_plain 4 = .ok (.istore_n 2, 1) := by decide +kernel
theorem dX8_plain_5 : decode cX8_plain 5 = .ok (.iload_n 2, 1) := by decide +kernel
theorem dX8_plain_6 : decode cX8_plain 6 = .ok (.ifCond .eq 15, 3) := by decide +kernel
theorem dX8_plain_9 : decode cX8_plain 9 = .ok (.iload_n 2, 1) := by decide +kernel
noncomputable def k_X8_plain_21 (l0 : Int64) (s : t_S) : Int32 :=
 ((if (if (f_X8_told l0 s) < (2147483647 : Int64) then (f_X8_told l0 s) else (2147483647 : Int64)) < (-2147483648 : Int64) then (-2147483648 : Int64) else (if (f_X8_told l0 s) < (2147483647 : Int64) then (f_X8_told l0 s) else (2147483647 : Int64))).toInt32)
set_option maxRecDepth 4000 in
set_option maxHeartbeats 1000000 in
theorem B_X8_plain_21 {D : va_G} {cy : Nat → ClassId} {ad : Nat → Nat} {bs : Nat} {X : State → Heap → Prop} (l0 : Int64) (s : t_S) (Q : Int32 → Prop) (hk : t_ht (k_X8_plain_21 l0 s) Q) : mj_G D cy ad bs X cX8_plain 3 yX8_plain.cls (some .int) yX8_plain.name 1 0 0 1065 (t_P (fun v s' => s' = s ∧ ∃ x, v = some (.int x) ∧ Q (x))) 21 [(0, .long l0)] [] (t_m s) 1065 0 0 := by
  refine mj_ldc2 dX8_plain_21 K_X8_38 ?_
  refine mj_ldc2 dX8_plain_24 K_X8_40 ?_
  refine mj_lload_n dX8_plain_27 0 rfl ?_
  refine t_callSlP dX8_plain_28 M_X8_told (C_X8_told _ _) ML_X8_42 SM_X8_told (As := [.long l0]) rfl rfl (Nat.le_of_ble_eq_true rfl) (Nat.le_of_ble_eq_true rfl) (Nat.le_of_ble_eq_true rfl) (Nat.le_of_ble_eq_true rfl) ?_
  refine mj_lmin dX8_plain_31 MJ_min_X8_46 (Nat.le_of_ble_eq_true rfl) (Nat.le_of_ble_eq_true rfl) (Nat.le_of_ble_eq_true rfl) (Nat.le_of_ble_eq_true rfl) ?_
  refine mj_lmax dX8_plain_34 MJ_max_X8_52 (Nat.le_of_ble_eq_true rfl) (Nat.le_of_ble_eq_true rfl) (Nat.le_of_ble_eq_true rfl) (Nat.le_of_ble_eq_true rfl) ?_
  refine mj_l2i (v := (if (if (f_X8_told l0 s) < (2147483647 : Int64) then (f_X8_told l0 s) else (2147483647 : Int64)) < (-2147483648 : Int64) then (-2147483648 : Int64) else (if (f_X8_told l0 s) < (2147483647 : Int64) then (f_X8_told l0 s) else (2147483647 : Int64))).toInt32) dX8_plain_37 rfl ?_
  exact t_iret dX8_plain_38 rfl rfl ⟨rfl, _, rfl, hk⟩ (Nat.le_of_ble_eq_true rfl) (Nat.le_of_ble_eq_true rfl)
noncomputable def f_X8_plain (x1 : Int64) (s : t_S) : Int32 :=
 if (f_X8_kind x1 s) = (0 : Int32) then (k_X8_plain_21 x1 s)
 else (if (f_X8_kind x1 s) = (1 : Int32) then (k_X8_plain_21 x1 s)
 else (if (f_X8_kind x1 s) = (5 : Int32) then (k_X8_plain_21 x1 s)
 else ((0 : Int32))))
set_option maxRecDepth 4000 in
set_option maxHeartbeats 1000000 in
theorem C_X8_plain (x1 : Int64) (s : t_S) : t_C yX8_plain cX8_plain 3 (some .int) 1 [.long x1] s (fun v s' => v = some (.int (f_X8_plain x1 s)) ∧ s' = s) := by
  refine t_C.imp (P := fun v s' => s' = s ∧ ∃ x, v = some (.int x) ∧ (fun r => r = f_X8_plain x1 s) (x)) (t_C.of (by decide +kernel) (Nat.le_of_ble_eq_true rfl) ?_) (fun v s' hp => by obtain ⟨rfl, x, rfl, rfl⟩ := hp; exact ⟨rfl, rfl⟩)
  intro D cy ad bs X
  have hk : t_ht (f_X8_plain x1 s) (fun r => r = f_X8_plain x1 s) := rfl
  show mj_G D cy ad bs X cX8_plain 3 yX8_plain.cls (some .int) yX8_plain.name 1 0 0 1065 (t_P (fun v s' => s' = s ∧ ∃ x, v = some (.int x) ∧ (fun r => r = f_X8_plain x1 s) (x))) 0 [(0, .long x1)] [] (t_m s) 1065 0 0
  refine mj_lload_n dX8_plain_0 0 rfl ?_
  refine t_callSiP dX8_plain_1 M_X8_kind (C_X8_kind _ _) ML_X8_32 SM_X8_kind (As := [.long x1]) rfl rfl (Nat.le_of_ble_eq_true rfl) (Nat.le_of_ble_eq_true rfl) (Nat.le_of_ble_eq_true rfl) (Nat.le_of_ble_eq_true rfl) ?_
  refine mj_istore_n 2 (lv2 := [(2, .int (f_X8_kind x1 s)), (0, .long x1)]) dX8_plain_4 rfl (by decide) rfl ?_
  refine mj_iload_n dX8_plain_5 0 rfl ?_
  refine mj_if_eq 21 dX8_plain_6 (by decide) (fun z => t_posTK hk z (fun hk => ?_)) (fun z => t_negTK hk z (fun hk => ?_))
  · refine mj_sublv [(0, .long x1)] [1] rfl ?_
    exact B_X8_plain_21 _ _ _ hk
  · refine mj_iload_n dX8_plain_9 0 rfl ?_
    refine mj_iconst (v := 1) dX8_plain_10 (by decide) ?_
    refine mj_icmp_eq 21 dX8_plain_11 (by decide) (fun z => t_posTK hk z (fun hk => ?_)) (fun z => t_negTK hk z (fun hk => ?_))
    · refine mj_sublv [(0, .long x1)] [1] rfl ?_
      exact B_X8_plain_21 _ _ _ hk
    · refine mj_iload_n dX8_plain_14 0 rfl ?_
      refine mj_iconst (v := 5) dX8_plain_15 (by decide) ?_
      refine mj_icmp_eq 21 dX8_plain_16 (by decide) (fun z => t_posTK hk z (fun hk => ?_)) (fun z => t_negTK hk z (fun hk => ?_))
      · refine mj_sublv [(0, .long x1)] [1] rfl ?_
        exact B_X8_plain_21 _ _ _ hk
      · refine mj_iconst (v := 0) dX8_plain_19 (by decide) ?_
        exact t_iret dX8_plain_20 rfl rfl ⟨rfl, _, rfl, hk⟩ (Nat.le_of_ble_eq_true rfl) (Nat.le_of_ble_eq_true rfl)

theorem dX12_about_0 : decode cX12_about 0 = .ok (.aload_n 0, 1) := by decide +kernel
theorem dX12_about_1 : decode cX12_about 1 = .ok (.iload_n 1, 1) := by decide +kernel
theorem dX12_about_12 : decode cX12_about 12 = .ok (.iload_n 2, 1) := by decide +kernel
theorem dX12_about_13 : decode cX12_about 13 = .ok (.iconst 3, 1) := by decide +kernel
theorem dX12_about_14 : decode cX12_about 14 = .ok (.if_icmp .le 5, 3) := by decide +kernel
theorem dX12_about_17 : decode cX12_about 17 = .ok (.iconst (-1), 1) := by decide +kernel
theorem dX12_about_18 : decode cX12_about 18 = .ok (.ireturn, 1) := by decide +kernel
theorem dX12_about_19 : decode cX12_about 19 = .ok (.aload_n 0, 1) := by decide +kernel
theorem dX12_about_2 : decode cX12_about 2 = .ok (.invokevirtual 169, 3) := by decide +kernel
theorem dX12_about_20 : decode cX12_about 20 = .ok (.getfield 19, 3) := by decide +kernel
theorem dX12_about_23 : decode cX12_about 23 = .ok (.getfield 173, 3) := by decide +kernel
theorem dX12_about_26 : decode cX12_about 26 = .ok (.iload_n 1, 1) := by decide +kernel
theorem dX12_about_27 : decode cX12_about 27 = .ok (.invokestatic 176, 3) := by decide +kernel
theorem dX12_about_30 : decode cX12_about 30 = .ok (.laload, 1) := by decide +kernel
theorem dX12_about_31 : decode cX12_about 31 = .ok (.lstore_n 3, 1) := by decide +kernel
theorem dX12_about_32 : decode cX12_about 32 = .ok (.iload_n 2, 1) := by decide +kernel
theorem dX12_about_33 : decode cX12_about 33 = .ok (.tableswitch 42 0 2 #[27, 32, 37], 27) := by decide +kernel
theorem dX12_about_5 : decode cX12_about 5 = .ok (.ifCond .eq 12, 3) := by decide +kernel
theorem dX12_about_60 : decode cX12_about 60 = .ok (.lload_n 3, 1) := by decide +kernel
theorem dX12_about_61 : decode cX12_about 61 = .ok (.invokestatic 179, 3) := by decide +kernel
theorem dX12_about_64 : decode cX12_about 64 = .ok (.ireturn, 1) := by decide +kernel
theorem dX12_about_65 : decode cX12_about 65 = .ok (.lload_n 3, 1) := by decide +kernel
theorem dX12_about_66 : decode cX12_about 66 = .ok (.invokestatic 183, 3) := by decide +kernel
theorem dX12_about_69 : decode cX12_about 69 = .ok (.ireturn, 1) := by decide +kernel
theorem dX12_about_70 : decode cX12_about 70 = .ok (.lload_n 3, 1) := by decide +kernel
theorem dX12_about_71 : decode cX12_about 71 = .ok (.invokestatic 186, 3) := by decide +kernel
theorem dX12_about_74 : decode cX12_about 74 = .ok (.ireturn, 1) := by decide +kernel
theorem dX12_about_75 : decode cX12_about 75 = .ok (.lload_n 3, 1) := by decide +kernel
theorem dX12_about_76 : decode cX12_about 76 = .ok (.invokestatic 189, 3) := by decide +kernel
theorem dX12_about_79 : decode cX12_about 79 = .ok (.ireturn, 1) := by decide +kernel
theorem dX12_about_8 : decode cX12_about 8 = .ok (.iload_n 2, 1) := by decide +kernel
theorem dX12_about_9 : decode cX12_about 9 = .ok (.ifCond .lt 8, 3) := by decide +kernel
noncomputable def f_X12_about (x1 : Int32) (x2 : Int32) (s : t_S) : Option (Int32) :=
 if (f_X12_isKept x1 s) = (0 : Int32) then (some (-1 : Int32))
 else (if x2 < (0 : Int32) then (some (-1 : Int32))
 else (if x2 ≤ (3 : Int32) then (if t_ix (f_X12_keptAt x1 s) 190680 = true then
  if x2.toInt < 0 ∨ 2 < x2.toInt then (some (f_X8_plain (s.2.1 13 ((f_X12_keptAt x1 s).toNatClampNeg)) s))
 else if x2.toInt = 0 then (some (f_X8_kind (s.2.1 13 ((f_X12_keptAt x1 s).toNatClampNeg)) s))
 else if x2.toInt = 1 then (some (f_X8_size (s.2.1 13 ((f_X12_keptAt x1 s).toNatClampNeg)) s))
 else (some (f_X8_extent (s.2.1 13 ((f_X12_keptAt x1 s).toNatClampNeg)) s))
else none)
 else (some (-1 : Int32))))
set_option maxRecDepth 4000 in
set_option maxHeartbeats 1000000 in
theorem C_X12_about (x1 : Int32) (x2 : Int32) (s : t_S) (r : Int32) (hr : f_X12_about x1 x2 s = some r) : t_C yX12_about cX12_about 5 (some .int) 2 [.ref 0, .int x1, .int x2] s (fun v s' => v = some (.int r) ∧ s' = s) := by
  refine t_C.imp (P := fun v s' => s' = s ∧ ∃ x, v = some (.int x) ∧ (fun q => q = r) (x)) (t_C.of (by decide +kernel) (Nat.le_of_ble_eq_true rfl) ?_) (fun v s' hp => by obtain ⟨rfl, x, rfl, rfl⟩ := hp; exact ⟨rfl, rfl⟩)
  intro D cy ad bs X
  have hk : t_hk (f_X12_about x1 x2 s) (fun q => q = r) := ⟨r, hr, rfl⟩
  show mj_G D cy ad bs X cX12_about 5 yX12_about.cls (some .int) yX12_about.name 2 0 0 1065 (t_P (fun v s' => s' = s ∧ ∃ x, v = some (.int x) ∧ (fun q => q = r) (x))) 0 [(0, .ref 0), (1, .int x1), (2, .int x2)] [] (t_m s) 1065 0 0
  refine mj_aload_n dX12_about_0 0 rfl ?_
  refine mj_iload_n dX12_about_1 1 rfl ?_
  refine t_callViP dX12_about_2 M_X12_isKept (C_X12_isKept _ _) ML_X12_169 IM_X12_isKept SE_X12_isKept qc_0 rfl (As := [.int x1]) rfl rfl (Nat.le_of_ble_eq_true rfl) (Nat.le_of_ble_eq_true rfl) (Nat.le_of_ble_eq_true rfl) (Nat.le_of_ble_eq_true rfl) ?_
  refine mj_if_eq 17 dX12_about_5 (by decide) (fun z => t_posK hk z (fun hk => ?_)) (fun z => t_negK hk z (fun hk => ?_))
  · refine mj_iconst (v := (-1)) dX12_about_17 (by decide) ?_
    exact t_somK hk (fun hf => t_iret dX12_about_18 rfl rfl ⟨rfl, _, rfl, hf⟩ (Nat.le_of_ble_eq_true rfl) (Nat.le_of_ble_eq_true rfl))
  · refine mj_iload_n dX12_about_8 2 rfl ?_
    refine mj_if_lt 17 dX12_about_9 (by decide) (fun z => t_posK hk z (fun hk => ?_)) (fun z => t_negK hk z (fun hk => ?_))
    · refine mj_iconst (v := (-1)) dX12_about_17 (by decide) ?_
      exact t_somK hk (fun hf => t_iret dX12_about_18 rfl rfl ⟨rfl, _, rfl, hf⟩ (Nat.le_of_ble_eq_true rfl) (Nat.le_of_ble_eq_true rfl))
    · refine mj_iload_n dX12_about_12 2 rfl ?_
      refine mj_iconst (v := 3) dX12_about_13 (by decide) ?_
      refine mj_icmp_le 19 dX12_about_14 (by decide) (fun z => t_posK hk z (fun hk => ?_)) (fun z => t_negK hk z (fun hk => ?_))
      · refine mj_aload_n dX12_about_19 0 rfl ?_
        refine t_getR 12 dX12_about_20 F_X12_19 qr_0_1 ?_
        refine t_getR 13 dX12_about_23 F_X12_173 qr_12_0 ?_
        refine mj_iload_n dX12_about_26 1 rfl ?_
        refine t_callSiP dX12_about_27 M_X12_keptAt (C_X12_keptAt _ _) ML_X12_176 SM_X12_keptAt (As := [.int x1]) rfl rfl (Nat.le_of_ble_eq_true rfl) (Nat.le_of_ble_eq_true rfl) (Nat.le_of_ble_eq_true rfl) (Nat.le_of_ble_eq_true rfl) ?_
        refine t_chkK hk (fun c2 hk => ?_)
        refine t_lald dX12_about_30 qa_13 (t_ixv c2) ?_
        refine mj_lstore_n 3 (lv2 := [(3, .long (s.2.1 13 ((f_X12_keptAt x1 s).toNatClampNeg))), (0, .ref 0), (1, .int x1), (2, .int x2)]) dX12_about_31 rfl (by decide) rfl ?_
        refine mj_iload_n dX12_about_32 3 rfl ?_
        by_cases hout : x2.toInt < 0 ∨ 2 < x2.toInt
        · replace hk := t_pos hk hout
          refine mj_tableOut 75 dX12_about_33 hout (by decide) ?_
          refine mj_lload_n dX12_about_75 0 rfl ?_
          refine t_callSiP dX12_about_76 M_X8_plain (C_X8_plain _ _) ML_X12_189 SM_X8_plain (As := [.long (s.2.1 13 ((f_X12_keptAt x1 s).toNatClampNeg))]) rfl rfl (Nat.le_of_ble_eq_true rfl) (Nat.le_of_ble_eq_true rfl) (Nat.le_of_ble_eq_true rfl) (Nat.le_of_ble_eq_true rfl) ?_
          exact t_somK hk (fun hf => t_iret dX12_about_79 rfl rfl ⟨rfl, _, rfl, hf⟩ (Nat.le_of_ble_eq_true rfl) (Nat.le_of_ble_eq_true rfl))
        · replace hk := t_neg hk hout
          have hh1 : ¬ x2.toInt < 0 := fun z => hout (Or.inl z)
          have hh2 : ¬ (2 : Int) < x2.toInt := fun z => hout (Or.inr z)
          by_cases h0 : x2.toInt = 0
          · replace hk := t_pos hk h0
            refine mj_tableIn 60 dX12_about_33 hh1 hh2 (by rw [h0]; rfl) (by decide) ?_
            refine mj_lload_n dX12_about_60 0 rfl ?_
            refine t_callSiP dX12_about_61 M_X8_kind (C_X8_kind _ _) ML_X12_179 SM_X8_kind (As := [.long (s.2.1 13 ((f_X12_keptAt x1 s).toNatClampNeg))]) rfl rfl (Nat.le_of_ble_eq_true rfl) (Nat.le_of_ble_eq_true rfl) (Nat.le_of_ble_eq_true rfl) (Nat.le_of_ble_eq_true rfl) ?_
            exact t_somK hk (fun hf => t_iret dX12_about_64 rfl rfl ⟨rfl, _, rfl, hf⟩ (Nat.le_of_ble_eq_true rfl) (Nat.le_of_ble_eq_true rfl))
          replace hk := t_neg hk h0
          by_cases h1 : x2.toInt = 1
          · replace hk := t_pos hk h1
            refine mj_tableIn 65 dX12_about_33 hh1 hh2 (by rw [h1]; rfl) (by decide) ?_
            refine mj_lload_n dX12_about_65 0 rfl ?_
            refine t_callSiP dX12_about_66 M_X8_size (C_X8_size _ _) ML_X12_183 SM_X8_size (As := [.long (s.2.1 13 ((f_X12_keptAt x1 s).toNatClampNeg))]) rfl rfl (Nat.le_of_ble_eq_true rfl) (Nat.le_of_ble_eq_true rfl) (Nat.le_of_ble_eq_true rfl) (Nat.le_of_ble_eq_true rfl) ?_
            exact t_somK hk (fun hf => t_iret dX12_about_69 rfl rfl ⟨rfl, _, rfl, hf⟩ (Nat.le_of_ble_eq_true rfl) (Nat.le_of_ble_eq_true rfl))
          replace hk := t_neg hk h1
          have h2 : x2.toInt = 2 := by omega
          refine mj_tableIn 70 dX12_about_33 hh1 hh2 (by rw [h2]; rfl) (by decide) ?_
          refine mj_lload_n dX12_about_70 0 rfl ?_
          refine t_callSiP dX12_about_71 M_X8_extent (C_X8_extent _ _) ML_X12_186 SM_X8_extent (As := [.long (s.2.1 13 ((f_X12_keptAt x1 s).toNatClampNeg))]) rfl rfl (Nat.le_of_ble_eq_true rfl) (Nat.le_of_ble_eq_true rfl) (Nat.le_of_ble_eq_true rfl) (Nat.le_of_ble_eq_true rfl) ?_
          exact t_somK hk (fun hf => t_iret dX12_about_74 rfl rfl ⟨rfl, _, rfl, hf⟩ (Nat.le_of_ble_eq_true rfl) (Nat.le_of_ble_eq_true rfl))
      · refine mj_iconst (v := (-1)) dX12_about_17 (by decide) ?_
        exact t_somK hk (fun hf => t_iret dX12_about_18 rfl rfl ⟨rfl, _, rfl, hf⟩ (Nat.le_of_ble_eq_true rfl) (Nat.le_of_ble_eq_true rfl))

theorem dX12_alike_0 : decode cX12_alike 0 = .ok (.aload_n 0, 1) := by decide +kernel
theorem dX12_alike_1 : decode cX12_alike 1 = .ok (.iload_n 1, 1) := by decide +kernel
theorem dX12_alike_10 : decode cX12_alike 10 = .ok (.invokevirtual 169, 3) := by decide +kernel
theorem dX12_alike_13 : decode cX12_alike 13 = .ok (.ifCond .ne 5, 3) := by decide +kernel
theorem dX12_alike_16 : decode cX12_alike 16 = .ok (.iconst (-1), 1) := by decide +kernel
theorem dX12_alike_17 : decode cX12_alike 17 = .ok (.ireturn, 1) := by decide +kernel
theorem dX12_alike_18 : decode cX12_alike 18 = .ok (.aload_n 0, 1) := by decide +kernel
theorem dX12_alike_19 : decode cX12_alike 19 = .ok (.getfield 19, 3) := by decide +kernel
theorem dX12_alike_2 : decode cX12_alike 2 = .ok (.invokevirtual 169, 3) := by decide +kernel
theorem dX12_alike_22 : decode cX12_alike 22 = .ok (.getfield 173, 3) := by decide +kernel
theorem dX12_alike_25 : decode cX12_alike 25 = .ok (.iload_n 1, 1) := by decide +kernel
theorem dX12_alike_26 : decode cX12_alike 26 = .ok (.invokestatic 176, 3) := by decide +kernel
theorem dX12_alike_29 : decode cX12_alike 29 = .ok (.aload_n 0, 1) := by decide +kernel
theorem dX12_alike_30 : decode cX12_alike 30 = .ok (.getfield 19, 3) := by decide +kernel
theorem dX12_alike_33 : decode cX12_alike 33 = .ok (.getfield 173, 3) := by decide +kernel
theorem dX12_alike_36 : decode cX12_alike 36 = .ok (.iload_n 2, 1) := by decide +kernel
theorem dX12_alike_37 : decode cX12_alike 37 = .ok (.invokestatic 176, 3) := by decide +kernel
theorem dX12_alike_40 : decode cX12_alike 40 = .ok (.invokestatic 192, 3) := by decide +kernel
theorem dX12_alike_43 : decode cX12_alike 43 = .ok (.ifCond .eq 7, 3) := by decide +kernel
theorem dX12_alike_46 : decode cX12_alike 46 = .ok (.iconst 1, 1) := by decide +kernel
theorem dX12_alike_47 : decode cX12_alike 47 = .ok (.goto 4, 3) := by decide +kernel
theorem dX12_alike_5 : decode cX12_alike 5 = .ok (.ifCond .eq 11, 3) := by decide +kernel
theorem dX12_alike_50 : decode cX12_alike 50 = .ok (.iconst 0, 1) := by decide +kernel
theorem dX12_alike_51 : decode cX12_alike 51 = .ok (.ireturn, 1) := by decide +kernel
theorem dX12_alike_8 : decode cX12_alike 8 = .ok (.aload_n 0, 1) := by decide +kernel
theorem dX12_alike_9 : decode cX12_alike 9 = .ok (.iload_n 2, 1) := by decide +kernel
noncomputable def f_X12_alike (x1 : Int32) (x2 : Int32) (s : t_S) : Option (Int32) :=
 if (f_X12_isKept x1 s) = (0 : Int32) then (some (-1 : Int32))
 else (if (f_X12_isKept x2 s) = (0 : Int32) then (some (-1 : Int32))
 else ((f_X8_same 13 (f_X12_keptAt x1 s) 13 (f_X12_keptAt x2 s) s).bind (fun r5 =>
 if r5 = (0 : Int32) then (some (0 : Int32))
 else (some (1 : Int32)))))
set_option maxRecDepth 4000 in
set_option maxHeartbeats 1000000 in
theorem C_X12_alike (x1 : Int32) (x2 : Int32) (s : t_S) (r : Int32) (hr : f_X12_alike x1 x2 s = some r) : t_C yX12_alike cX12_alike 3 (some .int) 1 [.ref 0, .int x1, .int x2] s (fun v s' => v = some (.int r) ∧ s' = s) := by
  refine t_C.imp (P := fun v s' => s' = s ∧ ∃ x, v = some (.int x) ∧ (fun q => q = r) (x)) (t_C.of (by decide +kernel) (Nat.le_of_ble_eq_true rfl) ?_) (fun v s' hp => by obtain ⟨rfl, x, rfl, rfl⟩ := hp; exact ⟨rfl, rfl⟩)
  intro D cy ad bs X
  have hk : t_hk (f_X12_alike x1 x2 s) (fun q => q = r) := ⟨r, hr, rfl⟩
  show mj_G D cy ad bs X cX12_alike 3 yX12_alike.cls (some .int) yX12_alike.name 1 0 0 1065 (t_P (fun v s' => s' = s ∧ ∃ x, v = some (.int x) ∧ (fun q => q = r) (x))) 0 [(0, .ref 0), (1, .int x1), (2, .int x2)] [] (t_m s) 1065 0 0
  refine mj_aload_n dX12_alike_0 0 rfl ?_
  refine mj_iload_n dX12_alike_1 1 rfl ?_
  refine t_callViP dX12_alike_2 M_X12_isKept (C_X12_isKept _ _) ML_X12_169 IM_X12_isKept SE_X12_isKept qc_0 rfl (As := [.int x1]) rfl rfl (Nat.le_of_ble_eq_true rfl) (Nat.le_of_ble_eq_true rfl) (Nat.le_of_ble_eq_true rfl) (Nat.le_of_ble_eq_true rfl) ?_
  refine mj_if_eq 16 dX12_alike_5 (by decide) (fun z => t_posK hk z (fun hk => ?_)) (fun z => t_negK hk z (fun hk => ?_))
  · refine mj_iconst (v := (-1)) dX12_alike_16 (by decide) ?_
    exact t_somK hk (fun hf => t_iret dX12_alike_17 rfl rfl ⟨rfl, _, rfl, hf⟩ (Nat.le_of_ble_eq_true rfl) (Nat.le_of_ble_eq_true rfl))
  · refine mj_aload_n dX12_alike_8 0 rfl ?_
    refine mj_iload_n dX12_alike_9 2 rfl ?_
    refine t_callViP dX12_alike_10 M_X12_isKept (C_X12_isKept _ _) ML_X12_169 IM_X12_isKept SE_X12_isKept qc_0 rfl (As := [.int x2]) rfl rfl (Nat.le_of_ble_eq_true rfl) (Nat.le_of_ble_eq_true rfl) (Nat.le_of_ble_eq_true rfl) (Nat.le_of_ble_eq_true rfl) ?_
    refine mj_if_ne 18 dX12_alike_13 (by decide) (fun z => t_negK hk z (fun hk => ?_)) (fun z => t_posK hk z (fun hk => ?_))
    · refine mj_aload_n dX12_alike_18 0 rfl ?_
      refine t_getR 12 dX12_alike_19 F_X12_19 qr_0_1 ?_
      refine t_getR 13 dX12_alike_22 F_X12_173 qr_12_0 ?_
      refine mj_iload_n dX12_alike_25 1 rfl ?_
      refine t_callSiP dX12_alike_26 M_X12_keptAt (C_X12_keptAt _ _) ML_X12_176 SM_X12_keptAt (As := [.int x1]) rfl rfl (Nat.le_of_ble_eq_true rfl) (Nat.le_of_ble_eq_true rfl) (Nat.le_of_ble_eq_true rfl) (Nat.le_of_ble_eq_true rfl) ?_
      refine mj_aload_n dX12_alike_29 0 rfl ?_
      refine t_getR 12 dX12_alike_30 F_X12_19 qr_0_1 ?_
      refine t_getR 13 dX12_alike_33 F_X12_173 qr_12_0 ?_
      refine mj_iload_n dX12_alike_36 2 rfl ?_
      refine t_callSiP dX12_alike_37 M_X12_keptAt (C_X12_keptAt _ _) ML_X12_176 SM_X12_keptAt (As := [.int x2]) rfl rfl (Nat.le_of_ble_eq_true rfl) (Nat.le_of_ble_eq_true rfl) (Nat.le_of_ble_eq_true rfl) (Nat.le_of_ble_eq_true rfl) ?_
      refine t_bndK hk (fun r5 er5 hk => ?_)
      refine t_callSiP dX12_alike_40 M_X8_same (C_X8_same _ _ _ _ _ _ er5) ML_X12_192 SM_X8_same (As := [.ref 13, .int (f_X12_keptAt x1 s), .ref 13, .int (f_X12_keptAt x2 s)]) rfl rfl (Nat.le_of_ble_eq_true rfl) (Nat.le_of_ble_eq_true rfl) (Nat.le_of_ble_eq_true rfl) (Nat.le_of_ble_eq_true rfl) ?_
      refine mj_if_eq 50 dX12_alike_43 (by decide) (fun z => t_posK hk z (fun hk => ?_)) (fun z => t_negK hk z (fun hk => ?_))
      · refine mj_iconst (v := 0) dX12_alike_50 (by decide) ?_
        exact t_somK hk (fun hf => t_iret dX12_alike_51 rfl rfl ⟨rfl, _, rfl, hf⟩ (Nat.le_of_ble_eq_true rfl) (Nat.le_of_ble_eq_true rfl))
      · refine mj_iconst (v := 1) dX12_alike_46 (by decide) ?_
        refine mj_goto 51 dX12_alike_47 (by decide) ?_
        exact t_somK hk (fun hf => t_iret dX12_alike_51 rfl rfl ⟨rfl, _, rfl, hf⟩ (Nat.le_of_ble_eq_true rfl) (Nat.le_of_ble_eq_true rfl))
    · refine mj_iconst (v := (-1)) dX12_alike_16 (by decide) ?_
      exact t_somK hk (fun hf => t_iret dX12_alike_17 rfl rfl ⟨rfl, _, rfl, hf⟩ (Nat.le_of_ble_eq_true rfl) (Nat.le_of_ble_eq_true rfl))

theorem dX4_frameSlot_0 : decode cX4_frameSlot 0 = .ok (.iconst 0, 1) := by decide +kernel
theorem dX4_frameSlot_1 : decode cX4_frameSlot 1 = .ok (.aload_n 0, 1) := by decide +kernel
theorem dX4_frameSlot_11 : decode cX4_frameSlot 11 = .ok (.iadd, 1) := by decide +kernel
theorem dX4_frameSlot_12 : decode cX4_frameSlot 12 = .ok (.iload_n 1, 1) := by decide +kernel
theorem dX4_frameSlot_13 : decode cX4_frameSlot 13 = .ok (.bipush 8, 2) := by decide +kernel
theorem dX4_frameSlot_15 : decode cX4_frameSlot 15 = .ok (.imul, 1) := by decide +kernel
theorem dX4_frameSlot_16 : decode cX4_frameSlot 16 = .ok (.iadd, 1) := by decide +kernel
theorem dX4_frameSlot_17 : decode cX4_frameSlot 17 = .ok (.ireturn, 1) := by decide +kernel
theorem dX4_frameSlot_2 : decode cX4_frameSlot 2 = .ok (.getfield 40, 3) := by decide +kernel
theorem dX4_frameSlot_5 : decode cX4_frameSlot 5 = .ok (.bipush 72, 2) := by decide +kernel
theorem dX4_frameSlot_7 : decode cX4_frameSlot 7 = .ok (.imul, 1) := by decide +kernel
theorem dX4_frameSlot_8 : decode cX4_frameSlot 8 = .ok (.iadd, 1) := by decide +kernel
theorem dX4_frameSlot_9 : decode cX4_frameSlot 9 = .ok (.bipush 8, 2) := by decide +kernel
noncomputable def f_X4_frameSlot (p : Nat) (x1 : Int32) (s : t_S) : Option (Int32) :=
 if t_isP p = true then
  some ((((0 : Int32) + ((s.1 p 0) * (72 : Int32))) + (8 : Int32)) + (x1 * (8 : Int32)))
else none
set_option maxRecDepth 4000 in
set_option maxHeartbeats 1000000 in
theorem C_X4_frameSlot (p : Nat) (x1 : Int32) (s : t_S) (r : Int32) (hr : f_X4_frameSlot p x1 s = some r) : t_C yX4_frameSlot cX4_frameSlot 2 (some .int) 0 [.ref p, .int x1] s (fun v s' => v = some (.int r) ∧ s' = s) := by
  refine t_C.imp (P := fun v s' => s' = s ∧ ∃ x, v = some (.int x) ∧ (fun q => q = r) (x)) (t_C.of (by decide +kernel) (Nat.le_of_ble_eq_true rfl) ?_) (fun v s' hp => by obtain ⟨rfl, x, rfl, rfl⟩ := hp; exact ⟨rfl, rfl⟩)
  intro D cy ad bs X
  have hk : t_hk (f_X4_frameSlot p x1 s) (fun q => q = r) := ⟨r, hr, rfl⟩
  show mj_G D cy ad bs X cX4_frameSlot 2 yX4_frameSlot.cls (some .int) yX4_frameSlot.name 0 0 0 1065 (t_P (fun v s' => s' = s ∧ ∃ x, v = some (.int x) ∧ (fun q => q = r) (x))) 0 [(0, .ref p), (1, .int x1)] [] (t_m s) 1065 0 0
  refine mj_iconst (v := 0) dX4_frameSlot_0 (by decide) ?_
  refine mj_aload_n dX4_frameSlot_1 0 rfl ?_
  refine t_chkK hk (fun c0 hk => ?_)
  refine t_getI dX4_frameSlot_2 F_X4_40 (t_pf0 c0) ?_
  refine mj_bipush (v := 72) dX4_frameSlot_5 (by decide) ?_
  refine mj_imul dX4_frameSlot_7 ?_
  refine mj_iadd dX4_frameSlot_8 ?_
  refine mj_bipush (v := 8) dX4_frameSlot_9 (by decide) ?_
  refine mj_iadd dX4_frameSlot_11 ?_
  refine mj_iload_n dX4_frameSlot_12 1 rfl ?_
  refine mj_bipush (v := 8) dX4_frameSlot_13 (by decide) ?_
  refine mj_imul dX4_frameSlot_15 ?_
  refine mj_iadd dX4_frameSlot_16 ?_
  exact t_somK hk (fun hf => t_iret dX4_frameSlot_17 rfl rfl ⟨rfl, _, rfl, hf⟩ (Nat.le_of_ble_eq_true rfl) (Nat.le_of_ble_eq_true rfl))

theorem dX4_topSlot_0 : decode cX4_topSlot 0 = .ok (.aload_n 0, 1) := by decide +kernel
theorem dX4_topSlot_1 : decode cX4_topSlot 1 = .ok (.iconst 0, 1) := by decide +kernel
theorem dX4_topSlot_11 : decode cX4_topSlot 11 = .ok (.invokevirtual 84, 3) := by decide +kernel
theorem dX4_topSlot_14 : decode cX4_topSlot 14 = .ok (.ireturn, 1) := by decide +kernel
theorem dX4_topSlot_2 : decode cX4_topSlot 2 = .ok (.aload_n 0, 1) := by decide +kernel
theorem dX4_topSlot_3 : decode cX4_topSlot 3 = .ok (.getfield 59, 3) := by decide +kernel
theorem dX4_topSlot_6 : decode cX4_topSlot 6 = .ok (.iconst 1, 1) := by decide +kernel
theorem dX4_topSlot_7 : decode cX4_topSlot 7 = .ok (.isub, 1) := by decide +kernel
theorem dX4_topSlot_8 : decode cX4_topSlot 8 = .ok (.invokestatic 78, 3) := by decide +kernel
noncomputable def f_X4_topSlot (p : Nat) (s : t_S) : Option (Int32) :=
 if t_isP p = true then
  (f_X4_frameSlot p (if (0 : Int32) < ((s.1 p 6) - (1 : Int32)) then ((s.1 p 6) - (1 : Int32)) else (0 : Int32)) s).bind (fun r2 =>
 some (r2))
else none
set_option maxRecDepth 4000 in
set_option maxHeartbeats 1000000 in
theorem C_X4_topSlot (p : Nat) (s : t_S) (r : Int32) (hr : f_X4_topSlot p s = some r) : t_C yX4_topSlot cX4_topSlot 1 (some .int) 1 [.ref p] s (fun v s' => v = some (.int r) ∧ s' = s) := by
  refine t_C.imp (P := fun v s' => s' = s ∧ ∃ x, v = some (.int x) ∧ (fun q => q = r) (x)) (t_C.of (by decide +kernel) (Nat.le_of_ble_eq_true rfl) ?_) (fun v s' hp => by obtain ⟨rfl, x, rfl, rfl⟩ := hp; exact ⟨rfl, rfl⟩)
  intro D cy ad bs X
  have hk : t_hk (f_X4_topSlot p s) (fun q => q = r) := ⟨r, hr, rfl⟩
  show mj_G D cy ad bs X cX4_topSlot 1 yX4_topSlot.cls (some .int) yX4_topSlot.name 1 0 0 1065 (t_P (fun v s' => s' = s ∧ ∃ x, v = some (.int x) ∧ (fun q => q = r) (x))) 0 [(0, .ref p)] [] (t_m s) 1065 0 0
  refine mj_aload_n dX4_topSlot_0 0 rfl ?_
  refine mj_iconst (v := 0) dX4_topSlot_1 (by decide) ?_
  refine mj_aload_n dX4_topSlot_2 0 rfl ?_
  refine t_chkK hk (fun c0 hk => ?_)
  refine t_getI dX4_topSlot_3 F_X4_59 (t_pf6 c0) ?_
  refine mj_iconst (v := 1) dX4_topSlot_6 (by decide) ?_
  refine mj_isub dX4_topSlot_7 ?_
  refine mj_imax dX4_topSlot_8 MM_max_X4_78 (Nat.le_of_ble_eq_true rfl) (Nat.le_of_ble_eq_true rfl) (Nat.le_of_ble_eq_true rfl) (Nat.le_of_ble_eq_true rfl) ?_
  refine t_bndK hk (fun r2 er2 hk => ?_)
  refine t_callViP dX4_topSlot_11 M_X4_frameSlot (C_X4_frameSlot _ _ _ _ er2) ML_X4_84 IM_X4_frameSlot SE_X4_frameSlot (t_pc c0) rfl (As := [.int (if (0 : Int32) < ((s.1 p 6) - (1 : Int32)) then ((s.1 p 6) - (1 : Int32)) else (0 : Int32))]) rfl rfl (Nat.le_of_ble_eq_true rfl) (Nat.le_of_ble_eq_true rfl) (Nat.le_of_ble_eq_true rfl) (Nat.le_of_ble_eq_true rfl) ?_
  exact t_somK hk (fun hf => t_iret dX4_topSlot_14 rfl rfl ⟨rfl, _, rfl, hf⟩ (Nat.le_of_ble_eq_true rfl) (Nat.le_of_ble_eq_true rfl))

theorem dX4_usualSlot_0 : decode cX4_usualSlot 0 = .ok (.sipush 608, 3) := by decide +kernel
theorem dX4_usualSlot_10 : decode cX4_usualSlot 10 = .ok (.iadd, 1) := by decide +kernel
theorem dX4_usualSlot_11 : decode cX4_usualSlot 11 = .ok (.bipush 8, 2) := by decide +kernel
theorem dX4_usualSlot_13 : decode cX4_usualSlot 13 = .ok (.imul, 1) := by decide +kernel
theorem dX4_usualSlot_14 : decode cX4_usualSlot 14 = .ok (.iadd, 1) := by decide +kernel
theorem dX4_usualSlot_15 : decode cX4_usualSlot 15 = .ok (.ireturn, 1) := by decide +kernel
theorem dX4_usualSlot_3 : decode cX4_usualSlot 3 = .ok (.aload_n 0, 1) := by decide +kernel
theorem dX4_usualSlot_4 : decode cX4_usualSlot 4 = .ok (.getfield 40, 3) := by decide +kernel
theorem dX4_usualSlot_7 : decode cX4_usualSlot 7 = .ok (.iconst 4, 1) := by decide +kernel
theorem dX4_usualSlot_8 : decode cX4_usualSlot 8 = .ok (.imul, 1) := by decide +kernel
theorem dX4_usualSlot_9 : decode cX4_usualSlot 9 = .ok (.iload_n 1, 1) := by decide +kernel
noncomputable def f_X4_usualSlot (p : Nat) (x1 : Int32) (s : t_S) : Option (Int32) :=
 if t_isP p = true then
  some ((608 : Int32) + ((((s.1 p 0) * (4 : Int32)) + x1) * (8 : Int32)))
else none
set_option maxRecDepth 4000 in
set_option maxHeartbeats 1000000 in
theorem C_X4_usualSlot (p : Nat) (x1 : Int32) (s : t_S) (r : Int32) (hr : f_X4_usualSlot p x1 s = some r) : t_C yX4_usualSlot cX4_usualSlot 2 (some .int) 0 [.ref p, .int x1] s (fun v s' => v = some (.int r) ∧ s' = s) := by
  refine t_C.imp (P := fun v s' => s' = s ∧ ∃ x, v = some (.int x) ∧ (fun q => q = r) (x)) (t_C.of (by decide +kernel) (Nat.le_of_ble_eq_true rfl) ?_) (fun v s' hp => by obtain ⟨rfl, x, rfl, rfl⟩ := hp; exact ⟨rfl, rfl⟩)
  intro D cy ad bs X
  have hk : t_hk (f_X4_usualSlot p x1 s) (fun q => q = r) := ⟨r, hr, rfl⟩
  show mj_G D cy ad bs X cX4_usualSlot 2 yX4_usualSlot.cls (some .int) yX4_usualSlot.name 0 0 0 1065 (t_P (fun v s' => s' = s ∧ ∃ x, v = some (.int x) ∧ (fun q => q = r) (x))) 0 [(0, .ref p), (1, .int x1)] [] (t_m s) 1065 0 0
  refine mj_sipush (v := 608) dX4_usualSlot_0 (by decide) ?_
  refine mj_aload_n dX4_usualSlot_3 0 rfl ?_
  refine t_chkK hk (fun c0 hk => ?_)
  refine t_getI dX4_usualSlot_4 F_X4_40 (t_pf0 c0) ?_
  refine mj_iconst (v := 4) dX4_usualSlot_7 (by decide) ?_
  refine mj_imul dX4_usualSlot_8 ?_
  refine mj_iload_n dX4_usualSlot_9 1 rfl ?_
  refine mj_iadd dX4_usualSlot_10 ?_
  refine mj_bipush (v := 8) dX4_usualSlot_11 (by decide) ?_
  refine mj_imul dX4_usualSlot_13 ?_
  refine mj_iadd dX4_usualSlot_14 ?_
  exact t_somK hk (fun hf => t_iret dX4_usualSlot_15 rfl rfl ⟨rfl, _, rfl, hf⟩ (Nat.le_of_ble_eq_true rfl) (Nat.le_of_ble_eq_true rfl))

theorem dX4_queuePlace_0 : decode cX4_queuePlace 0 = .ok (.iload_n 1, 1) := by decide +kernel
theorem dX4_queuePlace_1 : decode cX4_queuePlace 1 = .ok (.bipush 8, 2) := by decide +kernel
theorem dX4_queuePlace_10 : decode cX4_queuePlace 10 = .ok (.iload_n 2, 1) := by decide +kernel
theorem dX4_queuePlace_11 : decode cX4_queuePlace 11 = .ok (.iadd, 1) := by decide +kernel
theorem dX4_queuePlace_12 : decode cX4_queuePlace 12 = .ok (.bipush 8, 2) := by decide +kernel
theorem dX4_queuePlace_14 : decode cX4_queuePlace 14 = .ok (.irem, 1) := by decide +kernel
theorem dX4_queuePlace_15 : decode cX4_queuePlace 15 = .ok (.iadd, 1) := by decide +kernel
theorem dX4_queuePlace_16 : decode cX4_queuePlace 16 = .ok (.ireturn, 1) := by decide +kernel
theorem dX4_queuePlace_3 : decode cX4_queuePlace 3 = .ok (.imul, 1) := by decide +kernel
theorem dX4_queuePlace_4 : decode cX4_queuePlace 4 = .ok (.aload_n 0, 1) := by decide +kernel
theorem dX4_queuePlace_5 : decode cX4_queuePlace 5 = .ok (.getfield 27, 3) := by decide +kernel
theorem dX4_queuePlace_8 : decode cX4_queuePlace 8 = .ok (.iload_n 1, 1) := by decide +kernel
theorem dX4_queuePlace_9 : decode cX4_queuePlace 9 = .ok (.iaload, 1) := by decide +kernel
noncomputable def f_X4_queuePlace (p : Nat) (x1 : Int32) (x2 : Int32) (s : t_S) : Option (Int32) :=
 if t_isP p = true then
  if t_ix x1 6 = true then
  some ((x1 * (8 : Int32)) + (((s.1 (p + 6) (x1.toNatClampNeg)) + x2) - ((s.1 (p + 6) (x1.toNatClampNeg)) + x2) / (8 : Int32) * (8 : Int32)))
else none
else none
set_option maxRecDepth 4000 in
set_option maxHeartbeats 1000000 in
theorem C_X4_queuePlace (p : Nat) (x1 : Int32) (x2 : Int32) (s : t_S) (r : Int32) (hr : f_X4_queuePlace p x1 x2 s = some r) : t_C yX4_queuePlace cX4_queuePlace 3 (some .int) 0 [.ref p, .int x1, .int x2] s (fun v s' => v = some (.int r) ∧ s' = s) := by
  refine t_C.imp (P := fun v s' => s' = s ∧ ∃ x, v = some (.int x) ∧ (fun q => q = r) (x)) (t_C.of (by decide +kernel) (Nat.le_of_ble_eq_true rfl) ?_) (fun v s' hp => by obtain ⟨rfl, x, rfl, rfl⟩ := hp; exact ⟨rfl, rfl⟩)
  intro D cy ad bs X
  have hk : t_hk (f_X4_queuePlace p x1 x2 s) (fun q => q = r) := ⟨r, hr, rfl⟩
  show mj_G D cy ad bs X cX4_queuePlace 3 yX4_queuePlace.cls (some .int) yX4_queuePlace.name 0 0 0 1065 (t_P (fun v s' => s' = s ∧ ∃ x, v = some (.int x) ∧ (fun q => q = r) (x))) 0 [(0, .ref p), (1, .int x1), (2, .int x2)] [] (t_m s) 1065 0 0
  refine mj_iload_n dX4_queuePlace_0 1 rfl ?_
  refine mj_bipush (v := 8) dX4_queuePlace_1 (by decide) ?_
  refine mj_imul dX4_queuePlace_3 ?_
  refine mj_aload_n dX4_queuePlace_4 0 rfl ?_
  refine t_chkK hk (fun c0 hk => ?_)
  refine t_getR (p + 6) dX4_queuePlace_5 F_X4_27 (t_pr13 c0) ?_
  refine mj_iload_n dX4_queuePlace_8 1 rfl ?_
  refine t_chkK hk (fun c1 hk => ?_)
  refine t_iald dX4_queuePlace_9 (t_pa13 c0) (t_ixv c1) ?_
  refine mj_iload_n dX4_queuePlace_10 2 rfl ?_
  refine mj_iadd dX4_queuePlace_11 ?_
  refine mj_bipush (v := 8) dX4_queuePlace_12 (by decide) ?_
  refine mj_irem dX4_queuePlace_14 (by decide) ?_
  refine mj_iadd dX4_queuePlace_15 ?_
  exact t_somK hk (fun hf => t_iret dX4_queuePlace_16 rfl rfl ⟨rfl, _, rfl, hf⟩ (Nat.le_of_ble_eq_true rfl) (Nat.le_of_ble_eq_true rfl))

theorem dX4_queueSlot_0 : decode cX4_queueSlot 0 = .ok (.sipush 864, 3) := by decide +kernel
theorem dX4_queueSlot_10 : decode cX4_queueSlot 10 = .ok (.bipush 8, 2) := by decide +kernel
theorem dX4_queueSlot_12 : decode cX4_queueSlot 12 = .ok (.imul, 1) := by decide +kernel
theorem dX4_queueSlot_13 : decode cX4_queueSlot 13 = .ok (.iadd, 1) := by decide +kernel
theorem dX4_queueSlot_14 : decode cX4_queueSlot 14 = .ok (.aload_n 0, 1) := by decide +kernel
theorem dX4_queueSlot_15 : decode cX4_queueSlot 15 = .ok (.iload_n 1, 1) := by decide +kernel
theorem dX4_queueSlot_16 : decode cX4_queueSlot 16 = .ok (.iload_n 2, 1) := by decide +kernel
theorem dX4_queueSlot_17 : decode cX4_queueSlot 17 = .ok (.invokevirtual 88, 3) := by decide +kernel
theorem dX4_queueSlot_20 : decode cX4_queueSlot 20 = .ok (.iadd, 1) := by decide +kernel
theorem dX4_queueSlot_21 : decode cX4_queueSlot 21 = .ok (.ireturn, 1) := by decide +kernel
theorem dX4_queueSlot_3 : decode cX4_queueSlot 3 = .ok (.aload_n 0, 1) := by decide +kernel
theorem dX4_queueSlot_4 : decode cX4_queueSlot 4 = .ok (.getfield 40, 3) := by decide +kernel
theorem dX4_queueSlot_7 : decode cX4_queueSlot 7 = .ok (.bipush 6, 2) := by decide +kernel
theorem dX4_queueSlot_9 : decode cX4_queueSlot 9 = .ok (.imul, 1) := by decide +kernel
noncomputable def f_X4_queueSlot (p : Nat) (x1 : Int32) (x2 : Int32) (s : t_S) : Option (Int32) :=
 if t_isP p = true then
  (f_X4_queuePlace p x1 x2 s).bind (fun r2 =>
 some (((864 : Int32) + (((s.1 p 0) * (6 : Int32)) * (8 : Int32))) + r2))
else none
set_option maxRecDepth 4000 in
set_option maxHeartbeats 1000000 in
theorem C_X4_queueSlot (p : Nat) (x1 : Int32) (x2 : Int32) (s : t_S) (r : Int32) (hr : f_X4_queueSlot p x1 x2 s = some r) : t_C yX4_queueSlot cX4_queueSlot 3 (some .int) 1 [.ref p, .int x1, .int x2] s (fun v s' => v = some (.int r) ∧ s' = s) := by
  refine t_C.imp (P := fun v s' => s' = s ∧ ∃ x, v = some (.int x) ∧ (fun q => q = r) (x)) (t_C.of (by decide +kernel) (Nat.le_of_ble_eq_true rfl) ?_) (fun v s' hp => by obtain ⟨rfl, x, rfl, rfl⟩ := hp; exact ⟨rfl, rfl⟩)
  intro D cy ad bs X
  have hk : t_hk (f_X4_queueSlot p x1 x2 s) (fun q => q = r) := ⟨r, hr, rfl⟩
  show mj_G D cy ad bs X cX4_queueSlot 3 yX4_queueSlot.cls (some .int) yX4_queueSlot.name 1 0 0 1065 (t_P (fun v s' => s' = s ∧ ∃ x, v = some (.int x) ∧ (fun q => q = r) (x))) 0 [(0, .ref p), (1, .int x1), (2, .int x2)] [] (t_m s) 1065 0 0
  refine mj_sipush (v := 864) dX4_queueSlot_0 (by decide) ?_
  refine mj_aload_n dX4_queueSlot_3 0 rfl ?_
  refine t_chkK hk (fun c0 hk => ?_)
  refine t_getI dX4_queueSlot_4 F_X4_40 (t_pf0 c0) ?_
  refine mj_bipush (v := 6) dX4_queueSlot_7 (by decide) ?_
  refine mj_imul dX4_queueSlot_9 ?_
  refine mj_bipush (v := 8) dX4_queueSlot_10 (by decide) ?_
  refine mj_imul dX4_queueSlot_12 ?_
  refine mj_iadd dX4_queueSlot_13 ?_
  refine mj_aload_n dX4_queueSlot_14 0 rfl ?_
  refine mj_iload_n dX4_queueSlot_15 1 rfl ?_
  refine mj_iload_n dX4_queueSlot_16 2 rfl ?_
  refine t_bndK hk (fun r2 er2 hk => ?_)
  refine t_callViP dX4_queueSlot_17 M_X4_queuePlace (C_X4_queuePlace _ _ _ _ _ er2) ML_X4_88 IM_X4_queuePlace SE_X4_queuePlace (t_pc c0) rfl (As := [.int x1, .int x2]) rfl rfl (Nat.le_of_ble_eq_true rfl) (Nat.le_of_ble_eq_true rfl) (Nat.le_of_ble_eq_true rfl) (Nat.le_of_ble_eq_true rfl) ?_
  refine mj_iadd dX4_queueSlot_20 ?_
  exact t_somK hk (fun hf => t_iret dX4_queueSlot_21 rfl rfl ⟨rfl, _, rfl, hf⟩ (Nat.le_of_ble_eq_true rfl) (Nat.le_of_ble_eq_true rfl))

theorem dX4_sender_0 : decode cX4_sender 0 = .ok (.aload_n 0, 1) := by decide +kernel
theorem dX4_sender_1 : decode cX4_sender 1 = .ok (.getfield 33, 3) := by decide +kernel
theorem dX4_sender_10 : decode cX4_sender 10 = .ok (.iaload, 1) := by decide +kernel
theorem dX4_sender_11 : decode cX4_sender 11 = .ok (.ireturn, 1) := by decide +kernel
theorem dX4_sender_4 : decode cX4_sender 4 = .ok (.aload_n 0, 1) := by decide +kernel
theorem dX4_sender_5 : decode cX4_sender 5 = .ok (.iload_n 1, 1) := by decide +kernel
theorem dX4_sender_6 : decode cX4_sender 6 = .ok (.iconst 0, 1) := by decide +kernel
theorem dX4_sender_7 : decode cX4_sender 7 = .ok (.invokevirtual 88, 3) := by decide +kernel
noncomputable def f_X4_sender (p : Nat) (x1 : Int32) (s : t_S) : Option (Int32) :=
 if t_isP p = true then
  (f_X4_queuePlace p x1 (0 : Int32) s).bind (fun r2 =>
 if t_ix r2 48 = true then
  some (s.1 (p + 8) (r2.toNatClampNeg))
else none)
else none
set_option maxRecDepth 4000 in
set_option maxHeartbeats 1000000 in
theorem C_X4_sender (p : Nat) (x1 : Int32) (s : t_S) (r : Int32) (hr : f_X4_sender p x1 s = some r) : t_C yX4_sender cX4_sender 2 (some .int) 1 [.ref p, .int x1] s (fun v s' => v = some (.int r) ∧ s' = s) := by
  refine t_C.imp (P := fun v s' => s' = s ∧ ∃ x, v = some (.int x) ∧ (fun q => q = r) (x)) (t_C.of (by decide +kernel) (Nat.le_of_ble_eq_true rfl) ?_) (fun v s' hp => by obtain ⟨rfl, x, rfl, rfl⟩ := hp; exact ⟨rfl, rfl⟩)
  intro D cy ad bs X
  have hk : t_hk (f_X4_sender p x1 s) (fun q => q = r) := ⟨r, hr, rfl⟩
  show mj_G D cy ad bs X cX4_sender 2 yX4_sender.cls (some .int) yX4_sender.name 1 0 0 1065 (t_P (fun v s' => s' = s ∧ ∃ x, v = some (.int x) ∧ (fun q => q = r) (x))) 0 [(0, .ref p), (1, .int x1)] [] (t_m s) 1065 0 0
  refine mj_aload_n dX4_sender_0 0 rfl ?_
  refine t_chkK hk (fun c0 hk => ?_)
  refine t_getR (p + 8) dX4_sender_1 F_X4_33 (t_pr15 c0) ?_
  refine mj_aload_n dX4_sender_4 0 rfl ?_
  refine mj_iload_n dX4_sender_5 1 rfl ?_
  refine mj_iconst (v := 0) dX4_sender_6 (by decide) ?_
  refine t_bndK hk (fun r2 er2 hk => ?_)
  refine t_callViP dX4_sender_7 M_X4_queuePlace (C_X4_queuePlace _ _ _ _ _ er2) ML_X4_88 IM_X4_queuePlace SE_X4_queuePlace (t_pc c0) rfl (As := [.int x1, .int 0]) rfl rfl (Nat.le_of_ble_eq_true rfl) (Nat.le_of_ble_eq_true rfl) (Nat.le_of_ble_eq_true rfl) (Nat.le_of_ble_eq_true rfl) ?_
  refine t_chkK hk (fun c2 hk => ?_)
  refine t_iald dX4_sender_10 (t_pa15 c0) (t_ixv c2) ?_
  exact t_somK hk (fun hf => t_iret dX4_sender_11 rfl rfl ⟨rfl, _, rfl, hf⟩ (Nat.le_of_ble_eq_true rfl) (Nat.le_of_ble_eq_true rfl))

