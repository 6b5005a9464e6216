/-! Methods as functions, 73: X13_begin, X13_beginsStatement, X13_bit, X13_putBits, X13_bits, X13_bitsFor, X13_callOf, X13_into, X13_wordOf -/
theorem qa_1020 : t_oka 1020 3 8600 = true := by decide +kernel
theorem qa_992 : t_oka 992 1 401 = true := by decide +kernel
theorem qa_994 : t_oka 994 1 401 = true := by decide +kernel
theorem qf_950_121 : t_okf 950 13 121 0 = true := by decide +kernel
theorem qr_950_120 : t_okr 950 13 120 1020 = true := by decide +kernel
theorem qr_950_70 : t_okr 950 13 70 992 = true := by decide +kernel
theorem qr_950_72 : t_okr 950 13 72 994 = true := by decide +kernel
theorem dX13_begin_0 : decode cX13_begin 0 = .ok (.aload_n 0, 1) := by decide +kernel
theorem dX13_begin_1 : decode cX13_begin 1 = .ok (.getfield 642, 3) := by decide +kernel
theorem dX13_begin_101 : decode cX13_begin 101 = .ok (.iconst 0, 1) := by decide +kernel
theorem dX13_begin_102 : decode cX13_begin 102 = .ok (.iload_n 2, 1) := by decide +kernel
theorem dX13_begin_103 : decode cX13_begin 103 = .ok (.iconst (-1), 1) := by decide +kernel
theorem dX13_begin_104 : decode cX13_begin 104 = .ok (.invokevirtual 1305, 3) := by decide +kernel
theorem dX13_begin_107 : decode cX13_begin 107 = .ok (.iload 4, 2) := by decide +kernel
theorem dX13_begin_109 : decode cX13_begin 109 = .ok (.ifCond .eq 16, 3) := by decide +kernel
theorem dX13_begin_11 : decode cX13_begin 11 = .ok (.iload_n 1, 1) := by decide +kernel
theorem dX13_begin_112 : decode cX13_begin 112 = .ok (.aload_n 0, 1) := by decide +kernel
theorem dX13_begin_113 : decode cX13_begin 113 = .ok (.iload 4, 2) := by decide +kernel
theorem dX13_begin_115 : decode cX13_begin 115 = .ok (.putfield 842, 3) := by decide +kernel
theorem dX13_begin_118 : decode cX13_begin 118 = .ok (.aload_n 0, 1) := by decide +kernel
theorem dX13_begin_119 : decode cX13_begin 119 = .ok (.iconst 0, 1) := by decide +kernel
theorem dX13_begin_12 : decode cX13_begin 12 = .ok (.aload_n 0, 1) := by decide +kernel
theorem dX13_begin_120 : decode cX13_begin 120 = .ok (.invokevirtual 1330, 3) := by decide +kernel
theorem dX13_begin_123 : decode cX13_begin 123 = .ok (.iconst 0, 1) := by decide +kernel
theorem dX13_begin_124 : decode cX13_begin 124 = .ok (.ireturn, 1) := by decide +kernel
theorem dX13_begin_125 : decode cX13_begin 125 = .ok (.aload_n 0, 1) := by decide +kernel
theorem dX13_begin_126 : decode cX13_begin 126 = .ok (.bipush 9, 2) := by decide +kernel
theorem dX13_begin_128 : decode cX13_begin 128 = .ok (.iconst 0, 1) := by decide +kernel
theorem dX13_begin_129 : decode cX13_begin 129 = .ok (.iconst 0, 1) := by decide +kernel
theorem dX13_begin_13 : decode cX13_begin 13 = .ok (.getfield 633, 3) := by decide +kernel
theorem dX13_begin_130 : decode cX13_begin 130 = .ok (.iconst (-1), 1) := by decide +kernel
theorem dX13_begin_131 : decode cX13_begin 131 = .ok (.invokevirtual 1305, 3) := by decide +kernel
theorem dX13_begin_134 : decode cX13_begin 134 = .ok (.aload_n 0, 1) := by decide +kernel
theorem dX13_begin_135 : decode cX13_begin 135 = .ok (.getfield 276, 3) := by decide +kernel
theorem dX13_begin_138 : decode cX13_begin 138 = .ok (.iconst 0, 1) := by decide +kernel
theorem dX13_begin_139 : decode cX13_begin 139 = .ok (.iconst 1, 1) := by decide +kernel
theorem dX13_begin_140 : decode cX13_begin 140 = .ok (.iastore, 1) := by decide +kernel
theorem dX13_begin_141 : decode cX13_begin 141 = .ok (.aload_n 0, 1) := by decide +kernel
theorem dX13_begin_142 : decode cX13_begin 142 = .ok (.iconst 0, 1) := by decide +kernel
theorem dX13_begin_143 : decode cX13_begin 143 = .ok (.iload_n 1, 1) := by decide +kernel
theorem dX13_begin_144 : decode cX13_begin 144 = .ok (.iconst (-1), 1) := by decide +kernel
theorem dX13_begin_145 : decode cX13_begin 145 = .ok (.iconst 0, 1) := by decide +kernel
theorem dX13_begin_146 : decode cX13_begin 146 = .ok (.iconst 0, 1) := by decide +kernel
theorem dX13_begin_147 : decode cX13_begin 147 = .ok (.invokevirtual 1333, 3) := by decide +kernel
theorem dX13_begin_150 : decode cX13_begin 150 = .ok (.aload_n 0, 1) := by decide +kernel
theorem dX13_begin_151 : decode cX13_begin 151 = .ok (.iconst 0, 1) := by decide +kernel
theorem dX13_begin_152 : decode cX13_begin 152 = .ok (.invokevirtual 1337, 3) := by decide +kernel
theorem dX13_begin_155 : decode cX13_begin 155 = .ok (.iconst 1, 1) := by decide +kernel
theorem dX13_begin_156 : decode cX13_begin 156 = .ok (.ireturn, 1) := by decide +kernel
theorem dX13_begin_16 : decode cX13_begin 16 = .ok (.if_icmp .ge 13, 3) := by decide +kernel
theorem dX13_begin_19 : decode cX13_begin 19 = .ok (.aload_n 0, 1) := by decide +kernel
theorem dX13_begin_20 : decode cX13_begin 20 = .ok (.getfield 105, 3) := by decide +kernel
theorem dX13_begin_23 : decode cX13_begin 23 = .ok (.iload_n 1, 1) := by decide +kernel
theorem dX13_begin_24 : decode cX13_begin 24 = .ok (.iaload, 1) := by decide +kernel
theorem dX13_begin_25 : decode cX13_begin 25 = .ok (.iconst 5, 1) := by decide +kernel
theorem dX13_begin_26 : decode cX13_begin 26 = .ok (.if_icmp .eq 5, 3) := by decide +kernel
theorem dX13_begin_29 : decode cX13_begin 29 = .ok (.iconst (-1), 1) := by decide +kernel
theorem dX13_begin_30 : decode cX13_begin 30 = .ok (.ireturn, 1) := by decide +kernel
theorem dX13_begin_31 : decode cX13_begin 31 = .ok (.aload_n 0, 1) := by decide +kernel
theorem dX13_begin_32 : decode cX13_begin 32 = .ok (.iconst 1, 1) := by decide +kernel
theorem dX13_begin_33 : decode cX13_begin 33 = .ok (.putfield 645, 3) := by decide +kernel
theorem dX13_begin_36 : decode cX13_begin 36 = .ok (.aload_n 0, 1) := by decide +kernel
theorem dX13_begin_37 : decode cX13_begin 37 = .ok (.lconst 0, 1) := by decide +kernel
theorem dX13_begin_38 : decode cX13_begin 38 = .ok (.putfield 920, 3) := by decide +kernel
theorem dX13_begin_4 : decode cX13_begin 4 = .ok (.ifCond .eq 25, 3) := by decide +kernel
theorem dX13_begin_41 : decode cX13_begin 41 = .ok (.aload_n 0, 1) := by decide +kernel
theorem dX13_begin_42 : decode cX13_begin 42 = .ok (.iconst 0, 1) := by decide +kernel
theorem dX13_begin_43 : decode cX13_begin 43 = .ok (.putfield 1315, 3) := by decide +kernel
theorem dX13_begin_46 : decode cX13_begin 46 = .ok (.aload_n 0, 1) := by decide +kernel
theorem dX13_begin_47 : decode cX13_begin 47 = .ok (.lconst 0, 1) := by decide +kernel
theorem dX13_begin_48 : decode cX13_begin 48 = .ok (.putfield 1300, 3) := by decide +kernel
theorem dX13_begin_51 : decode cX13_begin 51 = .ok (.aload_n 0, 1) := by decide +kernel
theorem dX13_begin_52 : decode cX13_begin 52 = .ok (.lconst 0, 1) := by decide +kernel
theorem dX13_begin_53 : decode cX13_begin 53 = .ok (.putfield 1324, 3) := by decide +kernel
theorem dX13_begin_56 : decode cX13_begin 56 = .ok (.aload_n 0, 1) := by decide +kernel
theorem dX13_begin_57 : decode cX13_begin 57 = .ok (.iconst 0, 1) := by decide +kernel
theorem dX13_begin_58 : decode cX13_begin 58 = .ok (.putfield 842, 3) := by decide +kernel
theorem dX13_begin_61 : decode cX13_begin 61 = .ok (.aload_n 0, 1) := by decide +kernel
theorem dX13_begin_62 : decode cX13_begin 62 = .ok (.iconst 0, 1) := by decide +kernel
theorem dX13_begin_63 : decode cX13_begin 63 = .ok (.putfield 858, 3) := by decide +kernel
theorem dX13_begin_66 : decode cX13_begin 66 = .ok (.aload_n 0, 1) := by decide +kernel
theorem dX13_begin_67 : decode cX13_begin 67 = .ok (.iconst 0, 1) := by decide +kernel
theorem dX13_begin_68 : decode cX13_begin 68 = .ok (.putfield 882, 3) := by decide +kernel
theorem dX13_begin_7 : decode cX13_begin 7 = .ok (.iload_n 1, 1) := by decide +kernel
theorem dX13_begin_71 : decode cX13_begin 71 = .ok (.aload_n 0, 1) := by decide +kernel
theorem dX13_begin_72 : decode cX13_begin 72 = .ok (.sipush 2000, 3) := by decide +kernel
theorem dX13_begin_75 : decode cX13_begin 75 = .ok (.iload_n 1, 1) := by decide +kernel
theorem dX13_begin_76 : decode cX13_begin 76 = .ok (.iadd, 1) := by decide +kernel
theorem dX13_begin_77 : decode cX13_begin 77 = .ok (.invokevirtual 792, 3) := by decide +kernel
theorem dX13_begin_8 : decode cX13_begin 8 = .ok (.ifCond .lt 21, 3) := by decide +kernel
theorem dX13_begin_80 : decode cX13_begin 80 = .ok (.istore_n 2, 1) := by decide +kernel
theorem dX13_begin_81 : decode cX13_begin 81 = .ok (.aload_n 0, 1) := by decide +kernel
theorem dX13_begin_82 : decode cX13_begin 82 = .ok (.iload_n 2, 1) := by decide +kernel
theorem dX13_begin_83 : decode cX13_begin 83 = .ok (.invokevirtual 1327, 3) := by decide +kernel
theorem dX13_begin_86 : decode cX13_begin 86 = .ok (.istore_n 3, 1) := by decide +kernel
theorem dX13_begin_87 : decode cX13_begin 87 = .ok (.aload_n 0, 1) := by decide +kernel
theorem dX13_begin_88 : decode cX13_begin 88 = .ok (.getfield 842, 3) := by decide +kernel
theorem dX13_begin_91 : decode cX13_begin 91 = .ok (.istore 4, 2) := by decide +kernel
theorem dX13_begin_93 : decode cX13_begin 93 = .ok (.aload_n 0, 1) := by decide +kernel
theorem dX13_begin_94 : decode cX13_begin 94 = .ok (.iconst 0, 1) := by decide +kernel
theorem dX13_begin_95 : decode cX13_begin 95 = .ok (.putfield 842, 3) := by decide +kernel
theorem dX13_begin_98 : decode cX13_begin 98 = .ok (.aload_n 0, 1) := by decide +kernel
theorem dX13_begin_99 : decode cX13_begin 99 = .ok (.bipush 8, 2) := by decide +kernel
noncomputable def f_X13_begin (x1 : Int32) (s : t_S) : Option (Int32 × t_S) :=
 if (s.1 950 65) = (0 : Int32) then (some ((-1 : Int32), s))
 else (if x1 < (0 : Int32) then (some ((-1 : Int32), s))
 else (if (s.1 950 64) ≤ x1 then (some ((-1 : Int32), s))
 else (if t_ix x1 40 = true then
  if (s.1 981 (x1.toNatClampNeg)) = (5 : Int32) then (t_let (t_setI s 950 147 (1 : Int32)) (fun s1 =>
 t_let (t_setJ s1 950 148 (0 : Int64)) (fun s2 =>
 t_let (t_setI s2 950 149 (0 : Int32)) (fun s3 =>
 t_let (t_setJ s3 950 171 (0 : Int64)) (fun s4 =>
 t_let (t_setJ s4 950 172 (0 : Int64)) (fun s5 =>
 t_let (t_setI s5 950 97 (0 : Int32)) (fun s6 =>
 t_let (t_setI s6 950 98 (0 : Int32)) (fun s7 =>
 t_let (t_setI s7 950 103 (0 : Int32)) (fun s8 =>
 (f_X13_componentOf ((2000 : Int32) + x1) s8).bind (fun r2 =>
 (f_X13_makeComponent r2 s8).bind (fun r3 =>
 t_let (t_setI r3.2 950 97 (0 : Int32)) (fun s9 =>
 (f_X13_note (8 : Int32) (0 : Int32) r2 (-1 : Int32) s9).bind (fun r4 =>
 if (r3.2.1 950 97) = (0 : Int32) then ((f_X13_note (9 : Int32) (0 : Int32) (0 : Int32) (-1 : Int32) r4).bind (fun r5 =>
 t_let (t_setI r5 1036 ((0 : Int32).toNatClampNeg) (1 : Int32)) (fun s10 =>
 (f_X13_newFrame (0 : Int32) x1 (-1 : Int32) (0 : Int32) (0 : Int32) s10).bind (fun r6 =>
 (f_X13_settle (0 : Int32) r6).bind (fun r7 =>
 some ((1 : Int32), r7))))))
 else (t_let (t_setI r4 950 97 (r3.2.1 950 97)) (fun s11 =>
 (f_X13_goWrong (0 : Int32) s11).bind (fun r8 =>
 some ((0 : Int32), r8)))))))))))))))))
 else (some ((-1 : Int32), s))
else none)))
set_option maxRecDepth 4000 in
set_option maxHeartbeats 1000000 in
theorem C_X13_begin (x1 : Int32) (s : t_S) (r : Int32 × t_S) (hr : f_X13_begin x1 s = some r) : t_C yX13_begin cX13_begin 5 (some .int) 1785 [.ref 950, .int x1] s (fun v s' => v = some (.int r.1) ∧ s' = r.2) := by
  refine t_C.imp (P := fun v s' => ∃ x, v = some (.int x) ∧ (fun q => q = r) ((x, s'))) (t_C.of (by decide +kernel) (Nat.le_of_ble_eq_true rfl) ?_) (fun v s' hp => by obtain ⟨x, rfl, rfl⟩ := hp; exact ⟨rfl, rfl⟩)
  intro D cy ad bs X
  have hk : t_hk (f_X13_begin x1 s) (fun q => q = r) := ⟨r, hr, rfl⟩
  show mj_G D cy ad bs X cX13_begin 5 yX13_begin.cls (some .int) yX13_begin.name 1785 0 0 1065 (t_P (fun v s' => ∃ x, v = some (.int x) ∧ (fun q => q = r) ((x, s')))) 0 [(0, .ref 950), (1, .int x1)] [] (t_m s) 1065 0 0
  refine mj_aload_n dX13_begin_0 0 rfl ?_
  refine t_getI dX13_begin_1 F_X13_642 qf_950_65 ?_
  refine mj_if_eq 29 dX13_begin_4 (by decide) (fun z => t_posK hk z (fun hk => ?_)) (fun z => t_negK hk z (fun hk => ?_))
  · refine mj_iconst (v := (-1)) dX13_begin_29 (by decide) ?_
    exact t_somK hk (fun hf => t_iret dX13_begin_30 rfl rfl ⟨_, rfl, hf⟩ (Nat.le_of_ble_eq_true rfl) (Nat.le_of_ble_eq_true rfl))
  · refine mj_iload_n dX13_begin_7 1 rfl ?_
    refine mj_if_lt 29 dX13_begin_8 (by decide) (fun z => t_posK hk z (fun hk => ?_)) (fun z => t_negK hk z (fun hk => ?_))
    · refine mj_iconst (v := (-1)) dX13_begin_29 (by decide) ?_
      exact t_somK hk (fun hf => t_iret dX13_begin_30 rfl rfl ⟨_, rfl, hf⟩ (Nat.le_of_ble_eq_true rfl) (Nat.le_of_ble_eq_true rfl))
    · refine mj_iload_n dX13_begin_11 1 rfl ?_
      refine mj_aload_n dX13_begin_12 0 rfl ?_
      refine t_getI dX13_begin_13 F_X13_633 qf_950_64 ?_
      refine mj_icmp_ge 29 dX13_begin_16 (by decide) (fun z => t_posK hk z (fun hk => ?_)) (fun z => t_negK hk z (fun hk => ?_))
      · refine mj_iconst (v := (-1)) dX13_begin_29 (by decide) ?_
        exact t_somK hk (fun hf => t_iret dX13_begin_30 rfl rfl ⟨_, rfl, hf⟩ (Nat.le_of_ble_eq_true rfl) (Nat.le_of_ble_eq_true rfl))
      · refine mj_aload_n dX13_begin_19 0 rfl ?_
        refine t_getR 981 dX13_begin_20 F_X13_105 qr_950_57 ?_
        refine mj_iload_n dX13_begin_23 1 rfl ?_
        refine t_chkK hk (fun c0 hk => ?_)
        refine t_iald dX13_begin_24 qa_981 (t_ixv c0) ?_
        refine mj_iconst (v := 5) dX13_begin_25 (by decide) ?_
        refine mj_icmp_eq 31 dX13_begin_26 (by decide) (fun z => t_posK hk z (fun hk => ?_)) (fun z => t_negK hk z (fun hk => ?_))
        · refine mj_aload_n dX13_begin_31 0 rfl ?_
          refine mj_iconst (v := 1) dX13_begin_32 (by decide) ?_
          refine t_putIK dX13_begin_33 F_X13_645 qf_950_147 (by decide) (fun s1 ws1 => t_letE hk ws1 (fun hk => ?_))
          refine mj_aload_n dX13_begin_36 0 rfl ?_
          refine mj_lconst (v := 0) dX13_begin_37 (by decide) ?_
          refine t_putJK dX13_begin_38 F_X13_920 qf_950_148 rfl (fun s2 ws2 => t_letE hk ws2 (fun hk => ?_))
          refine mj_aload_n dX13_begin_41 0 rfl ?_
          refine mj_iconst (v := 0) dX13_begin_42 (by decide) ?_
          refine t_putIK dX13_begin_43 F_X13_1315 qf_950_149 rfl (fun s3 ws3 => t_letE hk ws3 (fun hk => ?_))
          refine mj_aload_n dX13_begin_46 0 rfl ?_
          refine mj_lconst (v := 0) dX13_begin_47 (by decide) ?_
          refine t_putJK dX13_begin_48 F_X13_1300 qf_950_171 rfl (fun s4 ws4 => t_letE hk ws4 (fun hk => ?_))
          refine mj_aload_n dX13_begin_51 0 rfl ?_
          refine mj_lconst (v := 0) dX13_begin_52 (by decide) ?_
          refine t_putJK dX13_begin_53 F_X13_1324 qf_950_172 rfl (fun s5 ws5 => t_letE hk ws5 (fun hk => ?_))
          refine mj_aload_n dX13_begin_56 0 rfl ?_
          refine mj_iconst (v := 0) dX13_begin_57 (by decide) ?_
          refine t_putIK dX13_begin_58 F_X13_842 qf_950_97 rfl (fun s6 ws6 => t_letE hk ws6 (fun hk => ?_))
          refine mj_aload_n dX13_begin_61 0 rfl ?_
          refine mj_iconst (v := 0) dX13_begin_62 (by decide) ?_
          refine t_putIK dX13_begin_63 F_X13_858 qf_950_98 rfl (fun s7 ws7 => t_letE hk ws7 (fun hk => ?_))
          refine mj_aload_n dX13_begin_66 0 rfl ?_
          refine mj_iconst (v := 0) dX13_begin_67 (by decide) ?_
          refine t_putIK dX13_begin_68 F_X13_882 qf_950_103 rfl (fun s8 ws8 => t_letE hk ws8 (fun hk => ?_))
          refine mj_aload_n dX13_begin_71 0 rfl ?_
          refine mj_sipush (v := 2000) dX13_begin_72 (by decide) ?_
          refine mj_iload_n dX13_begin_75 1 rfl ?_
          refine mj_iadd dX13_begin_76 ?_
          refine t_bndK hk (fun r2 er2 hk => ?_)
          refine t_callViP dX13_begin_77 M_X13_componentOf (C_X13_componentOf _ _ _ er2) ML_X13_792 IM_X13_componentOf SE_X13_componentOf qc_950 rfl (As := [.int ((2000 : Int32) + x1)]) rfl rfl (Nat.le_of_ble_eq_true rfl) (Nat.le_of_ble_eq_true rfl) (Nat.le_of_ble_eq_true rfl) (Nat.le_of_ble_eq_true rfl) ?_
          refine mj_istore_n 2 (lv2 := [(2, .int r2), (0, .ref 950), (1, .int x1)]) dX13_begin_80 rfl (by decide) rfl ?_
          refine mj_aload_n dX13_begin_81 1 rfl ?_
          refine mj_iload_n dX13_begin_82 0 rfl ?_
          refine t_bndK hk (fun r3 er3 hk => ?_)
          refine t_callViE dX13_begin_83 M_X13_makeComponent (C_X13_makeComponent _ _ _ er3) ML_X13_1327 IM_X13_makeComponent SE_X13_makeComponent qc_950 rfl (As := [.int r2]) rfl rfl (Nat.le_of_ble_eq_true rfl) (Nat.le_of_ble_eq_true rfl) (Nat.le_of_ble_eq_true rfl) (Nat.le_of_ble_eq_true rfl) ?_
          refine mj_istore_n 3 (lv2 := [(3, .int r3.1), (2, .int r2), (0, .ref 950), (1, .int x1)]) dX13_begin_86 rfl (by decide) rfl ?_
          refine mj_aload_n dX13_begin_87 2 rfl ?_
          refine t_getI dX13_begin_88 F_X13_842 qf_950_97 ?_
          refine mj_istore (lv2 := [(4, .int (r3.2.1 950 97)), (3, .int r3.1), (2, .int r2), (0, .ref 950), (1, .int x1)]) dX13_begin_91 (by decide) rfl ?_
          refine mj_aload_n dX13_begin_93 3 rfl ?_
          refine mj_iconst (v := 0) dX13_begin_94 (by decide) ?_
          refine t_putIK dX13_begin_95 F_X13_842 qf_950_97 rfl (fun s9 ws9 => t_letE hk ws9 (fun hk => ?_))
          refine mj_aload_n dX13_begin_98 3 rfl ?_
          refine mj_bipush (v := 8) dX13_begin_99 (by decide) ?_
          refine mj_iconst (v := 0) dX13_begin_101 (by decide) ?_
          refine mj_iload_n dX13_begin_102 2 rfl ?_
          refine mj_iconst (v := (-1)) dX13_begin_103 (by decide) ?_
          refine t_bndK hk (fun r4 er4 hk => ?_)
          refine t_callVvE dX13_begin_104 M_X13_note (C_X13_note _ _ _ _ _ _ er4) ML_X13_1305 IM_X13_note SE_X13_note qc_950 rfl (As := [.int 8, .int 0, .int r2, .int (-1)]) rfl rfl (Nat.le_of_ble_eq_true rfl) (Nat.le_of_ble_eq_true rfl) (Nat.le_of_ble_eq_true rfl) (Nat.le_of_ble_eq_true rfl) ?_
          refine mj_iload dX13_begin_107 0 rfl ?_
          refine mj_if_eq 125 dX13_begin_109 (by decide) (fun z => t_posK hk z (fun hk => ?_)) (fun z => t_negK hk z (fun hk => ?_))
          · refine mj_aload_n dX13_begin_125 3 rfl ?_
            refine mj_bipush (v := 9) dX13_begin_126 (by decide) ?_
            refine mj_iconst (v := 0) dX13_begin_128 (by decide) ?_
            refine mj_iconst (v := 0) dX13_begin_129 (by decide) ?_
            refine mj_iconst (v := (-1)) dX13_begin_130 (by decide) ?_
            refine t_bndK hk (fun r5 er5 hk => ?_)
            refine t_callVvE dX13_begin_131 M_X13_note (C_X13_note _ _ _ _ _ _ er5) ML_X13_1305 IM_X13_note SE_X13_note qc_950 rfl (As := [.int 9, .int 0, .int 0, .int (-1)]) rfl rfl (Nat.le_of_ble_eq_true rfl) (Nat.le_of_ble_eq_true rfl) (Nat.le_of_ble_eq_true rfl) (Nat.le_of_ble_eq_true rfl) ?_
            refine mj_aload_n dX13_begin_134 3 rfl ?_
            refine t_getR 1036 dX13_begin_135 F_X13_276 qr_950_151 ?_
            refine mj_iconst (v := 0) dX13_begin_138 (by decide) ?_
            refine mj_iconst (v := 1) dX13_begin_139 (by decide) ?_
            refine t_iastK dX13_begin_140 qa_1036 (by unfold vp_in; decide) (fun s10 ws10 => t_letE hk ws10 (fun hk => ?_))
            refine mj_aload_n dX13_begin_141 3 rfl ?_
            refine mj_iconst (v := 0) dX13_begin_142 (by decide) ?_
            refine mj_iload_n dX13_begin_143 4 rfl ?_
            refine mj_iconst (v := (-1)) dX13_begin_144 (by decide) ?_
            refine mj_iconst (v := 0) dX13_begin_145 (by decide) ?_
            refine mj_iconst (v := 0) dX13_begin_146 (by decide) ?_
            refine t_bndK hk (fun r6 er6 hk => ?_)
            refine t_callVvE dX13_begin_147 M_X13_newFrame (C_X13_newFrame _ _ _ _ _ _ _ er6) ML_X13_1333 IM_X13_newFrame SE_X13_newFrame qc_950 rfl (As := [.int 0, .int x1, .int (-1), .int 0, .int 0]) rfl rfl (Nat.le_of_ble_eq_true rfl) (Nat.le_of_ble_eq_true rfl) (Nat.le_of_ble_eq_true rfl) (Nat.le_of_ble_eq_true rfl) ?_
            refine mj_aload_n dX13_begin_150 3 rfl ?_
            refine mj_iconst (v := 0) dX13_begin_151 (by decide) ?_
            refine t_bndK hk (fun r7 er7 hk => ?_)
            refine t_callVvE dX13_begin_152 M_X13_settle (C_X13_settle _ _ _ er7) ML_X13_1337 IM_X13_settle SE_X13_settle qc_950 rfl (As := [.int 0]) rfl rfl (Nat.le_of_ble_eq_true rfl) (Nat.le_of_ble_eq_true rfl) (Nat.le_of_ble_eq_true rfl) (Nat.le_of_ble_eq_true rfl) ?_
            refine mj_iconst (v := 1) dX13_begin_155 (by decide) ?_
            exact t_somK hk (fun hf => t_iret dX13_begin_156 rfl rfl ⟨_, rfl, hf⟩ (Nat.le_of_ble_eq_true rfl) (Nat.le_of_ble_eq_true rfl))
          · refine mj_aload_n dX13_begin_112 3 rfl ?_
            refine mj_iload dX13_begin_113 0 rfl ?_
            refine t_putIK dX13_begin_115 F_X13_842 qf_950_97 rfl (fun s11 ws11 => t_letE hk ws11 (fun hk => ?_))
            refine mj_aload_n dX13_begin_118 3 rfl ?_
            refine mj_iconst (v := 0) dX13_begin_119 (by decide) ?_
            refine t_bndK hk (fun r8 er8 hk => ?_)
            refine t_callVvE dX13_begin_120 M_X13_goWrong (C_X13_goWrong _ _ _ er8) ML_X13_1330 IM_X13_goWrong SE_X13_goWrong qc_950 rfl (As := [.int 0]) rfl rfl (Nat.le_of_ble_eq_true rfl) (Nat.le_of_ble_eq_true rfl) (Nat.le_of_ble_eq_true rfl) (Nat.le_of_ble_eq_true rfl) ?_
            refine mj_iconst (v := 0) dX13_begin_123 (by decide) ?_
            exact t_somK hk (fun hf => t_iret dX13_begin_124 rfl rfl ⟨_, rfl, hf⟩ (Nat.le_of_ble_eq_true rfl) (Nat.le_of_ble_eq_true rfl))
        · refine mj_iconst (v := (-1)) dX13_begin_29 (by decide) ?_
          exact t_somK hk (fun hf => t_iret dX13_begin_30 rfl rfl ⟨_, rfl, hf⟩ (Nat.le_of_ble_eq_true rfl) (Nat.le_of_ble_eq_true rfl))

theorem dX13_beginsStatement_0 : decode cX13_beginsStatement 0 = .ok (.aload_n 0, 1) := by decide +kernel
theorem dX13_beginsStatement_1 : decode cX13_beginsStatement 1 = .ok (.getfield 385, 3) := by decide +kernel
theorem dX13_beginsStatement_10 : decode cX13_beginsStatement 10 = .ok (.aload_n 0, 1) := by decide +kernel
theorem dX13_beginsStatement_100 : decode cX13_beginsStatement 100 = .ok (.i2l, 1) := by decide +kernel
theorem dX13_beginsStatement_101 : decode cX13_beginsStatement 101 = .ok (.ldc2_w 739, 3) := by decide +kernel
theorem dX13_beginsStatement_104 : decode cX13_beginsStatement 104 = .ok (.ldc2_w 741, 3) := by decide +kernel
theorem dX13_beginsStatement_107 : decode cX13_beginsStatement 107 = .ok (.invokestatic 371, 3) := by decide +kernel
theorem dX13_beginsStatement_11 : decode cX13_beginsStatement 11 = .ok (.getfield 397, 3) := by decide +kernel
theorem dX13_beginsStatement_110 : decode cX13_beginsStatement 110 = .ok (.ifCond .ne 21, 3) := by decide +kernel
theorem dX13_beginsStatement_113 : decode cX13_beginsStatement 113 = .ok (.aload_n 0, 1) := by decide +kernel
theorem dX13_beginsStatement_114 : decode cX13_beginsStatement 114 = .ok (.getfield 397, 3) := by decide +kernel
theorem dX13_beginsStatement_117 : decode cX13_beginsStatement 117 = .ok (.bipush 63, 2) := by decide +kernel
theorem dX13_beginsStatement_119 : decode cX13_beginsStatement 119 = .ok (.if_icmp .eq 12, 3) := by decide +kernel
theorem dX13_beginsStatement_122 : decode cX13_beginsStatement 122 = .ok (.aload_n 0, 1) := by decide +kernel
theorem dX13_beginsStatement_123 : decode cX13_beginsStatement 123 = .ok (.getfield 397, 3) := by decide +kernel
theorem dX13_beginsStatement_126 : decode cX13_beginsStatement 126 = .ok (.bipush 64, 2) := by decide +kernel
theorem dX13_beginsStatement_128 : decode cX13_beginsStatement 128 = .ok (.if_icmp .ne 7, 3) := by decide +kernel
theorem dX13_beginsStatement_131 : decode cX13_beginsStatement 131 = .ok (.iconst 1, 1) := by decide +kernel
theorem dX13_beginsStatement_132 : decode cX13_beginsStatement 132 = .ok (.goto 4, 3) := by decide +kernel
theorem dX13_beginsStatement_135 : decode cX13_beginsStatement 135 = .ok (.iconst 0, 1) := by decide +kernel
theorem dX13_beginsStatement_136 : decode cX13_beginsStatement 136 = .ok (.ireturn, 1) := by decide +kernel
theorem dX13_beginsStatement_14 : decode cX13_beginsStatement 14 = .ok (.ifCond .lt 117, 3) := by decide +kernel
theorem dX13_beginsStatement_17 : decode cX13_beginsStatement 17 = .ok (.aload_n 0, 1) := by decide +kernel
theorem dX13_beginsStatement_18 : decode cX13_beginsStatement 18 = .ok (.getfield 397, 3) := by decide +kernel
theorem dX13_beginsStatement_21 : decode cX13_beginsStatement 21 = .ok (.bipush 9, 2) := by decide +kernel
theorem dX13_beginsStatement_23 : decode cX13_beginsStatement 23 = .ok (.if_icmp .eq 108, 3) := by decide +kernel
theorem dX13_beginsStatement_26 : decode cX13_beginsStatement 26 = .ok (.aload_n 0, 1) := by decide +kernel
theorem dX13_beginsStatement_27 : decode cX13_beginsStatement 27 = .ok (.getfield 397, 3) := by decide +kernel
theorem dX13_beginsStatement_30 : decode cX13_beginsStatement 30 = .ok (.bipush 37, 2) := by decide +kernel
theorem dX13_beginsStatement_32 : decode cX13_beginsStatement 32 = .ok (.if_icmp .eq 99, 3) := by decide +kernel
theorem dX13_beginsStatement_35 : decode cX13_beginsStatement 35 = .ok (.aload_n 0, 1) := by decide +kernel
theorem dX13_beginsStatement_36 : decode cX13_beginsStatement 36 = .ok (.getfield 397, 3) := by decide +kernel
theorem dX13_beginsStatement_39 : decode cX13_beginsStatement 39 = .ok (.i2l, 1) := by decide +kernel
theorem dX13_beginsStatement_4 : decode cX13_beginsStatement 4 = .ok (.iconst 1, 1) := by decide +kernel
theorem dX13_beginsStatement_40 : decode cX13_beginsStatement 40 = .ok (.ldc2_w 733, 3) := by decide +kernel
theorem dX13_beginsStatement_43 : decode cX13_beginsStatement 43 = .ok (.ldc2_w 477, 3) := by decide +kernel
theorem dX13_beginsStatement_46 : decode cX13_beginsStatement 46 = .ok (.invokestatic 371, 3) := by decide +kernel
theorem dX13_beginsStatement_49 : decode cX13_beginsStatement 49 = .ok (.ifCond .ne 82, 3) := by decide +kernel
theorem dX13_beginsStatement_5 : decode cX13_beginsStatement 5 = .ok (.if_icmp .eq 5, 3) := by decide +kernel
theorem dX13_beginsStatement_52 : decode cX13_beginsStatement 52 = .ok (.aload_n 0, 1) := by decide +kernel
theorem dX13_beginsStatement_53 : decode cX13_beginsStatement 53 = .ok (.getfield 397, 3) := by decide +kernel
theorem dX13_beginsStatement_56 : decode cX13_beginsStatement 56 = .ok (.bipush 43, 2) := by decide +kernel
theorem dX13_beginsStatement_58 : decode cX13_beginsStatement 58 = .ok (.if_icmp .eq 73, 3) := by decide +kernel
theorem dX13_beginsStatement_61 : decode cX13_beginsStatement 61 = .ok (.aload_n 0, 1) := by decide +kernel
theorem dX13_beginsStatement_62 : decode cX13_beginsStatement 62 = .ok (.getfield 397, 3) := by decide +kernel
theorem dX13_beginsStatement_65 : decode cX13_beginsStatement 65 = .ok (.i2l, 1) := by decide +kernel
theorem dX13_beginsStatement_66 : decode cX13_beginsStatement 66 = .ok (.ldc2_w 735, 3) := by decide +kernel
theorem dX13_beginsStatement_69 : decode cX13_beginsStatement 69 = .ok (.ldc2_w 737, 3) := by decide +kernel
theorem dX13_beginsStatement_72 : decode cX13_beginsStatement 72 = .ok (.invokestatic 371, 3) := by decide +kernel
theorem dX13_beginsStatement_75 : decode cX13_beginsStatement 75 = .ok (.ifCond .ne 56, 3) := by decide +kernel
theorem dX13_beginsStatement_78 : decode cX13_beginsStatement 78 = .ok (.aload_n 0, 1) := by decide +kernel
theorem dX13_beginsStatement_79 : decode cX13_beginsStatement 79 = .ok (.getfield 397, 3) := by decide +kernel
theorem dX13_beginsStatement_8 : decode cX13_beginsStatement 8 = .ok (.iconst 0, 1) := by decide +kernel
theorem dX13_beginsStatement_82 : decode cX13_beginsStatement 82 = .ok (.bipush 54, 2) := by decide +kernel
theorem dX13_beginsStatement_84 : decode cX13_beginsStatement 84 = .ok (.if_icmp .eq 47, 3) := by decide +kernel
theorem dX13_beginsStatement_87 : decode cX13_beginsStatement 87 = .ok (.aload_n 0, 1) := by decide +kernel
theorem dX13_beginsStatement_88 : decode cX13_beginsStatement 88 = .ok (.getfield 397, 3) := by decide +kernel
theorem dX13_beginsStatement_9 : decode cX13_beginsStatement 9 = .ok (.ireturn, 1) := by decide +kernel
theorem dX13_beginsStatement_91 : decode cX13_beginsStatement 91 = .ok (.bipush 55, 2) := by decide +kernel
theorem dX13_beginsStatement_93 : decode cX13_beginsStatement 93 = .ok (.if_icmp .eq 38, 3) := by decide +kernel
theorem dX13_beginsStatement_96 : decode cX13_beginsStatement 96 = .ok (.aload_n 0, 1) := by decide +kernel
theorem dX13_beginsStatement_97 : decode cX13_beginsStatement 97 = .ok (.getfield 397, 3) := by decide +kernel
noncomputable def k_X13_beginsStatement_131 (s : t_S) : Int32 :=
 (1 : Int32)
set_option maxRecDepth 4000 in
set_option maxHeartbeats 1000000 in
theorem B_X13_beginsStatement_131 {D : va_G} {cy : Nat → ClassId} {ad : Nat → Nat} {bs : Nat} {X : State → Heap → Prop} (s : t_S) (Q : Int32 → Prop) (hk : t_ht (k_X13_beginsStatement_131 s) Q) : mj_G D cy ad bs X cX13_beginsStatement 1 yX13_beginsStatement.cls (some .boolean) yX13_beginsStatement.name 1 0 0 1065 (t_P (fun v s' => s' = s ∧ ∃ x, v = some (.int x) ∧ Q (x))) 131 [] [] (t_m s) 1065 0 0 := by
  refine mj_iconst (v := 1) dX13_beginsStatement_131 (by decide) ?_
  refine mj_goto 136 dX13_beginsStatement_132 (by decide) ?_
  exact t_iret dX13_beginsStatement_136 rfl (by decide) ⟨rfl, _, rfl, hk⟩ (Nat.le_of_ble_eq_true rfl) (Nat.le_of_ble_eq_true rfl)
noncomputable def f_X13_beginsStatement (s : t_S) : Int32 :=
 if (s.1 950 5) = (1 : Int32) then (if (s.1 950 10) < (0 : Int32) then (k_X13_beginsStatement_131 s)
 else (if (s.1 950 10) = (9 : Int32) then (k_X13_beginsStatement_131 s)
 else (if (s.1 950 10) = (37 : Int32) then (k_X13_beginsStatement_131 s)
 else (if (f_X13_in ((s.1 950 10).toInt64) (39 : Int64) (41 : Int64) s) = (0 : Int32) then (if (s.1 950 10) = (43 : Int32) then (k_X13_beginsStatement_131 s)
 else (if (f_X13_in ((s.1 950 10).toInt64) (47 : Int64) (52 : Int64) s) = (0 : Int32) then (if (s.1 950 10) = (54 : Int32) then (k_X13_beginsStatement_131 s)
 else (if (s.1 950 10) = (55 : Int32) then (k_X13_beginsStatement_131 s)
 else (if (f_X13_in ((s.1 950 10).toInt64) (58 : Int64) (61 : Int64) s) = (0 : Int32) then (if (s.1 950 10) = (63 : Int32) then (k_X13_beginsStatement_131 s)
 else (if (s.1 950 10) = (64 : Int32) then (k_X13_beginsStatement_131 s)
 else ((0 : Int32))))
 else (k_X13_beginsStatement_131 s))))
 else (k_X13_beginsStatement_131 s)))
 else (k_X13_beginsStatement_131 s)))))
 else ((0 : Int32))
set_option maxRecDepth 4000 in
set_option maxHeartbeats 1000000 in
theorem C_X13_beginsStatement (s : t_S) : t_C yX13_beginsStatement cX13_beginsStatement 1 (some .boolean) 1 [.ref 950] s (fun v s' => v = some (.int (f_X13_beginsStatement s)) ∧ s' = s) := by
  refine t_C.imp (P := fun v s' => s' = s ∧ ∃ x, v = some (.int x) ∧ (fun r => r = f_X13_beginsStatement s) (x)) (t_C.of (by decide +kernel) (Nat.le_of_ble_eq_true rfl) ?_) (fun v s' hp => by obtain ⟨rfl, x, rfl, rfl⟩ := hp; exact ⟨rfl, rfl⟩)
  intro D cy ad bs X
  have hk : t_ht (f_X13_beginsStatement s) (fun r => r = f_X13_beginsStatement s) := rfl
  show mj_G D cy ad bs X cX13_beginsStatement 1 yX13_beginsStatement.cls (some .boolean) yX13_beginsStatement.name 1 0 0 1065 (t_P (fun v s' => s' = s ∧ ∃ x, v = some (.int x) ∧ (fun r => r = f_X13_beginsStatement s) (x))) 0 [(0, .ref 950)] [] (t_m s) 1065 0 0
  refine mj_aload_n dX13_beginsStatement_0 0 rfl ?_
  refine t_getI dX13_beginsStatement_1 F_X13_385 qf_950_5 ?_
  refine mj_iconst (v := 1) dX13_beginsStatement_4 (by decide) ?_
  refine mj_icmp_eq 10 dX13_beginsStatement_5 (by decide) (fun z => t_posTK hk z (fun hk => ?_)) (fun z => t_negTK hk z (fun hk => ?_))
  · refine mj_aload_n dX13_beginsStatement_10 0 rfl ?_
    refine t_getI dX13_beginsStatement_11 F_X13_397 qf_950_10 ?_
    refine mj_if_lt 131 dX13_beginsStatement_14 (by decide) (fun z => t_posTK hk z (fun hk => ?_)) (fun z => t_negTK hk z (fun hk => ?_))
    · refine mj_sublv [] [] rfl ?_
      exact B_X13_beginsStatement_131 _ _ hk
    · refine mj_aload_n dX13_beginsStatement_17 0 rfl ?_
      refine t_getI dX13_beginsStatement_18 F_X13_397 qf_950_10 ?_
      refine mj_bipush (v := 9) dX13_beginsStatement_21 (by decide) ?_
      refine mj_icmp_eq 131 dX13_beginsStatement_23 (by decide) (fun z => t_posTK hk z (fun hk => ?_)) (fun z => t_negTK hk z (fun hk => ?_))
      · refine mj_sublv [] [] rfl ?_
        exact B_X13_beginsStatement_131 _ _ hk
      · refine mj_aload_n dX13_beginsStatement_26 0 rfl ?_
        refine t_getI dX13_beginsStatement_27 F_X13_397 qf_950_10 ?_
        refine mj_bipush (v := 37) dX13_beginsStatement_30 (by decide) ?_
        refine mj_icmp_eq 131 dX13_beginsStatement_32 (by decide) (fun z => t_posTK hk z (fun hk => ?_)) (fun z => t_negTK hk z (fun hk => ?_))
        · refine mj_sublv [] [] rfl ?_
          exact B_X13_beginsStatement_131 _ _ hk
        · refine mj_aload_n dX13_beginsStatement_35 0 rfl ?_
          refine t_getI dX13_beginsStatement_36 F_X13_397 qf_950_10 ?_
          refine mj_i2l (v := (s.1 950 10).toInt64) dX13_beginsStatement_39 rfl ?_
          refine mj_ldc2 dX13_beginsStatement_40 K_X13_733 ?_
          refine mj_ldc2 dX13_beginsStatement_43 K_X13_477 ?_
          refine t_callSiP dX13_beginsStatement_46 M_X13_in (C_X13_in _ _ _ _) ML_X13_371 SM_X13_in (As := [.long ((s.1 950 10).toInt64), .long 39, .long 41]) rfl rfl (Nat.le_of_ble_eq_true rfl) (Nat.le_of_ble_eq_true rfl) (Nat.le_of_ble_eq_true rfl) (Nat.le_of_ble_eq_true rfl) ?_
          refine mj_if_ne 131 dX13_beginsStatement_49 (by decide) (fun z => t_negTK hk z (fun hk => ?_)) (fun z => t_posTK hk z (fun hk => ?_))
          · refine mj_sublv [] [] rfl ?_
            exact B_X13_beginsStatement_131 _ _ hk
          · refine mj_aload_n dX13_beginsStatement_52 0 rfl ?_
            refine t_getI dX13_beginsStatement_53 F_X13_397 qf_950_10 ?_
            refine mj_bipush (v := 43) dX13_beginsStatement_56 (by decide) ?_
            refine mj_icmp_eq 131 dX13_beginsStatement_58 (by decide) (fun z => t_posTK hk z (fun hk => ?_)) (fun z => t_negTK hk z (fun hk => ?_))
            · refine mj_sublv [] [] rfl ?_
              exact B_X13_beginsStatement_131 _ _ hk
            · refine mj_aload_n dX13_beginsStatement_61 0 rfl ?_
              refine t_getI dX13_beginsStatement_62 F_X13_397 qf_950_10 ?_
              refine mj_i2l (v := (s.1 950 10).toInt64) dX13_beginsStatement_65 rfl ?_
              refine mj_ldc2 dX13_beginsStatement_66 K_X13_735 ?_
              refine mj_ldc2 dX13_beginsStatement_69 K_X13_737 ?_
              refine t_callSiP dX13_beginsStatement_72 M_X13_in (C_X13_in _ _ _ _) ML_X13_371 SM_X13_in (As := [.long ((s.1 950 10).toInt64), .long 47, .long 52]) rfl rfl (Nat.le_of_ble_eq_true rfl) (Nat.le_of_ble_eq_true rfl) (Nat.le_of_ble_eq_true rfl) (Nat.le_of_ble_eq_true rfl) ?_
              refine mj_if_ne 131 dX13_beginsStatement_75 (by decide) (fun z => t_negTK hk z (fun hk => ?_)) (fun z => t_posTK hk z (fun hk => ?_))
              · refine mj_sublv [] [] rfl ?_
                exact B_X13_beginsStatement_131 _ _ hk
              · refine mj_aload_n dX13_beginsStatement_78 0 rfl ?_
                refine t_getI dX13_beginsStatement_79 F_X13_397 qf_950_10 ?_
                refine mj_bipush (v := 54) dX13_beginsStatement_82 (by decide) ?_
                refine mj_icmp_eq 131 dX13_beginsStatement_84 (by decide) (fun z => t_posTK hk z (fun hk => ?_)) (fun z => t_negTK hk z (fun hk => ?_))
                · refine mj_sublv [] [] rfl ?_
                  exact B_X13_beginsStatement_131 _ _ hk
                · refine mj_aload_n dX13_beginsStatement_87 0 rfl ?_
                  refine t_getI dX13_beginsStatement_88 F_X13_397 qf_950_10 ?_
                  refine mj_bipush (v := 55) dX13_beginsStatement_91 (by decide) ?_
                  refine mj_icmp_eq 131 dX13_beginsStatement_93 (by decide) (fun z => t_posTK hk z (fun hk => ?_)) (fun z => t_negTK hk z (fun hk => ?_))
                  · refine mj_sublv [] [] rfl ?_
                    exact B_X13_beginsStatement_131 _ _ hk
                  · refine mj_aload_n dX13_beginsStatement_96 0 rfl ?_
                    refine t_getI dX13_beginsStatement_97 F_X13_397 qf_950_10 ?_
                    refine mj_i2l (v := (s.1 950 10).toInt64) dX13_beginsStatement_100 rfl ?_
                    refine mj_ldc2 dX13_beginsStatement_101 K_X13_739 ?_
                    refine mj_ldc2 dX13_beginsStatement_104 K_X13_741 ?_
                    refine t_callSiP dX13_beginsStatement_107 M_X13_in (C_X13_in _ _ _ _) ML_X13_371 SM_X13_in (As := [.long ((s.1 950 10).toInt64), .long 58, .long 61]) rfl rfl (Nat.le_of_ble_eq_true rfl) (Nat.le_of_ble_eq_true rfl) (Nat.le_of_ble_eq_true rfl) (Nat.le_of_ble_eq_true rfl) ?_
                    refine mj_if_ne 131 dX13_beginsStatement_110 (by decide) (fun z => t_negTK hk z (fun hk => ?_)) (fun z => t_posTK hk z (fun hk => ?_))
                    · refine mj_sublv [] [] rfl ?_
                      exact B_X13_beginsStatement_131 _ _ hk
                    · refine mj_aload_n dX13_beginsStatement_113 0 rfl ?_
                      refine t_getI dX13_beginsStatement_114 F_X13_397 qf_950_10 ?_
                      refine mj_bipush (v := 63) dX13_beginsStatement_117 (by decide) ?_
                      refine mj_icmp_eq 131 dX13_beginsStatement_119 (by decide) (fun z => t_posTK hk z (fun hk => ?_)) (fun z => t_negTK hk z (fun hk => ?_))
                      · refine mj_sublv [] [] rfl ?_
                        exact B_X13_beginsStatement_131 _ _ hk
                      · refine mj_aload_n dX13_beginsStatement_122 0 rfl ?_
                        refine t_getI dX13_beginsStatement_123 F_X13_397 qf_950_10 ?_
                        refine mj_bipush (v := 64) dX13_beginsStatement_126 (by decide) ?_
                        refine mj_icmp_ne 135 dX13_beginsStatement_128 (by decide) (fun z => t_negTK hk z (fun hk => ?_)) (fun z => t_posTK hk z (fun hk => ?_))
                        · refine mj_iconst (v := 0) dX13_beginsStatement_135 (by decide) ?_
                          exact t_iret dX13_beginsStatement_136 rfl (by decide) ⟨rfl, _, rfl, hk⟩ (Nat.le_of_ble_eq_true rfl) (Nat.le_of_ble_eq_true rfl)
                        · refine mj_sublv [] [] rfl ?_
                          exact B_X13_beginsStatement_131 _ _ hk
  · refine mj_iconst (v := 0) dX13_beginsStatement_8 (by decide) ?_
    exact t_iret dX13_beginsStatement_9 rfl (by decide) ⟨rfl, _, rfl, hk⟩ (Nat.le_of_ble_eq_true rfl) (Nat.le_of_ble_eq_true rfl)

theorem dX13_bit_0 : decode cX13_bit 0 = .ok (.iload_n 1, 1) := by decide +kernel
theorem dX13_bit_1 : decode cX13_bit 1 = .ok (.i2l, 1) := by decide +kernel
theorem dX13_bit_10 : decode cX13_bit 10 = .ok (.invokestatic 371, 3) := by decide +kernel
theorem dX13_bit_13 : decode cX13_bit 13 = .ok (.ifCond .eq 20, 3) := by decide +kernel
theorem dX13_bit_16 : decode cX13_bit 16 = .ok (.aload_n 0, 1) := by decide +kernel
theorem dX13_bit_17 : decode cX13_bit 17 = .ok (.getfield 226, 3) := by decide +kernel
theorem dX13_bit_2 : decode cX13_bit 2 = .ok (.lconst 0, 1) := by decide +kernel
theorem dX13_bit_20 : decode cX13_bit 20 = .ok (.iload_n 1, 1) := by decide +kernel
theorem dX13_bit_21 : decode cX13_bit 21 = .ok (.baload, 1) := by decide +kernel
theorem dX13_bit_22 : decode cX13_bit 22 = .ok (.ifCond .eq 7, 3) := by decide +kernel
theorem dX13_bit_25 : decode cX13_bit 25 = .ok (.iconst 1, 1) := by decide +kernel
theorem dX13_bit_26 : decode cX13_bit 26 = .ok (.goto 9, 3) := by decide +kernel
theorem dX13_bit_29 : decode cX13_bit 29 = .ok (.iconst 0, 1) := by decide +kernel
theorem dX13_bit_3 : decode cX13_bit 3 = .ok (.aload_n 0, 1) := by decide +kernel
theorem dX13_bit_30 : decode cX13_bit 30 = .ok (.goto 5, 3) := by decide +kernel
theorem dX13_bit_33 : decode cX13_bit 33 = .ok (.bipush (-2), 2) := by decide +kernel
theorem dX13_bit_35 : decode cX13_bit 35 = .ok (.ireturn, 1) := by decide +kernel
theorem dX13_bit_4 : decode cX13_bit 4 = .ok (.getfield 833, 3) := by decide +kernel
theorem dX13_bit_7 : decode cX13_bit 7 = .ok (.iconst 1, 1) := by decide +kernel
theorem dX13_bit_8 : decode cX13_bit 8 = .ok (.isub, 1) := by decide +kernel
theorem dX13_bit_9 : decode cX13_bit 9 = .ok (.i2l, 1) := by decide +kernel
noncomputable def f_X13_bit (x1 : Int32) (s : t_S) : Option (Int32) :=
 if (f_X13_in x1.toInt64 (0 : Int64) (((s.1 950 121) - (1 : Int32)).toInt64) s) = (0 : Int32) then (some (-2 : Int32))
 else (if t_ix x1 8600 = true then
  if (s.1 1020 (x1.toNatClampNeg)) = (0 : Int32) then (some (0 : Int32))
 else (some (1 : Int32))
else none)
set_option maxRecDepth 4000 in
set_option maxHeartbeats 1000000 in
theorem C_X13_bit (x1 : Int32) (s : t_S) (r : Int32) (hr : f_X13_bit x1 s = some r) : t_C yX13_bit cX13_bit 2 (some .int) 1 [.ref 950, .int x1] s (fun v s' => v = some (.int r) ∧ s' = s) := by
  refine t_C.imp (P := fun v s' => s' = s ∧ ∃ x, v = some (.int x) ∧ (fun q => q = r) (x)) (t_C.of (by decide +kernel) (Nat.le_of_ble_eq_true rfl) ?_) (fun v s' hp => by obtain ⟨rfl, x, rfl, rfl⟩ := hp; exact ⟨rfl, rfl⟩)
  intro D cy ad bs X
  have hk : t_hk (f_X13_bit x1 s) (fun q => q = r) := ⟨r, hr, rfl⟩
  show mj_G D cy ad bs X cX13_bit 2 yX13_bit.cls (some .int) yX13_bit.name 1 0 0 1065 (t_P (fun v s' => s' = s ∧ ∃ x, v = some (.int x) ∧ (fun q => q = r) (x))) 0 [(0, .ref 950), (1, .int x1)] [] (t_m s) 1065 0 0
  refine mj_iload_n dX13_bit_0 1 rfl ?_
  refine mj_i2l (v := x1.toInt64) dX13_bit_1 rfl ?_
  refine mj_lconst (v := 0) dX13_bit_2 (by decide) ?_
  refine mj_aload_n dX13_bit_3 0 rfl ?_
  refine t_getI dX13_bit_4 F_X13_833 qf_950_121 ?_
  refine mj_iconst (v := 1) dX13_bit_7 (by decide) ?_
  refine mj_isub dX13_bit_8 ?_
  refine mj_i2l (v := ((s.1 950 121) - (1 : Int32)).toInt64) dX13_bit_9 rfl ?_
  refine t_callSiP dX13_bit_10 M_X13_in (C_X13_in _ _ _ _) ML_X13_371 SM_X13_in (As := [.long x1.toInt64, .long 0, .long (((s.1 950 121) - (1 : Int32)).toInt64)]) rfl rfl (Nat.le_of_ble_eq_true rfl) (Nat.le_of_ble_eq_true rfl) (Nat.le_of_ble_eq_true rfl) (Nat.le_of_ble_eq_true rfl) ?_
  refine mj_if_eq 33 dX13_bit_13 (by decide) (fun z => t_posK hk z (fun hk => ?_)) (fun z => t_negK hk z (fun hk => ?_))
  · refine mj_bipush (v := (-2)) dX13_bit_33 (by decide) ?_
    exact t_somK hk (fun hf => t_iret dX13_bit_35 rfl rfl ⟨rfl, _, rfl, hf⟩ (Nat.le_of_ble_eq_true rfl) (Nat.le_of_ble_eq_true rfl))
  · refine mj_aload_n dX13_bit_16 0 rfl ?_
    refine t_getR 1020 dX13_bit_17 F_X13_226 qr_950_120 ?_
    refine mj_iload_n dX13_bit_20 1 rfl ?_
    refine t_chkK hk (fun c1 hk => ?_)
    refine t_zald dX13_bit_21 qa_1020 (t_ixv c1) ?_
    refine mj_if_eq 29 dX13_bit_22 (by decide) (fun z => t_posK hk z (fun hk => ?_)) (fun z => t_negK hk z (fun hk => ?_))
    · refine mj_iconst (v := 0) dX13_bit_29 (by decide) ?_
      refine mj_goto 35 dX13_bit_30 (by decide) ?_
      exact t_somK hk (fun hf => t_iret dX13_bit_35 rfl rfl ⟨rfl, _, rfl, hf⟩ (Nat.le_of_ble_eq_true rfl) (Nat.le_of_ble_eq_true rfl))
    · refine mj_iconst (v := 1) dX13_bit_25 (by decide) ?_
      refine mj_goto 35 dX13_bit_26 (by decide) ?_
      exact t_somK hk (fun hf => t_iret dX13_bit_35 rfl rfl ⟨rfl, _, rfl, hf⟩ (Nat.le_of_ble_eq_true rfl) (Nat.le_of_ble_eq_true rfl))

theorem dX13_putBits_0 : decode cX13_putBits 0 = .ok (.iload_n 3, 1) := by decide +kernel
theorem dX13_putBits_1 : decode cX13_putBits 1 = .ok (.iconst 1, 1) := by decide +kernel
theorem dX13_putBits_10 : decode cX13_putBits 10 = .ok (.aload_n 0, 1) := by decide +kernel
theorem dX13_putBits_11 : decode cX13_putBits 11 = .ok (.getfield 833, 3) := by decide +kernel
theorem dX13_putBits_14 : decode cX13_putBits 14 = .ok (.sipush 8600, 3) := by decide +kernel
theorem dX13_putBits_17 : decode cX13_putBits 17 = .ok (.if_icmp .ge 38, 3) := by decide +kernel
theorem dX13_putBits_2 : decode cX13_putBits 2 = .ok (.isub, 1) := by decide +kernel
theorem dX13_putBits_20 : decode cX13_putBits 20 = .ok (.aload_n 0, 1) := by decide +kernel
theorem dX13_putBits_21 : decode cX13_putBits 21 = .ok (.getfield 226, 3) := by decide +kernel
theorem dX13_putBits_24 : decode cX13_putBits 24 = .ok (.aload_n 0, 1) := by decide +kernel
theorem dX13_putBits_25 : decode cX13_putBits 25 = .ok (.getfield 833, 3) := by decide +kernel
theorem dX13_putBits_28 : decode cX13_putBits 28 = .ok (.lload_n 1, 1) := by decide +kernel
theorem dX13_putBits_29 : decode cX13_putBits 29 = .ok (.iload 4, 2) := by decide +kernel
theorem dX13_putBits_3 : decode cX13_putBits 3 = .ok (.istore 4, 2) := by decide +kernel
theorem dX13_putBits_31 : decode cX13_putBits 31 = .ok (.lshr, 1) := by decide +kernel
theorem dX13_putBits_32 : decode cX13_putBits 32 = .ok (.lconst 1, 1) := by decide +kernel
theorem dX13_putBits_33 : decode cX13_putBits 33 = .ok (.land, 1) := by decide +kernel
theorem dX13_putBits_34 : decode cX13_putBits 34 = .ok (.lconst 1, 1) := by decide +kernel
theorem dX13_putBits_35 : decode cX13_putBits 35 = .ok (.lcmp, 1) := by decide +kernel
theorem dX13_putBits_36 : decode cX13_putBits 36 = .ok (.ifCond .ne 7, 3) := by decide +kernel
theorem dX13_putBits_39 : decode cX13_putBits 39 = .ok (.iconst 1, 1) := by decide +kernel
theorem dX13_putBits_40 : decode cX13_putBits 40 = .ok (.goto 4, 3) := by decide +kernel
theorem dX13_putBits_43 : decode cX13_putBits 43 = .ok (.iconst 0, 1) := by decide +kernel
theorem dX13_putBits_44 : decode cX13_putBits 44 = .ok (.bastore, 1) := by decide +kernel
theorem dX13_putBits_45 : decode cX13_putBits 45 = .ok (.aload_n 0, 1) := by decide +kernel
theorem dX13_putBits_46 : decode cX13_putBits 46 = .ok (.dup, 1) := by decide +kernel
theorem dX13_putBits_47 : decode cX13_putBits 47 = .ok (.getfield 833, 3) := by decide +kernel
theorem dX13_putBits_5 : decode cX13_putBits 5 = .ok (.iload 4, 2) := by decide +kernel
theorem dX13_putBits_50 : decode cX13_putBits 50 = .ok (.iconst 1, 1) := by decide +kernel
theorem dX13_putBits_51 : decode cX13_putBits 51 = .ok (.iadd, 1) := by decide +kernel
theorem dX13_putBits_52 : decode cX13_putBits 52 = .ok (.putfield 833, 3) := by decide +kernel
theorem dX13_putBits_55 : decode cX13_putBits 55 = .ok (.iinc 4 (-1), 3) := by decide +kernel
theorem dX13_putBits_58 : decode cX13_putBits 58 = .ok (.goto (-53), 3) := by decide +kernel
theorem dX13_putBits_61 : decode cX13_putBits 61 = .ok (.return_, 1) := by decide +kernel
theorem dX13_putBits_7 : decode cX13_putBits 7 = .ok (.ifCond .lt 54, 3) := by decide +kernel
noncomputable def k_X13_putBits_55 (l1 : Int64) (l4 : Int32) (s : t_S) : Option ((Int64 × Int32 × t_S) ⊕ (t_S)) :=
 some (.inl (l1, (l4 + (-1)), s))
set_option maxRecDepth 4000 in
set_option maxHeartbeats 1000000 in
theorem B_X13_putBits_55 {D : va_G} {cy : Nat → ClassId} {ad : Nat → Nat} {bs : Nat} {X : State → Heap → Prop} (l1 : Int64) (l4 : Int32) (s : t_S) (Q : (Int64 × Int32 × t_S) ⊕ (t_S) → Prop) (Hb5 : ∀ (y0 : Int64) (y1 : Int32) (y2 : t_S), Q (.inl (y0, y1, y2)) → mj_G D cy ad bs X cX13_putBits 5 yX13_putBits.cls none yX13_putBits.name 0 0 0 1065 (t_P (fun v s' => v = none ∧ Q (.inr (s')))) 5 [(0, .ref 950), (1, .long (y0)), (4, .int (y1))] [] (t_m y2) 1065 0 0) (hk : t_hk (k_X13_putBits_55 l1 l4 s) Q) : mj_G D cy ad bs X cX13_putBits 5 yX13_putBits.cls none yX13_putBits.name 0 0 0 1065 (t_P (fun v s' => v = none ∧ Q (.inr (s')))) 55 [(0, .ref 950), (1, .long l1), (4, .int l4)] [] (t_m s) 1065 0 0 := by
  refine mj_iinc (k := 2) (v := (l4 + (-1))) (lv2 := [(4, .int (l4 + (-1))), (0, .ref 950), (1, .long l1)]) dX13_putBits_55 rfl rfl (by decide) rfl ?_
  refine mj_goto 5 dX13_putBits_58 (by decide) ?_
  refine mj_sublv [(0, .ref 950), (1, .long l1), (4, .int (l4 + (-1)))] [1, 2, 0] rfl ?_
  exact t_somK hk (fun hf => Hb5 l1 (l4 + (-1)) s hf)
noncomputable def k_X13_putBits_44 (l1 : Int64) (l4 : Int32) (k0 : Int32) (k1 : Int32) (s : t_S) : Option ((Int64 × Int32 × t_S) ⊕ (t_S)) :=
 if t_ix k1 8600 = true then
  if k0 = 0 ∨ k0 = 1 then
  t_let (t_setI s 1020 (k1.toNatClampNeg) k0) (fun s1 =>
 t_let (t_setI s1 950 121 ((s1.1 950 121) + (1 : Int32))) (fun s2 =>
 k_X13_putBits_55 l1 l4 s2))
else none
else none
set_option maxRecDepth 4000 in
set_option maxHeartbeats 1000000 in
theorem B_X13_putBits_44 {D : va_G} {cy : Nat → ClassId} {ad : Nat → Nat} {bs : Nat} {X : State → Heap → Prop} (l1 : Int64) (l4 : Int32) (k0 : Int32) (k1 : Int32) (s : t_S) (Q : (Int64 × Int32 × t_S) ⊕ (t_S) → Prop) (Hb5 : ∀ (y0 : Int64) (y1 : Int32) (y2 : t_S), Q (.inl (y0, y1, y2)) → mj_G D cy ad bs X cX13_putBits 5 yX13_putBits.cls none yX13_putBits.name 0 0 0 1065 (t_P (fun v s' => v = none ∧ Q (.inr (s')))) 5 [(0, .ref 950), (1, .long (y0)), (4, .int (y1))] [] (t_m y2) 1065 0 0) (hk : t_hk (k_X13_putBits_44 l1 l4 k0 k1 s) Q) : mj_G D cy ad bs X cX13_putBits 5 yX13_putBits.cls none yX13_putBits.name 0 0 0 1065 (t_P (fun v s' => v = none ∧ Q (.inr (s')))) 44 [(0, .ref 950), (1, .long l1), (4, .int l4)] [.int k0, .int k1, .ref 1020] (t_m s) 1065 0 0 := by
  refine t_chkK hk (fun c0 hk => ?_)
  refine t_chkK hk (fun c1 hk => ?_)
  refine t_zastK dX13_putBits_44 qa_1020 (t_ixv c0) c1 (fun s1 ws1 => t_letE hk ws1 (fun hk => ?_))
  refine mj_aload_n dX13_putBits_45 0 rfl ?_
  refine mj_dup dX13_putBits_46 rfl ?_
  refine t_getI dX13_putBits_47 F_X13_833 qf_950_121 ?_
  refine mj_iconst (v := 1) dX13_putBits_50 (by decide) ?_
  refine mj_iadd dX13_putBits_51 ?_
  refine t_putIK dX13_putBits_52 F_X13_833 qf_950_121 rfl (fun s2 ws2 => t_letE hk ws2 (fun hk => ?_))
  exact B_X13_putBits_55 _ _ _ _ (fun y0 y1 y2 hx => Hb5 y0 y1 y2 hx) hk
noncomputable def k_X13_putBits_5 (l1 : Int64) (l4 : Int32) (s : t_S) : Option ((Int64 × Int32 × t_S) ⊕ (t_S)) :=
 if l4 < (0 : Int32) then ((some (s)).map Sum.inr)
 else (if (8600 : Int32) ≤ (s.1 950 121) then (k_X13_putBits_55 l1 l4 s)
 else (if (lg_cmp ((l1 >>> (l4.toInt64 &&& 63)) &&& (1 : Int64)) (1 : Int64)) = (0 : Int32) then (k_X13_putBits_44 l1 l4 1 (s.1 950 121) s)
 else (k_X13_putBits_44 l1 l4 0 (s.1 950 121) s)))
set_option maxRecDepth 4000 in
set_option maxHeartbeats 1000000 in
theorem B_X13_putBits_5 {D : va_G} {cy : Nat → ClassId} {ad : Nat → Nat} {bs : Nat} {X : State → Heap → Prop} (l1 : Int64) (l4 : Int32) (s : t_S) (Q : (Int64 × Int32 × t_S) ⊕ (t_S) → Prop) (Hb5 : ∀ (y0 : Int64) (y1 : Int32) (y2 : t_S), Q (.inl (y0, y1, y2)) → mj_G D cy ad bs X cX13_putBits 5 yX13_putBits.cls none yX13_putBits.name 0 0 0 1065 (t_P (fun v s' => v = none ∧ Q (.inr (s')))) 5 [(0, .ref 950), (1, .long (y0)), (4, .int (y1))] [] (t_m y2) 1065 0 0) (hk : t_hk (k_X13_putBits_5 l1 l4 s) Q) : mj_G D cy ad bs X cX13_putBits 5 yX13_putBits.cls none yX13_putBits.name 0 0 0 1065 (t_P (fun v s' => v = none ∧ Q (.inr (s')))) 5 [(0, .ref 950), (1, .long l1), (4, .int l4)] [] (t_m s) 1065 0 0 := by
  refine mj_iload dX13_putBits_5 2 rfl ?_
  refine mj_if_lt 61 dX13_putBits_7 (by decide) (fun z => t_posK hk z (fun hk => ?_)) (fun z => t_negK hk z (fun hk => ?_))
  · refine t_mapK hk (fun hk => ?_)
    exact t_somK hk (fun hf => t_vret dX13_putBits_61 rfl ⟨rfl, hf⟩ (Nat.le_of_ble_eq_true rfl) (Nat.le_of_ble_eq_true rfl))
  · refine mj_aload_n dX13_putBits_10 0 rfl ?_
    refine t_getI dX13_putBits_11 F_X13_833 qf_950_121 ?_
    refine mj_sipush (v := 8600) dX13_putBits_14 (by decide) ?_
    refine mj_icmp_ge 55 dX13_putBits_17 (by decide) (fun z => t_posK hk z (fun hk => ?_)) (fun z => t_negK hk z (fun hk => ?_))
    · exact B_X13_putBits_55 _ _ _ _ (fun y0 y1 y2 hx => Hb5 y0 y1 y2 hx) hk
    · refine mj_aload_n dX13_putBits_20 0 rfl ?_
      refine t_getR 1020 dX13_putBits_21 F_X13_226 qr_950_120 ?_
      refine mj_aload_n dX13_putBits_24 0 rfl ?_
      refine t_getI dX13_putBits_25 F_X13_833 qf_950_121 ?_
      refine mj_lload_n dX13_putBits_28 1 rfl ?_
      refine mj_iload dX13_putBits_29 2 rfl ?_
      refine mj_lshr dX13_putBits_31 rfl ?_
      refine mj_lconst (v := 1) dX13_putBits_32 (by decide) ?_
      refine mj_land dX13_putBits_33 ?_
      refine mj_lconst (v := 1) dX13_putBits_34 (by decide) ?_
      refine mj_lcmp dX13_putBits_35 ?_
      refine mj_if_ne 43 dX13_putBits_36 (by decide) (fun z => t_negK hk z (fun hk => ?_)) (fun z => t_posK hk z (fun hk => ?_))
      · refine mj_iconst (v := 0) dX13_putBits_43 (by decide) ?_
        exact B_X13_putBits_44 _ _ _ _ _ _ (fun y0 y1 y2 hx => Hb5 y0 y1 y2 hx) hk
      · refine mj_iconst (v := 1) dX13_putBits_39 (by decide) ?_
        refine mj_goto 44 dX13_putBits_40 (by decide) ?_
        exact B_X13_putBits_44 _ _ _ _ _ _ (fun y0 y1 y2 hx => Hb5 y0 y1 y2 hx) hk
noncomputable def b_X13_putBits_5 (x : Int64 × Int32 × t_S) : Option ((Int64 × Int32 × t_S) ⊕ (t_S)) := k_X13_putBits_5 x.1 x.2.1 x.2.2
set_option maxRecDepth 4000 in
set_option maxHeartbeats 1000000 in
theorem LH_X13_putBits_5 {D : va_G} {cy : Nat → ClassId} {ad : Nat → Nat} {bs : Nat} {X : State → Heap → Prop} : ∀ (n : Nat) (y0 : Int64) (y1 : Int32) (y2 : t_S) (Q : t_S → Prop) (hk : t_hk (t_loop (b_X13_putBits_5) n (y0, y1, y2)) Q), mj_G D cy ad bs X cX13_putBits 5 yX13_putBits.cls none yX13_putBits.name 0 0 0 1065 (t_P (fun v s' => v = none ∧ Q (s'))) 5 [(0, .ref 950), (1, .long (y0)), (4, .int (y1))] [] (t_m y2) 1065 0 0 := by
  intro n
  induction n with
  | zero => intro y0 y1 y2 Q hk; obtain ⟨r, hr, _⟩ := hk; cases hr
  | succ n ih =>
    intro y0 y1 y2 Q hk
    exact B_X13_putBits_5 y0 y1 y2 (fun y => t_lq (b_X13_putBits_5) n Q y) (fun y0' y1' y2' hy => ih y0' y1' y2' Q hy) (t_lp (b := b_X13_putBits_5) (n := n) (x := (y0, y1, y2)) hk)
noncomputable def f_X13_putBits (x1 : Int64) (x2 : Int32) (s : t_S) : Option (t_S) :=
 t_loop (b_X13_putBits_5) t_N (x1, (x2 - (1 : Int32)), s)
set_option maxRecDepth 4000 in
set_option maxHeartbeats 1000000 in
theorem C_X13_putBits (x1 : Int64) (x2 : Int32) (s : t_S) (r : t_S) (hr : f_X13_putBits x1 x2 s = some r) : t_C yX13_putBits cX13_putBits 5 none 0 [.ref 950, .long x1, .int x2] s (fun v s' => v = none ∧ s' = r) := by
  refine t_C.imp (P := fun v s' => v = none ∧ (fun q => q = r) (s')) (t_C.of (by decide +kernel) (Nat.le_of_ble_eq_true rfl) ?_) (fun v s' hp => hp)
  intro D cy ad bs X
  have hk : t_hk (f_X13_putBits x1 x2 s) (fun q => q = r) := ⟨r, hr, rfl⟩
  show mj_G D cy ad bs X cX13_putBits 5 yX13_putBits.cls none yX13_putBits.name 0 0 0 1065 (t_P (fun v s' => v = none ∧ (fun q => q = r) (s'))) 0 [(0, .ref 950), (1, .long x1), (3, .int x2)] [] (t_m s) 1065 0 0
  refine mj_iload_n dX13_putBits_0 2 rfl ?_
  refine mj_iconst (v := 1) dX13_putBits_1 (by decide) ?_
  refine mj_isub dX13_putBits_2 ?_
  refine mj_istore (lv2 := [(4, .int (x2 - (1 : Int32))), (0, .ref 950), (1, .long x1), (3, .int x2)]) dX13_putBits_3 (by decide) rfl ?_
  refine mj_sublv [(0, .ref 950), (1, .long x1), (4, .int (x2 - (1 : Int32)))] [1, 2, 0] rfl ?_
  exact LH_X13_putBits_5 _ x1 (x2 - (1 : Int32)) s _ hk

theorem dX13_bits_0 : decode cX13_bits 0 = .ok (.iload_n 2, 1) := by decide +kernel
theorem dX13_bits_1 : decode cX13_bits 1 = .ok (.i2l, 1) := by decide +kernel
theorem dX13_bits_12 : decode cX13_bits 12 = .ok (.iconst (-1), 1) := by decide +kernel
theorem dX13_bits_13 : decode cX13_bits 13 = .ok (.ireturn, 1) := by decide +kernel
theorem dX13_bits_14 : decode cX13_bits 14 = .ok (.aload_n 0, 1) := by decide +kernel
theorem dX13_bits_15 : decode cX13_bits 15 = .ok (.getfield 833, 3) := by decide +kernel
theorem dX13_bits_18 : decode cX13_bits 18 = .ok (.iload_n 2, 1) := by decide +kernel
theorem dX13_bits_19 : decode cX13_bits 19 = .ok (.iadd, 1) := by decide +kernel
theorem dX13_bits_2 : decode cX13_bits 2 = .ok (.lconst 0, 1) := by decide +kernel
theorem dX13_bits_20 : decode cX13_bits 20 = .ok (.sipush 8000, 3) := by decide +kernel
theorem dX13_bits_23 : decode cX13_bits 23 = .ok (.if_icmp .le 6, 3) := by decide +kernel
theorem dX13_bits_26 : decode cX13_bits 26 = .ok (.bipush (-3), 2) := by decide +kernel
theorem dX13_bits_28 : decode cX13_bits 28 = .ok (.ireturn, 1) := by decide +kernel
theorem dX13_bits_29 : decode cX13_bits 29 = .ok (.aload_n 0, 1) := by decide +kernel
theorem dX13_bits_3 : decode cX13_bits 3 = .ok (.ldc2_w 423, 3) := by decide +kernel
theorem dX13_bits_30 : decode cX13_bits 30 = .ok (.iload_n 1, 1) := by decide +kernel
theorem dX13_bits_31 : decode cX13_bits 31 = .ok (.i2l, 1) := by decide +kernel
theorem dX13_bits_32 : decode cX13_bits 32 = .ok (.iload_n 2, 1) := by decide +kernel
theorem dX13_bits_33 : decode cX13_bits 33 = .ok (.invokevirtual 1138, 3) := by decide +kernel
theorem dX13_bits_36 : decode cX13_bits 36 = .ok (.aload_n 0, 1) := by decide +kernel
theorem dX13_bits_37 : decode cX13_bits 37 = .ok (.getfield 833, 3) := by decide +kernel
theorem dX13_bits_40 : decode cX13_bits 40 = .ok (.ireturn, 1) := by decide +kernel
theorem dX13_bits_6 : decode cX13_bits 6 = .ok (.invokestatic 371, 3) := by decide +kernel
theorem dX13_bits_9 : decode cX13_bits 9 = .ok (.ifCond .ne 5, 3) := by decide +kernel
noncomputable def f_X13_bits (x1 : Int32) (x2 : Int32) (s : t_S) : Option (Int32 × t_S) :=
 if (f_X13_in x2.toInt64 (0 : Int64) (32 : Int64) s) = (0 : Int32) then (some ((-1 : Int32), s))
 else (if ((s.1 950 121) + x2) ≤ (8000 : Int32) then ((f_X13_putBits x1.toInt64 x2 s).bind (fun r2 =>
 some ((r2.1 950 121), r2)))
 else (some ((-3 : Int32), s)))
set_option maxRecDepth 4000 in
set_option maxHeartbeats 1000000 in
theorem C_X13_bits (x1 : Int32) (x2 : Int32) (s : t_S) (r : Int32 × t_S) (hr : f_X13_bits x1 x2 s = some r) : t_C yX13_bits cX13_bits 3 (some .int) 1 [.ref 950, .int x1, .int x2] s (fun v s' => v = some (.int r.1) ∧ s' = r.2) := by
  refine t_C.imp (P := fun v s' => ∃ x, v = some (.int x) ∧ (fun q => q = r) ((x, s'))) (t_C.of (by decide +kernel) (Nat.le_of_ble_eq_true rfl) ?_) (fun v s' hp => by obtain ⟨x, rfl, rfl⟩ := hp; exact ⟨rfl, rfl⟩)
  intro D cy ad bs X
  have hk : t_hk (f_X13_bits x1 x2 s) (fun q => q = r) := ⟨r, hr, rfl⟩
  show mj_G D cy ad bs X cX13_bits 3 yX13_bits.cls (some .int) yX13_bits.name 1 0 0 1065 (t_P (fun v s' => ∃ x, v = some (.int x) ∧ (fun q => q = r) ((x, s')))) 0 [(0, .ref 950), (1, .int x1), (2, .int x2)] [] (t_m s) 1065 0 0
  refine mj_iload_n dX13_bits_0 2 rfl ?_
  refine mj_i2l (v := x2.toInt64) dX13_bits_1 rfl ?_
  refine mj_lconst (v := 0) dX13_bits_2 (by decide) ?_
  refine mj_ldc2 dX13_bits_3 K_X13_423 ?_
  refine t_callSiP dX13_bits_6 M_X13_in (C_X13_in _ _ _ _) ML_X13_371 SM_X13_in (As := [.long x2.toInt64, .long 0, .long 32]) rfl rfl (Nat.le_of_ble_eq_true rfl) (Nat.le_of_ble_eq_true rfl) (Nat.le_of_ble_eq_true rfl) (Nat.le_of_ble_eq_true rfl) ?_
  refine mj_if_ne 14 dX13_bits_9 (by decide) (fun z => t_negK hk z (fun hk => ?_)) (fun z => t_posK hk z (fun hk => ?_))
  · refine mj_aload_n dX13_bits_14 0 rfl ?_
    refine t_getI dX13_bits_15 F_X13_833 qf_950_121 ?_
    refine mj_iload_n dX13_bits_18 2 rfl ?_
    refine mj_iadd dX13_bits_19 ?_
    refine mj_sipush (v := 8000) dX13_bits_20 (by decide) ?_
    refine mj_icmp_le 29 dX13_bits_23 (by decide) (fun z => t_posK hk z (fun hk => ?_)) (fun z => t_negK hk z (fun hk => ?_))
    · refine mj_aload_n dX13_bits_29 0 rfl ?_
      refine mj_iload_n dX13_bits_30 1 rfl ?_
      refine mj_i2l (v := x1.toInt64) dX13_bits_31 rfl ?_
      refine mj_iload_n dX13_bits_32 2 rfl ?_
      refine t_bndK hk (fun r2 er2 hk => ?_)
      refine t_callVvE dX13_bits_33 M_X13_putBits (C_X13_putBits _ _ _ _ er2) ML_X13_1138 IM_X13_putBits SE_X13_putBits qc_950 rfl (As := [.long x1.toInt64, .int x2]) rfl rfl (Nat.le_of_ble_eq_true rfl) (Nat.le_of_ble_eq_true rfl) (Nat.le_of_ble_eq_true rfl) (Nat.le_of_ble_eq_true rfl) ?_
      refine mj_aload_n dX13_bits_36 0 rfl ?_
      refine t_getI dX13_bits_37 F_X13_833 qf_950_121 ?_
      exact t_somK hk (fun hf => t_iret dX13_bits_40 rfl rfl ⟨_, rfl, hf⟩ (Nat.le_of_ble_eq_true rfl) (Nat.le_of_ble_eq_true rfl))
    · refine mj_bipush (v := (-3)) dX13_bits_26 (by decide) ?_
      exact t_somK hk (fun hf => t_iret dX13_bits_28 rfl rfl ⟨_, rfl, hf⟩ (Nat.le_of_ble_eq_true rfl) (Nat.le_of_ble_eq_true rfl))
  · refine mj_iconst (v := (-1)) dX13_bits_12 (by decide) ?_
    exact t_somK hk (fun hf => t_iret dX13_bits_13 rfl rfl ⟨_, rfl, hf⟩ (Nat.le_of_ble_eq_true rfl) (Nat.le_of_ble_eq_true rfl))

theorem dX13_bitsFor_0 : decode cX13_bitsFor 0 = .ok (.iconst 0, 1) := by decide +kernel
theorem dX13_bitsFor_1 : decode cX13_bitsFor 1 = .ok (.istore_n 2, 1) := by decide +kernel
theorem dX13_bitsFor_10 : decode cX13_bitsFor 10 = .ok (.lshr, 1) := by decide +kernel
theorem dX13_bitsFor_11 : decode cX13_bitsFor 11 = .ok (.lconst 0, 1) := by decide +kernel
theorem dX13_bitsFor_12 : decode cX13_bitsFor 12 = .ok (.lcmp, 1) := by decide +kernel
theorem dX13_bitsFor_13 : decode cX13_bitsFor 13 = .ok (.ifCond .le 9, 3) := by decide +kernel
theorem dX13_bitsFor_16 : decode cX13_bitsFor 16 = .ok (.iinc 2 1, 3) := by decide +kernel
theorem dX13_bitsFor_19 : decode cX13_bitsFor 19 = .ok (.goto (-17), 3) := by decide +kernel
theorem dX13_bitsFor_2 : decode cX13_bitsFor 2 = .ok (.iload_n 2, 1) := by decide +kernel
theorem dX13_bitsFor_22 : decode cX13_bitsFor 22 = .ok (.iload_n 2, 1) := by decide +kernel
theorem dX13_bitsFor_23 : decode cX13_bitsFor 23 = .ok (.ireturn, 1) := by decide +kernel
theorem dX13_bitsFor_3 : decode cX13_bitsFor 3 = .ok (.bipush 63, 2) := by decide +kernel
theorem dX13_bitsFor_5 : decode cX13_bitsFor 5 = .ok (.if_icmp .ge 17, 3) := by decide +kernel
theorem dX13_bitsFor_8 : decode cX13_bitsFor 8 = .ok (.lload_n 0, 1) := by decide +kernel
theorem dX13_bitsFor_9 : decode cX13_bitsFor 9 = .ok (.iload_n 2, 1) := by decide +kernel
noncomputable def k_X13_bitsFor_2 (l0 : Int64) (l2 : Int32) (s : t_S) : Option ((Int64 × Int32) ⊕ (Int32)) :=
 if (63 : Int32) ≤ l2 then ((some (l2)).map Sum.inr)
 else (if (lg_cmp (l0 >>> (l2.toInt64 &&& 63)) (0 : Int64)) ≤ (0 : Int32) then ((some (l2)).map Sum.inr)
 else (some (.inl (l0, (l2 + 1)))))
set_option maxRecDepth 4000 in
set_option maxHeartbeats 1000000 in
theorem B_X13_bitsFor_2 {D : va_G} {cy : Nat → ClassId} {ad : Nat → Nat} {bs : Nat} {X : State → Heap → Prop} (l0 : Int64) (l2 : Int32) (s : t_S) (Q : (Int64 × Int32) ⊕ (Int32) → Prop) (Hb2 : ∀ (y0 : Int64) (y1 : Int32), Q (.inl (y0, y1)) → mj_G D cy ad bs X cX13_bitsFor 3 yX13_bitsFor.cls (some .int) yX13_bitsFor.name 0 0 0 1065 (t_P (fun v s' => s' = s ∧ ∃ x, v = some (.int x) ∧ Q (.inr (x)))) 2 [(0, .long (y0)), (2, .int (y1))] [] (t_m s) 1065 0 0) (hk : t_hk (k_X13_bitsFor_2 l0 l2 s) Q) : mj_G D cy ad bs X cX13_bitsFor 3 yX13_bitsFor.cls (some .int) yX13_bitsFor.name 0 0 0 1065 (t_P (fun v s' => s' = s ∧ ∃ x, v = some (.int x) ∧ Q (.inr (x)))) 2 [(0, .long l0), (2, .int l2)] [] (t_m s) 1065 0 0 := by
  refine mj_iload_n dX13_bitsFor_2 1 rfl ?_
  refine mj_bipush (v := 63) dX13_bitsFor_3 (by decide) ?_
  refine mj_icmp_ge 22 dX13_bitsFor_5 (by decide) (fun z => t_posK hk z (fun hk => ?_)) (fun z => t_negK hk z (fun hk => ?_))
  · refine t_mapK hk (fun hk => ?_)
    refine mj_iload_n dX13_bitsFor_22 1 rfl ?_
    exact t_somK hk (fun hf => t_iret dX13_bitsFor_23 rfl rfl ⟨rfl, _, rfl, hf⟩ (Nat.le_of_ble_eq_true rfl) (Nat.le_of_ble_eq_true rfl))
  · refine mj_lload_n dX13_bitsFor_8 0 rfl ?_
    refine mj_iload_n dX13_bitsFor_9 1 rfl ?_
    refine mj_lshr dX13_bitsFor_10 rfl ?_
    refine mj_lconst (v := 0) dX13_bitsFor_11 (by decide) ?_
    refine mj_lcmp dX13_bitsFor_12 ?_
    refine mj_if_le 22 dX13_bitsFor_13 (by decide) (fun z => t_posK hk z (fun hk => ?_)) (fun z => t_negK hk z (fun hk => ?_))
    · refine t_mapK hk (fun hk => ?_)
      refine mj_iload_n dX13_bitsFor_22 1 rfl ?_
      exact t_somK hk (fun hf => t_iret dX13_bitsFor_23 rfl rfl ⟨rfl, _, rfl, hf⟩ (Nat.le_of_ble_eq_true rfl) (Nat.le_of_ble_eq_true rfl))
    · refine mj_iinc (k := 1) (v := (l2 + 1)) (lv2 := [(2, .int (l2 + 1)), (0, .long l0)]) dX13_bitsFor_16 rfl rfl (by decide) rfl ?_
      refine mj_goto 2 dX13_bitsFor_19 (by decide) ?_
      refine mj_sublv [(0, .long l0), (2, .int (l2 + 1))] [1, 0] rfl ?_
      exact t_somK hk (fun hf => Hb2 l0 (l2 + 1) hf)
noncomputable def b_X13_bitsFor_2 (s : t_S) (x : Int64 × Int32) : Option ((Int64 × Int32) ⊕ (Int32)) := k_X13_bitsFor_2 x.1 x.2 s
set_option maxRecDepth 4000 in
set_option maxHeartbeats 1000000 in
theorem LH_X13_bitsFor_2 {D : va_G} {cy : Nat → ClassId} {ad : Nat → Nat} {bs : Nat} {X : State → Heap → Prop} (s : t_S) : ∀ (n : Nat) (y0 : Int64) (y1 : Int32) (Q : Int32 → Prop) (hk : t_hk (t_loop (b_X13_bitsFor_2 s) n (y0, y1)) Q), mj_G D cy ad bs X cX13_bitsFor 3 yX13_bitsFor.cls (some .int) yX13_bitsFor.name 0 0 0 1065 (t_P (fun v s' => s' = s ∧ ∃ x, v = some (.int x) ∧ Q (x))) 2 [(0, .long (y0)), (2, .int (y1))] [] (t_m s) 1065 0 0 := by
  intro n
  induction n with
  | zero => intro y0 y1 Q hk; obtain ⟨r, hr, _⟩ := hk; cases hr
  | succ n ih =>
    intro y0 y1 Q hk
    exact B_X13_bitsFor_2 y0 y1 s (fun y => t_lq (b_X13_bitsFor_2 s) n Q y) (fun y0' y1' hy => ih y0' y1' Q hy) (t_lp (b := b_X13_bitsFor_2 s) (n := n) (x := (y0, y1)) hk)
noncomputable def f_X13_bitsFor (x1 : Int64) (s : t_S) : Option (Int32) :=
 t_loop (b_X13_bitsFor_2 s) t_N (x1, 0)
set_option maxRecDepth 4000 in
set_option maxHeartbeats 1000000 in
theorem C_X13_bitsFor (x1 : Int64) (s : t_S) (r : Int32) (hr : f_X13_bitsFor x1 s = some r) : t_C yX13_bitsFor cX13_bitsFor 3 (some .int) 0 [.long x1] s (fun v s' => v = some (.int r) ∧ s' = s) := by
  refine t_C.imp (P := fun v s' => s' = s ∧ ∃ x, v = some (.int x) ∧ (fun q => q = r) (x)) (t_C.of (by decide +kernel) (Nat.le_of_ble_eq_true rfl) ?_) (fun v s' hp => by obtain ⟨rfl, x, rfl, rfl⟩ := hp; exact ⟨rfl, rfl⟩)
  intro D cy ad bs X
  have hk : t_hk (f_X13_bitsFor x1 s) (fun q => q = r) := ⟨r, hr, rfl⟩
  show mj_G D cy ad bs X cX13_bitsFor 3 yX13_bitsFor.cls (some .int) yX13_bitsFor.name 0 0 0 1065 (t_P (fun v s' => s' = s ∧ ∃ x, v = some (.int x) ∧ (fun q => q = r) (x))) 0 [(0, .long x1)] [] (t_m s) 1065 0 0
  refine mj_iconst (v := 0) dX13_bitsFor_0 (by decide) ?_
  refine mj_istore_n 2 (lv2 := [(2, .int 0), (0, .long x1)]) dX13_bitsFor_1 rfl (by decide) rfl ?_
  refine mj_sublv [(0, .long x1), (2, .int 0)] [1, 0] rfl ?_
  exact LH_X13_bitsFor_2 _ _ x1 0 _ hk

theorem dX13_callOf_0 : decode cX13_callOf 0 = .ok (.aload_n 0, 1) := by decide +kernel
theorem dX13_callOf_1 : decode cX13_callOf 1 = .ok (.getfield 138, 3) := by decide +kernel
theorem dX13_callOf_10 : decode cX13_callOf 10 = .ok (.aload_n 0, 1) := by decide +kernel
theorem dX13_callOf_11 : decode cX13_callOf 11 = .ok (.getfield 135, 3) := by decide +kernel
theorem dX13_callOf_14 : decode cX13_callOf 14 = .ok (.iload_n 1, 1) := by decide +kernel
theorem dX13_callOf_15 : decode cX13_callOf 15 = .ok (.aload_n 0, 1) := by decide +kernel
theorem dX13_callOf_16 : decode cX13_callOf 16 = .ok (.invokevirtual 535, 3) := by decide +kernel
theorem dX13_callOf_19 : decode cX13_callOf 19 = .ok (.iastore, 1) := by decide +kernel
theorem dX13_callOf_20 : decode cX13_callOf 20 = .ok (.aload_n 0, 1) := by decide +kernel
theorem dX13_callOf_21 : decode cX13_callOf 21 = .ok (.invokevirtual 452, 3) := by decide +kernel
theorem dX13_callOf_24 : decode cX13_callOf 24 = .ok (.aload_n 0, 1) := by decide +kernel
theorem dX13_callOf_25 : decode cX13_callOf 25 = .ok (.bipush 40, 2) := by decide +kernel
theorem dX13_callOf_27 : decode cX13_callOf 27 = .ok (.invokevirtual 528, 3) := by decide +kernel
theorem dX13_callOf_30 : decode cX13_callOf 30 = .ok (.aload_n 0, 1) := by decide +kernel
theorem dX13_callOf_31 : decode cX13_callOf 31 = .ok (.bipush 60, 2) := by decide +kernel
theorem dX13_callOf_33 : decode cX13_callOf 33 = .ok (.iconst 0, 1) := by decide +kernel
theorem dX13_callOf_34 : decode cX13_callOf 34 = .ok (.invokevirtual 510, 3) := by decide +kernel
theorem dX13_callOf_37 : decode cX13_callOf 37 = .ok (.istore_n 2, 1) := by decide +kernel
theorem dX13_callOf_38 : decode cX13_callOf 38 = .ok (.aload_n 0, 1) := by decide +kernel
theorem dX13_callOf_39 : decode cX13_callOf 39 = .ok (.bipush 41, 2) := by decide +kernel
theorem dX13_callOf_4 : decode cX13_callOf 4 = .ok (.iload_n 1, 1) := by decide +kernel
theorem dX13_callOf_41 : decode cX13_callOf 41 = .ok (.invokevirtual 449, 3) := by decide +kernel
theorem dX13_callOf_44 : decode cX13_callOf 44 = .ok (.ifCond .ne 8, 3) := by decide +kernel
theorem dX13_callOf_47 : decode cX13_callOf 47 = .ok (.aload_n 0, 1) := by decide +kernel
theorem dX13_callOf_48 : decode cX13_callOf 48 = .ok (.iload_n 2, 1) := by decide +kernel
theorem dX13_callOf_49 : decode cX13_callOf 49 = .ok (.invokestatic 616, 3) := by decide +kernel
theorem dX13_callOf_5 : decode cX13_callOf 5 = .ok (.aload_n 0, 1) := by decide +kernel
theorem dX13_callOf_52 : decode cX13_callOf 52 = .ok (.aload_n 0, 1) := by decide +kernel
theorem dX13_callOf_53 : decode cX13_callOf 53 = .ok (.bipush 41, 2) := by decide +kernel
theorem dX13_callOf_55 : decode cX13_callOf 55 = .ok (.invokevirtual 528, 3) := by decide +kernel
theorem dX13_callOf_58 : decode cX13_callOf 58 = .ok (.iload_n 2, 1) := by decide +kernel
theorem dX13_callOf_59 : decode cX13_callOf 59 = .ok (.ireturn, 1) := by decide +kernel
theorem dX13_callOf_6 : decode cX13_callOf 6 = .ok (.getfield 391, 3) := by decide +kernel
theorem dX13_callOf_9 : decode cX13_callOf 9 = .ok (.iastore, 1) := by decide +kernel
noncomputable def k_X13_callOf_52 (l2 : Int32) (s : t_S) : Option (Int32 × t_S) :=
 (f_X13_mustBe (41 : Int32) s).bind (fun r1 =>
 some (l2, r1))
set_option maxRecDepth 4000 in
set_option maxHeartbeats 1000000 in
theorem B_X13_callOf_52 {D : va_G} {cy : Nat → ClassId} {ad : Nat → Nat} {bs : Nat} {X : State → Heap → Prop} (l2 : Int32) (s : t_S) (Q : Int32 × t_S → Prop) (hk : t_hk (k_X13_callOf_52 l2 s) Q) : mj_G D cy ad bs X cX13_callOf 3 yX13_callOf.cls (some .int) yX13_callOf.name 309 0 0 1065 (t_P (fun v s' => ∃ x, v = some (.int x) ∧ Q ((x, s')))) 52 [(0, .ref 950), (2, .int l2)] [] (t_m s) 1065 0 0 := by
  refine mj_aload_n dX13_callOf_52 0 rfl ?_
  refine mj_bipush (v := 41) dX13_callOf_53 (by decide) ?_
  refine t_bndK hk (fun r1 er1 hk => ?_)
  refine t_callVvE dX13_callOf_55 M_X13_mustBe (C_X13_mustBe _ _ _ er1) ML_X13_528 IM_X13_mustBe SE_X13_mustBe qc_950 rfl (As := [.int 41]) rfl rfl (Nat.le_of_ble_eq_true rfl) (Nat.le_of_ble_eq_true rfl) (Nat.le_of_ble_eq_true rfl) (Nat.le_of_ble_eq_true rfl) ?_
  refine mj_iload_n dX13_callOf_58 1 rfl ?_
  exact t_somK hk (fun hf => t_iret dX13_callOf_59 rfl rfl ⟨_, rfl, hf⟩ (Nat.le_of_ble_eq_true rfl) (Nat.le_of_ble_eq_true rfl))
noncomputable def f_X13_callOf (x1 : Int32) (s : t_S) : Option (Int32 × t_S) :=
 if t_ix x1 401 = true then
  t_let (t_setI s 992 (x1.toNatClampNeg) (s.1 950 6)) (fun s1 =>
 (f_X13_freeName s1).bind (fun r2 =>
 t_let (t_setI r2.2 991 (x1.toNatClampNeg) r2.1) (fun s2 =>
 (f_X13_next s2).bind (fun r3 =>
 (f_X13_mustBe (40 : Int32) r3).bind (fun r4 =>
 (f_X13_node (60 : Int32) (0 : Int32) r4).bind (fun r5 =>
 if (f_X13_is (41 : Int32) r5.2) = (0 : Int32) then ((f_X13_exps r5.1 r5.2).bind (fun r7 =>
 k_X13_callOf_52 r5.1 r7))
 else (k_X13_callOf_52 r5.1 r5.2)))))))
else none
set_option maxRecDepth 4000 in
set_option maxHeartbeats 1000000 in
theorem C_X13_callOf (x1 : Int32) (s : t_S) (r : Int32 × t_S) (hr : f_X13_callOf x1 s = some r) : t_C yX13_callOf cX13_callOf 3 (some .int) 309 [.ref 950, .int x1] s (fun v s' => v = some (.int r.1) ∧ s' = r.2) := by
  refine t_C.imp (P := fun v s' => ∃ x, v = some (.int x) ∧ (fun q => q = r) ((x, s'))) (t_C.of (by decide +kernel) (Nat.le_of_ble_eq_true rfl) ?_) (fun v s' hp => by obtain ⟨x, rfl, rfl⟩ := hp; exact ⟨rfl, rfl⟩)
  intro D cy ad bs X
  have hk : t_hk (f_X13_callOf x1 s) (fun q => q = r) := ⟨r, hr, rfl⟩
  show mj_G D cy ad bs X cX13_callOf 3 yX13_callOf.cls (some .int) yX13_callOf.name 309 0 0 1065 (t_P (fun v s' => ∃ x, v = some (.int x) ∧ (fun q => q = r) ((x, s')))) 0 [(0, .ref 950), (1, .int x1)] [] (t_m s) 1065 0 0
  refine mj_aload_n dX13_callOf_0 0 rfl ?_
  refine t_getR 992 dX13_callOf_1 F_X13_138 qr_950_70 ?_
  refine mj_iload_n dX13_callOf_4 1 rfl ?_
  refine mj_aload_n dX13_callOf_5 0 rfl ?_
  refine t_getI dX13_callOf_6 F_X13_391 qf_950_6 ?_
  refine t_chkK hk (fun c0 hk => ?_)
  refine t_iastK dX13_callOf_9 qa_992 (t_ixv c0) (fun s1 ws1 => t_letE hk ws1 (fun hk => ?_))
  refine mj_aload_n dX13_callOf_10 0 rfl ?_
  refine t_getR 991 dX13_callOf_11 F_X13_135 qr_950_69 ?_
  refine mj_iload_n dX13_callOf_14 1 rfl ?_
  refine mj_aload_n dX13_callOf_15 0 rfl ?_
  refine t_bndK hk (fun r2 er2 hk => ?_)
  refine t_callViE dX13_callOf_16 M_X13_freeName (C_X13_freeName _ _ er2) ML_X13_535 IM_X13_freeName SE_X13_freeName qc_950 rfl (As := []) rfl rfl (Nat.le_of_ble_eq_true rfl) (Nat.le_of_ble_eq_true rfl) (Nat.le_of_ble_eq_true rfl) (Nat.le_of_ble_eq_true rfl) ?_
  refine t_iastK dX13_callOf_19 qa_991 (t_ixv c0) (fun s2 ws2 => t_letE hk ws2 (fun hk => ?_))
  refine mj_aload_n dX13_callOf_20 0 rfl ?_
  refine t_bndK hk (fun r3 er3 hk => ?_)
  refine t_callVvE dX13_callOf_21 M_X13_next (C_X13_next _ _ er3) ML_X13_452 IM_X13_next SE_X13_next qc_950 rfl (As := []) rfl rfl (Nat.le_of_ble_eq_true rfl) (Nat.le_of_ble_eq_true rfl) (Nat.le_of_ble_eq_true rfl) (Nat.le_of_ble_eq_true rfl) ?_
  refine mj_aload_n dX13_callOf_24 0 rfl ?_
  refine mj_bipush (v := 40) dX13_callOf_25 (by decide) ?_
  refine t_bndK hk (fun r4 er4 hk => ?_)
  refine t_callVvE dX13_callOf_27 M_X13_mustBe (C_X13_mustBe _ _ _ er4) ML_X13_528 IM_X13_mustBe SE_X13_mustBe qc_950 rfl (As := [.int 40]) rfl rfl (Nat.le_of_ble_eq_true rfl) (Nat.le_of_ble_eq_true rfl) (Nat.le_of_ble_eq_true rfl) (Nat.le_of_ble_eq_true rfl) ?_
  refine mj_aload_n dX13_callOf_30 0 rfl ?_
  refine mj_bipush (v := 60) dX13_callOf_31 (by decide) ?_
  refine mj_iconst (v := 0) dX13_callOf_33 (by decide) ?_
  refine t_bndK hk (fun r5 er5 hk => ?_)
  refine t_callViE dX13_callOf_34 M_X13_node (C_X13_node _ _ _ _ er5) ML_X13_510 IM_X13_node SE_X13_node qc_950 rfl (As := [.int 60, .int 0]) rfl rfl (Nat.le_of_ble_eq_true rfl) (Nat.le_of_ble_eq_true rfl) (Nat.le_of_ble_eq_true rfl) (Nat.le_of_ble_eq_true rfl) ?_
  refine mj_istore_n 2 (lv2 := [(2, .int r5.1), (0, .ref 950), (1, .int x1)]) dX13_callOf_37 rfl (by decide) rfl ?_
  refine mj_aload_n dX13_callOf_38 1 rfl ?_
  refine mj_bipush (v := 41) dX13_callOf_39 (by decide) ?_
  refine t_callViP dX13_callOf_41 M_X13_is (C_X13_is _ _) ML_X13_449 IM_X13_is SE_X13_is qc_950 rfl (As := [.int 41]) rfl rfl (Nat.le_of_ble_eq_true rfl) (Nat.le_of_ble_eq_true rfl) (Nat.le_of_ble_eq_true rfl) (Nat.le_of_ble_eq_true rfl) ?_
  refine mj_if_ne 52 dX13_callOf_44 (by decide) (fun z => t_negK hk z (fun hk => ?_)) (fun z => t_posK hk z (fun hk => ?_))
  · refine mj_sublv [(0, .ref 950), (2, .int r5.1)] [1, 0] rfl ?_
    exact B_X13_callOf_52 _ _ _ hk
  · refine mj_aload_n dX13_callOf_47 1 rfl ?_
    refine mj_iload_n dX13_callOf_48 0 rfl ?_
    refine t_bndK hk (fun r7 er7 hk => ?_)
    refine t_callSvE dX13_callOf_49 M_X13_exps (C_X13_exps _ _ _ er7) ML_X13_616 SM_X13_exps (As := [.ref 950, .int r5.1]) rfl rfl (Nat.le_of_ble_eq_true rfl) (Nat.le_of_ble_eq_true rfl) (Nat.le_of_ble_eq_true rfl) (Nat.le_of_ble_eq_true rfl) ?_
    refine mj_sublv [(0, .ref 950), (2, .int r5.1)] [1, 0] rfl ?_
    exact B_X13_callOf_52 _ _ _ hk

theorem dX13_into_0 : decode cX13_into 0 = .ok (.aload_n 0, 1) := by decide +kernel
theorem dX13_into_1 : decode cX13_into 1 = .ok (.getfield 144, 3) := by decide +kernel
theorem dX13_into_10 : decode cX13_into 10 = .ok (.aload_n 0, 1) := by decide +kernel
theorem dX13_into_11 : decode cX13_into 11 = .ok (.getfield 141, 3) := by decide +kernel
theorem dX13_into_14 : decode cX13_into 14 = .ok (.iload_n 1, 1) := by decide +kernel
theorem dX13_into_15 : decode cX13_into 15 = .ok (.aload_n 0, 1) := by decide +kernel
theorem dX13_into_16 : decode cX13_into 16 = .ok (.invokevirtual 535, 3) := by decide +kernel
theorem dX13_into_19 : decode cX13_into 19 = .ok (.iastore, 1) := by decide +kernel
theorem dX13_into_20 : decode cX13_into 20 = .ok (.aload_n 0, 1) := by decide +kernel
theorem dX13_into_21 : decode cX13_into 21 = .ok (.invokevirtual 452, 3) := by decide +kernel
theorem dX13_into_24 : decode cX13_into 24 = .ok (.return_, 1) := by decide +kernel
theorem dX13_into_4 : decode cX13_into 4 = .ok (.iload_n 1, 1) := by decide +kernel
theorem dX13_into_5 : decode cX13_into 5 = .ok (.aload_n 0, 1) := by decide +kernel
theorem dX13_into_6 : decode cX13_into 6 = .ok (.getfield 391, 3) := by decide +kernel
theorem dX13_into_9 : decode cX13_into 9 = .ok (.iastore, 1) := by decide +kernel
noncomputable def f_X13_into (x1 : Int32) (s : t_S) : Option (t_S) :=
 if t_ix x1 401 = true then
  t_let (t_setI s 994 (x1.toNatClampNeg) (s.1 950 6)) (fun s1 =>
 (f_X13_freeName s1).bind (fun r2 =>
 t_let (t_setI r2.2 993 (x1.toNatClampNeg) r2.1) (fun s2 =>
 (f_X13_next s2).bind (fun r3 =>
 some (r3)))))
else none
set_option maxRecDepth 4000 in
set_option maxHeartbeats 1000000 in
theorem C_X13_into (x1 : Int32) (s : t_S) (r : t_S) (hr : f_X13_into x1 s = some r) : t_C yX13_into cX13_into 2 none 6 [.ref 950, .int x1] s (fun v s' => v = none ∧ s' = r) := by
  refine t_C.imp (P := fun v s' => v = none ∧ (fun q => q = r) (s')) (t_C.of (by decide +kernel) (Nat.le_of_ble_eq_true rfl) ?_) (fun v s' hp => hp)
  intro D cy ad bs X
  have hk : t_hk (f_X13_into x1 s) (fun q => q = r) := ⟨r, hr, rfl⟩
  show mj_G D cy ad bs X cX13_into 2 yX13_into.cls none yX13_into.name 6 0 0 1065 (t_P (fun v s' => v = none ∧ (fun q => q = r) (s'))) 0 [(0, .ref 950), (1, .int x1)] [] (t_m s) 1065 0 0
  refine mj_aload_n dX13_into_0 0 rfl ?_
  refine t_getR 994 dX13_into_1 F_X13_144 qr_950_72 ?_
  refine mj_iload_n dX13_into_4 1 rfl ?_
  refine mj_aload_n dX13_into_5 0 rfl ?_
  refine t_getI dX13_into_6 F_X13_391 qf_950_6 ?_
  refine t_chkK hk (fun c0 hk => ?_)
  refine t_iastK dX13_into_9 qa_994 (t_ixv c0) (fun s1 ws1 => t_letE hk ws1 (fun hk => ?_))
  refine mj_aload_n dX13_into_10 0 rfl ?_
  refine t_getR 993 dX13_into_11 F_X13_141 qr_950_71 ?_
  refine mj_iload_n dX13_into_14 1 rfl ?_
  refine mj_aload_n dX13_into_15 0 rfl ?_
  refine t_bndK hk (fun r2 er2 hk => ?_)
  refine t_callViE dX13_into_16 M_X13_freeName (C_X13_freeName _ _ er2) ML_X13_535 IM_X13_freeName SE_X13_freeName qc_950 rfl (As := []) rfl rfl (Nat.le_of_ble_eq_true rfl) (Nat.le_of_ble_eq_true rfl) (Nat.le_of_ble_eq_true rfl) (Nat.le_of_ble_eq_true rfl) ?_
  refine t_iastK dX13_into_19 qa_993 (t_ixv c0) (fun s2 ws2 => t_letE hk ws2 (fun hk => ?_))
  refine mj_aload_n dX13_into_20 0 rfl ?_
  refine t_bndK hk (fun r3 er3 hk => ?_)
  refine t_callVvE dX13_into_21 M_X13_next (C_X13_next _ _ er3) ML_X13_452 IM_X13_next SE_X13_next qc_950 rfl (As := []) rfl rfl (Nat.le_of_ble_eq_true rfl) (Nat.le_of_ble_eq_true rfl) (Nat.le_of_ble_eq_true rfl) (Nat.le_of_ble_eq_true rfl) ?_
  exact t_somK hk (fun hf => t_vret dX13_into_24 rfl ⟨rfl, hf⟩ (Nat.le_of_ble_eq_true rfl) (Nat.le_of_ble_eq_true rfl))

theorem dX13_wordOf_0 : decode cX13_wordOf 0 = .ok (.aload_n 0, 1) := by decide +kernel
theorem dX13_wordOf_1 : decode cX13_wordOf 1 = .ok (.getfield 138, 3) := by decide +kernel
theorem dX13_wordOf_10 : decode cX13_wordOf 10 = .ok (.aload_n 0, 1) := by decide +kernel
theorem dX13_wordOf_11 : decode cX13_wordOf 11 = .ok (.getfield 135, 3) := by decide +kernel
theorem dX13_wordOf_14 : decode cX13_wordOf 14 = .ok (.iload_n 1, 1) := by decide +kernel
theorem dX13_wordOf_15 : decode cX13_wordOf 15 = .ok (.aload_n 0, 1) := by decide +kernel
theorem dX13_wordOf_16 : decode cX13_wordOf 16 = .ok (.invokevirtual 535, 3) := by decide +kernel
theorem dX13_wordOf_19 : decode cX13_wordOf 19 = .ok (.iastore, 1) := by decide +kernel
theorem dX13_wordOf_20 : decode cX13_wordOf 20 = .ok (.aload_n 0, 1) := by decide +kernel
theorem dX13_wordOf_21 : decode cX13_wordOf 21 = .ok (.invokevirtual 452, 3) := by decide +kernel
theorem dX13_wordOf_24 : decode cX13_wordOf 24 = .ok (.return_, 1) := by decide +kernel
theorem dX13_wordOf_4 : decode cX13_wordOf 4 = .ok (.iload_n 1, 1) := by decide +kernel
theorem dX13_wordOf_5 : decode cX13_wordOf 5 = .ok (.aload_n 0, 1) := by decide +kernel
theorem dX13_wordOf_6 : decode cX13_wordOf 6 = .ok (.getfield 391, 3) := by decide +kernel
theorem dX13_wordOf_9 : decode cX13_wordOf 9 = .ok (.iastore, 1) := by decide +kernel
noncomputable def f_X13_wordOf (x1 : Int32) (s : t_S) : Option (t_S) :=
 if t_ix x1 401 = true then
  t_let (t_setI s 992 (x1.toNatClampNeg) (s.1 950 6)) (fun s1 =>
 (f_X13_freeName s1).bind (fun r2 =>
 t_let (t_setI r2.2 991 (x1.toNatClampNeg) r2.1) (fun s2 =>
 (f_X13_next s2).bind (fun r3 =>
 some (r3)))))
else none
set_option maxRecDepth 4000 in
set_option maxHeartbeats 1000000 in
theorem C_X13_wordOf (x1 : Int32) (s : t_S) (r : t_S) (hr : f_X13_wordOf x1 s = some r) : t_C yX13_wordOf cX13_wordOf 2 none 6 [.ref 950, .int x1] s (fun v s' => v = none ∧ s' = r) := by
  refine t_C.imp (P := fun v s' => v = none ∧ (fun q => q = r) (s')) (t_C.of (by decide +kernel) (Nat.le_of_ble_eq_true rfl) ?_) (fun v s' hp => hp)
  intro D cy ad bs X
  have hk : t_hk (f_X13_wordOf x1 s) (fun q => q = r) := ⟨r, hr, rfl⟩
  show mj_G D cy ad bs X cX13_wordOf 2 yX13_wordOf.cls none yX13_wordOf.name 6 0 0 1065 (t_P (fun v s' => v = none ∧ (fun q => q = r) (s'))) 0 [(0, .ref 950), (1, .int x1)] [] (t_m s) 1065 0 0
  refine mj_aload_n dX13_wordOf_0 0 rfl ?_
  refine t_getR 992 dX13_wordOf_1 F_X13_138 qr_950_70 ?_
  refine mj_iload_n dX13_wordOf_4 1 rfl ?_
  refine mj_aload_n dX13_wordOf_5 0 rfl ?_
  refine t_getI dX13_wordOf_6 F_X13_391 qf_950_6 ?_
  refine t_chkK hk (fun c0 hk => ?_)
  refine t_iastK dX13_wordOf_9 qa_992 (t_ixv c0) (fun s1 ws1 => t_letE hk ws1 (fun hk => ?_))
  refine mj_aload_n dX13_wordOf_10 0 rfl ?_
  refine t_getR 991 dX13_wordOf_11 F_X13_135 qr_950_69 ?_
  refine mj_iload_n dX13_wordOf_14 1 rfl ?_
  refine mj_aload_n dX13_wordOf_15 0 rfl ?_
  refine t_bndK hk (fun r2 er2 hk => ?_)
  refine t_callViE dX13_wordOf_16 M_X13_freeName (C_X13_freeName _ _ er2) ML_X13_535 IM_X13_freeName SE_X13_freeName qc_950 rfl (As := []) rfl rfl (Nat.le_of_ble_eq_true rfl) (Nat.le_of_ble_eq_true rfl) (Nat.le_of_ble_eq_true rfl) (Nat.le_of_ble_eq_true rfl) ?_
  refine t_iastK dX13_wordOf_19 qa_991 (t_ixv c0) (fun s2 ws2 => t_letE hk ws2 (fun hk => ?_))
  refine mj_aload_n dX13_wordOf_20 0 rfl ?_
  refine t_bndK hk (fun r3 er3 hk => ?_)
  refine t_callVvE dX13_wordOf_21 M_X13_next (C_X13_next _ _ er3) ML_X13_452 IM_X13_next SE_X13_next qc_950 rfl (As := []) rfl rfl (Nat.le_of_ble_eq_true rfl) (Nat.le_of_ble_eq_true rfl) (Nat.le_of_ble_eq_true rfl) (Nat.le_of_ble_eq_true rfl) ?_
  exact t_somK hk (fun hf => t_vret dX13_wordOf_24 rfl ⟨rfl, hf⟩ (Nat.le_of_ble_eq_true rfl) (Nat.le_of_ble_eq_true rfl))

