/-! Methods as functions, 93: X13_typeHere, X13_type, X13_toneOf -/
theorem qf_950_31 : t_okf 950 13 31 0 = true := by decide +kernel
theorem dX13_typeHere_0 : decode cX13_typeHere 0 = .ok (.aload_n 0, 1) := by decide +kernel
theorem dX13_typeHere_1 : decode cX13_typeHere 1 = .ok (.getfield 385, 3) := by decide +kernel
theorem dX13_typeHere_100 : decode cX13_typeHere 100 = .ok (.bipush 40, 2) := by decide +kernel
theorem dX13_typeHere_102 : decode cX13_typeHere 102 = .ok (.invokevirtual 449, 3) := by decide +kernel
theorem dX13_typeHere_105 : decode cX13_typeHere 105 = .ok (.ifCond .eq 11, 3) := by decide +kernel
theorem dX13_typeHere_108 : decode cX13_typeHere 108 = .ok (.aload_n 0, 1) := by decide +kernel
theorem dX13_typeHere_109 : decode cX13_typeHere 109 = .ok (.iload_n 2, 1) := by decide +kernel
theorem dX13_typeHere_110 : decode cX13_typeHere 110 = .ok (.invokevirtual 514, 3) := by decide +kernel
theorem dX13_typeHere_113 : decode cX13_typeHere 113 = .ok (.goto 48, 3) := by decide +kernel
theorem dX13_typeHere_116 : decode cX13_typeHere 116 = .ok (.iload_n 1, 1) := by decide +kernel
theorem dX13_typeHere_117 : decode cX13_typeHere 117 = .ok (.bipush 12, 2) := by decide +kernel
theorem dX13_typeHere_119 : decode cX13_typeHere 119 = .ok (.if_icmp .ne 31, 3) := by decide +kernel
theorem dX13_typeHere_12 : decode cX13_typeHere 12 = .ok (.goto 5, 3) := by decide +kernel
theorem dX13_typeHere_122 : decode cX13_typeHere 122 = .ok (.aload_n 0, 1) := by decide +kernel
theorem dX13_typeHere_123 : decode cX13_typeHere 123 = .ok (.getfield 36, 3) := by decide +kernel
theorem dX13_typeHere_126 : decode cX13_typeHere 126 = .ok (.iload_n 2, 1) := by decide +kernel
theorem dX13_typeHere_127 : decode cX13_typeHere 127 = .ok (.ldc2_w 517, 3) := by decide +kernel
theorem dX13_typeHere_130 : decode cX13_typeHere 130 = .ok (.lastore, 1) := by decide +kernel
theorem dX13_typeHere_131 : decode cX13_typeHere 131 = .ok (.aload_n 0, 1) := by decide +kernel
theorem dX13_typeHere_132 : decode cX13_typeHere 132 = .ok (.bipush 40, 2) := by decide +kernel
theorem dX13_typeHere_134 : decode cX13_typeHere 134 = .ok (.invokevirtual 449, 3) := by decide +kernel
theorem dX13_typeHere_137 : decode cX13_typeHere 137 = .ok (.ifCond .eq 24, 3) := by decide +kernel
theorem dX13_typeHere_140 : decode cX13_typeHere 140 = .ok (.aload_n 0, 1) := by decide +kernel
theorem dX13_typeHere_141 : decode cX13_typeHere 141 = .ok (.iload_n 2, 1) := by decide +kernel
theorem dX13_typeHere_142 : decode cX13_typeHere 142 = .ok (.bipush 40, 2) := by decide +kernel
theorem dX13_typeHere_144 : decode cX13_typeHere 144 = .ok (.invokevirtual 497, 3) := by decide +kernel
theorem dX13_typeHere_147 : decode cX13_typeHere 147 = .ok (.goto 14, 3) := by decide +kernel
theorem dX13_typeHere_15 : decode cX13_typeHere 15 = .ok (.bipush (-2), 2) := by decide +kernel
theorem dX13_typeHere_150 : decode cX13_typeHere 150 = .ok (.iload_n 1, 1) := by decide +kernel
theorem dX13_typeHere_151 : decode cX13_typeHere 151 = .ok (.bipush 13, 2) := by decide +kernel
theorem dX13_typeHere_153 : decode cX13_typeHere 153 = .ok (.if_icmp .ne 8, 3) := by decide +kernel
theorem dX13_typeHere_156 : decode cX13_typeHere 156 = .ok (.aload_n 0, 1) := by decide +kernel
theorem dX13_typeHere_157 : decode cX13_typeHere 157 = .ok (.iload_n 2, 1) := by decide +kernel
theorem dX13_typeHere_158 : decode cX13_typeHere 158 = .ok (.invokevirtual 519, 3) := by decide +kernel
theorem dX13_typeHere_161 : decode cX13_typeHere 161 = .ok (.iload_n 2, 1) := by decide +kernel
theorem dX13_typeHere_162 : decode cX13_typeHere 162 = .ok (.ireturn, 1) := by decide +kernel
theorem dX13_typeHere_17 : decode cX13_typeHere 17 = .ok (.istore_n 1, 1) := by decide +kernel
theorem dX13_typeHere_18 : decode cX13_typeHere 18 = .ok (.iload_n 1, 1) := by decide +kernel
theorem dX13_typeHere_19 : decode cX13_typeHere 19 = .ok (.bipush (-2), 2) := by decide +kernel
theorem dX13_typeHere_21 : decode cX13_typeHere 21 = .ok (.if_icmp .eq 21, 3) := by decide +kernel
theorem dX13_typeHere_24 : decode cX13_typeHere 24 = .ok (.iload_n 1, 1) := by decide +kernel
theorem dX13_typeHere_25 : decode cX13_typeHere 25 = .ok (.ifCond .lt 28, 3) := by decide +kernel
theorem dX13_typeHere_28 : decode cX13_typeHere 28 = .ok (.iload_n 1, 1) := by decide +kernel
theorem dX13_typeHere_29 : decode cX13_typeHere 29 = .ok (.i2l, 1) := by decide +kernel
theorem dX13_typeHere_30 : decode cX13_typeHere 30 = .ok (.ldc2_w 419, 3) := by decide +kernel
theorem dX13_typeHere_33 : decode cX13_typeHere 33 = .ok (.ldc2_w 488, 3) := by decide +kernel
theorem dX13_typeHere_36 : decode cX13_typeHere 36 = .ok (.invokestatic 371, 3) := by decide +kernel
theorem dX13_typeHere_39 : decode cX13_typeHere 39 = .ok (.ifCond .ne 14, 3) := by decide +kernel
theorem dX13_typeHere_4 : decode cX13_typeHere 4 = .ok (.iconst 1, 1) := by decide +kernel
theorem dX13_typeHere_42 : decode cX13_typeHere 42 = .ok (.aload_n 0, 1) := by decide +kernel
theorem dX13_typeHere_43 : decode cX13_typeHere 43 = .ok (.iconst 2, 1) := by decide +kernel
theorem dX13_typeHere_44 : decode cX13_typeHere 44 = .ok (.aload_n 0, 1) := by decide +kernel
theorem dX13_typeHere_45 : decode cX13_typeHere 45 = .ok (.getfield 391, 3) := by decide +kernel
theorem dX13_typeHere_48 : decode cX13_typeHere 48 = .ok (.invokevirtual 411, 3) := by decide +kernel
theorem dX13_typeHere_5 : decode cX13_typeHere 5 = .ok (.if_icmp .ne 10, 3) := by decide +kernel
theorem dX13_typeHere_51 : decode cX13_typeHere 51 = .ok (.iconst 0, 1) := by decide +kernel
theorem dX13_typeHere_52 : decode cX13_typeHere 52 = .ok (.ireturn, 1) := by decide +kernel
theorem dX13_typeHere_53 : decode cX13_typeHere 53 = .ok (.aload_n 0, 1) := by decide +kernel
theorem dX13_typeHere_54 : decode cX13_typeHere 54 = .ok (.iload_n 1, 1) := by decide +kernel
theorem dX13_typeHere_55 : decode cX13_typeHere 55 = .ok (.ifCond .ge 8, 3) := by decide +kernel
theorem dX13_typeHere_58 : decode cX13_typeHere 58 = .ok (.bipush 8, 2) := by decide +kernel
theorem dX13_typeHere_60 : decode cX13_typeHere 60 = .ok (.goto 9, 3) := by decide +kernel
theorem dX13_typeHere_63 : decode cX13_typeHere 63 = .ok (.iconst 1, 1) := by decide +kernel
theorem dX13_typeHere_64 : decode cX13_typeHere 64 = .ok (.iload_n 1, 1) := by decide +kernel
theorem dX13_typeHere_65 : decode cX13_typeHere 65 = .ok (.iadd, 1) := by decide +kernel
theorem dX13_typeHere_66 : decode cX13_typeHere 66 = .ok (.bipush 10, 2) := by decide +kernel
theorem dX13_typeHere_68 : decode cX13_typeHere 68 = .ok (.isub, 1) := by decide +kernel
theorem dX13_typeHere_69 : decode cX13_typeHere 69 = .ok (.iconst 1, 1) := by decide +kernel
theorem dX13_typeHere_70 : decode cX13_typeHere 70 = .ok (.invokevirtual 510, 3) := by decide +kernel
theorem dX13_typeHere_73 : decode cX13_typeHere 73 = .ok (.istore_n 2, 1) := by decide +kernel
theorem dX13_typeHere_74 : decode cX13_typeHere 74 = .ok (.iload_n 1, 1) := by decide +kernel
theorem dX13_typeHere_75 : decode cX13_typeHere 75 = .ok (.ifCond .ge 14, 3) := by decide +kernel
theorem dX13_typeHere_78 : decode cX13_typeHere 78 = .ok (.aload_n 0, 1) := by decide +kernel
theorem dX13_typeHere_79 : decode cX13_typeHere 79 = .ok (.getfield 32, 3) := by decide +kernel
theorem dX13_typeHere_8 : decode cX13_typeHere 8 = .ok (.aload_n 0, 1) := by decide +kernel
theorem dX13_typeHere_82 : decode cX13_typeHere 82 = .ok (.iload_n 2, 1) := by decide +kernel
theorem dX13_typeHere_83 : decode cX13_typeHere 83 = .ok (.aload_n 0, 1) := by decide +kernel
theorem dX13_typeHere_84 : decode cX13_typeHere 84 = .ok (.invokevirtual 468, 3) := by decide +kernel
theorem dX13_typeHere_87 : decode cX13_typeHere 87 = .ok (.i2l, 1) := by decide +kernel
theorem dX13_typeHere_88 : decode cX13_typeHere 88 = .ok (.lastore, 1) := by decide +kernel
theorem dX13_typeHere_89 : decode cX13_typeHere 89 = .ok (.aload_n 0, 1) := by decide +kernel
theorem dX13_typeHere_9 : decode cX13_typeHere 9 = .ok (.getfield 397, 3) := by decide +kernel
theorem dX13_typeHere_90 : decode cX13_typeHere 90 = .ok (.invokevirtual 452, 3) := by decide +kernel
theorem dX13_typeHere_93 : decode cX13_typeHere 93 = .ok (.iload_n 1, 1) := by decide +kernel
theorem dX13_typeHere_94 : decode cX13_typeHere 94 = .ok (.bipush 10, 2) := by decide +kernel
theorem dX13_typeHere_96 : decode cX13_typeHere 96 = .ok (.if_icmp .ne 20, 3) := by decide +kernel
theorem dX13_typeHere_99 : decode cX13_typeHere 99 = .ok (.aload_n 0, 1) := by decide +kernel
noncomputable def k_X13_typeHere_42 (s : t_S) : Option (Int32 × t_S) :=
 (f_X13_fail (2 : Int32) (s.1 950 6) s).bind (fun r1 =>
 some ((0 : Int32), r1))
set_option maxRecDepth 4000 in
set_option maxHeartbeats 1000000 in
theorem B_X13_typeHere_42 {D : va_G} {cy : Nat → ClassId} {ad : Nat → Nat} {bs : Nat} {X : State → Heap → Prop} (s : t_S) (Q : Int32 × t_S → Prop) (hk : t_hk (k_X13_typeHere_42 s) Q) : mj_G D cy ad bs X cX13_typeHere 3 yX13_typeHere.cls (some .int) yX13_typeHere.name 8 0 0 1065 (t_P (fun v s' => ∃ x, v = some (.int x) ∧ Q ((x, s')))) 42 [(0, .ref 950)] [] (t_m s) 1065 0 0 := by
  refine mj_aload_n dX13_typeHere_42 0 rfl ?_
  refine mj_iconst (v := 2) dX13_typeHere_43 (by decide) ?_
  refine mj_aload_n dX13_typeHere_44 0 rfl ?_
  refine t_getI dX13_typeHere_45 F_X13_391 qf_950_6 ?_
  refine t_bndK hk (fun r1 er1 hk => ?_)
  refine t_callVvE dX13_typeHere_48 M_X13_fail (C_X13_fail _ _ _ _ er1) ML_X13_411 IM_X13_fail SE_X13_fail qc_950 rfl (As := [.int 2, .int (s.1 950 6)]) rfl rfl (Nat.le_of_ble_eq_true rfl) (Nat.le_of_ble_eq_true rfl) (Nat.le_of_ble_eq_true rfl) (Nat.le_of_ble_eq_true rfl) ?_
  refine mj_iconst (v := 0) dX13_typeHere_51 (by decide) ?_
  exact t_somK hk (fun hf => t_iret dX13_typeHere_52 rfl rfl ⟨_, rfl, hf⟩ (Nat.le_of_ble_eq_true rfl) (Nat.le_of_ble_eq_true rfl))
noncomputable def k_X13_typeHere_116 (l1 : Int32) (l2 : Int32) (s : t_S) : Option (Int32 × t_S) :=
 if l1 = (12 : Int32) then (if t_ix l2 13000 = true then
  t_let (t_setJ s 958 (l2.toNatClampNeg) (40 : Int64)) (fun s1 =>
 if (f_X13_is (40 : Int32) s1) = (0 : Int32) then (some (l2, s1))
 else ((f_X13_span l2 (40 : Int32) s1).bind (fun r4 =>
 some (l2, r4))))
else none)
 else (if l1 = (13 : Int32) then ((f_X13_enumWords l2 s).bind (fun r1 =>
 some (l2, r1)))
 else (some (l2, s)))
set_option maxRecDepth 4000 in
set_option maxHeartbeats 1000000 in
theorem B_X13_typeHere_116 {D : va_G} {cy : Nat → ClassId} {ad : Nat → Nat} {bs : Nat} {X : State → Heap → Prop} (l1 : Int32) (l2 : Int32) (s : t_S) (Q : Int32 × t_S → Prop) (hk : t_hk (k_X13_typeHere_116 l1 l2 s) Q) : mj_G D cy ad bs X cX13_typeHere 3 yX13_typeHere.cls (some .int) yX13_typeHere.name 8 0 0 1065 (t_P (fun v s' => ∃ x, v = some (.int x) ∧ Q ((x, s')))) 116 [(0, .ref 950), (1, .int l1), (2, .int l2)] [] (t_m s) 1065 0 0 := by
  refine mj_iload_n dX13_typeHere_116 1 rfl ?_
  refine mj_bipush (v := 12) dX13_typeHere_117 (by decide) ?_
  refine mj_icmp_ne 150 dX13_typeHere_119 (by decide) (fun z => t_negK hk z (fun hk => ?_)) (fun z => t_posK hk z (fun hk => ?_))
  · refine mj_iload_n dX13_typeHere_150 1 rfl ?_
    refine mj_bipush (v := 13) dX13_typeHere_151 (by decide) ?_
    refine mj_icmp_ne 161 dX13_typeHere_153 (by decide) (fun z => t_negK hk z (fun hk => ?_)) (fun z => t_posK hk z (fun hk => ?_))
    · refine mj_iload_n dX13_typeHere_161 2 rfl ?_
      exact t_somK hk (fun hf => t_iret dX13_typeHere_162 rfl rfl ⟨_, rfl, hf⟩ (Nat.le_of_ble_eq_true rfl) (Nat.le_of_ble_eq_true rfl))
    · refine mj_aload_n dX13_typeHere_156 0 rfl ?_
      refine mj_iload_n dX13_typeHere_157 2 rfl ?_
      refine t_bndK hk (fun r1 er1 hk => ?_)
      refine t_callVvE dX13_typeHere_158 M_X13_enumWords (C_X13_enumWords _ _ _ er1) ML_X13_519 IM_X13_enumWords SE_X13_enumWords qc_950 rfl (As := [.int l2]) rfl rfl (Nat.le_of_ble_eq_true rfl) (Nat.le_of_ble_eq_true rfl) (Nat.le_of_ble_eq_true rfl) (Nat.le_of_ble_eq_true rfl) ?_
      refine mj_iload_n dX13_typeHere_161 2 rfl ?_
      exact t_somK hk (fun hf => t_iret dX13_typeHere_162 rfl rfl ⟨_, rfl, hf⟩ (Nat.le_of_ble_eq_true rfl) (Nat.le_of_ble_eq_true rfl))
  · refine mj_aload_n dX13_typeHere_122 0 rfl ?_
    refine t_getR 958 dX13_typeHere_123 F_X13_36 qr_950_20 ?_
    refine mj_iload_n dX13_typeHere_126 2 rfl ?_
    refine mj_ldc2 dX13_typeHere_127 K_X13_517 ?_
    refine t_chkK hk (fun c1 hk => ?_)
    refine t_lastK dX13_typeHere_130 qa_958 (t_ixv c1) (fun s1 ws1 => t_letE hk ws1 (fun hk => ?_))
    refine mj_aload_n dX13_typeHere_131 0 rfl ?_
    refine mj_bipush (v := 40) dX13_typeHere_132 (by decide) ?_
    refine t_callViP dX13_typeHere_134 M_X13_is (C_X13_is _ _) ML_X13_449 IM_X13_is SE_X13_is qc_950 rfl (As := [.int 40]) rfl rfl (Nat.le_of_ble_eq_true rfl) (Nat.le_of_ble_eq_true rfl) (Nat.le_of_ble_eq_true rfl) (Nat.le_of_ble_eq_true rfl) ?_
    refine mj_if_eq 161 dX13_typeHere_137 (by decide) (fun z => t_posK hk z (fun hk => ?_)) (fun z => t_negK hk z (fun hk => ?_))
    · refine mj_iload_n dX13_typeHere_161 2 rfl ?_
      exact t_somK hk (fun hf => t_iret dX13_typeHere_162 rfl rfl ⟨_, rfl, hf⟩ (Nat.le_of_ble_eq_true rfl) (Nat.le_of_ble_eq_true rfl))
    · refine mj_aload_n dX13_typeHere_140 0 rfl ?_
      refine mj_iload_n dX13_typeHere_141 2 rfl ?_
      refine mj_bipush (v := 40) dX13_typeHere_142 (by decide) ?_
      refine t_bndK hk (fun r4 er4 hk => ?_)
      refine t_callVvE dX13_typeHere_144 M_X13_span (C_X13_span _ _ _ _ er4) ML_X13_497 IM_X13_span SE_X13_span qc_950 rfl (As := [.int l2, .int 40]) rfl rfl (Nat.le_of_ble_eq_true rfl) (Nat.le_of_ble_eq_true rfl) (Nat.le_of_ble_eq_true rfl) (Nat.le_of_ble_eq_true rfl) ?_
      refine mj_goto 161 dX13_typeHere_147 (by decide) ?_
      refine mj_iload_n dX13_typeHere_161 2 rfl ?_
      exact t_somK hk (fun hf => t_iret dX13_typeHere_162 rfl rfl ⟨_, rfl, hf⟩ (Nat.le_of_ble_eq_true rfl) (Nat.le_of_ble_eq_true rfl))
noncomputable def k_X13_typeHere_89 (l1 : Int32) (l2 : Int32) (s : t_S) : Option (Int32 × t_S) :=
 (f_X13_next s).bind (fun r1 =>
 if l1 = (10 : Int32) then (if (f_X13_is (40 : Int32) r1) = (0 : Int32) then (k_X13_typeHere_116 l1 l2 r1)
 else ((f_X13_ranges l2 r1).bind (fun r3 =>
 some (l2, r3))))
 else (k_X13_typeHere_116 l1 l2 r1))
set_option maxRecDepth 4000 in
set_option maxHeartbeats 1000000 in
theorem B_X13_typeHere_89 {D : va_G} {cy : Nat → ClassId} {ad : Nat → Nat} {bs : Nat} {X : State → Heap → Prop} (l1 : Int32) (l2 : Int32) (s : t_S) (Q : Int32 × t_S → Prop) (hk : t_hk (k_X13_typeHere_89 l1 l2 s) Q) : mj_G D cy ad bs X cX13_typeHere 3 yX13_typeHere.cls (some .int) yX13_typeHere.name 8 0 0 1065 (t_P (fun v s' => ∃ x, v = some (.int x) ∧ Q ((x, s')))) 89 [(0, .ref 950), (1, .int l1), (2, .int l2)] [] (t_m s) 1065 0 0 := by
  refine mj_aload_n dX13_typeHere_89 0 rfl ?_
  refine t_bndK hk (fun r1 er1 hk => ?_)
  refine t_callVvE dX13_typeHere_90 M_X13_next (C_X13_next _ _ er1) ML_X13_452 IM_X13_next SE_X13_next qc_950 rfl (As := []) rfl rfl (Nat.le_of_ble_eq_true rfl) (Nat.le_of_ble_eq_true rfl) (Nat.le_of_ble_eq_true rfl) (Nat.le_of_ble_eq_true rfl) ?_
  refine mj_iload_n dX13_typeHere_93 1 rfl ?_
  refine mj_bipush (v := 10) dX13_typeHere_94 (by decide) ?_
  refine mj_icmp_ne 116 dX13_typeHere_96 (by decide) (fun z => t_negK hk z (fun hk => ?_)) (fun z => t_posK hk z (fun hk => ?_))
  · exact B_X13_typeHere_116 _ _ _ _ hk
  · refine mj_aload_n dX13_typeHere_99 0 rfl ?_
    refine mj_bipush (v := 40) dX13_typeHere_100 (by decide) ?_
    refine t_callViP dX13_typeHere_102 M_X13_is (C_X13_is _ _) ML_X13_449 IM_X13_is SE_X13_is qc_950 rfl (As := [.int 40]) rfl rfl (Nat.le_of_ble_eq_true rfl) (Nat.le_of_ble_eq_true rfl) (Nat.le_of_ble_eq_true rfl) (Nat.le_of_ble_eq_true rfl) ?_
    refine mj_if_eq 116 dX13_typeHere_105 (by decide) (fun z => t_posK hk z (fun hk => ?_)) (fun z => t_negK hk z (fun hk => ?_))
    · exact B_X13_typeHere_116 _ _ _ _ hk
    · refine mj_aload_n dX13_typeHere_108 0 rfl ?_
      refine mj_iload_n dX13_typeHere_109 2 rfl ?_
      refine t_bndK hk (fun r3 er3 hk => ?_)
      refine t_callVvE dX13_typeHere_110 M_X13_ranges (C_X13_ranges _ _ _ er3) ML_X13_514 IM_X13_ranges SE_X13_ranges qc_950 rfl (As := [.int l2]) rfl rfl (Nat.le_of_ble_eq_true rfl) (Nat.le_of_ble_eq_true rfl) (Nat.le_of_ble_eq_true rfl) (Nat.le_of_ble_eq_true rfl) ?_
      refine mj_goto 161 dX13_typeHere_113 (by decide) ?_
      refine mj_iload_n dX13_typeHere_161 2 rfl ?_
      exact t_somK hk (fun hf => t_iret dX13_typeHere_162 rfl rfl ⟨_, rfl, hf⟩ (Nat.le_of_ble_eq_true rfl) (Nat.le_of_ble_eq_true rfl))
noncomputable def k_X13_typeHere_69 (l1 : Int32) (k0 : Int32) (s : t_S) : Option (Int32 × t_S) :=
 (f_X13_node k0 (1 : Int32) s).bind (fun r1 =>
 if (0 : Int32) ≤ l1 then (k_X13_typeHere_89 l1 r1.1 r1.2)
 else ((f_X13_name r1.2).bind (fun r2 =>
 if t_ix r1.1 13000 = true then
  t_let (t_setJ r2.2 957 (r1.1.toNatClampNeg) r2.1.toInt64) (fun s1 =>
 k_X13_typeHere_89 l1 r1.1 s1)
else none)))
set_option maxRecDepth 4000 in
set_option maxHeartbeats 1000000 in
theorem B_X13_typeHere_69 {D : va_G} {cy : Nat → ClassId} {ad : Nat → Nat} {bs : Nat} {X : State → Heap → Prop} (l1 : Int32) (k0 : Int32) (s : t_S) (Q : Int32 × t_S → Prop) (hk : t_hk (k_X13_typeHere_69 l1 k0 s) Q) : mj_G D cy ad bs X cX13_typeHere 3 yX13_typeHere.cls (some .int) yX13_typeHere.name 8 0 0 1065 (t_P (fun v s' => ∃ x, v = some (.int x) ∧ Q ((x, s')))) 69 [(0, .ref 950), (1, .int l1)] [.int k0, .ref 950] (t_m s) 1065 0 0 := by
  refine mj_iconst (v := 1) dX13_typeHere_69 (by decide) ?_
  refine t_bndK hk (fun r1 er1 hk => ?_)
  refine t_callViE dX13_typeHere_70 M_X13_node (C_X13_node _ _ _ _ er1) ML_X13_510 IM_X13_node SE_X13_node qc_950 rfl (As := [.int k0, .int 1]) rfl rfl (Nat.le_of_ble_eq_true rfl) (Nat.le_of_ble_eq_true rfl) (Nat.le_of_ble_eq_true rfl) (Nat.le_of_ble_eq_true rfl) ?_
  refine mj_istore_n 2 (lv2 := [(2, .int r1.1), (0, .ref 950), (1, .int l1)]) dX13_typeHere_73 rfl (by decide) rfl ?_
  refine mj_iload_n dX13_typeHere_74 2 rfl ?_
  refine mj_if_ge 89 dX13_typeHere_75 (by decide) (fun z => t_posK hk z (fun hk => ?_)) (fun z => t_negK hk z (fun hk => ?_))
  · refine mj_sublv [(0, .ref 950), (1, .int l1), (2, .int r1.1)] [1, 2, 0] rfl ?_
    exact B_X13_typeHere_89 _ _ _ _ hk
  · refine mj_aload_n dX13_typeHere_78 1 rfl ?_
    refine t_getR 957 dX13_typeHere_79 F_X13_32 qr_950_19 ?_
    refine mj_iload_n dX13_typeHere_82 0 rfl ?_
    refine mj_aload_n dX13_typeHere_83 1 rfl ?_
    refine t_bndK hk (fun r2 er2 hk => ?_)
    refine t_callViE dX13_typeHere_84 M_X13_name (C_X13_name _ _ er2) ML_X13_468 IM_X13_name SE_X13_name qc_950 rfl (As := []) rfl rfl (Nat.le_of_ble_eq_true rfl) (Nat.le_of_ble_eq_true rfl) (Nat.le_of_ble_eq_true rfl) (Nat.le_of_ble_eq_true rfl) ?_
    refine mj_i2l (v := r2.1.toInt64) dX13_typeHere_87 rfl ?_
    refine t_chkK hk (fun c2 hk => ?_)
    refine t_lastK dX13_typeHere_88 qa_957 (t_ixv c2) (fun s1 ws1 => t_letE hk ws1 (fun hk => ?_))
    refine mj_sublv [(0, .ref 950), (1, .int l1), (2, .int r1.1)] [1, 2, 0] rfl ?_
    exact B_X13_typeHere_89 _ _ _ _ hk
noncomputable def k_X13_typeHere_53 (l1 : Int32) (s : t_S) : Option (Int32 × t_S) :=
 if (0 : Int32) ≤ l1 then (k_X13_typeHere_69 l1 (((1 : Int32) + l1) - (10 : Int32)) s)
 else (k_X13_typeHere_69 l1 8 s)
set_option maxRecDepth 4000 in
set_option maxHeartbeats 1000000 in
theorem B_X13_typeHere_53 {D : va_G} {cy : Nat → ClassId} {ad : Nat → Nat} {bs : Nat} {X : State → Heap → Prop} (l1 : Int32) (s : t_S) (Q : Int32 × t_S → Prop) (hk : t_hk (k_X13_typeHere_53 l1 s) Q) : mj_G D cy ad bs X cX13_typeHere 3 yX13_typeHere.cls (some .int) yX13_typeHere.name 8 0 0 1065 (t_P (fun v s' => ∃ x, v = some (.int x) ∧ Q ((x, s')))) 53 [(0, .ref 950), (1, .int l1)] [] (t_m s) 1065 0 0 := by
  refine mj_aload_n dX13_typeHere_53 0 rfl ?_
  refine mj_iload_n dX13_typeHere_54 1 rfl ?_
  refine mj_if_ge 63 dX13_typeHere_55 (by decide) (fun z => t_posK hk z (fun hk => ?_)) (fun z => t_negK hk z (fun hk => ?_))
  · refine mj_iconst (v := 1) dX13_typeHere_63 (by decide) ?_
    refine mj_iload_n dX13_typeHere_64 1 rfl ?_
    refine mj_iadd dX13_typeHere_65 ?_
    refine mj_bipush (v := 10) dX13_typeHere_66 (by decide) ?_
    refine mj_isub dX13_typeHere_68 ?_
    exact B_X13_typeHere_69 _ _ _ _ hk
  · refine mj_bipush (v := 8) dX13_typeHere_58 (by decide) ?_
    refine mj_goto 69 dX13_typeHere_60 (by decide) ?_
    exact B_X13_typeHere_69 _ _ _ _ hk
noncomputable def k_X13_typeHere_17 (k0 : Int32) (s : t_S) : Option (Int32 × t_S) :=
 if k0 = (-2 : Int32) then (k_X13_typeHere_42 s)
 else (if k0 < (0 : Int32) then (k_X13_typeHere_53 k0 s)
 else (if (f_X13_in k0.toInt64 (10 : Int64) (16 : Int64) s) = (0 : Int32) then (k_X13_typeHere_42 s)
 else (k_X13_typeHere_53 k0 s)))
set_option maxRecDepth 4000 in
set_option maxHeartbeats 1000000 in
theorem B_X13_typeHere_17 {D : va_G} {cy : Nat → ClassId} {ad : Nat → Nat} {bs : Nat} {X : State → Heap → Prop} (k0 : Int32) (s : t_S) (Q : Int32 × t_S → Prop) (hk : t_hk (k_X13_typeHere_17 k0 s) Q) : mj_G D cy ad bs X cX13_typeHere 3 yX13_typeHere.cls (some .int) yX13_typeHere.name 8 0 0 1065 (t_P (fun v s' => ∃ x, v = some (.int x) ∧ Q ((x, s')))) 17 [(0, .ref 950)] [.int k0] (t_m s) 1065 0 0 := by
  refine mj_istore_n 1 (lv2 := [(1, .int k0), (0, .ref 950)]) dX13_typeHere_17 rfl (by decide) rfl ?_
  refine mj_iload_n dX13_typeHere_18 0 rfl ?_
  refine mj_bipush (v := (-2)) dX13_typeHere_19 (by decide) ?_
  refine mj_icmp_eq 42 dX13_typeHere_21 (by decide) (fun z => t_posK hk z (fun hk => ?_)) (fun z => t_negK hk z (fun hk => ?_))
  · refine mj_sublv [(0, .ref 950)] [1] rfl ?_
    exact B_X13_typeHere_42 _ _ hk
  · refine mj_iload_n dX13_typeHere_24 0 rfl ?_
    refine mj_if_lt 53 dX13_typeHere_25 (by decide) (fun z => t_posK hk z (fun hk => ?_)) (fun z => t_negK hk z (fun hk => ?_))
    · refine mj_sublv [(0, .ref 950), (1, .int k0)] [1, 0] rfl ?_
      exact B_X13_typeHere_53 _ _ _ hk
    · refine mj_iload_n dX13_typeHere_28 0 rfl ?_
      refine mj_i2l (v := k0.toInt64) dX13_typeHere_29 rfl ?_
      refine mj_ldc2 dX13_typeHere_30 K_X13_419 ?_
      refine mj_ldc2 dX13_typeHere_33 K_X13_488 ?_
      refine t_callSiP dX13_typeHere_36 M_X13_in (C_X13_in _ _ _ _) ML_X13_371 SM_X13_in (As := [.long k0.toInt64, .long 10, .long 16]) rfl rfl (Nat.le_of_ble_eq_true rfl) (Nat.le_of_ble_eq_true rfl) (Nat.le_of_ble_eq_true rfl) (Nat.le_of_ble_eq_true rfl) ?_
      refine mj_if_ne 53 dX13_typeHere_39 (by decide) (fun z => t_negK hk z (fun hk => ?_)) (fun z => t_posK hk z (fun hk => ?_))
      · refine mj_sublv [(0, .ref 950), (1, .int k0)] [1, 0] rfl ?_
        exact B_X13_typeHere_53 _ _ _ hk
      · refine mj_sublv [(0, .ref 950)] [1] rfl ?_
        exact B_X13_typeHere_42 _ _ hk
noncomputable def f_X13_typeHere (s : t_S) : Option (Int32 × t_S) :=
 if (s.1 950 5) = (1 : Int32) then (k_X13_typeHere_17 (s.1 950 10) s)
 else (k_X13_typeHere_17 (-2) s)
set_option maxRecDepth 4000 in
set_option maxHeartbeats 1000000 in
theorem C_X13_typeHere (s : t_S) (r : Int32 × t_S) (hr : f_X13_typeHere s = some r) : t_C yX13_typeHere cX13_typeHere 3 (some .int) 8 [.ref 950] s (fun v s' => v = some (.int r.1) ∧ s' = r.2) := by
  refine t_C.imp (P := fun v s' => ∃ x, v = some (.int x) ∧ (fun q => q = r) ((x, s'))) (t_C.of (by decide +kernel) (Nat.le_of_ble_eq_true rfl) ?_) (fun v s' hp => by obtain ⟨x, rfl, rfl⟩ := hp; exact ⟨rfl, rfl⟩)
  intro D cy ad bs X
  have hk : t_hk (f_X13_typeHere s) (fun q => q = r) := ⟨r, hr, rfl⟩
  show mj_G D cy ad bs X cX13_typeHere 3 yX13_typeHere.cls (some .int) yX13_typeHere.name 8 0 0 1065 (t_P (fun v s' => ∃ x, v = some (.int x) ∧ (fun q => q = r) ((x, s')))) 0 [(0, .ref 950)] [] (t_m s) 1065 0 0
  refine mj_aload_n dX13_typeHere_0 0 rfl ?_
  refine t_getI dX13_typeHere_1 F_X13_385 qf_950_5 ?_
  refine mj_iconst (v := 1) dX13_typeHere_4 (by decide) ?_
  refine mj_icmp_ne 15 dX13_typeHere_5 (by decide) (fun z => t_negK hk z (fun hk => ?_)) (fun z => t_posK hk z (fun hk => ?_))
  · refine mj_bipush (v := (-2)) dX13_typeHere_15 (by decide) ?_
    exact B_X13_typeHere_17 _ _ _ hk
  · refine mj_aload_n dX13_typeHere_8 0 rfl ?_
    refine t_getI dX13_typeHere_9 F_X13_397 qf_950_10 ?_
    refine mj_goto 17 dX13_typeHere_12 (by decide) ?_
    exact B_X13_typeHere_17 _ _ _ hk

theorem dX13_fields_0 : decode cX13_fields 0 = .ok (.aload_n 0, 1) := by decide +kernel
theorem dX13_fields_1 : decode cX13_fields 1 = .ok (.getfield 26, 3) := by decide +kernel
theorem dX13_fields_102 : decode cX13_fields 102 = .ok (.invokevirtual 411, 3) := by decide +kernel
theorem dX13_fields_105 : decode cX13_fields 105 = .ok (.aload_n 0, 1) := by decide +kernel
theorem dX13_fields_106 : decode cX13_fields 106 = .ok (.bipush 10, 2) := by decide +kernel
theorem dX13_fields_108 : decode cX13_fields 108 = .ok (.iconst 1, 1) := by decide +kernel
theorem dX13_fields_109 : decode cX13_fields 109 = .ok (.invokevirtual 510, 3) := by decide +kernel
theorem dX13_fields_11 : decode cX13_fields 11 = .ok (.iconst 1, 1) := by decide +kernel
theorem dX13_fields_112 : decode cX13_fields 112 = .ok (.istore 6, 2) := by decide +kernel
theorem dX13_fields_114 : decode cX13_fields 114 = .ok (.aload_n 0, 1) := by decide +kernel
theorem dX13_fields_115 : decode cX13_fields 115 = .ok (.getfield 32, 3) := by decide +kernel
theorem dX13_fields_118 : decode cX13_fields 118 = .ok (.iload 6, 2) := by decide +kernel
theorem dX13_fields_12 : decode cX13_fields 12 = .ok (.goto 4, 3) := by decide +kernel
theorem dX13_fields_120 : decode cX13_fields 120 = .ok (.iload 5, 2) := by decide +kernel
theorem dX13_fields_122 : decode cX13_fields 122 = .ok (.i2l, 1) := by decide +kernel
theorem dX13_fields_123 : decode cX13_fields 123 = .ok (.lastore, 1) := by decide +kernel
theorem dX13_fields_124 : decode cX13_fields 124 = .ok (.aload_n 0, 1) := by decide +kernel
theorem dX13_fields_125 : decode cX13_fields 125 = .ok (.iload_n 1, 1) := by decide +kernel
theorem dX13_fields_126 : decode cX13_fields 126 = .ok (.iload 6, 2) := by decide +kernel
theorem dX13_fields_128 : decode cX13_fields 128 = .ok (.invokevirtual 507, 3) := by decide +kernel
theorem dX13_fields_131 : decode cX13_fields 131 = .ok (.aload_n 0, 1) := by decide +kernel
theorem dX13_fields_132 : decode cX13_fields 132 = .ok (.invokevirtual 452, 3) := by decide +kernel
theorem dX13_fields_135 : decode cX13_fields 135 = .ok (.aload_n 0, 1) := by decide +kernel
theorem dX13_fields_136 : decode cX13_fields 136 = .ok (.bipush 58, 2) := by decide +kernel
theorem dX13_fields_138 : decode cX13_fields 138 = .ok (.invokevirtual 528, 3) := by decide +kernel
theorem dX13_fields_141 : decode cX13_fields 141 = .ok (.aload_n 0, 1) := by decide +kernel
theorem dX13_fields_142 : decode cX13_fields 142 = .ok (.iload 6, 2) := by decide +kernel
theorem dX13_fields_144 : decode cX13_fields 144 = .ok (.aload_n 0, 1) := by decide +kernel
theorem dX13_fields_145 : decode cX13_fields 145 = .ok (.invokestatic 503, 3) := by decide +kernel
theorem dX13_fields_148 : decode cX13_fields 148 = .ok (.invokevirtual 507, 3) := by decide +kernel
theorem dX13_fields_15 : decode cX13_fields 15 = .ok (.iconst 0, 1) := by decide +kernel
theorem dX13_fields_151 : decode cX13_fields 151 = .ok (.iload_n 2, 1) := by decide +kernel
theorem dX13_fields_152 : decode cX13_fields 152 = .ok (.ifCond .ne 24, 3) := by decide +kernel
theorem dX13_fields_155 : decode cX13_fields 155 = .ok (.aload_n 0, 1) := by decide +kernel
theorem dX13_fields_156 : decode cX13_fields 156 = .ok (.bipush 18, 2) := by decide +kernel
theorem dX13_fields_158 : decode cX13_fields 158 = .ok (.invokevirtual 455, 3) := by decide +kernel
theorem dX13_fields_16 : decode cX13_fields 16 = .ok (.istore_n 2, 1) := by decide +kernel
theorem dX13_fields_161 : decode cX13_fields 161 = .ok (.ifCond .eq 15, 3) := by decide +kernel
theorem dX13_fields_164 : decode cX13_fields 164 = .ok (.aload_n 0, 1) := by decide +kernel
theorem dX13_fields_165 : decode cX13_fields 165 = .ok (.getfield 36, 3) := by decide +kernel
theorem dX13_fields_168 : decode cX13_fields 168 = .ok (.iload 6, 2) := by decide +kernel
theorem dX13_fields_17 : decode cX13_fields 17 = .ok (.aload_n 0, 1) := by decide +kernel
theorem dX13_fields_170 : decode cX13_fields 170 = .ok (.lconst 1, 1) := by decide +kernel
theorem dX13_fields_171 : decode cX13_fields 171 = .ok (.lastore, 1) := by decide +kernel
theorem dX13_fields_172 : decode cX13_fields 172 = .ok (.aload_n 0, 1) := by decide +kernel
theorem dX13_fields_173 : decode cX13_fields 173 = .ok (.invokevirtual 452, 3) := by decide +kernel
theorem dX13_fields_176 : decode cX13_fields 176 = .ok (.iinc 4 1, 3) := by decide +kernel
theorem dX13_fields_179 : decode cX13_fields 179 = .ok (.aload_n 0, 1) := by decide +kernel
theorem dX13_fields_18 : decode cX13_fields 18 = .ok (.bipush 123, 2) := by decide +kernel
theorem dX13_fields_180 : decode cX13_fields 180 = .ok (.bipush 44, 2) := by decide +kernel
theorem dX13_fields_182 : decode cX13_fields 182 = .ok (.invokevirtual 449, 3) := by decide +kernel
theorem dX13_fields_185 : decode cX13_fields 185 = .ok (.istore_n 3, 1) := by decide +kernel
theorem dX13_fields_186 : decode cX13_fields 186 = .ok (.iload_n 3, 1) := by decide +kernel
theorem dX13_fields_187 : decode cX13_fields 187 = .ok (.ifCond .eq 7, 3) := by decide +kernel
theorem dX13_fields_190 : decode cX13_fields 190 = .ok (.aload_n 0, 1) := by decide +kernel
theorem dX13_fields_191 : decode cX13_fields 191 = .ok (.invokevirtual 452, 3) := by decide +kernel
theorem dX13_fields_194 : decode cX13_fields 194 = .ok (.goto (-149), 3) := by decide +kernel
theorem dX13_fields_197 : decode cX13_fields 197 = .ok (.aload_n 0, 1) := by decide +kernel
theorem dX13_fields_198 : decode cX13_fields 198 = .ok (.bipush 125, 2) := by decide +kernel
theorem dX13_fields_20 : decode cX13_fields 20 = .ok (.invokevirtual 528, 3) := by decide +kernel
theorem dX13_fields_200 : decode cX13_fields 200 = .ok (.invokevirtual 528, 3) := by decide +kernel
theorem dX13_fields_203 : decode cX13_fields 203 = .ok (.return_, 1) := by decide +kernel
theorem dX13_fields_23 : decode cX13_fields 23 = .ok (.iload_n 2, 1) := by decide +kernel
theorem dX13_fields_24 : decode cX13_fields 24 = .ok (.ifCond .ne 12, 3) := by decide +kernel
theorem dX13_fields_27 : decode cX13_fields 27 = .ok (.aload_n 0, 1) := by decide +kernel
theorem dX13_fields_28 : decode cX13_fields 28 = .ok (.bipush 125, 2) := by decide +kernel
theorem dX13_fields_30 : decode cX13_fields 30 = .ok (.invokevirtual 449, 3) := by decide +kernel
theorem dX13_fields_33 : decode cX13_fields 33 = .ok (.ifCond .ne 7, 3) := by decide +kernel
theorem dX13_fields_36 : decode cX13_fields 36 = .ok (.iconst 1, 1) := by decide +kernel
theorem dX13_fields_37 : decode cX13_fields 37 = .ok (.goto 4, 3) := by decide +kernel
theorem dX13_fields_4 : decode cX13_fields 4 = .ok (.iload_n 1, 1) := by decide +kernel
theorem dX13_fields_40 : decode cX13_fields 40 = .ok (.iconst 0, 1) := by decide +kernel
theorem dX13_fields_41 : decode cX13_fields 41 = .ok (.istore_n 3, 1) := by decide +kernel
theorem dX13_fields_42 : decode cX13_fields 42 = .ok (.iconst 0, 1) := by decide +kernel
theorem dX13_fields_43 : decode cX13_fields 43 = .ok (.istore 4, 2) := by decide +kernel
theorem dX13_fields_45 : decode cX13_fields 45 = .ok (.iload_n 3, 1) := by decide +kernel
theorem dX13_fields_46 : decode cX13_fields 46 = .ok (.ifCond .eq 151, 3) := by decide +kernel
theorem dX13_fields_49 : decode cX13_fields 49 = .ok (.aload_n 0, 1) := by decide +kernel
theorem dX13_fields_5 : decode cX13_fields 5 = .ok (.iaload, 1) := by decide +kernel
theorem dX13_fields_50 : decode cX13_fields 50 = .ok (.getfield 375, 3) := by decide +kernel
theorem dX13_fields_53 : decode cX13_fields 53 = .ok (.ifCond .ne 144, 3) := by decide +kernel
theorem dX13_fields_56 : decode cX13_fields 56 = .ok (.aload_n 0, 1) := by decide +kernel
theorem dX13_fields_57 : decode cX13_fields 57 = .ok (.invokevirtual 535, 3) := by decide +kernel
theorem dX13_fields_6 : decode cX13_fields 6 = .ok (.bipush 6, 2) := by decide +kernel
theorem dX13_fields_60 : decode cX13_fields 60 = .ok (.istore 5, 2) := by decide +kernel
theorem dX13_fields_62 : decode cX13_fields 62 = .ok (.aload_n 0, 1) := by decide +kernel
theorem dX13_fields_63 : decode cX13_fields 63 = .ok (.getfield 375, 3) := by decide +kernel
theorem dX13_fields_66 : decode cX13_fields 66 = .ok (.ifCond .ne 23, 3) := by decide +kernel
theorem dX13_fields_69 : decode cX13_fields 69 = .ok (.aload_n 0, 1) := by decide +kernel
theorem dX13_fields_70 : decode cX13_fields 70 = .ok (.iload_n 1, 1) := by decide +kernel
theorem dX13_fields_71 : decode cX13_fields 71 = .ok (.iload 5, 2) := by decide +kernel
theorem dX13_fields_73 : decode cX13_fields 73 = .ok (.i2l, 1) := by decide +kernel
theorem dX13_fields_74 : decode cX13_fields 74 = .ok (.invokevirtual 538, 3) := by decide +kernel
theorem dX13_fields_77 : decode cX13_fields 77 = .ok (.ifCond .eq 12, 3) := by decide +kernel
theorem dX13_fields_8 : decode cX13_fields 8 = .ok (.if_icmp .ne 7, 3) := by decide +kernel
theorem dX13_fields_80 : decode cX13_fields 80 = .ok (.aload_n 0, 1) := by decide +kernel
theorem dX13_fields_81 : decode cX13_fields 81 = .ok (.iconst 3, 1) := by decide +kernel
theorem dX13_fields_82 : decode cX13_fields 82 = .ok (.aload_n 0, 1) := by decide +kernel
theorem dX13_fields_83 : decode cX13_fields 83 = .ok (.getfield 391, 3) := by decide +kernel
theorem dX13_fields_86 : decode cX13_fields 86 = .ok (.invokevirtual 411, 3) := by decide +kernel
theorem dX13_fields_89 : decode cX13_fields 89 = .ok (.iload 4, 2) := by decide +kernel
theorem dX13_fields_91 : decode cX13_fields 91 = .ok (.bipush 16, 2) := by decide +kernel
theorem dX13_fields_93 : decode cX13_fields 93 = .ok (.if_icmp .ne 12, 3) := by decide +kernel
theorem dX13_fields_96 : decode cX13_fields 96 = .ok (.aload_n 0, 1) := by decide +kernel
theorem dX13_fields_97 : decode cX13_fields 97 = .ok (.iconst 5, 1) := by decide +kernel
theorem dX13_fields_98 : decode cX13_fields 98 = .ok (.aload_n 0, 1) := by decide +kernel
theorem dX13_fields_99 : decode cX13_fields 99 = .ok (.getfield 391, 3) := by decide +kernel
theorem dX13_type_0 : decode cX13_type 0 = .ok (.aload_n 0, 1) := by decide +kernel
theorem dX13_type_1 : decode cX13_type 1 = .ok (.getfield 375, 3) := by decide +kernel
theorem dX13_type_10 : decode cX13_type 10 = .ok (.getfield 485, 3) := by decide +kernel
theorem dX13_type_101 : decode cX13_type 101 = .ok (.iload_n 1, 1) := by decide +kernel
theorem dX13_type_102 : decode cX13_type 102 = .ok (.iaload, 1) := by decide +kernel
theorem dX13_type_103 : decode cX13_type 103 = .ok (.goto 4, 3) := by decide +kernel
theorem dX13_type_106 : decode cX13_type 106 = .ok (.iconst 0, 1) := by decide +kernel
theorem dX13_type_107 : decode cX13_type 107 = .ok (.istore_n 2, 1) := by decide +kernel
theorem dX13_type_108 : decode cX13_type 108 = .ok (.iload_n 2, 1) := by decide +kernel
theorem dX13_type_109 : decode cX13_type 109 = .ok (.iconst 5, 1) := by decide +kernel
theorem dX13_type_110 : decode cX13_type 110 = .ok (.if_icmp .eq 9, 3) := by decide +kernel
theorem dX13_type_113 : decode cX13_type 113 = .ok (.iload_n 2, 1) := by decide +kernel
theorem dX13_type_114 : decode cX13_type 114 = .ok (.bipush 6, 2) := by decide +kernel
theorem dX13_type_116 : decode cX13_type 116 = .ok (.if_icmp .ne 11, 3) := by decide +kernel
theorem dX13_type_119 : decode cX13_type 119 = .ok (.aload_n 0, 1) := by decide +kernel
theorem dX13_type_120 : decode cX13_type 120 = .ok (.iload_n 1, 1) := by decide +kernel
theorem dX13_type_121 : decode cX13_type 121 = .ok (.invokestatic 493, 3) := by decide +kernel
theorem dX13_type_124 : decode cX13_type 124 = .ok (.goto 59, 3) := by decide +kernel
theorem dX13_type_127 : decode cX13_type 127 = .ok (.iload_n 2, 1) := by decide +kernel
theorem dX13_type_128 : decode cX13_type 128 = .ok (.bipush 7, 2) := by decide +kernel
theorem dX13_type_13 : decode cX13_type 13 = .ok (.bipush 16, 2) := by decide +kernel
theorem dX13_type_130 : decode cX13_type 130 = .ok (.if_icmp .ne 53, 3) := by decide +kernel
theorem dX13_type_133 : decode cX13_type 133 = .ok (.aload_n 0, 1) := by decide +kernel
theorem dX13_type_134 : decode cX13_type 134 = .ok (.bipush 40, 2) := by decide +kernel
theorem dX13_type_136 : decode cX13_type 136 = .ok (.invokevirtual 449, 3) := by decide +kernel
theorem dX13_type_139 : decode cX13_type 139 = .ok (.ifCond .eq 13, 3) := by decide +kernel
theorem dX13_type_142 : decode cX13_type 142 = .ok (.aload_n 0, 1) := by decide +kernel
theorem dX13_type_143 : decode cX13_type 143 = .ok (.iload_n 1, 1) := by decide +kernel
theorem dX13_type_144 : decode cX13_type 144 = .ok (.bipush 16, 2) := by decide +kernel
theorem dX13_type_146 : decode cX13_type 146 = .ok (.invokevirtual 497, 3) := by decide +kernel
theorem dX13_type_149 : decode cX13_type 149 = .ok (.goto 19, 3) := by decide +kernel
theorem dX13_type_15 : decode cX13_type 15 = .ok (.if_icmp .le 60, 3) := by decide +kernel
theorem dX13_type_152 : decode cX13_type 152 = .ok (.aload_n 0, 1) := by decide +kernel
theorem dX13_type_153 : decode cX13_type 153 = .ok (.getfield 32, 3) := by decide +kernel
theorem dX13_type_156 : decode cX13_type 156 = .ok (.iload_n 1, 1) := by decide +kernel
theorem dX13_type_157 : decode cX13_type 157 = .ok (.lconst 0, 1) := by decide +kernel
theorem dX13_type_158 : decode cX13_type 158 = .ok (.lastore, 1) := by decide +kernel
theorem dX13_type_159 : decode cX13_type 159 = .ok (.aload_n 0, 1) := by decide +kernel
theorem dX13_type_160 : decode cX13_type 160 = .ok (.getfield 36, 3) := by decide +kernel
theorem dX13_type_163 : decode cX13_type 163 = .ok (.iload_n 1, 1) := by decide +kernel
theorem dX13_type_164 : decode cX13_type 164 = .ok (.ldc2_w 488, 3) := by decide +kernel
theorem dX13_type_167 : decode cX13_type 167 = .ok (.lastore, 1) := by decide +kernel
theorem dX13_type_168 : decode cX13_type 168 = .ok (.aload_n 0, 1) := by decide +kernel
theorem dX13_type_169 : decode cX13_type 169 = .ok (.bipush 17, 2) := by decide +kernel
theorem dX13_type_171 : decode cX13_type 171 = .ok (.invokevirtual 500, 3) := by decide +kernel
theorem dX13_type_174 : decode cX13_type 174 = .ok (.aload_n 0, 1) := by decide +kernel
theorem dX13_type_175 : decode cX13_type 175 = .ok (.iload_n 1, 1) := by decide +kernel
theorem dX13_type_176 : decode cX13_type 176 = .ok (.aload_n 0, 1) := by decide +kernel
theorem dX13_type_177 : decode cX13_type 177 = .ok (.invokestatic 503, 3) := by decide +kernel
theorem dX13_type_18 : decode cX13_type 18 = .ok (.aload_n 0, 1) := by decide +kernel
theorem dX13_type_180 : decode cX13_type 180 = .ok (.invokevirtual 507, 3) := by decide +kernel
theorem dX13_type_183 : decode cX13_type 183 = .ok (.aload_n 0, 1) := by decide +kernel
theorem dX13_type_184 : decode cX13_type 184 = .ok (.dup, 1) := by decide +kernel
theorem dX13_type_185 : decode cX13_type 185 = .ok (.getfield 485, 3) := by decide +kernel
theorem dX13_type_188 : decode cX13_type 188 = .ok (.iconst 1, 1) := by decide +kernel
theorem dX13_type_189 : decode cX13_type 189 = .ok (.isub, 1) := by decide +kernel
theorem dX13_type_19 : decode cX13_type 19 = .ok (.getfield 385, 3) := by decide +kernel
theorem dX13_type_190 : decode cX13_type 190 = .ok (.putfield 485, 3) := by decide +kernel
theorem dX13_type_193 : decode cX13_type 193 = .ok (.iload_n 1, 1) := by decide +kernel
theorem dX13_type_194 : decode cX13_type 194 = .ok (.ireturn, 1) := by decide +kernel
theorem dX13_type_22 : decode cX13_type 22 = .ok (.iconst 1, 1) := by decide +kernel
theorem dX13_type_23 : decode cX13_type 23 = .ok (.if_icmp .ne 31, 3) := by decide +kernel
theorem dX13_type_26 : decode cX13_type 26 = .ok (.aload_n 0, 1) := by decide +kernel
theorem dX13_type_27 : decode cX13_type 27 = .ok (.getfield 397, 3) := by decide +kernel
theorem dX13_type_30 : decode cX13_type 30 = .ok (.ifCond .lt 20, 3) := by decide +kernel
theorem dX13_type_33 : decode cX13_type 33 = .ok (.aload_n 0, 1) := by decide +kernel
theorem dX13_type_34 : decode cX13_type 34 = .ok (.getfield 397, 3) := by decide +kernel
theorem dX13_type_37 : decode cX13_type 37 = .ok (.i2l, 1) := by decide +kernel
theorem dX13_type_38 : decode cX13_type 38 = .ok (.ldc2_w 419, 3) := by decide +kernel
theorem dX13_type_4 : decode cX13_type 4 = .ok (.ifCond .eq 5, 3) := by decide +kernel
theorem dX13_type_41 : decode cX13_type 41 = .ok (.ldc2_w 488, 3) := by decide +kernel
theorem dX13_type_44 : decode cX13_type 44 = .ok (.invokestatic 371, 3) := by decide +kernel
theorem dX13_type_47 : decode cX13_type 47 = .ok (.ifCond .eq 7, 3) := by decide +kernel
theorem dX13_type_50 : decode cX13_type 50 = .ok (.iconst 1, 1) := by decide +kernel
theorem dX13_type_51 : decode cX13_type 51 = .ok (.goto 4, 3) := by decide +kernel
theorem dX13_type_54 : decode cX13_type 54 = .ok (.iconst 0, 1) := by decide +kernel
theorem dX13_type_55 : decode cX13_type 55 = .ok (.istore_n 1, 1) := by decide +kernel
theorem dX13_type_56 : decode cX13_type 56 = .ok (.aload_n 0, 1) := by decide +kernel
theorem dX13_type_57 : decode cX13_type 57 = .ok (.iload_n 1, 1) := by decide +kernel
theorem dX13_type_58 : decode cX13_type 58 = .ok (.ifCond .eq 7, 3) := by decide +kernel
theorem dX13_type_61 : decode cX13_type 61 = .ok (.iconst 5, 1) := by decide +kernel
theorem dX13_type_62 : decode cX13_type 62 = .ok (.goto 4, 3) := by decide +kernel
theorem dX13_type_65 : decode cX13_type 65 = .ok (.iconst 2, 1) := by decide +kernel
theorem dX13_type_66 : decode cX13_type 66 = .ok (.aload_n 0, 1) := by decide +kernel
theorem dX13_type_67 : decode cX13_type 67 = .ok (.getfield 391, 3) := by decide +kernel
theorem dX13_type_7 : decode cX13_type 7 = .ok (.iconst 0, 1) := by decide +kernel
theorem dX13_type_70 : decode cX13_type 70 = .ok (.invokevirtual 411, 3) := by decide +kernel
theorem dX13_type_73 : decode cX13_type 73 = .ok (.iconst 0, 1) := by decide +kernel
theorem dX13_type_74 : decode cX13_type 74 = .ok (.ireturn, 1) := by decide +kernel
theorem dX13_type_75 : decode cX13_type 75 = .ok (.aload_n 0, 1) := by decide +kernel
theorem dX13_type_76 : decode cX13_type 76 = .ok (.dup, 1) := by decide +kernel
theorem dX13_type_77 : decode cX13_type 77 = .ok (.getfield 485, 3) := by decide +kernel
theorem dX13_type_8 : decode cX13_type 8 = .ok (.ireturn, 1) := by decide +kernel
theorem dX13_type_80 : decode cX13_type 80 = .ok (.iconst 1, 1) := by decide +kernel
theorem dX13_type_81 : decode cX13_type 81 = .ok (.iadd, 1) := by decide +kernel
theorem dX13_type_82 : decode cX13_type 82 = .ok (.putfield 485, 3) := by decide +kernel
theorem dX13_type_85 : decode cX13_type 85 = .ok (.aload_n 0, 1) := by decide +kernel
theorem dX13_type_86 : decode cX13_type 86 = .ok (.invokevirtual 490, 3) := by decide +kernel
theorem dX13_type_89 : decode cX13_type 89 = .ok (.istore_n 1, 1) := by decide +kernel
theorem dX13_type_9 : decode cX13_type 9 = .ok (.aload_n 0, 1) := by decide +kernel
theorem dX13_type_90 : decode cX13_type 90 = .ok (.aload_n 0, 1) := by decide +kernel
theorem dX13_type_91 : decode cX13_type 91 = .ok (.getfield 375, 3) := by decide +kernel
theorem dX13_type_94 : decode cX13_type 94 = .ok (.ifCond .ne 12, 3) := by decide +kernel
theorem dX13_type_97 : decode cX13_type 97 = .ok (.aload_n 0, 1) := by decide +kernel
theorem dX13_type_98 : decode cX13_type 98 = .ok (.getfield 26, 3) := by decide +kernel
abbrev RT_X13_fields : Type := (Int32 → t_S → Option (t_S)) × (t_S → Option (Int32 × t_S))
def RH_X13_fields (rc : RT_X13_fields) (k : Nat) : Prop := (∀ (x2 : Int32) (s : t_S) (r : t_S), rc.1 x2 s = some r → t_C yX13_fields cX13_fields 7 none (9 + k) [.ref 950, .int x2] s (fun v s' => v = none ∧ s' = r)) ∧ (∀ (s : t_S) (r : Int32 × t_S), rc.2 s = some r → t_C yX13_type cX13_type 3 (some .int) (9 + k) [.ref 950] s (fun v s' => v = some (.int r.1) ∧ s' = r.2))
noncomputable def k_X13_fields_176 (rc : RT_X13_fields) (l1 : Int32) (l2 : Int32) (l4 : Int32) (s : t_S) : Option ((Int32 × Int32 × Int32 × Int32 × t_S) ⊕ (t_S)) :=
 if (f_X13_is (44 : Int32) s) = (0 : Int32) then (some (.inl (l1, l2, (f_X13_is (44 : Int32) s), (l4 + 1), s)))
 else ((f_X13_next s).bind (fun r2 =>
 some (.inl (l1, l2, (f_X13_is (44 : Int32) s), (l4 + 1), r2))))
set_option maxRecDepth 4000 in
set_option maxHeartbeats 1000000 in
theorem B_X13_fields_176 {D : va_G} {cy : Nat → ClassId} {ad : Nat → Nat} {bs : Nat} {X : State → Heap → Prop} (rc : RT_X13_fields) {k : Nat} (H : RH_X13_fields rc k) (l1 : Int32) (l2 : Int32) (l4 : Int32) (s : t_S) (Q : (Int32 × Int32 × Int32 × Int32 × t_S) ⊕ (t_S) → Prop) (Hb45 : ∀ (y0 : Int32) (y1 : Int32) (y2 : Int32) (y3 : Int32) (y4 : t_S), Q (.inl (y0, y1, y2, y3, y4)) → mj_G D cy ad bs X cX13_fields 7 yX13_fields.cls none yX13_fields.name (9 + (k + 1)) 0 0 1065 (t_P (fun v s' => v = none ∧ Q (.inr (s')))) 45 [(0, .ref 950), (1, .int (y0)), (2, .int (y1)), (3, .int (y2)), (4, .int (y3))] [] (t_m y4) 1065 0 0) (hk : t_hk (k_X13_fields_176 rc l1 l2 l4 s) Q) : mj_G D cy ad bs X cX13_fields 7 yX13_fields.cls none yX13_fields.name (9 + (k + 1)) 0 0 1065 (t_P (fun v s' => v = none ∧ Q (.inr (s')))) 176 [(0, .ref 950), (1, .int l1), (2, .int l2), (4, .int l4)] [] (t_m s) 1065 0 0 := by
  refine mj_iinc (k := 3) (v := (l4 + 1)) (lv2 := [(4, .int (l4 + 1)), (0, .ref 950), (1, .int l1), (2, .int l2)]) dX13_fields_176 rfl rfl (by decide) rfl ?_
  refine mj_aload_n dX13_fields_179 1 rfl ?_
  refine mj_bipush (v := 44) dX13_fields_180 (by decide) ?_
  refine t_callViP dX13_fields_182 M_X13_is (C_X13_is _ _) ML_X13_449 IM_X13_is SE_X13_is qc_950 rfl (As := [.int 44]) rfl rfl (by omega) (Nat.le_of_ble_eq_true rfl) (Nat.le_of_ble_eq_true rfl) (Nat.le_of_ble_eq_true rfl) ?_
  refine mj_istore_n 3 (lv2 := [(3, .int (f_X13_is (44 : Int32) s)), (4, .int (l4 + 1)), (0, .ref 950), (1, .int l1), (2, .int l2)]) dX13_fields_185 rfl (by decide) rfl ?_
  refine mj_iload_n dX13_fields_186 0 rfl ?_
  refine mj_if_eq 194 dX13_fields_187 (by decide) (fun z => t_posK hk z (fun hk => ?_)) (fun z => t_negK hk z (fun hk => ?_))
  · refine mj_goto 45 dX13_fields_194 (by decide) ?_
    refine mj_sublv [(0, .ref 950), (1, .int l1), (2, .int l2), (3, .int (f_X13_is (44 : Int32) s)), (4, .int (l4 + 1))] [2, 3, 4, 0, 1] rfl ?_
    exact t_somK hk (fun hf => Hb45 l1 l2 (f_X13_is (44 : Int32) s) (l4 + 1) s hf)
  · refine mj_aload_n dX13_fields_190 2 rfl ?_
    refine t_bndK hk (fun r2 er2 hk => ?_)
    refine t_callVvE dX13_fields_191 M_X13_next (C_X13_next _ _ er2) ML_X13_452 IM_X13_next SE_X13_next qc_950 rfl (As := []) rfl rfl (by omega) (Nat.le_of_ble_eq_true rfl) (Nat.le_of_ble_eq_true rfl) (Nat.le_of_ble_eq_true rfl) ?_
    refine mj_goto 45 dX13_fields_194 (by decide) ?_
    refine mj_sublv [(0, .ref 950), (1, .int l1), (2, .int l2), (3, .int (f_X13_is (44 : Int32) s)), (4, .int (l4 + 1))] [2, 3, 4, 0, 1] rfl ?_
    exact t_somK hk (fun hf => Hb45 l1 l2 (f_X13_is (44 : Int32) s) (l4 + 1) r2 hf)
noncomputable def k_X13_fields_105 (rc : RT_X13_fields) (l1 : Int32) (l2 : Int32) (l4 : Int32) (l5 : Int32) (s : t_S) : Option ((Int32 × Int32 × Int32 × Int32 × t_S) ⊕ (t_S)) :=
 (f_X13_node (10 : Int32) (1 : Int32) s).bind (fun r1 =>
 if t_ix r1.1 13000 = true then
  t_let (t_setJ r1.2 957 (r1.1.toNatClampNeg) l5.toInt64) (fun s1 =>
 (f_X13_hang l1 r1.1 s1).bind (fun r3 =>
 (f_X13_next r3).bind (fun r4 =>
 (f_X13_mustBe (58 : Int32) r4).bind (fun r5 =>
 (rc.2 r5).bind (fun r6 =>
 (f_X13_hang r1.1 r6.1 r6.2).bind (fun r7 =>
 if l2 = (0 : Int32) then (if (f_X13_isWord (18 : Int32) r7) = (0 : Int32) then (k_X13_fields_176 rc l1 l2 l4 r7)
 else (t_let (t_setJ r7 958 (r1.1.toNatClampNeg) (1 : Int64)) (fun s2 =>
 (f_X13_next s2).bind (fun r9 =>
 k_X13_fields_176 rc l1 l2 l4 r9))))
 else (k_X13_fields_176 rc l1 l2 l4 r7)))))))
else none)
set_option maxRecDepth 4000 in
set_option maxHeartbeats 1000000 in
theorem B_X13_fields_105 {D : va_G} {cy : Nat → ClassId} {ad : Nat → Nat} {bs : Nat} {X : State → Heap → Prop} (rc : RT_X13_fields) {k : Nat} (H : RH_X13_fields rc k) (l1 : Int32) (l2 : Int32) (l4 : Int32) (l5 : Int32) (s : t_S) (Q : (Int32 × Int32 × Int32 × Int32 × t_S) ⊕ (t_S) → Prop) (Hb45 : ∀ (y0 : Int32) (y1 : Int32) (y2 : Int32) (y3 : Int32) (y4 : t_S), Q (.inl (y0, y1, y2, y3, y4)) → mj_G D cy ad bs X cX13_fields 7 yX13_fields.cls none yX13_fields.name (9 + (k + 1)) 0 0 1065 (t_P (fun v s' => v = none ∧ Q (.inr (s')))) 45 [(0, .ref 950), (1, .int (y0)), (2, .int (y1)), (3, .int (y2)), (4, .int (y3))] [] (t_m y4) 1065 0 0) (hk : t_hk (k_X13_fields_105 rc l1 l2 l4 l5 s) Q) : mj_G D cy ad bs X cX13_fields 7 yX13_fields.cls none yX13_fields.name (9 + (k + 1)) 0 0 1065 (t_P (fun v s' => v = none ∧ Q (.inr (s')))) 105 [(0, .ref 950), (1, .int l1), (2, .int l2), (4, .int l4), (5, .int l5)] [] (t_m s) 1065 0 0 := by
  refine mj_aload_n dX13_fields_105 0 rfl ?_
  refine mj_bipush (v := 10) dX13_fields_106 (by decide) ?_
  refine mj_iconst (v := 1) dX13_fields_108 (by decide) ?_
  refine t_bndK hk (fun r1 er1 hk => ?_)
  refine t_callViE dX13_fields_109 M_X13_node (C_X13_node _ _ _ _ er1) ML_X13_510 IM_X13_node SE_X13_node qc_950 rfl (As := [.int 10, .int 1]) rfl rfl (by omega) (Nat.le_of_ble_eq_true rfl) (Nat.le_of_ble_eq_true rfl) (Nat.le_of_ble_eq_true rfl) ?_
  refine mj_istore (lv2 := [(6, .int r1.1), (0, .ref 950), (1, .int l1), (2, .int l2), (4, .int l4), (5, .int l5)]) dX13_fields_112 (by decide) rfl ?_
  refine mj_aload_n dX13_fields_114 1 rfl ?_
  refine t_getR 957 dX13_fields_115 F_X13_32 qr_950_19 ?_
  refine mj_iload dX13_fields_118 0 rfl ?_
  refine mj_iload dX13_fields_120 5 rfl ?_
  refine mj_i2l (v := l5.toInt64) dX13_fields_122 rfl ?_
  refine t_chkK hk (fun c1 hk => ?_)
  refine t_lastK dX13_fields_123 qa_957 (t_ixv c1) (fun s1 ws1 => t_letE hk ws1 (fun hk => ?_))
  refine mj_aload_n dX13_fields_124 1 rfl ?_
  refine mj_iload_n dX13_fields_125 2 rfl ?_
  refine mj_iload dX13_fields_126 0 rfl ?_
  refine t_bndK hk (fun r3 er3 hk => ?_)
  refine t_callVvE dX13_fields_128 M_X13_hang (C_X13_hang _ _ _ _ er3) ML_X13_507 IM_X13_hang SE_X13_hang qc_950 rfl (As := [.int l1, .int r1.1]) rfl rfl (by omega) (Nat.le_of_ble_eq_true rfl) (Nat.le_of_ble_eq_true rfl) (Nat.le_of_ble_eq_true rfl) ?_
  refine mj_aload_n dX13_fields_131 1 rfl ?_
  refine t_bndK hk (fun r4 er4 hk => ?_)
  refine t_callVvE dX13_fields_132 M_X13_next (C_X13_next _ _ er4) ML_X13_452 IM_X13_next SE_X13_next qc_950 rfl (As := []) rfl rfl (by omega) (Nat.le_of_ble_eq_true rfl) (Nat.le_of_ble_eq_true rfl) (Nat.le_of_ble_eq_true rfl) ?_
  refine mj_aload_n dX13_fields_135 1 rfl ?_
  refine mj_bipush (v := 58) dX13_fields_136 (by decide) ?_
  refine t_bndK hk (fun r5 er5 hk => ?_)
  refine t_callVvE dX13_fields_138 M_X13_mustBe (C_X13_mustBe _ _ _ er5) ML_X13_528 IM_X13_mustBe SE_X13_mustBe qc_950 rfl (As := [.int 58]) rfl rfl (by omega) (Nat.le_of_ble_eq_true rfl) (Nat.le_of_ble_eq_true rfl) (Nat.le_of_ble_eq_true rfl) ?_
  refine mj_aload_n dX13_fields_141 1 rfl ?_
  refine mj_iload dX13_fields_142 0 rfl ?_
  refine mj_aload_n dX13_fields_144 1 rfl ?_
  refine t_bndK hk (fun r6 er6 hk => ?_)
  refine t_callSiE dX13_fields_145 M_X13_type (H.2 _ _ er6) ML_X13_503 SM_X13_type (As := [.ref 950]) rfl rfl (by omega) (Nat.le_of_ble_eq_true rfl) (Nat.le_of_ble_eq_true rfl) (Nat.le_of_ble_eq_true rfl) ?_
  refine t_bndK hk (fun r7 er7 hk => ?_)
  refine t_callVvE dX13_fields_148 M_X13_hang (C_X13_hang _ _ _ _ er7) ML_X13_507 IM_X13_hang SE_X13_hang qc_950 rfl (As := [.int r1.1, .int r6.1]) rfl rfl (by omega) (Nat.le_of_ble_eq_true rfl) (Nat.le_of_ble_eq_true rfl) (Nat.le_of_ble_eq_true rfl) ?_
  refine mj_iload_n dX13_fields_151 3 rfl ?_
  refine mj_if_ne 176 dX13_fields_152 (by decide) (fun z => t_negK hk z (fun hk => ?_)) (fun z => t_posK hk z (fun hk => ?_))
  · refine mj_sublv [(0, .ref 950), (1, .int l1), (2, .int l2), (4, .int l4)] [1, 2, 3, 4] rfl ?_
    exact B_X13_fields_176 rc H _ _ _ _ _ (fun y0 y1 y2 y3 y4 hx => Hb45 y0 y1 y2 y3 y4 hx) hk
  · refine mj_aload_n dX13_fields_155 1 rfl ?_
    refine mj_bipush (v := 18) dX13_fields_156 (by decide) ?_
    refine t_callViP dX13_fields_158 M_X13_isWord (C_X13_isWord _ _) ML_X13_455 IM_X13_isWord SE_X13_isWord qc_950 rfl (As := [.int 18]) rfl rfl (by omega) (Nat.le_of_ble_eq_true rfl) (Nat.le_of_ble_eq_true rfl) (Nat.le_of_ble_eq_true rfl) ?_
    refine mj_if_eq 176 dX13_fields_161 (by decide) (fun z => t_posK hk z (fun hk => ?_)) (fun z => t_negK hk z (fun hk => ?_))
    · refine mj_sublv [(0, .ref 950), (1, .int l1), (2, .int l2), (4, .int l4)] [1, 2, 3, 4] rfl ?_
      exact B_X13_fields_176 rc H _ _ _ _ _ (fun y0 y1 y2 y3 y4 hx => Hb45 y0 y1 y2 y3 y4 hx) hk
    · refine mj_aload_n dX13_fields_164 1 rfl ?_
      refine t_getR 958 dX13_fields_165 F_X13_36 qr_950_20 ?_
      refine mj_iload dX13_fields_168 0 rfl ?_
      refine mj_lconst (v := 1) dX13_fields_170 (by decide) ?_
      refine t_lastK dX13_fields_171 qa_958 (t_ixv c1) (fun s2 ws2 => t_letE hk ws2 (fun hk => ?_))
      refine mj_aload_n dX13_fields_172 1 rfl ?_
      refine t_bndK hk (fun r9 er9 hk => ?_)
      refine t_callVvE dX13_fields_173 M_X13_next (C_X13_next _ _ er9) ML_X13_452 IM_X13_next SE_X13_next qc_950 rfl (As := []) rfl rfl (by omega) (Nat.le_of_ble_eq_true rfl) (Nat.le_of_ble_eq_true rfl) (Nat.le_of_ble_eq_true rfl) ?_
      refine mj_sublv [(0, .ref 950), (1, .int l1), (2, .int l2), (4, .int l4)] [1, 2, 3, 4] rfl ?_
      exact B_X13_fields_176 rc H _ _ _ _ _ (fun y0 y1 y2 y3 y4 hx => Hb45 y0 y1 y2 y3 y4 hx) hk
noncomputable def k_X13_fields_89 (rc : RT_X13_fields) (l1 : Int32) (l2 : Int32) (l4 : Int32) (l5 : Int32) (s : t_S) : Option ((Int32 × Int32 × Int32 × Int32 × t_S) ⊕ (t_S)) :=
 if l4 = (16 : Int32) then ((f_X13_fail (5 : Int32) (s.1 950 6) s).bind (fun r1 =>
 k_X13_fields_105 rc l1 l2 l4 l5 r1))
 else (k_X13_fields_105 rc l1 l2 l4 l5 s)
set_option maxRecDepth 4000 in
set_option maxHeartbeats 1000000 in
theorem B_X13_fields_89 {D : va_G} {cy : Nat → ClassId} {ad : Nat → Nat} {bs : Nat} {X : State → Heap → Prop} (rc : RT_X13_fields) {k : Nat} (H : RH_X13_fields rc k) (l1 : Int32) (l2 : Int32) (l4 : Int32) (l5 : Int32) (s : t_S) (Q : (Int32 × Int32 × Int32 × Int32 × t_S) ⊕ (t_S) → Prop) (Hb45 : ∀ (y0 : Int32) (y1 : Int32) (y2 : Int32) (y3 : Int32) (y4 : t_S), Q (.inl (y0, y1, y2, y3, y4)) → mj_G D cy ad bs X cX13_fields 7 yX13_fields.cls none yX13_fields.name (9 + (k + 1)) 0 0 1065 (t_P (fun v s' => v = none ∧ Q (.inr (s')))) 45 [(0, .ref 950), (1, .int (y0)), (2, .int (y1)), (3, .int (y2)), (4, .int (y3))] [] (t_m y4) 1065 0 0) (hk : t_hk (k_X13_fields_89 rc l1 l2 l4 l5 s) Q) : mj_G D cy ad bs X cX13_fields 7 yX13_fields.cls none yX13_fields.name (9 + (k + 1)) 0 0 1065 (t_P (fun v s' => v = none ∧ Q (.inr (s')))) 89 [(0, .ref 950), (1, .int l1), (2, .int l2), (4, .int l4), (5, .int l5)] [] (t_m s) 1065 0 0 := by
  refine mj_iload dX13_fields_89 3 rfl ?_
  refine mj_bipush (v := 16) dX13_fields_91 (by decide) ?_
  refine mj_icmp_ne 105 dX13_fields_93 (by decide) (fun z => t_negK hk z (fun hk => ?_)) (fun z => t_posK hk z (fun hk => ?_))
  · exact B_X13_fields_105 rc H _ _ _ _ _ _ (fun y0 y1 y2 y3 y4 hx => Hb45 y0 y1 y2 y3 y4 hx) hk
  · refine mj_aload_n dX13_fields_96 0 rfl ?_
    refine mj_iconst (v := 5) dX13_fields_97 (by decide) ?_
    refine mj_aload_n dX13_fields_98 0 rfl ?_
    refine t_getI dX13_fields_99 F_X13_391 qf_950_6 ?_
    refine t_bndK hk (fun r1 er1 hk => ?_)
    refine t_callVvE dX13_fields_102 M_X13_fail (C_X13_fail _ _ _ _ er1) ML_X13_411 IM_X13_fail SE_X13_fail qc_950 rfl (As := [.int 5, .int (s.1 950 6)]) rfl rfl (by omega) (Nat.le_of_ble_eq_true rfl) (Nat.le_of_ble_eq_true rfl) (Nat.le_of_ble_eq_true rfl) ?_
    exact B_X13_fields_105 rc H _ _ _ _ _ _ (fun y0 y1 y2 y3 y4 hx => Hb45 y0 y1 y2 y3 y4 hx) hk
noncomputable def k_X13_fields_197 (rc : RT_X13_fields) (s : t_S) : Option (t_S) :=
 (f_X13_mustBe (125 : Int32) s).bind (fun r1 =>
 some (r1))
set_option maxRecDepth 4000 in
set_option maxHeartbeats 1000000 in
theorem B_X13_fields_197 {D : va_G} {cy : Nat → ClassId} {ad : Nat → Nat} {bs : Nat} {X : State → Heap → Prop} (rc : RT_X13_fields) {k : Nat} (H : RH_X13_fields rc k) (s : t_S) (Q : t_S → Prop) (hk : t_hk (k_X13_fields_197 rc s) Q) : mj_G D cy ad bs X cX13_fields 7 yX13_fields.cls none yX13_fields.name (9 + (k + 1)) 0 0 1065 (t_P (fun v s' => v = none ∧ Q (s'))) 197 [(0, .ref 950)] [] (t_m s) 1065 0 0 := by
  refine mj_aload_n dX13_fields_197 0 rfl ?_
  refine mj_bipush (v := 125) dX13_fields_198 (by decide) ?_
  refine t_bndK hk (fun r1 er1 hk => ?_)
  refine t_callVvE dX13_fields_200 M_X13_mustBe (C_X13_mustBe _ _ _ er1) ML_X13_528 IM_X13_mustBe SE_X13_mustBe qc_950 rfl (As := [.int 125]) rfl rfl (by omega) (Nat.le_of_ble_eq_true rfl) (Nat.le_of_ble_eq_true rfl) (Nat.le_of_ble_eq_true rfl) ?_
  exact t_somK hk (fun hf => t_vret dX13_fields_203 rfl ⟨rfl, hf⟩ (Nat.le_of_ble_eq_true rfl) (Nat.le_of_ble_eq_true rfl))
noncomputable def k_X13_fields_45 (rc : RT_X13_fields) (l1 : Int32) (l2 : Int32) (l3 : Int32) (l4 : Int32) (s : t_S) : Option ((Int32 × Int32 × Int32 × Int32 × t_S) ⊕ (t_S)) :=
 if l3 = (0 : Int32) then ((k_X13_fields_197 rc s).map Sum.inr)
 else (if (s.1 950 2) = (0 : Int32) then ((f_X13_freeName s).bind (fun r1 =>
 if (r1.2.1 950 2) = (0 : Int32) then ((f_X13_hasPart l1 r1.1.toInt64 r1.2).bind (fun r2 =>
 if r2 = (0 : Int32) then (k_X13_fields_89 rc l1 l2 l4 r1.1 r1.2)
 else ((f_X13_fail (3 : Int32) (r1.2.1 950 6) r1.2).bind (fun r3 =>
 k_X13_fields_89 rc l1 l2 l4 r1.1 r3))))
 else (k_X13_fields_89 rc l1 l2 l4 r1.1 r1.2)))
 else ((k_X13_fields_197 rc s).map Sum.inr))
set_option maxRecDepth 4000 in
set_option maxHeartbeats 1000000 in
theorem B_X13_fields_45 {D : va_G} {cy : Nat → ClassId} {ad : Nat → Nat} {bs : Nat} {X : State → Heap → Prop} (rc : RT_X13_fields) {k : Nat} (H : RH_X13_fields rc k) (l1 : Int32) (l2 : Int32) (l3 : Int32) (l4 : Int32) (s : t_S) (Q : (Int32 × Int32 × Int32 × Int32 × t_S) ⊕ (t_S) → Prop) (Hb45 : ∀ (y0 : Int32) (y1 : Int32) (y2 : Int32) (y3 : Int32) (y4 : t_S), Q (.inl (y0, y1, y2, y3, y4)) → mj_G D cy ad bs X cX13_fields 7 yX13_fields.cls none yX13_fields.name (9 + (k + 1)) 0 0 1065 (t_P (fun v s' => v = none ∧ Q (.inr (s')))) 45 [(0, .ref 950), (1, .int (y0)), (2, .int (y1)), (3, .int (y2)), (4, .int (y3))] [] (t_m y4) 1065 0 0) (hk : t_hk (k_X13_fields_45 rc l1 l2 l3 l4 s) Q) : mj_G D cy ad bs X cX13_fields 7 yX13_fields.cls none yX13_fields.name (9 + (k + 1)) 0 0 1065 (t_P (fun v s' => v = none ∧ Q (.inr (s')))) 45 [(0, .ref 950), (1, .int l1), (2, .int l2), (3, .int l3), (4, .int l4)] [] (t_m s) 1065 0 0 := by
  refine mj_iload_n dX13_fields_45 3 rfl ?_
  refine mj_if_eq 197 dX13_fields_46 (by decide) (fun z => t_posK hk z (fun hk => ?_)) (fun z => t_negK hk z (fun hk => ?_))
  · refine mj_sublv [(0, .ref 950)] [0] rfl ?_
    refine t_mapK hk (fun hk => ?_)
    exact B_X13_fields_197 rc H _ _ hk
  · refine mj_aload_n dX13_fields_49 0 rfl ?_
    refine t_getI dX13_fields_50 F_X13_375 qf_950_2 ?_
    refine mj_if_ne 197 dX13_fields_53 (by decide) (fun z => t_negK hk z (fun hk => ?_)) (fun z => t_posK hk z (fun hk => ?_))
    · refine mj_sublv [(0, .ref 950)] [0] rfl ?_
      refine t_mapK hk (fun hk => ?_)
      exact B_X13_fields_197 rc H _ _ hk
    · refine mj_aload_n dX13_fields_56 0 rfl ?_
      refine t_bndK hk (fun r1 er1 hk => ?_)
      refine t_callViE dX13_fields_57 M_X13_freeName (C_X13_freeName _ _ er1) ML_X13_535 IM_X13_freeName SE_X13_freeName qc_950 rfl (As := []) rfl rfl (by omega) (Nat.le_of_ble_eq_true rfl) (Nat.le_of_ble_eq_true rfl) (Nat.le_of_ble_eq_true rfl) ?_
      refine mj_istore (lv2 := [(5, .int r1.1), (0, .ref 950), (1, .int l1), (2, .int l2), (3, .int l3), (4, .int l4)]) dX13_fields_60 (by decide) rfl ?_
      refine mj_aload_n dX13_fields_62 1 rfl ?_
      refine t_getI dX13_fields_63 F_X13_375 qf_950_2 ?_
      refine mj_if_ne 89 dX13_fields_66 (by decide) (fun z => t_negK hk z (fun hk => ?_)) (fun z => t_posK hk z (fun hk => ?_))
      · refine mj_sublv [(0, .ref 950), (1, .int l1), (2, .int l2), (4, .int l4), (5, .int r1.1)] [1, 2, 3, 5, 0] rfl ?_
        exact B_X13_fields_89 rc H _ _ _ _ _ _ (fun y0 y1 y2 y3 y4 hx => Hb45 y0 y1 y2 y3 y4 hx) hk
      · refine mj_aload_n dX13_fields_69 1 rfl ?_
        refine mj_iload_n dX13_fields_70 2 rfl ?_
        refine mj_iload dX13_fields_71 0 rfl ?_
        refine mj_i2l (v := r1.1.toInt64) dX13_fields_73 rfl ?_
        refine t_bndK hk (fun r2 er2 hk => ?_)
        refine t_callViP dX13_fields_74 M_X13_hasPart (C_X13_hasPart _ _ _ _ er2) ML_X13_538 IM_X13_hasPart SE_X13_hasPart qc_950 rfl (As := [.int l1, .long r1.1.toInt64]) rfl rfl (by omega) (Nat.le_of_ble_eq_true rfl) (Nat.le_of_ble_eq_true rfl) (Nat.le_of_ble_eq_true rfl) ?_
        refine mj_if_eq 89 dX13_fields_77 (by decide) (fun z => t_posK hk z (fun hk => ?_)) (fun z => t_negK hk z (fun hk => ?_))
        · refine mj_sublv [(0, .ref 950), (1, .int l1), (2, .int l2), (4, .int l4), (5, .int r1.1)] [1, 2, 3, 5, 0] rfl ?_
          exact B_X13_fields_89 rc H _ _ _ _ _ _ (fun y0 y1 y2 y3 y4 hx => Hb45 y0 y1 y2 y3 y4 hx) hk
        · refine mj_aload_n dX13_fields_80 1 rfl ?_
          refine mj_iconst (v := 3) dX13_fields_81 (by decide) ?_
          refine mj_aload_n dX13_fields_82 1 rfl ?_
          refine t_getI dX13_fields_83 F_X13_391 qf_950_6 ?_
          refine t_bndK hk (fun r3 er3 hk => ?_)
          refine t_callVvE dX13_fields_86 M_X13_fail (C_X13_fail _ _ _ _ er3) ML_X13_411 IM_X13_fail SE_X13_fail qc_950 rfl (As := [.int 3, .int (r1.2.1 950 6)]) rfl rfl (by omega) (Nat.le_of_ble_eq_true rfl) (Nat.le_of_ble_eq_true rfl) (Nat.le_of_ble_eq_true rfl) ?_
          refine mj_sublv [(0, .ref 950), (1, .int l1), (2, .int l2), (4, .int l4), (5, .int r1.1)] [1, 2, 3, 5, 0] rfl ?_
          exact B_X13_fields_89 rc H _ _ _ _ _ _ (fun y0 y1 y2 y3 y4 hx => Hb45 y0 y1 y2 y3 y4 hx) hk
noncomputable def b_X13_fields_45 (rc : RT_X13_fields) (x : Int32 × Int32 × Int32 × Int32 × t_S) : Option ((Int32 × Int32 × Int32 × Int32 × t_S) ⊕ (t_S)) := k_X13_fields_45 rc x.1 x.2.1 x.2.2.1 x.2.2.2.1 x.2.2.2.2
set_option maxRecDepth 4000 in
set_option maxHeartbeats 1000000 in
theorem LH_X13_fields_45 {D : va_G} {cy : Nat → ClassId} {ad : Nat → Nat} {bs : Nat} {X : State → Heap → Prop} (rc : RT_X13_fields) {k : Nat} (H : RH_X13_fields rc k) : ∀ (n : Nat) (y0 : Int32) (y1 : Int32) (y2 : Int32) (y3 : Int32) (y4 : t_S) (Q : t_S → Prop) (hk : t_hk (t_loop (b_X13_fields_45 rc) n (y0, y1, y2, y3, y4)) Q), mj_G D cy ad bs X cX13_fields 7 yX13_fields.cls none yX13_fields.name (9 + (k + 1)) 0 0 1065 (t_P (fun v s' => v = none ∧ Q (s'))) 45 [(0, .ref 950), (1, .int (y0)), (2, .int (y1)), (3, .int (y2)), (4, .int (y3))] [] (t_m y4) 1065 0 0 := by
  intro n
  induction n with
  | zero => intro y0 y1 y2 y3 y4 Q hk; obtain ⟨r, hr, _⟩ := hk; cases hr
  | succ n ih =>
    intro y0 y1 y2 y3 y4 Q hk
    exact B_X13_fields_45 rc H y0 y1 y2 y3 y4 (fun y => t_lq (b_X13_fields_45 rc) n Q y) (fun y0' y1' y2' y3' y4' hy => ih y0' y1' y2' y3' y4' Q hy) (t_lp (b := b_X13_fields_45 rc) (n := n) (x := (y0, y1, y2, y3, y4)) hk)
noncomputable def k_X13_fields_41 (rc : RT_X13_fields) (l1 : Int32) (l2 : Int32) (k0 : Int32) (s : t_S) : Option (t_S) :=
 t_loop (b_X13_fields_45 rc) t_N (l1, l2, k0, 0, s)
set_option maxRecDepth 4000 in
set_option maxHeartbeats 1000000 in
theorem B_X13_fields_41 {D : va_G} {cy : Nat → ClassId} {ad : Nat → Nat} {bs : Nat} {X : State → Heap → Prop} (rc : RT_X13_fields) {k : Nat} (H : RH_X13_fields rc k) (l1 : Int32) (l2 : Int32) (k0 : Int32) (s : t_S) (Q : t_S → Prop) (hk : t_hk (k_X13_fields_41 rc l1 l2 k0 s) Q) : mj_G D cy ad bs X cX13_fields 7 yX13_fields.cls none yX13_fields.name (9 + (k + 1)) 0 0 1065 (t_P (fun v s' => v = none ∧ Q (s'))) 41 [(0, .ref 950), (1, .int l1), (2, .int l2)] [.int k0] (t_m s) 1065 0 0 := by
  refine mj_istore_n 3 (lv2 := [(3, .int k0), (0, .ref 950), (1, .int l1), (2, .int l2)]) dX13_fields_41 rfl (by decide) rfl ?_
  refine mj_iconst (v := 0) dX13_fields_42 (by decide) ?_
  refine mj_istore (lv2 := [(4, .int 0), (3, .int k0), (0, .ref 950), (1, .int l1), (2, .int l2)]) dX13_fields_43 (by decide) rfl ?_
  refine mj_sublv [(0, .ref 950), (1, .int l1), (2, .int l2), (3, .int k0), (4, .int 0)] [2, 3, 4, 1, 0] rfl ?_
  exact LH_X13_fields_45 rc H _ l1 l2 k0 0 s _ hk
noncomputable def k_X13_fields_36 (rc : RT_X13_fields) (l1 : Int32) (l2 : Int32) (s : t_S) : Option (t_S) :=
 k_X13_fields_41 rc l1 l2 1 s
set_option maxRecDepth 4000 in
set_option maxHeartbeats 1000000 in
theorem B_X13_fields_36 {D : va_G} {cy : Nat → ClassId} {ad : Nat → Nat} {bs : Nat} {X : State → Heap → Prop} (rc : RT_X13_fields) {k : Nat} (H : RH_X13_fields rc k) (l1 : Int32) (l2 : Int32) (s : t_S) (Q : t_S → Prop) (hk : t_hk (k_X13_fields_36 rc l1 l2 s) Q) : mj_G D cy ad bs X cX13_fields 7 yX13_fields.cls none yX13_fields.name (9 + (k + 1)) 0 0 1065 (t_P (fun v s' => v = none ∧ Q (s'))) 36 [(0, .ref 950), (1, .int l1), (2, .int l2)] [] (t_m s) 1065 0 0 := by
  refine mj_iconst (v := 1) dX13_fields_36 (by decide) ?_
  refine mj_goto 41 dX13_fields_37 (by decide) ?_
  exact B_X13_fields_41 rc H _ _ _ _ _ hk
noncomputable def k_X13_fields_16 (rc : RT_X13_fields) (l1 : Int32) (k0 : Int32) (s : t_S) : Option (t_S) :=
 (f_X13_mustBe (123 : Int32) s).bind (fun r1 =>
 if k0 = (0 : Int32) then (if (f_X13_is (125 : Int32) r1) = (0 : Int32) then (k_X13_fields_36 rc l1 k0 r1)
 else (k_X13_fields_41 rc l1 k0 0 r1))
 else (k_X13_fields_36 rc l1 k0 r1))
set_option maxRecDepth 4000 in
set_option maxHeartbeats 1000000 in
theorem B_X13_fields_16 {D : va_G} {cy : Nat → ClassId} {ad : Nat → Nat} {bs : Nat} {X : State → Heap → Prop} (rc : RT_X13_fields) {k : Nat} (H : RH_X13_fields rc k) (l1 : Int32) (k0 : Int32) (s : t_S) (Q : t_S → Prop) (hk : t_hk (k_X13_fields_16 rc l1 k0 s) Q) : mj_G D cy ad bs X cX13_fields 7 yX13_fields.cls none yX13_fields.name (9 + (k + 1)) 0 0 1065 (t_P (fun v s' => v = none ∧ Q (s'))) 16 [(0, .ref 950), (1, .int l1)] [.int k0] (t_m s) 1065 0 0 := by
  refine mj_istore_n 2 (lv2 := [(2, .int k0), (0, .ref 950), (1, .int l1)]) dX13_fields_16 rfl (by decide) rfl ?_
  refine mj_aload_n dX13_fields_17 1 rfl ?_
  refine mj_bipush (v := 123) dX13_fields_18 (by decide) ?_
  refine t_bndK hk (fun r1 er1 hk => ?_)
  refine t_callVvE dX13_fields_20 M_X13_mustBe (C_X13_mustBe _ _ _ er1) ML_X13_528 IM_X13_mustBe SE_X13_mustBe qc_950 rfl (As := [.int 123]) rfl rfl (by omega) (Nat.le_of_ble_eq_true rfl) (Nat.le_of_ble_eq_true rfl) (Nat.le_of_ble_eq_true rfl) ?_
  refine mj_iload_n dX13_fields_23 0 rfl ?_
  refine mj_if_ne 36 dX13_fields_24 (by decide) (fun z => t_negK hk z (fun hk => ?_)) (fun z => t_posK hk z (fun hk => ?_))
  · refine mj_sublv [(0, .ref 950), (1, .int l1), (2, .int k0)] [1, 2, 0] rfl ?_
    exact B_X13_fields_36 rc H _ _ _ _ hk
  · refine mj_aload_n dX13_fields_27 1 rfl ?_
    refine mj_bipush (v := 125) dX13_fields_28 (by decide) ?_
    refine t_callViP dX13_fields_30 M_X13_is (C_X13_is _ _) ML_X13_449 IM_X13_is SE_X13_is qc_950 rfl (As := [.int 125]) rfl rfl (by omega) (Nat.le_of_ble_eq_true rfl) (Nat.le_of_ble_eq_true rfl) (Nat.le_of_ble_eq_true rfl) ?_
    refine mj_if_ne 40 dX13_fields_33 (by decide) (fun z => t_negK hk z (fun hk => ?_)) (fun z => t_posK hk z (fun hk => ?_))
    · refine mj_iconst (v := 0) dX13_fields_40 (by decide) ?_
      refine mj_sublv [(0, .ref 950), (1, .int l1), (2, .int k0)] [1, 2, 0] rfl ?_
      exact B_X13_fields_41 rc H _ _ _ _ _ hk
    · refine mj_sublv [(0, .ref 950), (1, .int l1), (2, .int k0)] [1, 2, 0] rfl ?_
      exact B_X13_fields_36 rc H _ _ _ _ hk
noncomputable def m_X13_fields (rc : RT_X13_fields) (x2 : Int32) (s : t_S) : Option (t_S) :=
 if t_ix x2 13000 = true then
  if (s.1 955 (x2.toNatClampNeg)) = (6 : Int32) then (k_X13_fields_16 rc x2 1 s)
 else (k_X13_fields_16 rc x2 0 s)
else none
set_option maxRecDepth 4000 in
set_option maxHeartbeats 1000000 in
theorem E_X13_fields (rc : RT_X13_fields) {k : Nat} (H : RH_X13_fields rc k) (x2 : Int32) (s : t_S) (r : t_S) (hr : m_X13_fields rc x2 s = some r) : t_C yX13_fields cX13_fields 7 none (9 + (k + 1)) [.ref 950, .int x2] s (fun v s' => v = none ∧ s' = r) := by
  refine t_C.imp (P := fun v s' => v = none ∧ (fun q => q = r) (s')) (t_C.of (by decide +kernel) (Nat.le_of_ble_eq_true rfl) ?_) (fun v s' hp => hp)
  intro D cy ad bs X
  have hk : t_hk (m_X13_fields rc x2 s) (fun q => q = r) := ⟨r, hr, rfl⟩
  show mj_G D cy ad bs X cX13_fields 7 yX13_fields.cls none yX13_fields.name (9 + (k + 1)) 0 0 1065 (t_P (fun v s' => v = none ∧ (fun q => q = r) (s'))) 0 [(0, .ref 950), (1, .int x2)] [] (t_m s) 1065 0 0
  refine mj_aload_n dX13_fields_0 0 rfl ?_
  refine t_getR 955 dX13_fields_1 F_X13_26 qr_950_17 ?_
  refine mj_iload_n dX13_fields_4 1 rfl ?_
  refine t_chkK hk (fun c0 hk => ?_)
  refine t_iald dX13_fields_5 qa_955 (t_ixv c0) ?_
  refine mj_bipush (v := 6) dX13_fields_6 (by decide) ?_
  refine mj_icmp_ne 15 dX13_fields_8 (by decide) (fun z => t_negK hk z (fun hk => ?_)) (fun z => t_posK hk z (fun hk => ?_))
  · refine mj_iconst (v := 0) dX13_fields_15 (by decide) ?_
    exact B_X13_fields_16 rc H _ _ _ _ hk
  · refine mj_iconst (v := 1) dX13_fields_11 (by decide) ?_
    refine mj_goto 16 dX13_fields_12 (by decide) ?_
    exact B_X13_fields_16 rc H _ _ _ _ hk
noncomputable def k_X13_type_66 (rc : RT_X13_fields) (k0 : Int32) (s : t_S) : Option (Int32 × t_S) :=
 (f_X13_fail k0 (s.1 950 6) s).bind (fun r1 =>
 some ((0 : Int32), r1))
set_option maxRecDepth 4000 in
set_option maxHeartbeats 1000000 in
theorem B_X13_type_66 {D : va_G} {cy : Nat → ClassId} {ad : Nat → Nat} {bs : Nat} {X : State → Heap → Prop} (rc : RT_X13_fields) {k : Nat} (H : RH_X13_fields rc k) (k0 : Int32) (s : t_S) (Q : Int32 × t_S → Prop) (hk : t_hk (k_X13_type_66 rc k0 s) Q) : mj_G D cy ad bs X cX13_type 3 yX13_type.cls (some .int) yX13_type.name (9 + (k + 1)) 0 0 1065 (t_P (fun v s' => ∃ x, v = some (.int x) ∧ Q ((x, s')))) 66 [(0, .ref 950)] [.int k0, .ref 950] (t_m s) 1065 0 0 := by
  refine mj_aload_n dX13_type_66 0 rfl ?_
  refine t_getI dX13_type_67 F_X13_391 qf_950_6 ?_
  refine t_bndK hk (fun r1 er1 hk => ?_)
  refine t_callVvE dX13_type_70 M_X13_fail (C_X13_fail _ _ _ _ er1) ML_X13_411 IM_X13_fail SE_X13_fail qc_950 rfl (As := [.int k0, .int (s.1 950 6)]) rfl rfl (by omega) (Nat.le_of_ble_eq_true rfl) (Nat.le_of_ble_eq_true rfl) (Nat.le_of_ble_eq_true rfl) ?_
  refine mj_iconst (v := 0) dX13_type_73 (by decide) ?_
  exact t_somK hk (fun hf => t_iret dX13_type_74 rfl rfl ⟨_, rfl, hf⟩ (Nat.le_of_ble_eq_true rfl) (Nat.le_of_ble_eq_true rfl))
noncomputable def k_X13_type_55 (rc : RT_X13_fields) (k0 : Int32) (s : t_S) : Option (Int32 × t_S) :=
 if k0 = (0 : Int32) then (k_X13_type_66 rc 2 s)
 else (k_X13_type_66 rc 5 s)
set_option maxRecDepth 4000 in
set_option maxHeartbeats 1000000 in
theorem B_X13_type_55 {D : va_G} {cy : Nat → ClassId} {ad : Nat → Nat} {bs : Nat} {X : State → Heap → Prop} (rc : RT_X13_fields) {k : Nat} (H : RH_X13_fields rc k) (k0 : Int32) (s : t_S) (Q : Int32 × t_S → Prop) (hk : t_hk (k_X13_type_55 rc k0 s) Q) : mj_G D cy ad bs X cX13_type 3 yX13_type.cls (some .int) yX13_type.name (9 + (k + 1)) 0 0 1065 (t_P (fun v s' => ∃ x, v = some (.int x) ∧ Q ((x, s')))) 55 [(0, .ref 950)] [.int k0] (t_m s) 1065 0 0 := by
  refine mj_istore_n 1 (lv2 := [(1, .int k0), (0, .ref 950)]) dX13_type_55 rfl (by decide) rfl ?_
  refine mj_aload_n dX13_type_56 1 rfl ?_
  refine mj_iload_n dX13_type_57 0 rfl ?_
  refine mj_if_eq 65 dX13_type_58 (by decide) (fun z => t_posK hk z (fun hk => ?_)) (fun z => t_negK hk z (fun hk => ?_))
  · refine mj_iconst (v := 2) dX13_type_65 (by decide) ?_
    refine mj_sublv [(0, .ref 950)] [1] rfl ?_
    exact B_X13_type_66 rc H _ _ _ hk
  · refine mj_iconst (v := 5) dX13_type_61 (by decide) ?_
    refine mj_goto 66 dX13_type_62 (by decide) ?_
    refine mj_sublv [(0, .ref 950)] [1] rfl ?_
    exact B_X13_type_66 rc H _ _ _ hk
noncomputable def k_X13_type_50 (rc : RT_X13_fields) (s : t_S) : Option (Int32 × t_S) :=
 k_X13_type_55 rc 1 s
set_option maxRecDepth 4000 in
set_option maxHeartbeats 1000000 in
theorem B_X13_type_50 {D : va_G} {cy : Nat → ClassId} {ad : Nat → Nat} {bs : Nat} {X : State → Heap → Prop} (rc : RT_X13_fields) {k : Nat} (H : RH_X13_fields rc k) (s : t_S) (Q : Int32 × t_S → Prop) (hk : t_hk (k_X13_type_50 rc s) Q) : mj_G D cy ad bs X cX13_type 3 yX13_type.cls (some .int) yX13_type.name (9 + (k + 1)) 0 0 1065 (t_P (fun v s' => ∃ x, v = some (.int x) ∧ Q ((x, s')))) 50 [(0, .ref 950)] [] (t_m s) 1065 0 0 := by
  refine mj_iconst (v := 1) dX13_type_50 (by decide) ?_
  refine mj_goto 55 dX13_type_51 (by decide) ?_
  exact B_X13_type_55 rc H _ _ _ hk
noncomputable def k_X13_type_183 (rc : RT_X13_fields) (l1 : Int32) (s : t_S) : Option (Int32 × t_S) :=
 t_let (t_setI s 950 31 ((s.1 950 31) - (1 : Int32))) (fun s1 =>
 some (l1, s1))
set_option maxRecDepth 4000 in
set_option maxHeartbeats 1000000 in
theorem B_X13_type_183 {D : va_G} {cy : Nat → ClassId} {ad : Nat → Nat} {bs : Nat} {X : State → Heap → Prop} (rc : RT_X13_fields) {k : Nat} (H : RH_X13_fields rc k) (l1 : Int32) (s : t_S) (Q : Int32 × t_S → Prop) (hk : t_hk (k_X13_type_183 rc l1 s) Q) : mj_G D cy ad bs X cX13_type 3 yX13_type.cls (some .int) yX13_type.name (9 + (k + 1)) 0 0 1065 (t_P (fun v s' => ∃ x, v = some (.int x) ∧ Q ((x, s')))) 183 [(0, .ref 950), (1, .int l1)] [] (t_m s) 1065 0 0 := by
  refine mj_aload_n dX13_type_183 0 rfl ?_
  refine mj_dup dX13_type_184 rfl ?_
  refine t_getI dX13_type_185 F_X13_485 qf_950_31 ?_
  refine mj_iconst (v := 1) dX13_type_188 (by decide) ?_
  refine mj_isub dX13_type_189 ?_
  refine t_putIK dX13_type_190 F_X13_485 qf_950_31 rfl (fun s1 ws1 => t_letE hk ws1 (fun hk => ?_))
  refine mj_iload_n dX13_type_193 1 rfl ?_
  exact t_somK hk (fun hf => t_iret dX13_type_194 rfl rfl ⟨_, rfl, hf⟩ (Nat.le_of_ble_eq_true rfl) (Nat.le_of_ble_eq_true rfl))
noncomputable def k_X13_type_168 (rc : RT_X13_fields) (l1 : Int32) (s : t_S) : Option (Int32 × t_S) :=
 (f_X13_mustWord (17 : Int32) s).bind (fun r1 =>
 (rc.2 r1).bind (fun r2 =>
 (f_X13_hang l1 r2.1 r2.2).bind (fun r3 =>
 k_X13_type_183 rc l1 r3)))
set_option maxRecDepth 4000 in
set_option maxHeartbeats 1000000 in
theorem B_X13_type_168 {D : va_G} {cy : Nat → ClassId} {ad : Nat → Nat} {bs : Nat} {X : State → Heap → Prop} (rc : RT_X13_fields) {k : Nat} (H : RH_X13_fields rc k) (l1 : Int32) (s : t_S) (Q : Int32 × t_S → Prop) (hk : t_hk (k_X13_type_168 rc l1 s) Q) : mj_G D cy ad bs X cX13_type 3 yX13_type.cls (some .int) yX13_type.name (9 + (k + 1)) 0 0 1065 (t_P (fun v s' => ∃ x, v = some (.int x) ∧ Q ((x, s')))) 168 [(0, .ref 950), (1, .int l1)] [] (t_m s) 1065 0 0 := by
  refine mj_aload_n dX13_type_168 0 rfl ?_
  refine mj_bipush (v := 17) dX13_type_169 (by decide) ?_
  refine t_bndK hk (fun r1 er1 hk => ?_)
  refine t_callVvE dX13_type_171 M_X13_mustWord (C_X13_mustWord _ _ _ er1) ML_X13_500 IM_X13_mustWord SE_X13_mustWord qc_950 rfl (As := [.int 17]) rfl rfl (by omega) (Nat.le_of_ble_eq_true rfl) (Nat.le_of_ble_eq_true rfl) (Nat.le_of_ble_eq_true rfl) ?_
  refine mj_aload_n dX13_type_174 0 rfl ?_
  refine mj_iload_n dX13_type_175 1 rfl ?_
  refine mj_aload_n dX13_type_176 0 rfl ?_
  refine t_bndK hk (fun r2 er2 hk => ?_)
  refine t_callSiE dX13_type_177 M_X13_type (H.2 _ _ er2) ML_X13_503 SM_X13_type (As := [.ref 950]) rfl rfl (by omega) (Nat.le_of_ble_eq_true rfl) (Nat.le_of_ble_eq_true rfl) (Nat.le_of_ble_eq_true rfl) ?_
  refine t_bndK hk (fun r3 er3 hk => ?_)
  refine t_callVvE dX13_type_180 M_X13_hang (C_X13_hang _ _ _ _ er3) ML_X13_507 IM_X13_hang SE_X13_hang qc_950 rfl (As := [.int l1, .int r2.1]) rfl rfl (by omega) (Nat.le_of_ble_eq_true rfl) (Nat.le_of_ble_eq_true rfl) (Nat.le_of_ble_eq_true rfl) ?_
  exact B_X13_type_183 rc H _ _ _ hk
noncomputable def k_X13_type_119 (rc : RT_X13_fields) (l1 : Int32) (s : t_S) : Option (Int32 × t_S) :=
 (rc.1 l1 s).bind (fun r1 =>
 k_X13_type_183 rc l1 r1)
set_option maxRecDepth 4000 in
set_option maxHeartbeats 1000000 in
theorem B_X13_type_119 {D : va_G} {cy : Nat → ClassId} {ad : Nat → Nat} {bs : Nat} {X : State → Heap → Prop} (rc : RT_X13_fields) {k : Nat} (H : RH_X13_fields rc k) (l1 : Int32) (s : t_S) (Q : Int32 × t_S → Prop) (hk : t_hk (k_X13_type_119 rc l1 s) Q) : mj_G D cy ad bs X cX13_type 3 yX13_type.cls (some .int) yX13_type.name (9 + (k + 1)) 0 0 1065 (t_P (fun v s' => ∃ x, v = some (.int x) ∧ Q ((x, s')))) 119 [(0, .ref 950), (1, .int l1)] [] (t_m s) 1065 0 0 := by
  refine mj_aload_n dX13_type_119 0 rfl ?_
  refine mj_iload_n dX13_type_120 1 rfl ?_
  refine t_bndK hk (fun r1 er1 hk => ?_)
  refine t_callSvE dX13_type_121 M_X13_fields (H.1 _ _ _ er1) ML_X13_493 SM_X13_fields (As := [.ref 950, .int l1]) rfl rfl (by omega) (Nat.le_of_ble_eq_true rfl) (Nat.le_of_ble_eq_true rfl) (Nat.le_of_ble_eq_true rfl) ?_
  refine mj_goto 183 dX13_type_124 (by decide) ?_
  exact B_X13_type_183 rc H _ _ _ hk
noncomputable def k_X13_type_107 (rc : RT_X13_fields) (l1 : Int32) (k0 : Int32) (s : t_S) : Option (Int32 × t_S) :=
 if k0 = (5 : Int32) then (k_X13_type_119 rc l1 s)
 else (if k0 = (6 : Int32) then (k_X13_type_119 rc l1 s)
 else (if k0 = (7 : Int32) then (if (f_X13_is (40 : Int32) s) = (0 : Int32) then (if t_ix l1 13000 = true then
  t_let (t_setJ s 957 (l1.toNatClampNeg) (0 : Int64)) (fun s1 =>
 t_let (t_setJ s1 958 (l1.toNatClampNeg) (16 : Int64)) (fun s2 =>
 k_X13_type_168 rc l1 s2))
else none)
 else ((f_X13_span l1 (16 : Int32) s).bind (fun r3 =>
 k_X13_type_168 rc l1 r3)))
 else (k_X13_type_183 rc l1 s)))
set_option maxRecDepth 4000 in
set_option maxHeartbeats 1000000 in
theorem B_X13_type_107 {D : va_G} {cy : Nat → ClassId} {ad : Nat → Nat} {bs : Nat} {X : State → Heap → Prop} (rc : RT_X13_fields) {k : Nat} (H : RH_X13_fields rc k) (l1 : Int32) (k0 : Int32) (s : t_S) (Q : Int32 × t_S → Prop) (hk : t_hk (k_X13_type_107 rc l1 k0 s) Q) : mj_G D cy ad bs X cX13_type 3 yX13_type.cls (some .int) yX13_type.name (9 + (k + 1)) 0 0 1065 (t_P (fun v s' => ∃ x, v = some (.int x) ∧ Q ((x, s')))) 107 [(0, .ref 950), (1, .int l1)] [.int k0] (t_m s) 1065 0 0 := by
  refine mj_istore_n 2 (lv2 := [(2, .int k0), (0, .ref 950), (1, .int l1)]) dX13_type_107 rfl (by decide) rfl ?_
  refine mj_iload_n dX13_type_108 0 rfl ?_
  refine mj_iconst (v := 5) dX13_type_109 (by decide) ?_
  refine mj_icmp_eq 119 dX13_type_110 (by decide) (fun z => t_posK hk z (fun hk => ?_)) (fun z => t_negK hk z (fun hk => ?_))
  · refine mj_sublv [(0, .ref 950), (1, .int l1)] [1, 2] rfl ?_
    exact B_X13_type_119 rc H _ _ _ hk
  · refine mj_iload_n dX13_type_113 0 rfl ?_
    refine mj_bipush (v := 6) dX13_type_114 (by decide) ?_
    refine mj_icmp_ne 127 dX13_type_116 (by decide) (fun z => t_negK hk z (fun hk => ?_)) (fun z => t_posK hk z (fun hk => ?_))
    · refine mj_iload_n dX13_type_127 0 rfl ?_
      refine mj_bipush (v := 7) dX13_type_128 (by decide) ?_
      refine mj_icmp_ne 183 dX13_type_130 (by decide) (fun z => t_negK hk z (fun hk => ?_)) (fun z => t_posK hk z (fun hk => ?_))
      · refine mj_sublv [(0, .ref 950), (1, .int l1)] [1, 2] rfl ?_
        exact B_X13_type_183 rc H _ _ _ hk
      · refine mj_aload_n dX13_type_133 1 rfl ?_
        refine mj_bipush (v := 40) dX13_type_134 (by decide) ?_
        refine t_callViP dX13_type_136 M_X13_is (C_X13_is _ _) ML_X13_449 IM_X13_is SE_X13_is qc_950 rfl (As := [.int 40]) rfl rfl (by omega) (Nat.le_of_ble_eq_true rfl) (Nat.le_of_ble_eq_true rfl) (Nat.le_of_ble_eq_true rfl) ?_
        refine mj_if_eq 152 dX13_type_139 (by decide) (fun z => t_posK hk z (fun hk => ?_)) (fun z => t_negK hk z (fun hk => ?_))
        · refine mj_aload_n dX13_type_152 1 rfl ?_
          refine t_getR 957 dX13_type_153 F_X13_32 qr_950_19 ?_
          refine mj_iload_n dX13_type_156 2 rfl ?_
          refine mj_lconst (v := 0) dX13_type_157 (by decide) ?_
          refine t_chkK hk (fun c1 hk => ?_)
          refine t_lastK dX13_type_158 qa_957 (t_ixv c1) (fun s1 ws1 => t_letE hk ws1 (fun hk => ?_))
          refine mj_aload_n dX13_type_159 1 rfl ?_
          refine t_getR 958 dX13_type_160 F_X13_36 qr_950_20 ?_
          refine mj_iload_n dX13_type_163 2 rfl ?_
          refine mj_ldc2 dX13_type_164 K_X13_488 ?_
          refine t_lastK dX13_type_167 qa_958 (t_ixv c1) (fun s2 ws2 => t_letE hk ws2 (fun hk => ?_))
          refine mj_sublv [(0, .ref 950), (1, .int l1)] [1, 2] rfl ?_
          exact B_X13_type_168 rc H _ _ _ hk
        · refine mj_aload_n dX13_type_142 1 rfl ?_
          refine mj_iload_n dX13_type_143 2 rfl ?_
          refine mj_bipush (v := 16) dX13_type_144 (by decide) ?_
          refine t_bndK hk (fun r3 er3 hk => ?_)
          refine t_callVvE dX13_type_146 M_X13_span (C_X13_span _ _ _ _ er3) ML_X13_497 IM_X13_span SE_X13_span qc_950 rfl (As := [.int l1, .int 16]) rfl rfl (by omega) (Nat.le_of_ble_eq_true rfl) (Nat.le_of_ble_eq_true rfl) (Nat.le_of_ble_eq_true rfl) ?_
          refine mj_goto 168 dX13_type_149 (by decide) ?_
          refine mj_sublv [(0, .ref 950), (1, .int l1)] [1, 2] rfl ?_
          exact B_X13_type_168 rc H _ _ _ hk
    · refine mj_sublv [(0, .ref 950), (1, .int l1)] [1, 2] rfl ?_
      exact B_X13_type_119 rc H _ _ _ hk
noncomputable def k_X13_type_54 (rc : RT_X13_fields) (s : t_S) : Option (Int32 × t_S) :=
 k_X13_type_55 rc 0 s
set_option maxRecDepth 4000 in
set_option maxHeartbeats 1000000 in
theorem B_X13_type_54 {D : va_G} {cy : Nat → ClassId} {ad : Nat → Nat} {bs : Nat} {X : State → Heap → Prop} (rc : RT_X13_fields) {k : Nat} (H : RH_X13_fields rc k) (s : t_S) (Q : Int32 × t_S → Prop) (hk : t_hk (k_X13_type_54 rc s) Q) : mj_G D cy ad bs X cX13_type 3 yX13_type.cls (some .int) yX13_type.name (9 + (k + 1)) 0 0 1065 (t_P (fun v s' => ∃ x, v = some (.int x) ∧ Q ((x, s')))) 54 [(0, .ref 950)] [] (t_m s) 1065 0 0 := by
  refine mj_iconst (v := 0) dX13_type_54 (by decide) ?_
  exact B_X13_type_55 rc H _ _ _ hk
noncomputable def m_X13_type (rc : RT_X13_fields) (s : t_S) : Option (Int32 × t_S) :=
 if (s.1 950 2) = (0 : Int32) then (if (s.1 950 31) ≤ (16 : Int32) then (t_let (t_setI s 950 31 ((s.1 950 31) + (1 : Int32))) (fun s1 =>
 (f_X13_typeHere s1).bind (fun r1 =>
 if (r1.2.1 950 2) = (0 : Int32) then (if t_ix r1.1 13000 = true then
  k_X13_type_107 rc r1.1 (r1.2.1 955 (r1.1.toNatClampNeg)) r1.2
else none)
 else (k_X13_type_107 rc r1.1 0 r1.2))))
 else (if (s.1 950 5) = (1 : Int32) then (if (s.1 950 10) < (0 : Int32) then (k_X13_type_50 rc s)
 else (if (f_X13_in ((s.1 950 10).toInt64) (10 : Int64) (16 : Int64) s) = (0 : Int32) then (k_X13_type_54 rc s)
 else (k_X13_type_50 rc s)))
 else (k_X13_type_54 rc s)))
 else (some ((0 : Int32), s))
set_option maxRecDepth 4000 in
set_option maxHeartbeats 1000000 in
theorem E_X13_type (rc : RT_X13_fields) {k : Nat} (H : RH_X13_fields rc k) (s : t_S) (r : Int32 × t_S) (hr : m_X13_type rc s = some r) : t_C yX13_type cX13_type 3 (some .int) (9 + (k + 1)) [.ref 950] s (fun v s' => v = some (.int r.1) ∧ s' = r.2) := by
  refine t_C.imp (P := fun v s' => ∃ x, v = some (.int x) ∧ (fun q => q = r) ((x, s'))) (t_C.of (by decide +kernel) (Nat.le_of_ble_eq_true rfl) ?_) (fun v s' hp => by obtain ⟨x, rfl, rfl⟩ := hp; exact ⟨rfl, rfl⟩)
  intro D cy ad bs X
  have hk : t_hk (m_X13_type rc s) (fun q => q = r) := ⟨r, hr, rfl⟩
  show mj_G D cy ad bs X cX13_type 3 yX13_type.cls (some .int) yX13_type.name (9 + (k + 1)) 0 0 1065 (t_P (fun v s' => ∃ x, v = some (.int x) ∧ (fun q => q = r) ((x, s')))) 0 [(0, .ref 950)] [] (t_m s) 1065 0 0
  refine mj_aload_n dX13_type_0 0 rfl ?_
  refine t_getI dX13_type_1 F_X13_375 qf_950_2 ?_
  refine mj_if_eq 9 dX13_type_4 (by decide) (fun z => t_posK hk z (fun hk => ?_)) (fun z => t_negK hk z (fun hk => ?_))
  · refine mj_aload_n dX13_type_9 0 rfl ?_
    refine t_getI dX13_type_10 F_X13_485 qf_950_31 ?_
    refine mj_bipush (v := 16) dX13_type_13 (by decide) ?_
    refine mj_icmp_le 75 dX13_type_15 (by decide) (fun z => t_posK hk z (fun hk => ?_)) (fun z => t_negK hk z (fun hk => ?_))
    · refine mj_aload_n dX13_type_75 0 rfl ?_
      refine mj_dup dX13_type_76 rfl ?_
      refine t_getI dX13_type_77 F_X13_485 qf_950_31 ?_
      refine mj_iconst (v := 1) dX13_type_80 (by decide) ?_
      refine mj_iadd dX13_type_81 ?_
      refine t_putIK dX13_type_82 F_X13_485 qf_950_31 rfl (fun s1 ws1 => t_letE hk ws1 (fun hk => ?_))
      refine mj_aload_n dX13_type_85 0 rfl ?_
      refine t_bndK hk (fun r1 er1 hk => ?_)
      refine t_callViE dX13_type_86 M_X13_typeHere (C_X13_typeHere _ _ er1) ML_X13_490 IM_X13_typeHere SE_X13_typeHere qc_950 rfl (As := []) rfl rfl (by omega) (Nat.le_of_ble_eq_true rfl) (Nat.le_of_ble_eq_true rfl) (Nat.le_of_ble_eq_true rfl) ?_
      refine mj_istore_n 1 (lv2 := [(1, .int r1.1), (0, .ref 950)]) dX13_type_89 rfl (by decide) rfl ?_
      refine mj_aload_n dX13_type_90 1 rfl ?_
      refine t_getI dX13_type_91 F_X13_375 qf_950_2 ?_
      refine mj_if_ne 106 dX13_type_94 (by decide) (fun z => t_negK hk z (fun hk => ?_)) (fun z => t_posK hk z (fun hk => ?_))
      · refine mj_iconst (v := 0) dX13_type_106 (by decide) ?_
        refine mj_sublv [(0, .ref 950), (1, .int r1.1)] [1, 0] rfl ?_
        exact B_X13_type_107 rc H _ _ _ _ hk
      · refine mj_aload_n dX13_type_97 1 rfl ?_
        refine t_getR 955 dX13_type_98 F_X13_26 qr_950_17 ?_
        refine mj_iload_n dX13_type_101 0 rfl ?_
        refine t_chkK hk (fun c1 hk => ?_)
        refine t_iald dX13_type_102 qa_955 (t_ixv c1) ?_
        refine mj_goto 107 dX13_type_103 (by decide) ?_
        refine mj_sublv [(0, .ref 950), (1, .int r1.1)] [1, 0] rfl ?_
        exact B_X13_type_107 rc H _ _ _ _ hk
    · refine mj_aload_n dX13_type_18 0 rfl ?_
      refine t_getI dX13_type_19 F_X13_385 qf_950_5 ?_
      refine mj_iconst (v := 1) dX13_type_22 (by decide) ?_
      refine mj_icmp_ne 54 dX13_type_23 (by decide) (fun z => t_negK hk z (fun hk => ?_)) (fun z => t_posK hk z (fun hk => ?_))
      · exact B_X13_type_54 rc H _ _ hk
      · refine mj_aload_n dX13_type_26 0 rfl ?_
        refine t_getI dX13_type_27 F_X13_397 qf_950_10 ?_
        refine mj_if_lt 50 dX13_type_30 (by decide) (fun z => t_posK hk z (fun hk => ?_)) (fun z => t_negK hk z (fun hk => ?_))
        · exact B_X13_type_50 rc H _ _ hk
        · refine mj_aload_n dX13_type_33 0 rfl ?_
          refine t_getI dX13_type_34 F_X13_397 qf_950_10 ?_
          refine mj_i2l (v := (s.1 950 10).toInt64) dX13_type_37 rfl ?_
          refine mj_ldc2 dX13_type_38 K_X13_419 ?_
          refine mj_ldc2 dX13_type_41 K_X13_488 ?_
          refine t_callSiP dX13_type_44 M_X13_in (C_X13_in _ _ _ _) ML_X13_371 SM_X13_in (As := [.long ((s.1 950 10).toInt64), .long 10, .long 16]) rfl rfl (by omega) (Nat.le_of_ble_eq_true rfl) (Nat.le_of_ble_eq_true rfl) (Nat.le_of_ble_eq_true rfl) ?_
          refine mj_if_eq 54 dX13_type_47 (by decide) (fun z => t_posK hk z (fun hk => ?_)) (fun z => t_negK hk z (fun hk => ?_))
          · exact B_X13_type_54 rc H _ _ hk
          · exact B_X13_type_50 rc H _ _ hk
  · refine mj_iconst (v := 0) dX13_type_7 (by decide) ?_
    exact t_somK hk (fun hf => t_iret dX13_type_8 rfl rfl ⟨_, rfl, hf⟩ (Nat.le_of_ble_eq_true rfl) (Nat.le_of_ble_eq_true rfl))
/-- so many calls deep -/
noncomputable def R_X13_fields : Nat → RT_X13_fields
  | 0 => ⟨fun _ _ => none, fun _ => none⟩
  | k + 1 => ⟨fun x2 s => m_X13_fields (R_X13_fields k) x2 s, fun  s => m_X13_type (R_X13_fields k) s⟩
theorem RR_X13_fields : ∀ k : Nat, RH_X13_fields (R_X13_fields k) k := by
  intro k
  induction k with
  | zero => exact ⟨fun _ _ _ h => (by cases h), fun _ _ h => (by cases h)⟩
  | succ k ih => exact ⟨fun x2 s r h => E_X13_fields (R_X13_fields k) ih x2 s r h, fun  s r h => E_X13_type (R_X13_fields k) ih s r h⟩
noncomputable def f_X13_fields (x2 : Int32) (s : t_S) : Option (t_S) := (R_X13_fields 100).1 x2 s
theorem C_X13_fields (x2 : Int32) (s : t_S) (r : t_S) (hr : f_X13_fields x2 s = some r) : t_C yX13_fields cX13_fields 7 none 109 [.ref 950, .int x2] s (fun v s' => v = none ∧ s' = r) := (RR_X13_fields 100).1 x2 s r hr
noncomputable def f_X13_type (s : t_S) : Option (Int32 × t_S) := (R_X13_fields 100).2 s
theorem C_X13_type (s : t_S) (r : Int32 × t_S) (hr : f_X13_type s = some r) : t_C yX13_type cX13_type 3 (some .int) 109 [.ref 950] s (fun v s' => v = some (.int r.1) ∧ s' = r.2) := (RR_X13_fields 100).2 s r hr

theorem dX13_toneOf_0 : decode cX13_toneOf 0 = .ok (.iload_n 1, 1) := by decide +kernel
theorem dX13_toneOf_1 : decode cX13_toneOf 1 = .ok (.istore_n 2, 1) := by decide +kernel
theorem dX13_toneOf_100 : decode cX13_toneOf 100 = .ok (.iload_n 2, 1) := by decide +kernel
theorem dX13_toneOf_101 : decode cX13_toneOf 101 = .ok (.ireturn, 1) := by decide +kernel
theorem dX13_toneOf_12 : decode cX13_toneOf 12 = .ok (.iload_n 2, 1) := by decide +kernel
theorem dX13_toneOf_13 : decode cX13_toneOf 13 = .ok (.iaload, 1) := by decide +kernel
theorem dX13_toneOf_14 : decode cX13_toneOf 14 = .ok (.bipush 28, 2) := by decide +kernel
theorem dX13_toneOf_16 : decode cX13_toneOf 16 = .ok (.if_icmp .ne 26, 3) := by decide +kernel
theorem dX13_toneOf_19 : decode cX13_toneOf 19 = .ok (.aload_n 0, 1) := by decide +kernel
theorem dX13_toneOf_2 : decode cX13_toneOf 2 = .ok (.iconst 1, 1) := by decide +kernel
theorem dX13_toneOf_20 : decode cX13_toneOf 20 = .ok (.aload_n 0, 1) := by decide +kernel
theorem dX13_toneOf_21 : decode cX13_toneOf 21 = .ok (.getfield 63, 3) := by decide +kernel
theorem dX13_toneOf_24 : decode cX13_toneOf 24 = .ok (.iconst 0, 1) := by decide +kernel
theorem dX13_toneOf_25 : decode cX13_toneOf 25 = .ok (.aload_n 0, 1) := by decide +kernel
theorem dX13_toneOf_26 : decode cX13_toneOf 26 = .ok (.getfield 627, 3) := by decide +kernel
theorem dX13_toneOf_29 : decode cX13_toneOf 29 = .ok (.aload_n 0, 1) := by decide +kernel
theorem dX13_toneOf_3 : decode cX13_toneOf 3 = .ok (.istore_n 3, 1) := by decide +kernel
theorem dX13_toneOf_30 : decode cX13_toneOf 30 = .ok (.getfield 32, 3) := by decide +kernel
theorem dX13_toneOf_33 : decode cX13_toneOf 33 = .ok (.iload_n 2, 1) := by decide +kernel
theorem dX13_toneOf_34 : decode cX13_toneOf 34 = .ok (.laload, 1) := by decide +kernel
theorem dX13_toneOf_35 : decode cX13_toneOf 35 = .ok (.l2i, 1) := by decide +kernel
theorem dX13_toneOf_36 : decode cX13_toneOf 36 = .ok (.invokevirtual 788, 3) := by decide +kernel
theorem dX13_toneOf_39 : decode cX13_toneOf 39 = .ok (.goto 4, 3) := by decide +kernel
theorem dX13_toneOf_4 : decode cX13_toneOf 4 = .ok (.iload_n 3, 1) := by decide +kernel
theorem dX13_toneOf_42 : decode cX13_toneOf 42 = .ok (.iconst (-1), 1) := by decide +kernel
theorem dX13_toneOf_43 : decode cX13_toneOf 43 = .ok (.istore 4, 2) := by decide +kernel
theorem dX13_toneOf_45 : decode cX13_toneOf 45 = .ok (.iload 4, 2) := by decide +kernel
theorem dX13_toneOf_47 : decode cX13_toneOf 47 = .ok (.ifCond .ge 14, 3) := by decide +kernel
theorem dX13_toneOf_5 : decode cX13_toneOf 5 = .ok (.ifCond .eq 95, 3) := by decide +kernel
theorem dX13_toneOf_50 : decode cX13_toneOf 50 = .ok (.aload_n 0, 1) := by decide +kernel
theorem dX13_toneOf_51 : decode cX13_toneOf 51 = .ok (.getfield 26, 3) := by decide +kernel
theorem dX13_toneOf_54 : decode cX13_toneOf 54 = .ok (.iload_n 2, 1) := by decide +kernel
theorem dX13_toneOf_55 : decode cX13_toneOf 55 = .ok (.iaload, 1) := by decide +kernel
theorem dX13_toneOf_56 : decode cX13_toneOf 56 = .ok (.bipush 41, 2) := by decide +kernel
theorem dX13_toneOf_58 : decode cX13_toneOf 58 = .ok (.if_icmp .ne 7, 3) := by decide +kernel
theorem dX13_toneOf_61 : decode cX13_toneOf 61 = .ok (.iconst 1, 1) := by decide +kernel
theorem dX13_toneOf_62 : decode cX13_toneOf 62 = .ok (.goto 4, 3) := by decide +kernel
theorem dX13_toneOf_65 : decode cX13_toneOf 65 = .ok (.iconst 0, 1) := by decide +kernel
theorem dX13_toneOf_66 : decode cX13_toneOf 66 = .ok (.istore_n 3, 1) := by decide +kernel
theorem dX13_toneOf_67 : decode cX13_toneOf 67 = .ok (.iload 4, 2) := by decide +kernel
theorem dX13_toneOf_69 : decode cX13_toneOf 69 = .ok (.ifCond .lt 13, 3) := by decide +kernel
theorem dX13_toneOf_72 : decode cX13_toneOf 72 = .ok (.aload_n 0, 1) := by decide +kernel
theorem dX13_toneOf_73 : decode cX13_toneOf 73 = .ok (.getfield 66, 3) := by decide +kernel
theorem dX13_toneOf_76 : decode cX13_toneOf 76 = .ok (.iload 4, 2) := by decide +kernel
theorem dX13_toneOf_78 : decode cX13_toneOf 78 = .ok (.iaload, 1) := by decide +kernel
theorem dX13_toneOf_79 : decode cX13_toneOf 79 = .ok (.goto 17, 3) := by decide +kernel
theorem dX13_toneOf_8 : decode cX13_toneOf 8 = .ok (.aload_n 0, 1) := by decide +kernel
theorem dX13_toneOf_82 : decode cX13_toneOf 82 = .ok (.iload_n 3, 1) := by decide +kernel
theorem dX13_toneOf_83 : decode cX13_toneOf 83 = .ok (.ifCond .eq 12, 3) := by decide +kernel
theorem dX13_toneOf_86 : decode cX13_toneOf 86 = .ok (.aload_n 0, 1) := by decide +kernel
theorem dX13_toneOf_87 : decode cX13_toneOf 87 = .ok (.getfield 39, 3) := by decide +kernel
theorem dX13_toneOf_9 : decode cX13_toneOf 9 = .ok (.getfield 26, 3) := by decide +kernel
theorem dX13_toneOf_90 : decode cX13_toneOf 90 = .ok (.iload_n 2, 1) := by decide +kernel
theorem dX13_toneOf_91 : decode cX13_toneOf 91 = .ok (.iaload, 1) := by decide +kernel
theorem dX13_toneOf_92 : decode cX13_toneOf 92 = .ok (.goto 4, 3) := by decide +kernel
theorem dX13_toneOf_95 : decode cX13_toneOf 95 = .ok (.iload_n 2, 1) := by decide +kernel
theorem dX13_toneOf_96 : decode cX13_toneOf 96 = .ok (.istore_n 2, 1) := by decide +kernel
theorem dX13_toneOf_97 : decode cX13_toneOf 97 = .ok (.goto (-93), 3) := by decide +kernel
noncomputable def k_X13_toneOf_96 (l3 : Int32) (k0 : Int32) (s : t_S) : Option ((Int32 × Int32) ⊕ (Int32)) :=
 some (.inl (k0, l3))
set_option maxRecDepth 4000 in
set_option maxHeartbeats 1000000 in
theorem B_X13_toneOf_96 {D : va_G} {cy : Nat → ClassId} {ad : Nat → Nat} {bs : Nat} {X : State → Heap → Prop} (l3 : Int32) (k0 : Int32) (s : t_S) (Q : (Int32 × Int32) ⊕ (Int32) → Prop) (Hb4 : ∀ (y0 : Int32) (y1 : Int32), Q (.inl (y0, y1)) → mj_G D cy ad bs X cX13_toneOf 5 yX13_toneOf.cls (some .int) yX13_toneOf.name 1 0 0 1065 (t_P (fun v s' => s' = s ∧ ∃ x, v = some (.int x) ∧ Q (.inr (x)))) 4 [(0, .ref 950), (2, .int (y0)), (3, .int (y1))] [] (t_m s) 1065 0 0) (hk : t_hk (k_X13_toneOf_96 l3 k0 s) Q) : mj_G D cy ad bs X cX13_toneOf 5 yX13_toneOf.cls (some .int) yX13_toneOf.name 1 0 0 1065 (t_P (fun v s' => s' = s ∧ ∃ x, v = some (.int x) ∧ Q (.inr (x)))) 96 [(0, .ref 950), (3, .int l3)] [.int k0] (t_m s) 1065 0 0 := by
  refine mj_istore_n 2 (lv2 := [(2, .int k0), (0, .ref 950), (3, .int l3)]) dX13_toneOf_96 rfl (by decide) rfl ?_
  refine mj_goto 4 dX13_toneOf_97 (by decide) ?_
  refine mj_sublv [(0, .ref 950), (2, .int k0), (3, .int l3)] [1, 0, 2] rfl ?_
  exact t_somK hk (fun hf => Hb4 k0 l3 hf)
noncomputable def k_X13_toneOf_66 (l2 : Int32) (l4 : Int32) (k0 : Int32) (s : t_S) : Option ((Int32 × Int32) ⊕ (Int32)) :=
 if l4 < (0 : Int32) then (if k0 = (0 : Int32) then (k_X13_toneOf_96 k0 l2 s)
 else (if t_ix l2 13000 = true then
  k_X13_toneOf_96 k0 (s.1 959 (l2.toNatClampNeg)) s
else none))
 else (if t_ix l4 60 = true then
  k_X13_toneOf_96 k0 (s.1 968 (l4.toNatClampNeg)) s
else none)
set_option maxRecDepth 4000 in
set_option maxHeartbeats 1000000 in
theorem B_X13_toneOf_66 {D : va_G} {cy : Nat → ClassId} {ad : Nat → Nat} {bs : Nat} {X : State → Heap → Prop} (l2 : Int32) (l4 : Int32) (k0 : Int32) (s : t_S) (Q : (Int32 × Int32) ⊕ (Int32) → Prop) (Hb4 : ∀ (y0 : Int32) (y1 : Int32), Q (.inl (y0, y1)) → mj_G D cy ad bs X cX13_toneOf 5 yX13_toneOf.cls (some .int) yX13_toneOf.name 1 0 0 1065 (t_P (fun v s' => s' = s ∧ ∃ x, v = some (.int x) ∧ Q (.inr (x)))) 4 [(0, .ref 950), (2, .int (y0)), (3, .int (y1))] [] (t_m s) 1065 0 0) (hk : t_hk (k_X13_toneOf_66 l2 l4 k0 s) Q) : mj_G D cy ad bs X cX13_toneOf 5 yX13_toneOf.cls (some .int) yX13_toneOf.name 1 0 0 1065 (t_P (fun v s' => s' = s ∧ ∃ x, v = some (.int x) ∧ Q (.inr (x)))) 66 [(0, .ref 950), (2, .int l2), (4, .int l4)] [.int k0] (t_m s) 1065 0 0 := by
  refine mj_istore_n 3 (lv2 := [(3, .int k0), (0, .ref 950), (2, .int l2), (4, .int l4)]) dX13_toneOf_66 rfl (by decide) rfl ?_
  refine mj_iload dX13_toneOf_67 3 rfl ?_
  refine mj_if_lt 82 dX13_toneOf_69 (by decide) (fun z => t_posK hk z (fun hk => ?_)) (fun z => t_negK hk z (fun hk => ?_))
  · refine mj_iload_n dX13_toneOf_82 0 rfl ?_
    refine mj_if_eq 95 dX13_toneOf_83 (by decide) (fun z => t_posK hk z (fun hk => ?_)) (fun z => t_negK hk z (fun hk => ?_))
    · refine mj_iload_n dX13_toneOf_95 2 rfl ?_
      refine mj_sublv [(0, .ref 950), (3, .int k0)] [1, 0] rfl ?_
      exact B_X13_toneOf_96 _ _ _ _ (fun y0 y1 hx => Hb4 y0 y1 hx) hk
    · refine mj_aload_n dX13_toneOf_86 1 rfl ?_
      refine t_getR 959 dX13_toneOf_87 F_X13_39 qr_950_21 ?_
      refine mj_iload_n dX13_toneOf_90 2 rfl ?_
      refine t_chkK hk (fun c0 hk => ?_)
      refine t_iald dX13_toneOf_91 qa_959 (t_ixv c0) ?_
      refine mj_goto 96 dX13_toneOf_92 (by decide) ?_
      refine mj_sublv [(0, .ref 950), (3, .int k0)] [1, 0] rfl ?_
      exact B_X13_toneOf_96 _ _ _ _ (fun y0 y1 hx => Hb4 y0 y1 hx) hk
  · refine mj_aload_n dX13_toneOf_72 1 rfl ?_
    refine t_getR 968 dX13_toneOf_73 F_X13_66 qr_950_42 ?_
    refine mj_iload dX13_toneOf_76 3 rfl ?_
    refine t_chkK hk (fun c1 hk => ?_)
    refine t_iald dX13_toneOf_78 qa_968 (t_ixv c1) ?_
    refine mj_goto 96 dX13_toneOf_79 (by decide) ?_
    refine mj_sublv [(0, .ref 950), (3, .int k0)] [1, 0] rfl ?_
    exact B_X13_toneOf_96 _ _ _ _ (fun y0 y1 hx => Hb4 y0 y1 hx) hk
noncomputable def k_X13_toneOf_61 (l2 : Int32) (l4 : Int32) (s : t_S) : Option ((Int32 × Int32) ⊕ (Int32)) :=
 k_X13_toneOf_66 l2 l4 1 s
set_option maxRecDepth 4000 in
set_option maxHeartbeats 1000000 in
theorem B_X13_toneOf_61 {D : va_G} {cy : Nat → ClassId} {ad : Nat → Nat} {bs : Nat} {X : State → Heap → Prop} (l2 : Int32) (l4 : Int32) (s : t_S) (Q : (Int32 × Int32) ⊕ (Int32) → Prop) (Hb4 : ∀ (y0 : Int32) (y1 : Int32), Q (.inl (y0, y1)) → mj_G D cy ad bs X cX13_toneOf 5 yX13_toneOf.cls (some .int) yX13_toneOf.name 1 0 0 1065 (t_P (fun v s' => s' = s ∧ ∃ x, v = some (.int x) ∧ Q (.inr (x)))) 4 [(0, .ref 950), (2, .int (y0)), (3, .int (y1))] [] (t_m s) 1065 0 0) (hk : t_hk (k_X13_toneOf_61 l2 l4 s) Q) : mj_G D cy ad bs X cX13_toneOf 5 yX13_toneOf.cls (some .int) yX13_toneOf.name 1 0 0 1065 (t_P (fun v s' => s' = s ∧ ∃ x, v = some (.int x) ∧ Q (.inr (x)))) 61 [(0, .ref 950), (2, .int l2), (4, .int l4)] [] (t_m s) 1065 0 0 := by
  refine mj_iconst (v := 1) dX13_toneOf_61 (by decide) ?_
  refine mj_goto 66 dX13_toneOf_62 (by decide) ?_
  exact B_X13_toneOf_66 _ _ _ _ _ (fun y0 y1 hx => Hb4 y0 y1 hx) hk
noncomputable def k_X13_toneOf_43 (l2 : Int32) (k0 : Int32) (s : t_S) : Option ((Int32 × Int32) ⊕ (Int32)) :=
 if (0 : Int32) ≤ k0 then (k_X13_toneOf_61 l2 k0 s)
 else (if t_ix l2 13000 = true then
  if (s.1 955 (l2.toNatClampNeg)) = (41 : Int32) then (k_X13_toneOf_61 l2 k0 s)
 else (k_X13_toneOf_66 l2 k0 0 s)
else none)
set_option maxRecDepth 4000 in
set_option maxHeartbeats 1000000 in
theorem B_X13_toneOf_43 {D : va_G} {cy : Nat → ClassId} {ad : Nat → Nat} {bs : Nat} {X : State → Heap → Prop} (l2 : Int32) (k0 : Int32) (s : t_S) (Q : (Int32 × Int32) ⊕ (Int32) → Prop) (Hb4 : ∀ (y0 : Int32) (y1 : Int32), Q (.inl (y0, y1)) → mj_G D cy ad bs X cX13_toneOf 5 yX13_toneOf.cls (some .int) yX13_toneOf.name 1 0 0 1065 (t_P (fun v s' => s' = s ∧ ∃ x, v = some (.int x) ∧ Q (.inr (x)))) 4 [(0, .ref 950), (2, .int (y0)), (3, .int (y1))] [] (t_m s) 1065 0 0) (hk : t_hk (k_X13_toneOf_43 l2 k0 s) Q) : mj_G D cy ad bs X cX13_toneOf 5 yX13_toneOf.cls (some .int) yX13_toneOf.name 1 0 0 1065 (t_P (fun v s' => s' = s ∧ ∃ x, v = some (.int x) ∧ Q (.inr (x)))) 43 [(0, .ref 950), (2, .int l2)] [.int k0] (t_m s) 1065 0 0 := by
  refine mj_istore (lv2 := [(4, .int k0), (0, .ref 950), (2, .int l2)]) dX13_toneOf_43 (by decide) rfl ?_
  refine mj_iload dX13_toneOf_45 0 rfl ?_
  refine mj_if_ge 61 dX13_toneOf_47 (by decide) (fun z => t_posK hk z (fun hk => ?_)) (fun z => t_negK hk z (fun hk => ?_))
  · refine mj_sublv [(0, .ref 950), (2, .int l2), (4, .int k0)] [1, 2, 0] rfl ?_
    exact B_X13_toneOf_61 _ _ _ _ (fun y0 y1 hx => Hb4 y0 y1 hx) hk
  · refine mj_aload_n dX13_toneOf_50 1 rfl ?_
    refine t_getR 955 dX13_toneOf_51 F_X13_26 qr_950_17 ?_
    refine mj_iload_n dX13_toneOf_54 2 rfl ?_
    refine t_chkK hk (fun c0 hk => ?_)
    refine t_iald dX13_toneOf_55 qa_955 (t_ixv c0) ?_
    refine mj_bipush (v := 41) dX13_toneOf_56 (by decide) ?_
    refine mj_icmp_ne 65 dX13_toneOf_58 (by decide) (fun z => t_negK hk z (fun hk => ?_)) (fun z => t_posK hk z (fun hk => ?_))
    · refine mj_iconst (v := 0) dX13_toneOf_65 (by decide) ?_
      refine mj_sublv [(0, .ref 950), (2, .int l2), (4, .int k0)] [1, 2, 0] rfl ?_
      exact B_X13_toneOf_66 _ _ _ _ _ (fun y0 y1 hx => Hb4 y0 y1 hx) hk
    · refine mj_sublv [(0, .ref 950), (2, .int l2), (4, .int k0)] [1, 2, 0] rfl ?_
      exact B_X13_toneOf_61 _ _ _ _ (fun y0 y1 hx => Hb4 y0 y1 hx) hk
noncomputable def k_X13_toneOf_4 (l2 : Int32) (l3 : Int32) (s : t_S) : Option ((Int32 × Int32) ⊕ (Int32)) :=
 if l3 = (0 : Int32) then ((some (l2)).map Sum.inr)
 else (if t_ix l2 13000 = true then
  if (s.1 955 (l2.toNatClampNeg)) = (28 : Int32) then ((f_X13_find 967 (0 : Int32) (s.1 950 44) ((s.2.1 957 (l2.toNatClampNeg)).toInt32) s).bind (fun r2 =>
 k_X13_toneOf_43 l2 r2 s))
 else (k_X13_toneOf_43 l2 (-1) s)
else none)
set_option maxRecDepth 4000 in
set_option maxHeartbeats 1000000 in
theorem B_X13_toneOf_4 {D : va_G} {cy : Nat → ClassId} {ad : Nat → Nat} {bs : Nat} {X : State → Heap → Prop} (l2 : Int32) (l3 : Int32) (s : t_S) (Q : (Int32 × Int32) ⊕ (Int32) → Prop) (Hb4 : ∀ (y0 : Int32) (y1 : Int32), Q (.inl (y0, y1)) → mj_G D cy ad bs X cX13_toneOf 5 yX13_toneOf.cls (some .int) yX13_toneOf.name 1 0 0 1065 (t_P (fun v s' => s' = s ∧ ∃ x, v = some (.int x) ∧ Q (.inr (x)))) 4 [(0, .ref 950), (2, .int (y0)), (3, .int (y1))] [] (t_m s) 1065 0 0) (hk : t_hk (k_X13_toneOf_4 l2 l3 s) Q) : mj_G D cy ad bs X cX13_toneOf 5 yX13_toneOf.cls (some .int) yX13_toneOf.name 1 0 0 1065 (t_P (fun v s' => s' = s ∧ ∃ x, v = some (.int x) ∧ Q (.inr (x)))) 4 [(0, .ref 950), (2, .int l2), (3, .int l3)] [] (t_m s) 1065 0 0 := by
  refine mj_iload_n dX13_toneOf_4 2 rfl ?_
  refine mj_if_eq 100 dX13_toneOf_5 (by decide) (fun z => t_posK hk z (fun hk => ?_)) (fun z => t_negK hk z (fun hk => ?_))
  · refine t_mapK hk (fun hk => ?_)
    refine mj_iload_n dX13_toneOf_100 1 rfl ?_
    exact t_somK hk (fun hf => t_iret dX13_toneOf_101 rfl rfl ⟨rfl, _, rfl, hf⟩ (Nat.le_of_ble_eq_true rfl) (Nat.le_of_ble_eq_true rfl))
  · refine mj_aload_n dX13_toneOf_8 0 rfl ?_
    refine t_getR 955 dX13_toneOf_9 F_X13_26 qr_950_17 ?_
    refine mj_iload_n dX13_toneOf_12 1 rfl ?_
    refine t_chkK hk (fun c0 hk => ?_)
    refine t_iald dX13_toneOf_13 qa_955 (t_ixv c0) ?_
    refine mj_bipush (v := 28) dX13_toneOf_14 (by decide) ?_
    refine mj_icmp_ne 42 dX13_toneOf_16 (by decide) (fun z => t_negK hk z (fun hk => ?_)) (fun z => t_posK hk z (fun hk => ?_))
    · refine mj_iconst (v := (-1)) dX13_toneOf_42 (by decide) ?_
      refine mj_sublv [(0, .ref 950), (2, .int l2)] [0, 1] rfl ?_
      exact B_X13_toneOf_43 _ _ _ _ (fun y0 y1 hx => Hb4 y0 y1 hx) hk
    · refine mj_aload_n dX13_toneOf_19 0 rfl ?_
      refine mj_aload_n dX13_toneOf_20 0 rfl ?_
      refine t_getR 967 dX13_toneOf_21 F_X13_63 qr_950_41 ?_
      refine mj_iconst (v := 0) dX13_toneOf_24 (by decide) ?_
      refine mj_aload_n dX13_toneOf_25 0 rfl ?_
      refine t_getI dX13_toneOf_26 F_X13_627 qf_950_44 ?_
      refine mj_aload_n dX13_toneOf_29 0 rfl ?_
      refine t_getR 957 dX13_toneOf_30 F_X13_32 qr_950_19 ?_
      refine mj_iload_n dX13_toneOf_33 1 rfl ?_
      refine t_lald dX13_toneOf_34 qa_957 (t_ixv c0) ?_
      refine mj_l2i (v := (s.2.1 957 (l2.toNatClampNeg)).toInt32) dX13_toneOf_35 rfl ?_
      refine t_bndK hk (fun r2 er2 hk => ?_)
      refine t_callViP dX13_toneOf_36 M_X13_find (C_X13_find _ _ _ _ _ _ er2) ML_X13_788 IM_X13_find SE_X13_find qc_950 rfl (As := [.ref 967, .int 0, .int (s.1 950 44), .int ((s.2.1 957 (l2.toNatClampNeg)).toInt32)]) rfl rfl (Nat.le_of_ble_eq_true rfl) (Nat.le_of_ble_eq_true rfl) (Nat.le_of_ble_eq_true rfl) (Nat.le_of_ble_eq_true rfl) ?_
      refine mj_goto 43 dX13_toneOf_39 (by decide) ?_
      refine mj_sublv [(0, .ref 950), (2, .int l2)] [0, 1] rfl ?_
      exact B_X13_toneOf_43 _ _ _ _ (fun y0 y1 hx => Hb4 y0 y1 hx) hk
noncomputable def b_X13_toneOf_4 (s : t_S) (x : Int32 × Int32) : Option ((Int32 × Int32) ⊕ (Int32)) := k_X13_toneOf_4 x.1 x.2 s
set_option maxRecDepth 4000 in
set_option maxHeartbeats 1000000 in
theorem LH_X13_toneOf_4 {D : va_G} {cy : Nat → ClassId} {ad : Nat → Nat} {bs : Nat} {X : State → Heap → Prop} (s : t_S) : ∀ (n : Nat) (y0 : Int32) (y1 : Int32) (Q : Int32 → Prop) (hk : t_hk (t_loop (b_X13_toneOf_4 s) n (y0, y1)) Q), mj_G D cy ad bs X cX13_toneOf 5 yX13_toneOf.cls (some .int) yX13_toneOf.name 1 0 0 1065 (t_P (fun v s' => s' = s ∧ ∃ x, v = some (.int x) ∧ Q (x))) 4 [(0, .ref 950), (2, .int (y0)), (3, .int (y1))] [] (t_m s) 1065 0 0 := by
  intro n
  induction n with
  | zero => intro y0 y1 Q hk; obtain ⟨r, hr, _⟩ := hk; cases hr
  | succ n ih =>
    intro y0 y1 Q hk
    exact B_X13_toneOf_4 y0 y1 s (fun y => t_lq (b_X13_toneOf_4 s) n Q y) (fun y0' y1' hy => ih y0' y1' Q hy) (t_lp (b := b_X13_toneOf_4 s) (n := n) (x := (y0, y1)) hk)
noncomputable def f_X13_toneOf (x1 : Int32) (s : t_S) : Option (Int32) :=
 t_loop (b_X13_toneOf_4 s) t_N (x1, 1)
set_option maxRecDepth 4000 in
set_option maxHeartbeats 1000000 in
theorem C_X13_toneOf (x1 : Int32) (s : t_S) (r : Int32) (hr : f_X13_toneOf x1 s = some r) : t_C yX13_toneOf cX13_toneOf 5 (some .int) 1 [.ref 950, .int x1] s (fun v s' => v = some (.int r) ∧ s' = s) := by
  refine t_C.imp (P := fun v s' => s' = s ∧ ∃ x, v = some (.int x) ∧ (fun q => q = r) (x)) (t_C.of (by decide +kernel) (Nat.le_of_ble_eq_true rfl) ?_) (fun v s' hp => by obtain ⟨rfl, x, rfl, rfl⟩ := hp; exact ⟨rfl, rfl⟩)
  intro D cy ad bs X
  have hk : t_hk (f_X13_toneOf x1 s) (fun q => q = r) := ⟨r, hr, rfl⟩
  show mj_G D cy ad bs X cX13_toneOf 5 yX13_toneOf.cls (some .int) yX13_toneOf.name 1 0 0 1065 (t_P (fun v s' => s' = s ∧ ∃ x, v = some (.int x) ∧ (fun q => q = r) (x))) 0 [(0, .ref 950), (1, .int x1)] [] (t_m s) 1065 0 0
  refine mj_iload_n dX13_toneOf_0 1 rfl ?_
  refine mj_istore_n 2 (lv2 := [(2, .int x1), (0, .ref 950), (1, .int x1)]) dX13_toneOf_1 rfl (by decide) rfl ?_
  refine mj_iconst (v := 1) dX13_toneOf_2 (by decide) ?_
  refine mj_istore_n 3 (lv2 := [(3, .int 1), (2, .int x1), (0, .ref 950), (1, .int x1)]) dX13_toneOf_3 rfl (by decide) rfl ?_
  refine mj_sublv [(0, .ref 950), (2, .int x1), (3, .int 1)] [2, 1, 0] rfl ?_
  exact LH_X13_toneOf_4 _ _ x1 1 _ hk

