/-! Methods as functions, 89: X13_queueUp, X13_wantValue, X13_send, X13_start, X13_usual -/
theorem dX13_queueUp_0 : decode cX13_queueUp 0 = .ok (.bipush 6, 2) := by decide +kernel
theorem dX13_queueUp_12 : decode cX13_queueUp 12 = .ok (.iload 5, 2) := by decide +kernel
theorem dX13_queueUp_14 : decode cX13_queueUp 14 = .ok (.iaload, 1) := by decide +kernel
theorem dX13_queueUp_15 : decode cX13_queueUp 15 = .ok (.bipush 8, 2) := by decide +kernel
theorem dX13_queueUp_17 : decode cX13_queueUp 17 = .ok (.if_icmp .ne 5, 3) := by decide +kernel
theorem dX13_queueUp_2 : decode cX13_queueUp 2 = .ok (.iload_n 1, 1) := by decide +kernel
theorem dX13_queueUp_20 : decode cX13_queueUp 20 = .ok (.iconst 0, 1) := by decide +kernel
theorem dX13_queueUp_21 : decode cX13_queueUp 21 = .ok (.ireturn, 1) := by decide +kernel
theorem dX13_queueUp_22 : decode cX13_queueUp 22 = .ok (.aload_n 0, 1) := by decide +kernel
theorem dX13_queueUp_23 : decode cX13_queueUp 23 = .ok (.getfield 306, 3) := by decide +kernel
theorem dX13_queueUp_26 : decode cX13_queueUp 26 = .ok (.iload 5, 2) := by decide +kernel
theorem dX13_queueUp_28 : decode cX13_queueUp 28 = .ok (.iaload, 1) := by decide +kernel
theorem dX13_queueUp_29 : decode cX13_queueUp 29 = .ok (.aload_n 0, 1) := by decide +kernel
theorem dX13_queueUp_3 : decode cX13_queueUp 3 = .ok (.imul, 1) := by decide +kernel
theorem dX13_queueUp_30 : decode cX13_queueUp 30 = .ok (.getfield 309, 3) := by decide +kernel
theorem dX13_queueUp_33 : decode cX13_queueUp 33 = .ok (.iload 5, 2) := by decide +kernel
theorem dX13_queueUp_35 : decode cX13_queueUp 35 = .ok (.iaload, 1) := by decide +kernel
theorem dX13_queueUp_36 : decode cX13_queueUp 36 = .ok (.iadd, 1) := by decide +kernel
theorem dX13_queueUp_37 : decode cX13_queueUp 37 = .ok (.bipush 8, 2) := by decide +kernel
theorem dX13_queueUp_39 : decode cX13_queueUp 39 = .ok (.irem, 1) := by decide +kernel
theorem dX13_queueUp_4 : decode cX13_queueUp 4 = .ok (.iload_n 2, 1) := by decide +kernel
theorem dX13_queueUp_40 : decode cX13_queueUp 40 = .ok (.istore 6, 2) := by decide +kernel
theorem dX13_queueUp_42 : decode cX13_queueUp 42 = .ok (.aload_n 0, 1) := by decide +kernel
theorem dX13_queueUp_43 : decode cX13_queueUp 43 = .ok (.iload_n 3, 1) := by decide +kernel
theorem dX13_queueUp_44 : decode cX13_queueUp 44 = .ok (.sipush 1416, 3) := by decide +kernel
theorem dX13_queueUp_47 : decode cX13_queueUp 47 = .ok (.bipush 8, 2) := by decide +kernel
theorem dX13_queueUp_49 : decode cX13_queueUp 49 = .ok (.iload 5, 2) := by decide +kernel
theorem dX13_queueUp_5 : decode cX13_queueUp 5 = .ok (.iadd, 1) := by decide +kernel
theorem dX13_queueUp_51 : decode cX13_queueUp 51 = .ok (.imul, 1) := by decide +kernel
theorem dX13_queueUp_52 : decode cX13_queueUp 52 = .ok (.iadd, 1) := by decide +kernel
theorem dX13_queueUp_53 : decode cX13_queueUp 53 = .ok (.iload 6, 2) := by decide +kernel
theorem dX13_queueUp_55 : decode cX13_queueUp 55 = .ok (.iadd, 1) := by decide +kernel
theorem dX13_queueUp_56 : decode cX13_queueUp 56 = .ok (.invokevirtual 861, 3) := by decide +kernel
theorem dX13_queueUp_59 : decode cX13_queueUp 59 = .ok (.aload_n 0, 1) := by decide +kernel
theorem dX13_queueUp_6 : decode cX13_queueUp 6 = .ok (.istore 5, 2) := by decide +kernel
theorem dX13_queueUp_60 : decode cX13_queueUp 60 = .ok (.getfield 312, 3) := by decide +kernel
theorem dX13_queueUp_63 : decode cX13_queueUp 63 = .ok (.bipush 8, 2) := by decide +kernel
theorem dX13_queueUp_65 : decode cX13_queueUp 65 = .ok (.iload 5, 2) := by decide +kernel
theorem dX13_queueUp_67 : decode cX13_queueUp 67 = .ok (.imul, 1) := by decide +kernel
theorem dX13_queueUp_68 : decode cX13_queueUp 68 = .ok (.iload 6, 2) := by decide +kernel
theorem dX13_queueUp_70 : decode cX13_queueUp 70 = .ok (.iadd, 1) := by decide +kernel
theorem dX13_queueUp_71 : decode cX13_queueUp 71 = .ok (.iload 4, 2) := by decide +kernel
theorem dX13_queueUp_73 : decode cX13_queueUp 73 = .ok (.iastore, 1) := by decide +kernel
theorem dX13_queueUp_74 : decode cX13_queueUp 74 = .ok (.aload_n 0, 1) := by decide +kernel
theorem dX13_queueUp_75 : decode cX13_queueUp 75 = .ok (.getfield 309, 3) := by decide +kernel
theorem dX13_queueUp_78 : decode cX13_queueUp 78 = .ok (.iload 5, 2) := by decide +kernel
theorem dX13_queueUp_8 : decode cX13_queueUp 8 = .ok (.aload_n 0, 1) := by decide +kernel
theorem dX13_queueUp_80 : decode cX13_queueUp 80 = .ok (.dup2, 1) := by decide +kernel
theorem dX13_queueUp_81 : decode cX13_queueUp 81 = .ok (.iaload, 1) := by decide +kernel
theorem dX13_queueUp_82 : decode cX13_queueUp 82 = .ok (.iconst 1, 1) := by decide +kernel
theorem dX13_queueUp_83 : decode cX13_queueUp 83 = .ok (.iadd, 1) := by decide +kernel
theorem dX13_queueUp_84 : decode cX13_queueUp 84 = .ok (.iastore, 1) := by decide +kernel
theorem dX13_queueUp_85 : decode cX13_queueUp 85 = .ok (.iconst 1, 1) := by decide +kernel
theorem dX13_queueUp_86 : decode cX13_queueUp 86 = .ok (.ireturn, 1) := by decide +kernel
theorem dX13_queueUp_9 : decode cX13_queueUp 9 = .ok (.getfield 309, 3) := by decide +kernel
noncomputable def f_X13_queueUp (x1 : Int32) (x2 : Int32) (x3 : Int32) (x4 : Int32) (s : t_S) : Option (Int32 × t_S) :=
 if t_ix (((6 : Int32) * x1) + x2) 48 = true then
  if (s.1 1047 ((((6 : Int32) * x1) + x2).toNatClampNeg)) = (8 : Int32) then (some ((0 : Int32), s))
 else ((f_X13_copy x3 (((1416 : Int32) + ((8 : Int32) * (((6 : Int32) * x1) + x2))) + (((s.1 1046 ((((6 : Int32) * x1) + x2).toNatClampNeg)) + (s.1 1047 ((((6 : Int32) * x1) + x2).toNatClampNeg))) - ((s.1 1046 ((((6 : Int32) * x1) + x2).toNatClampNeg)) + (s.1 1047 ((((6 : Int32) * x1) + x2).toNatClampNeg))) / (8 : Int32) * (8 : Int32))) s).bind (fun r2 =>
 if t_ix (((8 : Int32) * (((6 : Int32) * x1) + x2)) + (((s.1 1046 ((((6 : Int32) * x1) + x2).toNatClampNeg)) + (s.1 1047 ((((6 : Int32) * x1) + x2).toNatClampNeg))) - ((s.1 1046 ((((6 : Int32) * x1) + x2).toNatClampNeg)) + (s.1 1047 ((((6 : Int32) * x1) + x2).toNatClampNeg))) / (8 : Int32) * (8 : Int32))) 384 = true then
  t_let (t_setI r2 1048 ((((8 : Int32) * (((6 : Int32) * x1) + x2)) + (((s.1 1046 ((((6 : Int32) * x1) + x2).toNatClampNeg)) + (s.1 1047 ((((6 : Int32) * x1) + x2).toNatClampNeg))) - ((s.1 1046 ((((6 : Int32) * x1) + x2).toNatClampNeg)) + (s.1 1047 ((((6 : Int32) * x1) + x2).toNatClampNeg))) / (8 : Int32) * (8 : Int32))).toNatClampNeg) x4) (fun s1 =>
 t_let (t_setI s1 1047 ((((6 : Int32) * x1) + x2).toNatClampNeg) ((s1.1 1047 ((((6 : Int32) * x1) + x2).toNatClampNeg)) + (1 : Int32))) (fun s2 =>
 some ((1 : Int32), s2)))
else none))
else none
set_option maxRecDepth 4000 in
set_option maxHeartbeats 1000000 in
theorem C_X13_queueUp (x1 : Int32) (x2 : Int32) (x3 : Int32) (x4 : Int32) (s : t_S) (r : Int32 × t_S) (hr : f_X13_queueUp x1 x2 x3 x4 s = some r) : t_C yX13_queueUp cX13_queueUp 7 (some .boolean) 3 [.ref 950, .int x1, .int x2, .int x3, .int x4] s (fun v s' => v = some (.int r.1) ∧ s' = r.2) := by
  refine t_C.imp (P := fun v s' => ∃ x, v = some (.int x) ∧ (fun q => q = r) ((x, s'))) (t_C.of (by decide +kernel) (Nat.le_of_ble_eq_true rfl) ?_) (fun v s' hp => by obtain ⟨x, rfl, rfl⟩ := hp; exact ⟨rfl, rfl⟩)
  intro D cy ad bs X
  have hk : t_hk (f_X13_queueUp x1 x2 x3 x4 s) (fun q => q = r) := ⟨r, hr, rfl⟩
  show mj_G D cy ad bs X cX13_queueUp 7 yX13_queueUp.cls (some .boolean) yX13_queueUp.name 3 0 0 1065 (t_P (fun v s' => ∃ x, v = some (.int x) ∧ (fun q => q = r) ((x, s')))) 0 [(0, .ref 950), (1, .int x1), (2, .int x2), (3, .int x3), (4, .int x4)] [] (t_m s) 1065 0 0
  refine mj_bipush (v := 6) dX13_queueUp_0 (by decide) ?_
  refine mj_iload_n dX13_queueUp_2 1 rfl ?_
  refine mj_imul dX13_queueUp_3 ?_
  refine mj_iload_n dX13_queueUp_4 2 rfl ?_
  refine mj_iadd dX13_queueUp_5 ?_
  refine mj_istore (lv2 := [(5, .int (((6 : Int32) * x1) + x2)), (0, .ref 950), (1, .int x1), (2, .int x2), (3, .int x3), (4, .int x4)]) dX13_queueUp_6 (by decide) rfl ?_
  refine mj_aload_n dX13_queueUp_8 1 rfl ?_
  refine t_getR 1047 dX13_queueUp_9 F_X13_309 qr_950_162 ?_
  refine mj_iload dX13_queueUp_12 0 rfl ?_
  refine t_chkK hk (fun c0 hk => ?_)
  refine t_iald dX13_queueUp_14 qa_1047 (t_ixv c0) ?_
  refine mj_bipush (v := 8) dX13_queueUp_15 (by decide) ?_
  refine mj_icmp_ne 22 dX13_queueUp_17 (by decide) (fun z => t_negK hk z (fun hk => ?_)) (fun z => t_posK hk z (fun hk => ?_))
  · refine mj_aload_n dX13_queueUp_22 1 rfl ?_
    refine t_getR 1046 dX13_queueUp_23 F_X13_306 qr_950_161 ?_
    refine mj_iload dX13_queueUp_26 0 rfl ?_
    refine t_iald dX13_queueUp_28 qa_1046 (t_ixv c0) ?_
    refine mj_aload_n dX13_queueUp_29 1 rfl ?_
    refine t_getR 1047 dX13_queueUp_30 F_X13_309 qr_950_162 ?_
    refine mj_iload dX13_queueUp_33 0 rfl ?_
    refine t_iald dX13_queueUp_35 qa_1047 (t_ixv c0) ?_
    refine mj_iadd dX13_queueUp_36 ?_
    refine mj_bipush (v := 8) dX13_queueUp_37 (by decide) ?_
    refine mj_irem dX13_queueUp_39 (by decide) ?_
    refine mj_istore (lv2 := [(6, .int (((s.1 1046 ((((6 : Int32) * x1) + x2).toNatClampNeg)) + (s.1 1047 ((((6 : Int32) * x1) + x2).toNatClampNeg))) - ((s.1 1046 ((((6 : Int32) * x1) + x2).toNatClampNeg)) + (s.1 1047 ((((6 : Int32) * x1) + x2).toNatClampNeg))) / (8 : Int32) * (8 : Int32))), (5, .int (((6 : Int32) * x1) + x2)), (0, .ref 950), (1, .int x1), (2, .int x2), (3, .int x3), (4, .int x4)]) dX13_queueUp_40 (by decide) rfl ?_
    refine mj_aload_n dX13_queueUp_42 2 rfl ?_
    refine mj_iload_n dX13_queueUp_43 5 rfl ?_
    refine mj_sipush (v := 1416) dX13_queueUp_44 (by decide) ?_
    refine mj_bipush (v := 8) dX13_queueUp_47 (by decide) ?_
    refine mj_iload dX13_queueUp_49 1 rfl ?_
    refine mj_imul dX13_queueUp_51 ?_
    refine mj_iadd dX13_queueUp_52 ?_
    refine mj_iload dX13_queueUp_53 0 rfl ?_
    refine mj_iadd dX13_queueUp_55 ?_
    refine t_bndK hk (fun r2 er2 hk => ?_)
    refine t_callVvE dX13_queueUp_56 M_X13_copy (C_X13_copy _ _ _ _ er2) ML_X13_861 IM_X13_copy SE_X13_copy qc_950 rfl (As := [.int x3, .int (((1416 : Int32) + ((8 : Int32) * (((6 : Int32) * x1) + x2))) + (((s.1 1046 ((((6 : Int32) * x1) + x2).toNatClampNeg)) + (s.1 1047 ((((6 : Int32) * x1) + x2).toNatClampNeg))) - ((s.1 1046 ((((6 : Int32) * x1) + x2).toNatClampNeg)) + (s.1 1047 ((((6 : Int32) * x1) + x2).toNatClampNeg))) / (8 : Int32) * (8 : Int32)))]) rfl rfl (Nat.le_of_ble_eq_true rfl) (Nat.le_of_ble_eq_true rfl) (Nat.le_of_ble_eq_true rfl) (Nat.le_of_ble_eq_true rfl) ?_
    refine mj_aload_n dX13_queueUp_59 2 rfl ?_
    refine t_getR 1048 dX13_queueUp_60 F_X13_312 qr_950_163 ?_
    refine mj_bipush (v := 8) dX13_queueUp_63 (by decide) ?_
    refine mj_iload dX13_queueUp_65 1 rfl ?_
    refine mj_imul dX13_queueUp_67 ?_
    refine mj_iload dX13_queueUp_68 0 rfl ?_
    refine mj_iadd dX13_queueUp_70 ?_
    refine mj_iload dX13_queueUp_71 6 rfl ?_
    refine t_chkK hk (fun c2 hk => ?_)
    refine t_iastK dX13_queueUp_73 qa_1048 (t_ixv c2) (fun s1 ws1 => t_letE hk ws1 (fun hk => ?_))
    refine mj_aload_n dX13_queueUp_74 2 rfl ?_
    refine t_getR 1047 dX13_queueUp_75 F_X13_309 qr_950_162 ?_
    refine mj_iload dX13_queueUp_78 1 rfl ?_
    refine mj_dup2 dX13_queueUp_80 rfl rfl ?_
    refine t_iald dX13_queueUp_81 qa_1047 (t_ixv c0) ?_
    refine mj_iconst (v := 1) dX13_queueUp_82 (by decide) ?_
    refine mj_iadd dX13_queueUp_83 ?_
    refine t_iastK dX13_queueUp_84 qa_1047 (t_ixv c0) (fun s2 ws2 => t_letE hk ws2 (fun hk => ?_))
    refine mj_iconst (v := 1) dX13_queueUp_85 (by decide) ?_
    exact t_somK hk (fun hf => t_iret dX13_queueUp_86 rfl (by decide) ⟨_, rfl, hf⟩ (Nat.le_of_ble_eq_true rfl) (Nat.le_of_ble_eq_true rfl))
  · refine mj_iconst (v := 0) dX13_queueUp_20 (by decide) ?_
    exact t_somK hk (fun hf => t_iret dX13_queueUp_21 rfl (by decide) ⟨_, rfl, hf⟩ (Nat.le_of_ble_eq_true rfl) (Nat.le_of_ble_eq_true rfl))

theorem dX13_wantValue_0 : decode cX13_wantValue 0 = .ok (.aload_n 0, 1) := by decide +kernel
theorem dX13_wantValue_1 : decode cX13_wantValue 1 = .ok (.getfield 182, 3) := by decide +kernel
theorem dX13_wantValue_10 : decode cX13_wantValue 10 = .ok (.ifCond .ne 8, 3) := by decide +kernel
theorem dX13_wantValue_13 : decode cX13_wantValue 13 = .ok (.aload_n 0, 1) := by decide +kernel
theorem dX13_wantValue_14 : decode cX13_wantValue 14 = .ok (.iconst 1, 1) := by decide +kernel
theorem dX13_wantValue_15 : decode cX13_wantValue 15 = .ok (.invokevirtual 866, 3) := by decide +kernel
theorem dX13_wantValue_18 : decode cX13_wantValue 18 = .ok (.return_, 1) := by decide +kernel
theorem dX13_wantValue_4 : decode cX13_wantValue 4 = .ok (.iload_n 1, 1) := by decide +kernel
theorem dX13_wantValue_5 : decode cX13_wantValue 5 = .ok (.laload, 1) := by decide +kernel
theorem dX13_wantValue_6 : decode cX13_wantValue 6 = .ok (.ldc2_w 969, 3) := by decide +kernel
theorem dX13_wantValue_9 : decode cX13_wantValue 9 = .ok (.lcmp, 1) := by decide +kernel
noncomputable def f_X13_wantValue (x1 : Int32) (s : t_S) : Option (t_S) :=
 if t_ix x1 626600 = true then
  if (lg_cmp (s.2.1 1006 (x1.toNatClampNeg)) (4 : Int64)) = (0 : Int32) then ((f_X13_error (1 : Int32) s).bind (fun r2 =>
 some (r2)))
 else (some (s))
else none
set_option maxRecDepth 4000 in
set_option maxHeartbeats 1000000 in
theorem C_X13_wantValue (x1 : Int32) (s : t_S) (r : t_S) (hr : f_X13_wantValue x1 s = some r) : t_C yX13_wantValue cX13_wantValue 2 none 1 [.ref 950, .int x1] s (fun v s' => v = none ∧ s' = r) := by
  refine t_C.imp (P := fun v s' => v = none ∧ (fun q => q = r) (s')) (t_C.of (by decide +kernel) (Nat.le_of_ble_eq_true rfl) ?_) (fun v s' hp => hp)
  intro D cy ad bs X
  have hk : t_hk (f_X13_wantValue x1 s) (fun q => q = r) := ⟨r, hr, rfl⟩
  show mj_G D cy ad bs X cX13_wantValue 2 yX13_wantValue.cls none yX13_wantValue.name 1 0 0 1065 (t_P (fun v s' => v = none ∧ (fun q => q = r) (s'))) 0 [(0, .ref 950), (1, .int x1)] [] (t_m s) 1065 0 0
  refine mj_aload_n dX13_wantValue_0 0 rfl ?_
  refine t_getR 1006 dX13_wantValue_1 F_X13_182 qr_950_95 ?_
  refine mj_iload_n dX13_wantValue_4 1 rfl ?_
  refine t_chkK hk (fun c0 hk => ?_)
  refine t_lald dX13_wantValue_5 qa_1006 (t_ixv c0) ?_
  refine mj_ldc2 dX13_wantValue_6 K_X13_969 ?_
  refine mj_lcmp dX13_wantValue_9 ?_
  refine mj_if_ne 18 dX13_wantValue_10 (by decide) (fun z => t_negK hk z (fun hk => ?_)) (fun z => t_posK hk z (fun hk => ?_))
  · exact t_somK hk (fun hf => t_vret dX13_wantValue_18 rfl ⟨rfl, hf⟩ (Nat.le_of_ble_eq_true rfl) (Nat.le_of_ble_eq_true rfl))
  · refine mj_aload_n dX13_wantValue_13 0 rfl ?_
    refine mj_iconst (v := 1) dX13_wantValue_14 (by decide) ?_
    refine t_bndK hk (fun r2 er2 hk => ?_)
    refine t_callVvE dX13_wantValue_15 M_X13_error (C_X13_error _ _ _ er2) ML_X13_866 IM_X13_error SE_X13_error qc_950 rfl (As := [.int 1]) rfl rfl (Nat.le_of_ble_eq_true rfl) (Nat.le_of_ble_eq_true rfl) (Nat.le_of_ble_eq_true rfl) (Nat.le_of_ble_eq_true rfl) ?_
    exact t_somK hk (fun hf => t_vret dX13_wantValue_18 rfl ⟨rfl, hf⟩ (Nat.le_of_ble_eq_true rfl) (Nat.le_of_ble_eq_true rfl))

theorem dX13_send_0 : decode cX13_send 0 = .ok (.aload_n 0, 1) := by decide +kernel
theorem dX13_send_1 : decode cX13_send 1 = .ok (.aload_n 0, 1) := by decide +kernel
theorem dX13_send_10 : decode cX13_send 10 = .ok (.aload_n 0, 1) := by decide +kernel
theorem dX13_send_100 : decode cX13_send 100 = .ok (.aload_n 0, 1) := by decide +kernel
theorem dX13_send_101 : decode cX13_send 101 = .ok (.getfield 318, 3) := by decide +kernel
theorem dX13_send_104 : decode cX13_send 104 = .ok (.bipush 6, 2) := by decide +kernel
theorem dX13_send_106 : decode cX13_send 106 = .ok (.iload_n 1, 1) := by decide +kernel
theorem dX13_send_107 : decode cX13_send 107 = .ok (.imul, 1) := by decide +kernel
theorem dX13_send_108 : decode cX13_send 108 = .ok (.iload_n 3, 1) := by decide +kernel
theorem dX13_send_109 : decode cX13_send 109 = .ok (.iadd, 1) := by decide +kernel
theorem dX13_send_11 : decode cX13_send 11 = .ok (.getfield 842, 3) := by decide +kernel
theorem dX13_send_110 : decode cX13_send 110 = .ok (.iaload, 1) := by decide +kernel
theorem dX13_send_111 : decode cX13_send 111 = .ok (.aload_n 0, 1) := by decide +kernel
theorem dX13_send_112 : decode cX13_send 112 = .ok (.invokevirtual 941, 3) := by decide +kernel
theorem dX13_send_115 : decode cX13_send 115 = .ok (.iload_n 1, 1) := by decide +kernel
theorem dX13_send_116 : decode cX13_send 116 = .ok (.invokevirtual 1451, 3) := by decide +kernel
theorem dX13_send_119 : decode cX13_send 119 = .ok (.pop, 1) := by decide +kernel
theorem dX13_send_120 : decode cX13_send 120 = .ok (.return_, 1) := by decide +kernel
theorem dX13_send_14 : decode cX13_send 14 = .ok (.ifCond .ne 11, 3) := by decide +kernel
theorem dX13_send_17 : decode cX13_send 17 = .ok (.aload_n 0, 1) := by decide +kernel
theorem dX13_send_18 : decode cX13_send 18 = .ok (.aload_n 0, 1) := by decide +kernel
theorem dX13_send_19 : decode cX13_send 19 = .ok (.invokevirtual 941, 3) := by decide +kernel
theorem dX13_send_2 : decode cX13_send 2 = .ok (.getfield 147, 3) := by decide +kernel
theorem dX13_send_22 : decode cX13_send 22 = .ok (.invokevirtual 1389, 3) := by decide +kernel
theorem dX13_send_25 : decode cX13_send 25 = .ok (.aload_n 0, 1) := by decide +kernel
theorem dX13_send_26 : decode cX13_send 26 = .ok (.getfield 842, 3) := by decide +kernel
theorem dX13_send_29 : decode cX13_send 29 = .ok (.ifCond .eq 4, 3) := by decide +kernel
theorem dX13_send_32 : decode cX13_send 32 = .ok (.return_, 1) := by decide +kernel
theorem dX13_send_33 : decode cX13_send 33 = .ok (.aload_n 0, 1) := by decide +kernel
theorem dX13_send_34 : decode cX13_send 34 = .ok (.iload_n 1, 1) := by decide +kernel
theorem dX13_send_35 : decode cX13_send 35 = .ok (.aload_n 0, 1) := by decide +kernel
theorem dX13_send_36 : decode cX13_send 36 = .ok (.getfield 135, 3) := by decide +kernel
theorem dX13_send_39 : decode cX13_send 39 = .ok (.iload_n 2, 1) := by decide +kernel
theorem dX13_send_40 : decode cX13_send 40 = .ok (.iaload, 1) := by decide +kernel
theorem dX13_send_41 : decode cX13_send 41 = .ok (.invokevirtual 1448, 3) := by decide +kernel
theorem dX13_send_44 : decode cX13_send 44 = .ok (.istore_n 3, 1) := by decide +kernel
theorem dX13_send_45 : decode cX13_send 45 = .ok (.aload_n 0, 1) := by decide +kernel
theorem dX13_send_46 : decode cX13_send 46 = .ok (.getfield 315, 3) := by decide +kernel
theorem dX13_send_49 : decode cX13_send 49 = .ok (.bipush 6, 2) := by decide +kernel
theorem dX13_send_5 : decode cX13_send 5 = .ok (.iload_n 2, 1) := by decide +kernel
theorem dX13_send_51 : decode cX13_send 51 = .ok (.iload_n 1, 1) := by decide +kernel
theorem dX13_send_52 : decode cX13_send 52 = .ok (.imul, 1) := by decide +kernel
theorem dX13_send_53 : decode cX13_send 53 = .ok (.iload_n 3, 1) := by decide +kernel
theorem dX13_send_54 : decode cX13_send 54 = .ok (.iadd, 1) := by decide +kernel
theorem dX13_send_55 : decode cX13_send 55 = .ok (.iaload, 1) := by decide +kernel
theorem dX13_send_56 : decode cX13_send 56 = .ok (.istore 4, 2) := by decide +kernel
theorem dX13_send_58 : decode cX13_send 58 = .ok (.iload 4, 2) := by decide +kernel
theorem dX13_send_6 : decode cX13_send 6 = .ok (.iaload, 1) := by decide +kernel
theorem dX13_send_60 : decode cX13_send 60 = .ok (.iconst (-1), 1) := by decide +kernel
theorem dX13_send_61 : decode cX13_send 61 = .ok (.if_icmp .ne 25, 3) := by decide +kernel
theorem dX13_send_64 : decode cX13_send 64 = .ok (.aload_n 0, 1) := by decide +kernel
theorem dX13_send_65 : decode cX13_send 65 = .ok (.aload_n 0, 1) := by decide +kernel
theorem dX13_send_66 : decode cX13_send 66 = .ok (.getfield 1324, 3) := by decide +kernel
theorem dX13_send_69 : decode cX13_send 69 = .ok (.lconst 1, 1) := by decide +kernel
theorem dX13_send_7 : decode cX13_send 7 = .ok (.invokestatic 897, 3) := by decide +kernel
theorem dX13_send_70 : decode cX13_send 70 = .ok (.ladd, 1) := by decide +kernel
theorem dX13_send_71 : decode cX13_send 71 = .ok (.putfield 1324, 3) := by decide +kernel
theorem dX13_send_74 : decode cX13_send 74 = .ok (.aload_n 0, 1) := by decide +kernel
theorem dX13_send_75 : decode cX13_send 75 = .ok (.iconst 0, 1) := by decide +kernel
theorem dX13_send_76 : decode cX13_send 76 = .ok (.iload_n 1, 1) := by decide +kernel
theorem dX13_send_77 : decode cX13_send 77 = .ok (.iconst 0, 1) := by decide +kernel
theorem dX13_send_78 : decode cX13_send 78 = .ok (.aload_n 0, 1) := by decide +kernel
theorem dX13_send_79 : decode cX13_send 79 = .ok (.invokevirtual 941, 3) := by decide +kernel
theorem dX13_send_82 : decode cX13_send 82 = .ok (.invokevirtual 1305, 3) := by decide +kernel
theorem dX13_send_85 : decode cX13_send 85 = .ok (.return_, 1) := by decide +kernel
theorem dX13_send_86 : decode cX13_send 86 = .ok (.aload_n 0, 1) := by decide +kernel
theorem dX13_send_87 : decode cX13_send 87 = .ok (.iconst 1, 1) := by decide +kernel
theorem dX13_send_88 : decode cX13_send 88 = .ok (.iload_n 1, 1) := by decide +kernel
theorem dX13_send_89 : decode cX13_send 89 = .ok (.iload_n 3, 1) := by decide +kernel
theorem dX13_send_90 : decode cX13_send 90 = .ok (.aload_n 0, 1) := by decide +kernel
theorem dX13_send_91 : decode cX13_send 91 = .ok (.invokevirtual 941, 3) := by decide +kernel
theorem dX13_send_94 : decode cX13_send 94 = .ok (.invokevirtual 1305, 3) := by decide +kernel
theorem dX13_send_97 : decode cX13_send 97 = .ok (.aload_n 0, 1) := by decide +kernel
theorem dX13_send_98 : decode cX13_send 98 = .ok (.iload 4, 2) := by decide +kernel
noncomputable def k_X13_send_25 (l1 : Int32) (l2 : Int32) (s : t_S) : Option (t_S) :=
 if (s.1 950 97) = (0 : Int32) then (if t_ix l2 401 = true then
  (f_X13_portAt l1 (s.1 991 (l2.toNatClampNeg)) s).bind (fun r2 =>
 if t_ix (((6 : Int32) * l1) + r2) 48 = true then
  if (s.1 1049 ((((6 : Int32) * l1) + r2).toNatClampNeg)) = (-1 : Int32) then (t_let (t_setJ s 950 172 ((s.2.1 950 172) + (1 : Int64))) (fun s1 =>
 (f_X13_note (0 : Int32) l1 (0 : Int32) (f_X13_top s1) s1).bind (fun r9 =>
 some (r9))))
 else ((f_X13_note (1 : Int32) l1 r2 (f_X13_top s) s).bind (fun r5 =>
 (f_X13_queueUp (s.1 1049 ((((6 : Int32) * l1) + r2).toNatClampNeg)) (r5.1 1050 ((((6 : Int32) * l1) + r2).toNatClampNeg)) (f_X13_top r5) l1 r5).bind (fun r7 =>
 some (r7.2))))
else none)
else none)
 else (some (s))
set_option maxRecDepth 4000 in
set_option maxHeartbeats 1000000 in
theorem B_X13_send_25 {D : va_G} {cy : Nat → ClassId} {ad : Nat → Nat} {bs : Nat} {X : State → Heap → Prop} (l1 : Int32) (l2 : Int32) (s : t_S) (Q : t_S → Prop) (hk : t_hk (k_X13_send_25 l1 l2 s) Q) : mj_G D cy ad bs X cX13_send 5 yX13_send.cls none yX13_send.name 1784 0 0 1065 (t_P (fun v s' => v = none ∧ Q (s'))) 25 [(0, .ref 950), (1, .int l1), (2, .int l2)] [] (t_m s) 1065 0 0 := by
  refine mj_aload_n dX13_send_25 0 rfl ?_
  refine t_getI dX13_send_26 F_X13_842 qf_950_97 ?_
  refine mj_if_eq 33 dX13_send_29 (by decide) (fun z => t_posK hk z (fun hk => ?_)) (fun z => t_negK hk z (fun hk => ?_))
  · refine mj_aload_n dX13_send_33 0 rfl ?_
    refine mj_iload_n dX13_send_34 1 rfl ?_
    refine mj_aload_n dX13_send_35 0 rfl ?_
    refine t_getR 991 dX13_send_36 F_X13_135 qr_950_69 ?_
    refine mj_iload_n dX13_send_39 2 rfl ?_
    refine t_chkK hk (fun c0 hk => ?_)
    refine t_iald dX13_send_40 qa_991 (t_ixv c0) ?_
    refine t_bndK hk (fun r2 er2 hk => ?_)
    refine t_callViP dX13_send_41 M_X13_portAt (C_X13_portAt _ _ _ _ er2) ML_X13_1448 IM_X13_portAt SE_X13_portAt qc_950 rfl (As := [.int l1, .int (s.1 991 (l2.toNatClampNeg))]) rfl rfl (Nat.le_of_ble_eq_true rfl) (Nat.le_of_ble_eq_true rfl) (Nat.le_of_ble_eq_true rfl) (Nat.le_of_ble_eq_true rfl) ?_
    refine mj_istore_n 3 (lv2 := [(3, .int r2), (0, .ref 950), (1, .int l1), (2, .int l2)]) dX13_send_44 rfl (by decide) rfl ?_
    refine mj_aload_n dX13_send_45 1 rfl ?_
    refine t_getR 1049 dX13_send_46 F_X13_315 qr_950_164 ?_
    refine mj_bipush (v := 6) dX13_send_49 (by decide) ?_
    refine mj_iload_n dX13_send_51 2 rfl ?_
    refine mj_imul dX13_send_52 ?_
    refine mj_iload_n dX13_send_53 0 rfl ?_
    refine mj_iadd dX13_send_54 ?_
    refine t_chkK hk (fun c2 hk => ?_)
    refine t_iald dX13_send_55 qa_1049 (t_ixv c2) ?_
    refine mj_istore (lv2 := [(4, .int (s.1 1049 ((((6 : Int32) * l1) + r2).toNatClampNeg))), (3, .int r2), (0, .ref 950), (1, .int l1), (2, .int l2)]) dX13_send_56 (by decide) rfl ?_
    refine mj_iload dX13_send_58 0 rfl ?_
    refine mj_iconst (v := (-1)) dX13_send_60 (by decide) ?_
    refine mj_icmp_ne 86 dX13_send_61 (by decide) (fun z => t_negK hk z (fun hk => ?_)) (fun z => t_posK hk z (fun hk => ?_))
    · refine mj_aload_n dX13_send_86 2 rfl ?_
      refine mj_iconst (v := 1) dX13_send_87 (by decide) ?_
      refine mj_iload_n dX13_send_88 3 rfl ?_
      refine mj_iload_n dX13_send_89 1 rfl ?_
      refine mj_aload_n dX13_send_90 2 rfl ?_
      refine t_callViP dX13_send_91 M_X13_top (C_X13_top _) ML_X13_941 IM_X13_top SE_X13_top qc_950 rfl (As := []) rfl rfl (Nat.le_of_ble_eq_true rfl) (Nat.le_of_ble_eq_true rfl) (Nat.le_of_ble_eq_true rfl) (Nat.le_of_ble_eq_true rfl) ?_
      refine t_bndK hk (fun r5 er5 hk => ?_)
      refine t_callVvE dX13_send_94 M_X13_note (C_X13_note _ _ _ _ _ _ er5) ML_X13_1305 IM_X13_note SE_X13_note qc_950 rfl (As := [.int 1, .int l1, .int r2, .int (f_X13_top s)]) rfl rfl (Nat.le_of_ble_eq_true rfl) (Nat.le_of_ble_eq_true rfl) (Nat.le_of_ble_eq_true rfl) (Nat.le_of_ble_eq_true rfl) ?_
      refine mj_aload_n dX13_send_97 2 rfl ?_
      refine mj_iload dX13_send_98 0 rfl ?_
      refine mj_aload_n dX13_send_100 2 rfl ?_
      refine t_getR 1050 dX13_send_101 F_X13_318 qr_950_165 ?_
      refine mj_bipush (v := 6) dX13_send_104 (by decide) ?_
      refine mj_iload_n dX13_send_106 3 rfl ?_
      refine mj_imul dX13_send_107 ?_
      refine mj_iload_n dX13_send_108 1 rfl ?_
      refine mj_iadd dX13_send_109 ?_
      refine t_iald dX13_send_110 qa_1050 (t_ixv c2) ?_
      refine mj_aload_n dX13_send_111 2 rfl ?_
      refine t_callViP dX13_send_112 M_X13_top (C_X13_top _) ML_X13_941 IM_X13_top SE_X13_top qc_950 rfl (As := []) rfl rfl (Nat.le_of_ble_eq_true rfl) (Nat.le_of_ble_eq_true rfl) (Nat.le_of_ble_eq_true rfl) (Nat.le_of_ble_eq_true rfl) ?_
      refine mj_iload_n dX13_send_115 3 rfl ?_
      refine t_bndK hk (fun r7 er7 hk => ?_)
      refine t_callViE dX13_send_116 M_X13_queueUp (C_X13_queueUp _ _ _ _ _ _ er7) ML_X13_1451 IM_X13_queueUp SE_X13_queueUp qc_950 rfl (As := [.int (s.1 1049 ((((6 : Int32) * l1) + r2).toNatClampNeg)), .int (r5.1 1050 ((((6 : Int32) * l1) + r2).toNatClampNeg)), .int (f_X13_top r5), .int l1]) rfl rfl (Nat.le_of_ble_eq_true rfl) (Nat.le_of_ble_eq_true rfl) (Nat.le_of_ble_eq_true rfl) (Nat.le_of_ble_eq_true rfl) ?_
      refine mj_pop dX13_send_119 rfl ?_
      exact t_somK hk (fun hf => t_vret dX13_send_120 rfl ⟨rfl, hf⟩ (Nat.le_of_ble_eq_true rfl) (Nat.le_of_ble_eq_true rfl))
    · refine mj_aload_n dX13_send_64 2 rfl ?_
      refine mj_aload_n dX13_send_65 2 rfl ?_
      refine t_getJ dX13_send_66 F_X13_1324 qf_950_172 ?_
      refine mj_lconst (v := 1) dX13_send_69 (by decide) ?_
      refine mj_ladd dX13_send_70 ?_
      refine t_putJK dX13_send_71 F_X13_1324 qf_950_172 rfl (fun s1 ws1 => t_letE hk ws1 (fun hk => ?_))
      refine mj_aload_n dX13_send_74 2 rfl ?_
      refine mj_iconst (v := 0) dX13_send_75 (by decide) ?_
      refine mj_iload_n dX13_send_76 3 rfl ?_
      refine mj_iconst (v := 0) dX13_send_77 (by decide) ?_
      refine mj_aload_n dX13_send_78 2 rfl ?_
      refine t_callViP dX13_send_79 M_X13_top (C_X13_top _) ML_X13_941 IM_X13_top SE_X13_top qc_950 rfl (As := []) rfl rfl (Nat.le_of_ble_eq_true rfl) (Nat.le_of_ble_eq_true rfl) (Nat.le_of_ble_eq_true rfl) (Nat.le_of_ble_eq_true rfl) ?_
      refine t_bndK hk (fun r9 er9 hk => ?_)
      refine t_callVvE dX13_send_82 M_X13_note (C_X13_note _ _ _ _ _ _ er9) ML_X13_1305 IM_X13_note SE_X13_note qc_950 rfl (As := [.int 0, .int l1, .int 0, .int (f_X13_top s1)]) rfl rfl (Nat.le_of_ble_eq_true rfl) (Nat.le_of_ble_eq_true rfl) (Nat.le_of_ble_eq_true rfl) (Nat.le_of_ble_eq_true rfl) ?_
      exact t_somK hk (fun hf => t_vret dX13_send_85 rfl ⟨rfl, hf⟩ (Nat.le_of_ble_eq_true rfl) (Nat.le_of_ble_eq_true rfl))
  · exact t_somK hk (fun hf => t_vret dX13_send_32 rfl ⟨rfl, hf⟩ (Nat.le_of_ble_eq_true rfl) (Nat.le_of_ble_eq_true rfl))
noncomputable def f_X13_send (x1 : Int32) (x2 : Int32) (s : t_S) : Option (t_S) :=
 if t_ix x2 401 = true then
  (f_X13_work (s.1 995 (x2.toNatClampNeg)) s).bind (fun r2 =>
 if (r2.1 950 97) = (0 : Int32) then ((f_X13_wantValue (f_X13_top r2) r2).bind (fun r4 =>
 k_X13_send_25 x1 x2 r4))
 else (k_X13_send_25 x1 x2 r2))
else none
set_option maxRecDepth 4000 in
set_option maxHeartbeats 1000000 in
theorem C_X13_send (x1 : Int32) (x2 : Int32) (s : t_S) (r : t_S) (hr : f_X13_send x1 x2 s = some r) : t_C yX13_send cX13_send 5 none 1784 [.ref 950, .int x1, .int x2] s (fun v s' => v = none ∧ s' = r) := by
  refine t_C.imp (P := fun v s' => v = none ∧ (fun q => q = r) (s')) (t_C.of (by decide +kernel) (Nat.le_of_ble_eq_true rfl) ?_) (fun v s' hp => hp)
  intro D cy ad bs X
  have hk : t_hk (f_X13_send x1 x2 s) (fun q => q = r) := ⟨r, hr, rfl⟩
  show mj_G D cy ad bs X cX13_send 5 yX13_send.cls none yX13_send.name 1784 0 0 1065 (t_P (fun v s' => v = none ∧ (fun q => q = r) (s'))) 0 [(0, .ref 950), (1, .int x1), (2, .int x2)] [] (t_m s) 1065 0 0
  refine mj_aload_n dX13_send_0 0 rfl ?_
  refine mj_aload_n dX13_send_1 0 rfl ?_
  refine t_getR 995 dX13_send_2 F_X13_147 qr_950_73 ?_
  refine mj_iload_n dX13_send_5 2 rfl ?_
  refine t_chkK hk (fun c0 hk => ?_)
  refine t_iald dX13_send_6 qa_995 (t_ixv c0) ?_
  refine t_bndK hk (fun r2 er2 hk => ?_)
  refine t_callSvE dX13_send_7 M_X13_work (C_X13_work _ _ _ er2) ML_X13_897 SM_X13_work (As := [.ref 950, .int (s.1 995 (x2.toNatClampNeg))]) rfl rfl (Nat.le_of_ble_eq_true rfl) (Nat.le_of_ble_eq_true rfl) (Nat.le_of_ble_eq_true rfl) (Nat.le_of_ble_eq_true rfl) ?_
  refine mj_aload_n dX13_send_10 0 rfl ?_
  refine t_getI dX13_send_11 F_X13_842 qf_950_97 ?_
  refine mj_if_ne 25 dX13_send_14 (by decide) (fun z => t_negK hk z (fun hk => ?_)) (fun z => t_posK hk z (fun hk => ?_))
  · exact B_X13_send_25 _ _ _ _ hk
  · refine mj_aload_n dX13_send_17 0 rfl ?_
    refine mj_aload_n dX13_send_18 0 rfl ?_
    refine t_callViP dX13_send_19 M_X13_top (C_X13_top _) ML_X13_941 IM_X13_top SE_X13_top qc_950 rfl (As := []) rfl rfl (Nat.le_of_ble_eq_true rfl) (Nat.le_of_ble_eq_true rfl) (Nat.le_of_ble_eq_true rfl) (Nat.le_of_ble_eq_true rfl) ?_
    refine t_bndK hk (fun r4 er4 hk => ?_)
    refine t_callVvE dX13_send_22 M_X13_wantValue (C_X13_wantValue _ _ _ er4) ML_X13_1389 IM_X13_wantValue SE_X13_wantValue qc_950 rfl (As := [.int (f_X13_top r2)]) rfl rfl (Nat.le_of_ble_eq_true rfl) (Nat.le_of_ble_eq_true rfl) (Nat.le_of_ble_eq_true rfl) (Nat.le_of_ble_eq_true rfl) ?_
    exact B_X13_send_25 _ _ _ _ hk

theorem dX13_start_0 : decode cX13_start 0 = .ok (.aload_n 0, 1) := by decide +kernel
theorem dX13_start_1 : decode cX13_start 1 = .ok (.aload_n 0, 1) := by decide +kernel
theorem dX13_start_10 : decode cX13_start 10 = .ok (.aload_n 0, 1) := by decide +kernel
theorem dX13_start_101 : decode cX13_start 101 = .ok (.iload 6, 2) := by decide +kernel
theorem dX13_start_103 : decode cX13_start 103 = .ok (.iaload, 1) := by decide +kernel
theorem dX13_start_104 : decode cX13_start 104 = .ok (.ifCond .ne 23, 3) := by decide +kernel
theorem dX13_start_107 : decode cX13_start 107 = .ok (.aload_n 0, 1) := by decide +kernel
theorem dX13_start_108 : decode cX13_start 108 = .ok (.sipush 2000, 3) := by decide +kernel
theorem dX13_start_11 : decode cX13_start 11 = .ok (.getfield 858, 3) := by decide +kernel
theorem dX13_start_111 : decode cX13_start 111 = .ok (.iload 7, 2) := by decide +kernel
theorem dX13_start_113 : decode cX13_start 113 = .ok (.iadd, 1) := by decide +kernel
theorem dX13_start_114 : decode cX13_start 114 = .ok (.invokevirtual 792, 3) := by decide +kernel
theorem dX13_start_117 : decode cX13_start 117 = .ok (.aload_n 0, 1) := by decide +kernel
theorem dX13_start_118 : decode cX13_start 118 = .ok (.getfield 273, 3) := by decide +kernel
theorem dX13_start_121 : decode cX13_start 121 = .ok (.iload 6, 2) := by decide +kernel
theorem dX13_start_123 : decode cX13_start 123 = .ok (.iaload, 1) := by decide +kernel
theorem dX13_start_124 : decode cX13_start 124 = .ok (.if_icmp .eq 10, 3) := by decide +kernel
theorem dX13_start_127 : decode cX13_start 127 = .ok (.aload_n 0, 1) := by decide +kernel
theorem dX13_start_128 : decode cX13_start 128 = .ok (.bipush 6, 2) := by decide +kernel
theorem dX13_start_130 : decode cX13_start 130 = .ok (.invokevirtual 866, 3) := by decide +kernel
theorem dX13_start_133 : decode cX13_start 133 = .ok (.return_, 1) := by decide +kernel
theorem dX13_start_134 : decode cX13_start 134 = .ok (.aload_n 0, 1) := by decide +kernel
theorem dX13_start_135 : decode cX13_start 135 = .ok (.getfield 276, 3) := by decide +kernel
theorem dX13_start_138 : decode cX13_start 138 = .ok (.iload 6, 2) := by decide +kernel
theorem dX13_start_14 : decode cX13_start 14 = .ok (.istore_n 3, 1) := by decide +kernel
theorem dX13_start_140 : decode cX13_start 140 = .ok (.iconst 1, 1) := by decide +kernel
theorem dX13_start_141 : decode cX13_start 141 = .ok (.iastore, 1) := by decide +kernel
theorem dX13_start_142 : decode cX13_start 142 = .ok (.aload_n 0, 1) := by decide +kernel
theorem dX13_start_143 : decode cX13_start 143 = .ok (.bipush 9, 2) := by decide +kernel
theorem dX13_start_145 : decode cX13_start 145 = .ok (.iload 6, 2) := by decide +kernel
theorem dX13_start_147 : decode cX13_start 147 = .ok (.iconst 0, 1) := by decide +kernel
theorem dX13_start_148 : decode cX13_start 148 = .ok (.iconst (-1), 1) := by decide +kernel
theorem dX13_start_149 : decode cX13_start 149 = .ok (.invokevirtual 1305, 3) := by decide +kernel
theorem dX13_start_15 : decode cX13_start 15 = .ok (.aload_n 0, 1) := by decide +kernel
theorem dX13_start_152 : decode cX13_start 152 = .ok (.aload_n 0, 1) := by decide +kernel
theorem dX13_start_153 : decode cX13_start 153 = .ok (.iload 6, 2) := by decide +kernel
theorem dX13_start_155 : decode cX13_start 155 = .ok (.iload 7, 2) := by decide +kernel
theorem dX13_start_157 : decode cX13_start 157 = .ok (.iconst (-1), 1) := by decide +kernel
theorem dX13_start_158 : decode cX13_start 158 = .ok (.iload_n 3, 1) := by decide +kernel
theorem dX13_start_159 : decode cX13_start 159 = .ok (.iload 4, 2) := by decide +kernel
theorem dX13_start_16 : decode cX13_start 16 = .ok (.getfield 842, 3) := by decide +kernel
theorem dX13_start_161 : decode cX13_start 161 = .ok (.invokevirtual 1333, 3) := by decide +kernel
theorem dX13_start_164 : decode cX13_start 164 = .ok (.aload_n 0, 1) := by decide +kernel
theorem dX13_start_165 : decode cX13_start 165 = .ok (.iload 6, 2) := by decide +kernel
theorem dX13_start_167 : decode cX13_start 167 = .ok (.invokevirtual 1337, 3) := by decide +kernel
theorem dX13_start_170 : decode cX13_start 170 = .ok (.return_, 1) := by decide +kernel
theorem dX13_start_19 : decode cX13_start 19 = .ok (.ifCond .ne 16, 3) := by decide +kernel
theorem dX13_start_2 : decode cX13_start 2 = .ok (.getfield 150, 3) := by decide +kernel
theorem dX13_start_22 : decode cX13_start 22 = .ok (.aload_n 0, 1) := by decide +kernel
theorem dX13_start_23 : decode cX13_start 23 = .ok (.aload_n 0, 1) := by decide +kernel
theorem dX13_start_24 : decode cX13_start 24 = .ok (.getfield 147, 3) := by decide +kernel
theorem dX13_start_27 : decode cX13_start 27 = .ok (.iload_n 2, 1) := by decide +kernel
theorem dX13_start_28 : decode cX13_start 28 = .ok (.iaload, 1) := by decide +kernel
theorem dX13_start_29 : decode cX13_start 29 = .ok (.invokevirtual 1439, 3) := by decide +kernel
theorem dX13_start_32 : decode cX13_start 32 = .ok (.goto 4, 3) := by decide +kernel
theorem dX13_start_35 : decode cX13_start 35 = .ok (.iconst 0, 1) := by decide +kernel
theorem dX13_start_36 : decode cX13_start 36 = .ok (.istore 4, 2) := by decide +kernel
theorem dX13_start_38 : decode cX13_start 38 = .ok (.aload_n 0, 1) := by decide +kernel
theorem dX13_start_39 : decode cX13_start 39 = .ok (.getfield 842, 3) := by decide +kernel
theorem dX13_start_42 : decode cX13_start 42 = .ok (.ifCond .eq 4, 3) := by decide +kernel
theorem dX13_start_45 : decode cX13_start 45 = .ok (.return_, 1) := by decide +kernel
theorem dX13_start_46 : decode cX13_start 46 = .ok (.sipush 260, 3) := by decide +kernel
theorem dX13_start_49 : decode cX13_start 49 = .ok (.bipush 40, 2) := by decide +kernel
theorem dX13_start_5 : decode cX13_start 5 = .ok (.iload_n 2, 1) := by decide +kernel
theorem dX13_start_51 : decode cX13_start 51 = .ok (.iload_n 3, 1) := by decide +kernel
theorem dX13_start_52 : decode cX13_start 52 = .ok (.iadd, 1) := by decide +kernel
theorem dX13_start_53 : decode cX13_start 53 = .ok (.iconst 1, 1) := by decide +kernel
theorem dX13_start_54 : decode cX13_start 54 = .ok (.isub, 1) := by decide +kernel
theorem dX13_start_55 : decode cX13_start 55 = .ok (.imul, 1) := by decide +kernel
theorem dX13_start_56 : decode cX13_start 56 = .ok (.istore 5, 2) := by decide +kernel
theorem dX13_start_58 : decode cX13_start 58 = .ok (.aload_n 0, 1) := by decide +kernel
theorem dX13_start_59 : decode cX13_start 59 = .ok (.getfield 182, 3) := by decide +kernel
theorem dX13_start_6 : decode cX13_start 6 = .ok (.iaload, 1) := by decide +kernel
theorem dX13_start_62 : decode cX13_start 62 = .ok (.iload 5, 2) := by decide +kernel
theorem dX13_start_64 : decode cX13_start 64 = .ok (.laload, 1) := by decide +kernel
theorem dX13_start_65 : decode cX13_start 65 = .ok (.ldc2_w 682, 3) := by decide +kernel
theorem dX13_start_68 : decode cX13_start 68 = .ok (.lcmp, 1) := by decide +kernel
theorem dX13_start_69 : decode cX13_start 69 = .ok (.ifCond .eq 9, 3) := by decide +kernel
theorem dX13_start_7 : decode cX13_start 7 = .ok (.invokestatic 897, 3) := by decide +kernel
theorem dX13_start_72 : decode cX13_start 72 = .ok (.aload_n 0, 1) := by decide +kernel
theorem dX13_start_73 : decode cX13_start 73 = .ok (.iconst 1, 1) := by decide +kernel
theorem dX13_start_74 : decode cX13_start 74 = .ok (.invokevirtual 866, 3) := by decide +kernel
theorem dX13_start_77 : decode cX13_start 77 = .ok (.return_, 1) := by decide +kernel
theorem dX13_start_78 : decode cX13_start 78 = .ok (.aload_n 0, 1) := by decide +kernel
theorem dX13_start_79 : decode cX13_start 79 = .ok (.getfield 182, 3) := by decide +kernel
theorem dX13_start_82 : decode cX13_start 82 = .ok (.iload 5, 2) := by decide +kernel
theorem dX13_start_84 : decode cX13_start 84 = .ok (.iconst 1, 1) := by decide +kernel
theorem dX13_start_85 : decode cX13_start 85 = .ok (.iadd, 1) := by decide +kernel
theorem dX13_start_86 : decode cX13_start 86 = .ok (.laload, 1) := by decide +kernel
theorem dX13_start_87 : decode cX13_start 87 = .ok (.l2i, 1) := by decide +kernel
theorem dX13_start_88 : decode cX13_start 88 = .ok (.istore 6, 2) := by decide +kernel
theorem dX13_start_90 : decode cX13_start 90 = .ok (.aload_n 0, 1) := by decide +kernel
theorem dX13_start_91 : decode cX13_start 91 = .ok (.iload_n 2, 1) := by decide +kernel
theorem dX13_start_92 : decode cX13_start 92 = .ok (.invokevirtual 1442, 3) := by decide +kernel
theorem dX13_start_95 : decode cX13_start 95 = .ok (.istore 7, 2) := by decide +kernel
theorem dX13_start_97 : decode cX13_start 97 = .ok (.aload_n 0, 1) := by decide +kernel
theorem dX13_start_98 : decode cX13_start 98 = .ok (.getfield 276, 3) := by decide +kernel
noncomputable def k_X13_start_127 (s : t_S) : Option (t_S) :=
 (f_X13_error (6 : Int32) s).bind (fun r1 =>
 some (r1))
set_option maxRecDepth 4000 in
set_option maxHeartbeats 1000000 in
theorem B_X13_start_127 {D : va_G} {cy : Nat → ClassId} {ad : Nat → Nat} {bs : Nat} {X : State → Heap → Prop} (s : t_S) (Q : t_S → Prop) (hk : t_hk (k_X13_start_127 s) Q) : mj_G D cy ad bs X cX13_start 8 yX13_start.cls none yX13_start.name 1785 0 0 1065 (t_P (fun v s' => v = none ∧ Q (s'))) 127 [(0, .ref 950)] [] (t_m s) 1065 0 0 := by
  refine mj_aload_n dX13_start_127 0 rfl ?_
  refine mj_bipush (v := 6) dX13_start_128 (by decide) ?_
  refine t_bndK hk (fun r1 er1 hk => ?_)
  refine t_callVvE dX13_start_130 M_X13_error (C_X13_error _ _ _ er1) ML_X13_866 IM_X13_error SE_X13_error qc_950 rfl (As := [.int 6]) rfl rfl (Nat.le_of_ble_eq_true rfl) (Nat.le_of_ble_eq_true rfl) (Nat.le_of_ble_eq_true rfl) (Nat.le_of_ble_eq_true rfl) ?_
  exact t_somK hk (fun hf => t_vret dX13_start_133 rfl ⟨rfl, hf⟩ (Nat.le_of_ble_eq_true rfl) (Nat.le_of_ble_eq_true rfl))
noncomputable def k_X13_start_36 (l2 : Int32) (l3 : Int32) (k0 : Int32) (s : t_S) : Option (t_S) :=
 if (s.1 950 97) = (0 : Int32) then (if t_ix ((260 : Int32) * (((40 : Int32) + l3) - (1 : Int32))) 626600 = true then
  if (lg_cmp (s.2.1 1006 (((260 : Int32) * (((40 : Int32) + l3) - (1 : Int32))).toNatClampNeg)) (5 : Int64)) = (0 : Int32) then (if t_ix (((260 : Int32) * (((40 : Int32) + l3) - (1 : Int32))) + (1 : Int32)) 626600 = true then
  (f_X13_funOf l2 s).bind (fun r3 =>
 if t_ix ((s.2.1 1006 ((((260 : Int32) * (((40 : Int32) + l3) - (1 : Int32))) + (1 : Int32)).toNatClampNeg)).toInt32) 8 = true then
  if (s.1 1036 (((s.2.1 1006 ((((260 : Int32) * (((40 : Int32) + l3) - (1 : Int32))) + (1 : Int32)).toNatClampNeg)).toInt32).toNatClampNeg)) = (0 : Int32) then ((f_X13_componentOf ((2000 : Int32) + r3) s).bind (fun r5 =>
 if r5 = (s.1 1035 (((s.2.1 1006 ((((260 : Int32) * (((40 : Int32) + l3) - (1 : Int32))) + (1 : Int32)).toNatClampNeg)).toInt32).toNatClampNeg)) then (t_let (t_setI s 1036 (((s.2.1 1006 ((((260 : Int32) * (((40 : Int32) + l3) - (1 : Int32))) + (1 : Int32)).toNatClampNeg)).toInt32).toNatClampNeg) (1 : Int32)) (fun s1 =>
 (f_X13_note (9 : Int32) ((s.2.1 1006 ((((260 : Int32) * (((40 : Int32) + l3) - (1 : Int32))) + (1 : Int32)).toNatClampNeg)).toInt32) (0 : Int32) (-1 : Int32) s1).bind (fun r6 =>
 (f_X13_newFrame ((s.2.1 1006 ((((260 : Int32) * (((40 : Int32) + l3) - (1 : Int32))) + (1 : Int32)).toNatClampNeg)).toInt32) r3 (-1 : Int32) l3 k0 r6).bind (fun r7 =>
 (f_X13_settle ((s.2.1 1006 ((((260 : Int32) * (((40 : Int32) + l3) - (1 : Int32))) + (1 : Int32)).toNatClampNeg)).toInt32) r7).bind (fun r8 =>
 some (r8))))))
 else (k_X13_start_127 s)))
 else (k_X13_start_127 s)
else none)
else none)
 else ((f_X13_error (1 : Int32) s).bind (fun r9 =>
 some (r9)))
else none)
 else (some (s))
set_option maxRecDepth 4000 in
set_option maxHeartbeats 1000000 in
theorem B_X13_start_36 {D : va_G} {cy : Nat → ClassId} {ad : Nat → Nat} {bs : Nat} {X : State → Heap → Prop} (l2 : Int32) (l3 : Int32) (k0 : Int32) (s : t_S) (Q : t_S → Prop) (hk : t_hk (k_X13_start_36 l2 l3 k0 s) Q) : mj_G D cy ad bs X cX13_start 8 yX13_start.cls none yX13_start.name 1785 0 0 1065 (t_P (fun v s' => v = none ∧ Q (s'))) 36 [(0, .ref 950), (2, .int l2), (3, .int l3)] [.int k0] (t_m s) 1065 0 0 := by
  refine mj_istore (lv2 := [(4, .int k0), (0, .ref 950), (2, .int l2), (3, .int l3)]) dX13_start_36 (by decide) rfl ?_
  refine mj_aload_n dX13_start_38 1 rfl ?_
  refine t_getI dX13_start_39 F_X13_842 qf_950_97 ?_
  refine mj_if_eq 46 dX13_start_42 (by decide) (fun z => t_posK hk z (fun hk => ?_)) (fun z => t_negK hk z (fun hk => ?_))
  · refine mj_sipush (v := 260) dX13_start_46 (by decide) ?_
    refine mj_bipush (v := 40) dX13_start_49 (by decide) ?_
    refine mj_iload_n dX13_start_51 3 rfl ?_
    refine mj_iadd dX13_start_52 ?_
    refine mj_iconst (v := 1) dX13_start_53 (by decide) ?_
    refine mj_isub dX13_start_54 ?_
    refine mj_imul dX13_start_55 ?_
    refine mj_istore (lv2 := [(5, .int ((260 : Int32) * (((40 : Int32) + l3) - (1 : Int32)))), (4, .int k0), (0, .ref 950), (2, .int l2), (3, .int l3)]) dX13_start_56 (by decide) rfl ?_
    refine mj_aload_n dX13_start_58 2 rfl ?_
    refine t_getR 1006 dX13_start_59 F_X13_182 qr_950_95 ?_
    refine mj_iload dX13_start_62 0 rfl ?_
    refine t_chkK hk (fun c0 hk => ?_)
    refine t_lald dX13_start_64 qa_1006 (t_ixv c0) ?_
    refine mj_ldc2 dX13_start_65 K_X13_682 ?_
    refine mj_lcmp dX13_start_68 ?_
    refine mj_if_eq 78 dX13_start_69 (by decide) (fun z => t_posK hk z (fun hk => ?_)) (fun z => t_negK hk z (fun hk => ?_))
    · refine mj_aload_n dX13_start_78 2 rfl ?_
      refine t_getR 1006 dX13_start_79 F_X13_182 qr_950_95 ?_
      refine mj_iload dX13_start_82 0 rfl ?_
      refine mj_iconst (v := 1) dX13_start_84 (by decide) ?_
      refine mj_iadd dX13_start_85 ?_
      refine t_chkK hk (fun c1 hk => ?_)
      refine t_lald dX13_start_86 qa_1006 (t_ixv c1) ?_
      refine mj_l2i (v := (s.2.1 1006 ((((260 : Int32) * (((40 : Int32) + l3) - (1 : Int32))) + (1 : Int32)).toNatClampNeg)).toInt32) dX13_start_87 rfl ?_
      refine mj_istore (lv2 := [(6, .int ((s.2.1 1006 ((((260 : Int32) * (((40 : Int32) + l3) - (1 : Int32))) + (1 : Int32)).toNatClampNeg)).toInt32)), (5, .int ((260 : Int32) * (((40 : Int32) + l3) - (1 : Int32)))), (4, .int k0), (0, .ref 950), (2, .int l2), (3, .int l3)]) dX13_start_88 (by decide) rfl ?_
      refine mj_aload_n dX13_start_90 3 rfl ?_
      refine mj_iload_n dX13_start_91 4 rfl ?_
      refine t_bndK hk (fun r3 er3 hk => ?_)
      refine t_callViP dX13_start_92 M_X13_funOf (C_X13_funOf _ _ _ er3) ML_X13_1442 IM_X13_funOf SE_X13_funOf qc_950 rfl (As := [.int l2]) rfl rfl (Nat.le_of_ble_eq_true rfl) (Nat.le_of_ble_eq_true rfl) (Nat.le_of_ble_eq_true rfl) (Nat.le_of_ble_eq_true rfl) ?_
      refine mj_istore (lv2 := [(7, .int r3), (6, .int ((s.2.1 1006 ((((260 : Int32) * (((40 : Int32) + l3) - (1 : Int32))) + (1 : Int32)).toNatClampNeg)).toInt32)), (5, .int ((260 : Int32) * (((40 : Int32) + l3) - (1 : Int32)))), (4, .int k0), (0, .ref 950), (2, .int l2), (3, .int l3)]) dX13_start_95 (by decide) rfl ?_
      refine mj_aload_n dX13_start_97 4 rfl ?_
      refine t_getR 1036 dX13_start_98 F_X13_276 qr_950_151 ?_
      refine mj_iload dX13_start_101 1 rfl ?_
      refine t_chkK hk (fun c3 hk => ?_)
      refine t_iald dX13_start_103 qa_1036 (t_ixv c3) ?_
      refine mj_if_ne 127 dX13_start_104 (by decide) (fun z => t_negK hk z (fun hk => ?_)) (fun z => t_posK hk z (fun hk => ?_))
      · refine mj_sublv [(0, .ref 950)] [4] rfl ?_
        exact B_X13_start_127 _ _ hk
      · refine mj_aload_n dX13_start_107 4 rfl ?_
        refine mj_sipush (v := 2000) dX13_start_108 (by decide) ?_
        refine mj_iload dX13_start_111 0 rfl ?_
        refine mj_iadd dX13_start_113 ?_
        refine t_bndK hk (fun r5 er5 hk => ?_)
        refine t_callViP dX13_start_114 M_X13_componentOf (C_X13_componentOf _ _ _ er5) ML_X13_792 IM_X13_componentOf SE_X13_componentOf qc_950 rfl (As := [.int ((2000 : Int32) + r3)]) rfl rfl (Nat.le_of_ble_eq_true rfl) (Nat.le_of_ble_eq_true rfl) (Nat.le_of_ble_eq_true rfl) (Nat.le_of_ble_eq_true rfl) ?_
        refine mj_aload_n dX13_start_117 4 rfl ?_
        refine t_getR 1035 dX13_start_118 F_X13_273 qr_950_150 ?_
        refine mj_iload dX13_start_121 1 rfl ?_
        refine t_iald dX13_start_123 qa_1035 (t_ixv c3) ?_
        refine mj_icmp_eq 134 dX13_start_124 (by decide) (fun z => t_posK hk z (fun hk => ?_)) (fun z => t_negK hk z (fun hk => ?_))
        · refine mj_aload_n dX13_start_134 4 rfl ?_
          refine t_getR 1036 dX13_start_135 F_X13_276 qr_950_151 ?_
          refine mj_iload dX13_start_138 1 rfl ?_
          refine mj_iconst (v := 1) dX13_start_140 (by decide) ?_
          refine t_iastK dX13_start_141 qa_1036 (t_ixv c3) (fun s1 ws1 => t_letE hk ws1 (fun hk => ?_))
          refine mj_aload_n dX13_start_142 4 rfl ?_
          refine mj_bipush (v := 9) dX13_start_143 (by decide) ?_
          refine mj_iload dX13_start_145 1 rfl ?_
          refine mj_iconst (v := 0) dX13_start_147 (by decide) ?_
          refine mj_iconst (v := (-1)) dX13_start_148 (by decide) ?_
          refine t_bndK hk (fun r6 er6 hk => ?_)
          refine t_callVvE dX13_start_149 M_X13_note (C_X13_note _ _ _ _ _ _ er6) ML_X13_1305 IM_X13_note SE_X13_note qc_950 rfl (As := [.int 9, .int ((s.2.1 1006 ((((260 : Int32) * (((40 : Int32) + l3) - (1 : Int32))) + (1 : Int32)).toNatClampNeg)).toInt32), .int 0, .int (-1)]) rfl rfl (Nat.le_of_ble_eq_true rfl) (Nat.le_of_ble_eq_true rfl) (Nat.le_of_ble_eq_true rfl) (Nat.le_of_ble_eq_true rfl) ?_
          refine mj_aload_n dX13_start_152 4 rfl ?_
          refine mj_iload dX13_start_153 1 rfl ?_
          refine mj_iload dX13_start_155 0 rfl ?_
          refine mj_iconst (v := (-1)) dX13_start_157 (by decide) ?_
          refine mj_iload_n dX13_start_158 6 rfl ?_
          refine mj_iload dX13_start_159 3 rfl ?_
          refine t_bndK hk (fun r7 er7 hk => ?_)
          refine t_callVvE dX13_start_161 M_X13_newFrame (C_X13_newFrame _ _ _ _ _ _ _ er7) ML_X13_1333 IM_X13_newFrame SE_X13_newFrame qc_950 rfl (As := [.int ((s.2.1 1006 ((((260 : Int32) * (((40 : Int32) + l3) - (1 : Int32))) + (1 : Int32)).toNatClampNeg)).toInt32), .int r3, .int (-1), .int l3, .int k0]) rfl rfl (Nat.le_of_ble_eq_true rfl) (Nat.le_of_ble_eq_true rfl) (Nat.le_of_ble_eq_true rfl) (Nat.le_of_ble_eq_true rfl) ?_
          refine mj_aload_n dX13_start_164 4 rfl ?_
          refine mj_iload dX13_start_165 1 rfl ?_
          refine t_bndK hk (fun r8 er8 hk => ?_)
          refine t_callVvE dX13_start_167 M_X13_settle (C_X13_settle _ _ _ er8) ML_X13_1337 IM_X13_settle SE_X13_settle qc_950 rfl (As := [.int ((s.2.1 1006 ((((260 : Int32) * (((40 : Int32) + l3) - (1 : Int32))) + (1 : Int32)).toNatClampNeg)).toInt32)]) rfl rfl (Nat.le_of_ble_eq_true rfl) (Nat.le_of_ble_eq_true rfl) (Nat.le_of_ble_eq_true rfl) (Nat.le_of_ble_eq_true rfl) ?_
          exact t_somK hk (fun hf => t_vret dX13_start_170 rfl ⟨rfl, hf⟩ (Nat.le_of_ble_eq_true rfl) (Nat.le_of_ble_eq_true rfl))
        · refine mj_sublv [(0, .ref 950)] [4] rfl ?_
          exact B_X13_start_127 _ _ hk
    · refine mj_aload_n dX13_start_72 2 rfl ?_
      refine mj_iconst (v := 1) dX13_start_73 (by decide) ?_
      refine t_bndK hk (fun r9 er9 hk => ?_)
      refine t_callVvE dX13_start_74 M_X13_error (C_X13_error _ _ _ er9) ML_X13_866 IM_X13_error SE_X13_error qc_950 rfl (As := [.int 1]) rfl rfl (Nat.le_of_ble_eq_true rfl) (Nat.le_of_ble_eq_true rfl) (Nat.le_of_ble_eq_true rfl) (Nat.le_of_ble_eq_true rfl) ?_
      exact t_somK hk (fun hf => t_vret dX13_start_77 rfl ⟨rfl, hf⟩ (Nat.le_of_ble_eq_true rfl) (Nat.le_of_ble_eq_true rfl))
  · exact t_somK hk (fun hf => t_vret dX13_start_45 rfl ⟨rfl, hf⟩ (Nat.le_of_ble_eq_true rfl) (Nat.le_of_ble_eq_true rfl))
noncomputable def f_X13_start (x1 : Int32) (x2 : Int32) (s : t_S) : Option (t_S) :=
 if t_ix x2 401 = true then
  (f_X13_work (s.1 996 (x2.toNatClampNeg)) s).bind (fun r2 =>
 if (r2.1 950 97) = (0 : Int32) then ((f_X13_workAll (r2.1 995 (x2.toNatClampNeg)) r2).bind (fun r3 =>
 k_X13_start_36 x2 (r2.1 950 98) r3.1 r3.2))
 else (k_X13_start_36 x2 (r2.1 950 98) 0 r2))
else none
set_option maxRecDepth 4000 in
set_option maxHeartbeats 1000000 in
theorem C_X13_start (x1 : Int32) (x2 : Int32) (s : t_S) (r : t_S) (hr : f_X13_start x1 x2 s = some r) : t_C yX13_start cX13_start 8 none 1785 [.ref 950, .int x1, .int x2] s (fun v s' => v = none ∧ s' = r) := by
  refine t_C.imp (P := fun v s' => v = none ∧ (fun q => q = r) (s')) (t_C.of (by decide +kernel) (Nat.le_of_ble_eq_true rfl) ?_) (fun v s' hp => hp)
  intro D cy ad bs X
  have hk : t_hk (f_X13_start x1 x2 s) (fun q => q = r) := ⟨r, hr, rfl⟩
  show mj_G D cy ad bs X cX13_start 8 yX13_start.cls none yX13_start.name 1785 0 0 1065 (t_P (fun v s' => v = none ∧ (fun q => q = r) (s'))) 0 [(0, .ref 950), (1, .int x1), (2, .int x2)] [] (t_m s) 1065 0 0
  refine mj_aload_n dX13_start_0 0 rfl ?_
  refine mj_aload_n dX13_start_1 0 rfl ?_
  refine t_getR 996 dX13_start_2 F_X13_150 qr_950_74 ?_
  refine mj_iload_n dX13_start_5 2 rfl ?_
  refine t_chkK hk (fun c0 hk => ?_)
  refine t_iald dX13_start_6 qa_996 (t_ixv c0) ?_
  refine t_bndK hk (fun r2 er2 hk => ?_)
  refine t_callSvE dX13_start_7 M_X13_work (C_X13_work _ _ _ er2) ML_X13_897 SM_X13_work (As := [.ref 950, .int (s.1 996 (x2.toNatClampNeg))]) rfl rfl (Nat.le_of_ble_eq_true rfl) (Nat.le_of_ble_eq_true rfl) (Nat.le_of_ble_eq_true rfl) (Nat.le_of_ble_eq_true rfl) ?_
  refine mj_aload_n dX13_start_10 0 rfl ?_
  refine t_getI dX13_start_11 F_X13_858 qf_950_98 ?_
  refine mj_istore_n 3 (lv2 := [(3, .int (r2.1 950 98)), (0, .ref 950), (1, .int x1), (2, .int x2)]) dX13_start_14 rfl (by decide) rfl ?_
  refine mj_aload_n dX13_start_15 1 rfl ?_
  refine t_getI dX13_start_16 F_X13_842 qf_950_97 ?_
  refine mj_if_ne 35 dX13_start_19 (by decide) (fun z => t_negK hk z (fun hk => ?_)) (fun z => t_posK hk z (fun hk => ?_))
  · refine mj_iconst (v := 0) dX13_start_35 (by decide) ?_
    refine mj_sublv [(0, .ref 950), (2, .int x2), (3, .int (r2.1 950 98))] [1, 3, 0] rfl ?_
    exact B_X13_start_36 _ _ _ _ _ hk
  · refine mj_aload_n dX13_start_22 1 rfl ?_
    refine mj_aload_n dX13_start_23 1 rfl ?_
    refine t_getR 995 dX13_start_24 F_X13_147 qr_950_73 ?_
    refine mj_iload_n dX13_start_27 3 rfl ?_
    refine t_iald dX13_start_28 qa_995 (t_ixv c0) ?_
    refine t_bndK hk (fun r3 er3 hk => ?_)
    refine t_callViE dX13_start_29 M_X13_workAll (C_X13_workAll _ _ _ er3) ML_X13_1439 IM_X13_workAll SE_X13_workAll qc_950 rfl (As := [.int (r2.1 995 (x2.toNatClampNeg))]) rfl rfl (Nat.le_of_ble_eq_true rfl) (Nat.le_of_ble_eq_true rfl) (Nat.le_of_ble_eq_true rfl) (Nat.le_of_ble_eq_true rfl) ?_
    refine mj_goto 36 dX13_start_32 (by decide) ?_
    refine mj_sublv [(0, .ref 950), (2, .int x2), (3, .int (r2.1 950 98))] [1, 3, 0] rfl ?_
    exact B_X13_start_36 _ _ _ _ _ hk

theorem dX13_usual_0 : decode cX13_usual 0 = .ok (.aload_n 0, 1) := by decide +kernel
theorem dX13_usual_1 : decode cX13_usual 1 = .ok (.getfield 858, 3) := by decide +kernel
theorem dX13_usual_10 : decode cX13_usual 10 = .ok (.iload_n 2, 1) := by decide +kernel
theorem dX13_usual_100 : decode cX13_usual 100 = .ok (.sipush 260, 3) := by decide +kernel
theorem dX13_usual_103 : decode cX13_usual 103 = .ok (.bipush 40, 2) := by decide +kernel
theorem dX13_usual_105 : decode cX13_usual 105 = .ok (.iload_n 3, 1) := by decide +kernel
theorem dX13_usual_106 : decode cX13_usual 106 = .ok (.iadd, 1) := by decide +kernel
theorem dX13_usual_107 : decode cX13_usual 107 = .ok (.iload 6, 2) := by decide +kernel
theorem dX13_usual_109 : decode cX13_usual 109 = .ok (.iadd, 1) := by decide +kernel
theorem dX13_usual_11 : decode cX13_usual 11 = .ok (.iaload, 1) := by decide +kernel
theorem dX13_usual_110 : decode cX13_usual 110 = .ok (.imul, 1) := by decide +kernel
theorem dX13_usual_111 : decode cX13_usual 111 = .ok (.sipush 1800, 3) := by decide +kernel
theorem dX13_usual_114 : decode cX13_usual 114 = .ok (.bipush 32, 2) := by decide +kernel
theorem dX13_usual_116 : decode cX13_usual 116 = .ok (.iload_n 1, 1) := by decide +kernel
theorem dX13_usual_117 : decode cX13_usual 117 = .ok (.imul, 1) := by decide +kernel
theorem dX13_usual_118 : decode cX13_usual 118 = .ok (.iadd, 1) := by decide +kernel
theorem dX13_usual_119 : decode cX13_usual 119 = .ok (.bipush 8, 2) := by decide +kernel
theorem dX13_usual_12 : decode cX13_usual 12 = .ok (.invokevirtual 1439, 3) := by decide +kernel
theorem dX13_usual_121 : decode cX13_usual 121 = .ok (.iload 5, 2) := by decide +kernel
theorem dX13_usual_123 : decode cX13_usual 123 = .ok (.imul, 1) := by decide +kernel
theorem dX13_usual_124 : decode cX13_usual 124 = .ok (.iadd, 1) := by decide +kernel
theorem dX13_usual_125 : decode cX13_usual 125 = .ok (.iload 6, 2) := by decide +kernel
theorem dX13_usual_127 : decode cX13_usual 127 = .ok (.iadd, 1) := by decide +kernel
theorem dX13_usual_128 : decode cX13_usual 128 = .ok (.invokevirtual 861, 3) := by decide +kernel
theorem dX13_usual_131 : decode cX13_usual 131 = .ok (.goto 24, 3) := by decide +kernel
theorem dX13_usual_134 : decode cX13_usual 134 = .ok (.aload_n 0, 1) := by decide +kernel
theorem dX13_usual_135 : decode cX13_usual 135 = .ok (.sipush 1800, 3) := by decide +kernel
theorem dX13_usual_138 : decode cX13_usual 138 = .ok (.bipush 32, 2) := by decide +kernel
theorem dX13_usual_140 : decode cX13_usual 140 = .ok (.iload_n 1, 1) := by decide +kernel
theorem dX13_usual_141 : decode cX13_usual 141 = .ok (.imul, 1) := by decide +kernel
theorem dX13_usual_142 : decode cX13_usual 142 = .ok (.iadd, 1) := by decide +kernel
theorem dX13_usual_143 : decode cX13_usual 143 = .ok (.bipush 8, 2) := by decide +kernel
theorem dX13_usual_145 : decode cX13_usual 145 = .ok (.iload 5, 2) := by decide +kernel
theorem dX13_usual_147 : decode cX13_usual 147 = .ok (.imul, 1) := by decide +kernel
theorem dX13_usual_148 : decode cX13_usual 148 = .ok (.iadd, 1) := by decide +kernel
theorem dX13_usual_149 : decode cX13_usual 149 = .ok (.iload 6, 2) := by decide +kernel
theorem dX13_usual_15 : decode cX13_usual 15 = .ok (.istore 4, 2) := by decide +kernel
theorem dX13_usual_151 : decode cX13_usual 151 = .ok (.iadd, 1) := by decide +kernel
theorem dX13_usual_152 : decode cX13_usual 152 = .ok (.invokevirtual 1318, 3) := by decide +kernel
theorem dX13_usual_155 : decode cX13_usual 155 = .ok (.iinc 6 1, 3) := by decide +kernel
theorem dX13_usual_158 : decode cX13_usual 158 = .ok (.goto (-73), 3) := by decide +kernel
theorem dX13_usual_161 : decode cX13_usual 161 = .ok (.return_, 1) := by decide +kernel
theorem dX13_usual_17 : decode cX13_usual 17 = .ok (.aload_n 0, 1) := by decide +kernel
theorem dX13_usual_18 : decode cX13_usual 18 = .ok (.getfield 842, 3) := by decide +kernel
theorem dX13_usual_21 : decode cX13_usual 21 = .ok (.ifCond .ne 19, 3) := by decide +kernel
theorem dX13_usual_24 : decode cX13_usual 24 = .ok (.aload_n 0, 1) := by decide +kernel
theorem dX13_usual_25 : decode cX13_usual 25 = .ok (.getfield 294, 3) := by decide +kernel
theorem dX13_usual_28 : decode cX13_usual 28 = .ok (.iload_n 1, 1) := by decide +kernel
theorem dX13_usual_29 : decode cX13_usual 29 = .ok (.iaload, 1) := by decide +kernel
theorem dX13_usual_30 : decode cX13_usual 30 = .ok (.iconst 4, 1) := by decide +kernel
theorem dX13_usual_31 : decode cX13_usual 31 = .ok (.if_icmp .ne 9, 3) := by decide +kernel
theorem dX13_usual_34 : decode cX13_usual 34 = .ok (.aload_n 0, 1) := by decide +kernel
theorem dX13_usual_35 : decode cX13_usual 35 = .ok (.bipush 7, 2) := by decide +kernel
theorem dX13_usual_37 : decode cX13_usual 37 = .ok (.invokevirtual 866, 3) := by decide +kernel
theorem dX13_usual_4 : decode cX13_usual 4 = .ok (.istore_n 3, 1) := by decide +kernel
theorem dX13_usual_40 : decode cX13_usual 40 = .ok (.aload_n 0, 1) := by decide +kernel
theorem dX13_usual_41 : decode cX13_usual 41 = .ok (.getfield 842, 3) := by decide +kernel
theorem dX13_usual_44 : decode cX13_usual 44 = .ok (.ifCond .eq 4, 3) := by decide +kernel
theorem dX13_usual_47 : decode cX13_usual 47 = .ok (.return_, 1) := by decide +kernel
theorem dX13_usual_48 : decode cX13_usual 48 = .ok (.aload_n 0, 1) := by decide +kernel
theorem dX13_usual_49 : decode cX13_usual 49 = .ok (.getfield 294, 3) := by decide +kernel
theorem dX13_usual_5 : decode cX13_usual 5 = .ok (.aload_n 0, 1) := by decide +kernel
theorem dX13_usual_52 : decode cX13_usual 52 = .ok (.iload_n 1, 1) := by decide +kernel
theorem dX13_usual_53 : decode cX13_usual 53 = .ok (.iaload, 1) := by decide +kernel
theorem dX13_usual_54 : decode cX13_usual 54 = .ok (.istore 5, 2) := by decide +kernel
theorem dX13_usual_56 : decode cX13_usual 56 = .ok (.aload_n 0, 1) := by decide +kernel
theorem dX13_usual_57 : decode cX13_usual 57 = .ok (.getfield 294, 3) := by decide +kernel
theorem dX13_usual_6 : decode cX13_usual 6 = .ok (.aload_n 0, 1) := by decide +kernel
theorem dX13_usual_60 : decode cX13_usual 60 = .ok (.iload_n 1, 1) := by decide +kernel
theorem dX13_usual_61 : decode cX13_usual 61 = .ok (.dup2, 1) := by decide +kernel
theorem dX13_usual_62 : decode cX13_usual 62 = .ok (.iaload, 1) := by decide +kernel
theorem dX13_usual_63 : decode cX13_usual 63 = .ok (.iconst 1, 1) := by decide +kernel
theorem dX13_usual_64 : decode cX13_usual 64 = .ok (.iadd, 1) := by decide +kernel
theorem dX13_usual_65 : decode cX13_usual 65 = .ok (.iastore, 1) := by decide +kernel
theorem dX13_usual_66 : decode cX13_usual 66 = .ok (.aload_n 0, 1) := by decide +kernel
theorem dX13_usual_67 : decode cX13_usual 67 = .ok (.getfield 297, 3) := by decide +kernel
theorem dX13_usual_7 : decode cX13_usual 7 = .ok (.getfield 147, 3) := by decide +kernel
theorem dX13_usual_70 : decode cX13_usual 70 = .ok (.iconst 4, 1) := by decide +kernel
theorem dX13_usual_71 : decode cX13_usual 71 = .ok (.iload_n 1, 1) := by decide +kernel
theorem dX13_usual_72 : decode cX13_usual 72 = .ok (.imul, 1) := by decide +kernel
theorem dX13_usual_73 : decode cX13_usual 73 = .ok (.iload 5, 2) := by decide +kernel
theorem dX13_usual_75 : decode cX13_usual 75 = .ok (.iadd, 1) := by decide +kernel
theorem dX13_usual_76 : decode cX13_usual 76 = .ok (.aload_n 0, 1) := by decide +kernel
theorem dX13_usual_77 : decode cX13_usual 77 = .ok (.iload_n 2, 1) := by decide +kernel
theorem dX13_usual_78 : decode cX13_usual 78 = .ok (.invokevirtual 1442, 3) := by decide +kernel
theorem dX13_usual_81 : decode cX13_usual 81 = .ok (.iastore, 1) := by decide +kernel
theorem dX13_usual_82 : decode cX13_usual 82 = .ok (.iconst 0, 1) := by decide +kernel
theorem dX13_usual_83 : decode cX13_usual 83 = .ok (.istore 6, 2) := by decide +kernel
theorem dX13_usual_85 : decode cX13_usual 85 = .ok (.iload 6, 2) := by decide +kernel
theorem dX13_usual_87 : decode cX13_usual 87 = .ok (.bipush 8, 2) := by decide +kernel
theorem dX13_usual_89 : decode cX13_usual 89 = .ok (.if_icmp .ge 72, 3) := by decide +kernel
theorem dX13_usual_92 : decode cX13_usual 92 = .ok (.iload 6, 2) := by decide +kernel
theorem dX13_usual_94 : decode cX13_usual 94 = .ok (.iload 4, 2) := by decide +kernel
theorem dX13_usual_96 : decode cX13_usual 96 = .ok (.if_icmp .ge 38, 3) := by decide +kernel
theorem dX13_usual_99 : decode cX13_usual 99 = .ok (.aload_n 0, 1) := by decide +kernel
noncomputable def k_X13_usual_155 (l1 : Int32) (l3 : Int32) (l4 : Int32) (l5 : Int32) (l6 : Int32) (s : t_S) : Option ((Int32 × Int32 × Int32 × Int32 × Int32 × t_S) ⊕ (t_S)) :=
 some (.inl (l1, l3, l4, l5, (l6 + 1), s))
set_option maxRecDepth 4000 in
set_option maxHeartbeats 1000000 in
theorem B_X13_usual_155 {D : va_G} {cy : Nat → ClassId} {ad : Nat → Nat} {bs : Nat} {X : State → Heap → Prop} (l1 : Int32) (l3 : Int32) (l4 : Int32) (l5 : Int32) (l6 : Int32) (s : t_S) (Q : (Int32 × Int32 × Int32 × Int32 × Int32 × t_S) ⊕ (t_S) → Prop) (Hb85 : ∀ (y0 : Int32) (y1 : Int32) (y2 : Int32) (y3 : Int32) (y4 : Int32) (y5 : t_S), Q (.inl (y0, y1, y2, y3, y4, y5)) → mj_G D cy ad bs X cX13_usual 7 yX13_usual.cls none yX13_usual.name 1785 0 0 1065 (t_P (fun v s' => v = none ∧ Q (.inr (s')))) 85 [(0, .ref 950), (1, .int (y0)), (3, .int (y1)), (4, .int (y2)), (5, .int (y3)), (6, .int (y4))] [] (t_m y5) 1065 0 0) (hk : t_hk (k_X13_usual_155 l1 l3 l4 l5 l6 s) Q) : mj_G D cy ad bs X cX13_usual 7 yX13_usual.cls none yX13_usual.name 1785 0 0 1065 (t_P (fun v s' => v = none ∧ Q (.inr (s')))) 155 [(0, .ref 950), (1, .int l1), (3, .int l3), (4, .int l4), (5, .int l5), (6, .int l6)] [] (t_m s) 1065 0 0 := by
  refine mj_iinc (k := 5) (v := (l6 + 1)) (lv2 := [(6, .int (l6 + 1)), (0, .ref 950), (1, .int l1), (3, .int l3), (4, .int l4), (5, .int l5)]) dX13_usual_155 rfl rfl (by decide) rfl ?_
  refine mj_goto 85 dX13_usual_158 (by decide) ?_
  refine mj_sublv [(0, .ref 950), (1, .int l1), (3, .int l3), (4, .int l4), (5, .int l5), (6, .int (l6 + 1))] [1, 2, 3, 4, 5, 0] rfl ?_
  exact t_somK hk (fun hf => Hb85 l1 l3 l4 l5 (l6 + 1) s hf)
noncomputable def k_X13_usual_85 (l1 : Int32) (l3 : Int32) (l4 : Int32) (l5 : Int32) (l6 : Int32) (s : t_S) : Option ((Int32 × Int32 × Int32 × Int32 × Int32 × t_S) ⊕ (t_S)) :=
 if (8 : Int32) ≤ l6 then ((some (s)).map Sum.inr)
 else (if l4 ≤ l6 then ((f_X13_setOmit ((((1800 : Int32) + ((32 : Int32) * l1)) + ((8 : Int32) * l5)) + l6) s).bind (fun r1 =>
 k_X13_usual_155 l1 l3 l4 l5 l6 r1))
 else ((f_X13_copy ((260 : Int32) * (((40 : Int32) + l3) + l6)) ((((1800 : Int32) + ((32 : Int32) * l1)) + ((8 : Int32) * l5)) + l6) s).bind (fun r2 =>
 k_X13_usual_155 l1 l3 l4 l5 l6 r2)))
set_option maxRecDepth 4000 in
set_option maxHeartbeats 1000000 in
theorem B_X13_usual_85 {D : va_G} {cy : Nat → ClassId} {ad : Nat → Nat} {bs : Nat} {X : State → Heap → Prop} (l1 : Int32) (l3 : Int32) (l4 : Int32) (l5 : Int32) (l6 : Int32) (s : t_S) (Q : (Int32 × Int32 × Int32 × Int32 × Int32 × t_S) ⊕ (t_S) → Prop) (Hb85 : ∀ (y0 : Int32) (y1 : Int32) (y2 : Int32) (y3 : Int32) (y4 : Int32) (y5 : t_S), Q (.inl (y0, y1, y2, y3, y4, y5)) → mj_G D cy ad bs X cX13_usual 7 yX13_usual.cls none yX13_usual.name 1785 0 0 1065 (t_P (fun v s' => v = none ∧ Q (.inr (s')))) 85 [(0, .ref 950), (1, .int (y0)), (3, .int (y1)), (4, .int (y2)), (5, .int (y3)), (6, .int (y4))] [] (t_m y5) 1065 0 0) (hk : t_hk (k_X13_usual_85 l1 l3 l4 l5 l6 s) Q) : mj_G D cy ad bs X cX13_usual 7 yX13_usual.cls none yX13_usual.name 1785 0 0 1065 (t_P (fun v s' => v = none ∧ Q (.inr (s')))) 85 [(0, .ref 950), (1, .int l1), (3, .int l3), (4, .int l4), (5, .int l5), (6, .int l6)] [] (t_m s) 1065 0 0 := by
  refine mj_iload dX13_usual_85 5 rfl ?_
  refine mj_bipush (v := 8) dX13_usual_87 (by decide) ?_
  refine mj_icmp_ge 161 dX13_usual_89 (by decide) (fun z => t_posK hk z (fun hk => ?_)) (fun z => t_negK hk z (fun hk => ?_))
  · refine t_mapK hk (fun hk => ?_)
    exact t_somK hk (fun hf => t_vret dX13_usual_161 rfl ⟨rfl, hf⟩ (Nat.le_of_ble_eq_true rfl) (Nat.le_of_ble_eq_true rfl))
  · refine mj_iload dX13_usual_92 5 rfl ?_
    refine mj_iload dX13_usual_94 3 rfl ?_
    refine mj_icmp_ge 134 dX13_usual_96 (by decide) (fun z => t_posK hk z (fun hk => ?_)) (fun z => t_negK hk z (fun hk => ?_))
    · refine mj_aload_n dX13_usual_134 0 rfl ?_
      refine mj_sipush (v := 1800) dX13_usual_135 (by decide) ?_
      refine mj_bipush (v := 32) dX13_usual_138 (by decide) ?_
      refine mj_iload_n dX13_usual_140 1 rfl ?_
      refine mj_imul dX13_usual_141 ?_
      refine mj_iadd dX13_usual_142 ?_
      refine mj_bipush (v := 8) dX13_usual_143 (by decide) ?_
      refine mj_iload dX13_usual_145 4 rfl ?_
      refine mj_imul dX13_usual_147 ?_
      refine mj_iadd dX13_usual_148 ?_
      refine mj_iload dX13_usual_149 5 rfl ?_
      refine mj_iadd dX13_usual_151 ?_
      refine t_bndK hk (fun r1 er1 hk => ?_)
      refine t_callVvE dX13_usual_152 M_X13_setOmit (C_X13_setOmit _ _ _ er1) ML_X13_1318 IM_X13_setOmit SE_X13_setOmit qc_950 rfl (As := [.int ((((1800 : Int32) + ((32 : Int32) * l1)) + ((8 : Int32) * l5)) + l6)]) rfl rfl (Nat.le_of_ble_eq_true rfl) (Nat.le_of_ble_eq_true rfl) (Nat.le_of_ble_eq_true rfl) (Nat.le_of_ble_eq_true rfl) ?_
      exact B_X13_usual_155 _ _ _ _ _ _ _ (fun y0 y1 y2 y3 y4 y5 hx => Hb85 y0 y1 y2 y3 y4 y5 hx) hk
    · refine mj_aload_n dX13_usual_99 0 rfl ?_
      refine mj_sipush (v := 260) dX13_usual_100 (by decide) ?_
      refine mj_bipush (v := 40) dX13_usual_103 (by decide) ?_
      refine mj_iload_n dX13_usual_105 2 rfl ?_
      refine mj_iadd dX13_usual_106 ?_
      refine mj_iload dX13_usual_107 5 rfl ?_
      refine mj_iadd dX13_usual_109 ?_
      refine mj_imul dX13_usual_110 ?_
      refine mj_sipush (v := 1800) dX13_usual_111 (by decide) ?_
      refine mj_bipush (v := 32) dX13_usual_114 (by decide) ?_
      refine mj_iload_n dX13_usual_116 1 rfl ?_
      refine mj_imul dX13_usual_117 ?_
      refine mj_iadd dX13_usual_118 ?_
      refine mj_bipush (v := 8) dX13_usual_119 (by decide) ?_
      refine mj_iload dX13_usual_121 4 rfl ?_
      refine mj_imul dX13_usual_123 ?_
      refine mj_iadd dX13_usual_124 ?_
      refine mj_iload dX13_usual_125 5 rfl ?_
      refine mj_iadd dX13_usual_127 ?_
      refine t_bndK hk (fun r2 er2 hk => ?_)
      refine t_callVvE dX13_usual_128 M_X13_copy (C_X13_copy _ _ _ _ er2) ML_X13_861 IM_X13_copy SE_X13_copy qc_950 rfl (As := [.int ((260 : Int32) * (((40 : Int32) + l3) + l6)), .int ((((1800 : Int32) + ((32 : Int32) * l1)) + ((8 : Int32) * l5)) + l6)]) rfl rfl (Nat.le_of_ble_eq_true rfl) (Nat.le_of_ble_eq_true rfl) (Nat.le_of_ble_eq_true rfl) (Nat.le_of_ble_eq_true rfl) ?_
      refine mj_goto 155 dX13_usual_131 (by decide) ?_
      exact B_X13_usual_155 _ _ _ _ _ _ _ (fun y0 y1 y2 y3 y4 y5 hx => Hb85 y0 y1 y2 y3 y4 y5 hx) hk
noncomputable def b_X13_usual_85 (x : Int32 × Int32 × Int32 × Int32 × Int32 × t_S) : Option ((Int32 × Int32 × Int32 × Int32 × Int32 × t_S) ⊕ (t_S)) := k_X13_usual_85 x.1 x.2.1 x.2.2.1 x.2.2.2.1 x.2.2.2.2.1 x.2.2.2.2.2
set_option maxRecDepth 4000 in
set_option maxHeartbeats 1000000 in
theorem LH_X13_usual_85 {D : va_G} {cy : Nat → ClassId} {ad : Nat → Nat} {bs : Nat} {X : State → Heap → Prop} : ∀ (n : Nat) (y0 : Int32) (y1 : Int32) (y2 : Int32) (y3 : Int32) (y4 : Int32) (y5 : t_S) (Q : t_S → Prop) (hk : t_hk (t_loop (b_X13_usual_85) n (y0, y1, y2, y3, y4, y5)) Q), mj_G D cy ad bs X cX13_usual 7 yX13_usual.cls none yX13_usual.name 1785 0 0 1065 (t_P (fun v s' => v = none ∧ Q (s'))) 85 [(0, .ref 950), (1, .int (y0)), (3, .int (y1)), (4, .int (y2)), (5, .int (y3)), (6, .int (y4))] [] (t_m y5) 1065 0 0 := by
  intro n
  induction n with
  | zero => intro y0 y1 y2 y3 y4 y5 Q hk; obtain ⟨r, hr, _⟩ := hk; cases hr
  | succ n ih =>
    intro y0 y1 y2 y3 y4 y5 Q hk
    exact B_X13_usual_85 y0 y1 y2 y3 y4 y5 (fun y => t_lq (b_X13_usual_85) n Q y) (fun y0' y1' y2' y3' y4' y5' hy => ih y0' y1' y2' y3' y4' y5' Q hy) (t_lp (b := b_X13_usual_85) (n := n) (x := (y0, y1, y2, y3, y4, y5)) hk)
noncomputable def k_X13_usual_40 (l1 : Int32) (l2 : Int32) (l3 : Int32) (l4 : Int32) (s : t_S) : Option (t_S) :=
 if (s.1 950 97) = (0 : Int32) then (if t_ix l1 8 = true then
  t_let (t_setI s 1042 (l1.toNatClampNeg) ((s.1 1042 (l1.toNatClampNeg)) + (1 : Int32))) (fun s1 =>
 (f_X13_funOf l2 s1).bind (fun r2 =>
 if t_ix (((4 : Int32) * l1) + (s.1 1042 (l1.toNatClampNeg))) 32 = true then
  t_let (t_setI s1 1043 ((((4 : Int32) * l1) + (s.1 1042 (l1.toNatClampNeg))).toNatClampNeg) r2) (fun s2 =>
 t_loop (b_X13_usual_85) t_N (l1, l3, l4, (s.1 1042 (l1.toNatClampNeg)), 0, s2))
else none))
else none)
 else (some (s))
set_option maxRecDepth 4000 in
set_option maxHeartbeats 1000000 in
theorem B_X13_usual_40 {D : va_G} {cy : Nat → ClassId} {ad : Nat → Nat} {bs : Nat} {X : State → Heap → Prop} (l1 : Int32) (l2 : Int32) (l3 : Int32) (l4 : Int32) (s : t_S) (Q : t_S → Prop) (hk : t_hk (k_X13_usual_40 l1 l2 l3 l4 s) Q) : mj_G D cy ad bs X cX13_usual 7 yX13_usual.cls none yX13_usual.name 1785 0 0 1065 (t_P (fun v s' => v = none ∧ Q (s'))) 40 [(0, .ref 950), (1, .int l1), (2, .int l2), (3, .int l3), (4, .int l4)] [] (t_m s) 1065 0 0 := by
  refine mj_aload_n dX13_usual_40 0 rfl ?_
  refine t_getI dX13_usual_41 F_X13_842 qf_950_97 ?_
  refine mj_if_eq 48 dX13_usual_44 (by decide) (fun z => t_posK hk z (fun hk => ?_)) (fun z => t_negK hk z (fun hk => ?_))
  · refine mj_aload_n dX13_usual_48 0 rfl ?_
    refine t_getR 1042 dX13_usual_49 F_X13_294 qr_950_157 ?_
    refine mj_iload_n dX13_usual_52 1 rfl ?_
    refine t_chkK hk (fun c0 hk => ?_)
    refine t_iald dX13_usual_53 qa_1042 (t_ixv c0) ?_
    refine mj_istore (lv2 := [(5, .int (s.1 1042 (l1.toNatClampNeg))), (0, .ref 950), (1, .int l1), (2, .int l2), (3, .int l3), (4, .int l4)]) dX13_usual_54 (by decide) rfl ?_
    refine mj_aload_n dX13_usual_56 1 rfl ?_
    refine t_getR 1042 dX13_usual_57 F_X13_294 qr_950_157 ?_
    refine mj_iload_n dX13_usual_60 2 rfl ?_
    refine mj_dup2 dX13_usual_61 rfl rfl ?_
    refine t_iald dX13_usual_62 qa_1042 (t_ixv c0) ?_
    refine mj_iconst (v := 1) dX13_usual_63 (by decide) ?_
    refine mj_iadd dX13_usual_64 ?_
    refine t_iastK dX13_usual_65 qa_1042 (t_ixv c0) (fun s1 ws1 => t_letE hk ws1 (fun hk => ?_))
    refine mj_aload_n dX13_usual_66 1 rfl ?_
    refine t_getR 1043 dX13_usual_67 F_X13_297 qr_950_158 ?_
    refine mj_iconst (v := 4) dX13_usual_70 (by decide) ?_
    refine mj_iload_n dX13_usual_71 2 rfl ?_
    refine mj_imul dX13_usual_72 ?_
    refine mj_iload dX13_usual_73 0 rfl ?_
    refine mj_iadd dX13_usual_75 ?_
    refine mj_aload_n dX13_usual_76 1 rfl ?_
    refine mj_iload_n dX13_usual_77 3 rfl ?_
    refine t_bndK hk (fun r2 er2 hk => ?_)
    refine t_callViP dX13_usual_78 M_X13_funOf (C_X13_funOf _ _ _ er2) ML_X13_1442 IM_X13_funOf SE_X13_funOf qc_950 rfl (As := [.int l2]) rfl rfl (Nat.le_of_ble_eq_true rfl) (Nat.le_of_ble_eq_true rfl) (Nat.le_of_ble_eq_true rfl) (Nat.le_of_ble_eq_true rfl) ?_
    refine t_chkK hk (fun c2 hk => ?_)
    refine t_iastK dX13_usual_81 qa_1043 (t_ixv c2) (fun s2 ws2 => t_letE hk ws2 (fun hk => ?_))
    refine mj_iconst (v := 0) dX13_usual_82 (by decide) ?_
    refine mj_istore (lv2 := [(6, .int 0), (5, .int (s.1 1042 (l1.toNatClampNeg))), (0, .ref 950), (1, .int l1), (2, .int l2), (3, .int l3), (4, .int l4)]) dX13_usual_83 (by decide) rfl ?_
    refine mj_sublv [(0, .ref 950), (1, .int l1), (3, .int l3), (4, .int l4), (5, .int (s.1 1042 (l1.toNatClampNeg))), (6, .int 0)] [2, 3, 5, 6, 1, 0] rfl ?_
    exact LH_X13_usual_85 _ l1 l3 l4 (s.1 1042 (l1.toNatClampNeg)) 0 s2 _ hk
  · exact t_somK hk (fun hf => t_vret dX13_usual_47 rfl ⟨rfl, hf⟩ (Nat.le_of_ble_eq_true rfl) (Nat.le_of_ble_eq_true rfl))
noncomputable def f_X13_usual (x1 : Int32) (x2 : Int32) (s : t_S) : Option (t_S) :=
 if t_ix x2 401 = true then
  (f_X13_workAll (s.1 995 (x2.toNatClampNeg)) s).bind (fun r2 =>
 if (r2.2.1 950 97) = (0 : Int32) then (if t_ix x1 8 = true then
  if (r2.2.1 1042 (x1.toNatClampNeg)) = (4 : Int32) then ((f_X13_error (7 : Int32) r2.2).bind (fun r4 =>
 k_X13_usual_40 x1 x2 (s.1 950 98) r2.1 r4))
 else (k_X13_usual_40 x1 x2 (s.1 950 98) r2.1 r2.2)
else none)
 else (k_X13_usual_40 x1 x2 (s.1 950 98) r2.1 r2.2))
else none
set_option maxRecDepth 4000 in
set_option maxHeartbeats 1000000 in
theorem C_X13_usual (x1 : Int32) (x2 : Int32) (s : t_S) (r : t_S) (hr : f_X13_usual x1 x2 s = some r) : t_C yX13_usual cX13_usual 7 none 1785 [.ref 950, .int x1, .int x2] s (fun v s' => v = none ∧ s' = r) := by
  refine t_C.imp (P := fun v s' => v = none ∧ (fun q => q = r) (s')) (t_C.of (by decide +kernel) (Nat.le_of_ble_eq_true rfl) ?_) (fun v s' hp => hp)
  intro D cy ad bs X
  have hk : t_hk (f_X13_usual x1 x2 s) (fun q => q = r) := ⟨r, hr, rfl⟩
  show mj_G D cy ad bs X cX13_usual 7 yX13_usual.cls none yX13_usual.name 1785 0 0 1065 (t_P (fun v s' => v = none ∧ (fun q => q = r) (s'))) 0 [(0, .ref 950), (1, .int x1), (2, .int x2)] [] (t_m s) 1065 0 0
  refine mj_aload_n dX13_usual_0 0 rfl ?_
  refine t_getI dX13_usual_1 F_X13_858 qf_950_98 ?_
  refine mj_istore_n 3 (lv2 := [(3, .int (s.1 950 98)), (0, .ref 950), (1, .int x1), (2, .int x2)]) dX13_usual_4 rfl (by decide) rfl ?_
  refine mj_aload_n dX13_usual_5 1 rfl ?_
  refine mj_aload_n dX13_usual_6 1 rfl ?_
  refine t_getR 995 dX13_usual_7 F_X13_147 qr_950_73 ?_
  refine mj_iload_n dX13_usual_10 3 rfl ?_
  refine t_chkK hk (fun c0 hk => ?_)
  refine t_iald dX13_usual_11 qa_995 (t_ixv c0) ?_
  refine t_bndK hk (fun r2 er2 hk => ?_)
  refine t_callViE dX13_usual_12 M_X13_workAll (C_X13_workAll _ _ _ er2) ML_X13_1439 IM_X13_workAll SE_X13_workAll qc_950 rfl (As := [.int (s.1 995 (x2.toNatClampNeg))]) rfl rfl (Nat.le_of_ble_eq_true rfl) (Nat.le_of_ble_eq_true rfl) (Nat.le_of_ble_eq_true rfl) (Nat.le_of_ble_eq_true rfl) ?_
  refine mj_istore (lv2 := [(4, .int r2.1), (3, .int (s.1 950 98)), (0, .ref 950), (1, .int x1), (2, .int x2)]) dX13_usual_15 (by decide) rfl ?_
  refine mj_aload_n dX13_usual_17 2 rfl ?_
  refine t_getI dX13_usual_18 F_X13_842 qf_950_97 ?_
  refine mj_if_ne 40 dX13_usual_21 (by decide) (fun z => t_negK hk z (fun hk => ?_)) (fun z => t_posK hk z (fun hk => ?_))
  · refine mj_sublv [(0, .ref 950), (1, .int x1), (2, .int x2), (3, .int (s.1 950 98)), (4, .int r2.1)] [2, 3, 4, 1, 0] rfl ?_
    exact B_X13_usual_40 _ _ _ _ _ _ hk
  · refine mj_aload_n dX13_usual_24 2 rfl ?_
    refine t_getR 1042 dX13_usual_25 F_X13_294 qr_950_157 ?_
    refine mj_iload_n dX13_usual_28 3 rfl ?_
    refine t_chkK hk (fun c2 hk => ?_)
    refine t_iald dX13_usual_29 qa_1042 (t_ixv c2) ?_
    refine mj_iconst (v := 4) dX13_usual_30 (by decide) ?_
    refine mj_icmp_ne 40 dX13_usual_31 (by decide) (fun z => t_negK hk z (fun hk => ?_)) (fun z => t_posK hk z (fun hk => ?_))
    · refine mj_sublv [(0, .ref 950), (1, .int x1), (2, .int x2), (3, .int (s.1 950 98)), (4, .int r2.1)] [2, 3, 4, 1, 0] rfl ?_
      exact B_X13_usual_40 _ _ _ _ _ _ hk
    · refine mj_aload_n dX13_usual_34 2 rfl ?_
      refine mj_bipush (v := 7) dX13_usual_35 (by decide) ?_
      refine t_bndK hk (fun r4 er4 hk => ?_)
      refine t_callVvE dX13_usual_37 M_X13_error (C_X13_error _ _ _ er4) ML_X13_866 IM_X13_error SE_X13_error qc_950 rfl (As := [.int 7]) rfl rfl (Nat.le_of_ble_eq_true rfl) (Nat.le_of_ble_eq_true rfl) (Nat.le_of_ble_eq_true rfl) (Nat.le_of_ble_eq_true rfl) ?_
      refine mj_sublv [(0, .ref 950), (1, .int x1), (2, .int x2), (3, .int (s.1 950 98)), (4, .int r2.1)] [2, 3, 4, 1, 0] rfl ?_
      exact B_X13_usual_40 _ _ _ _ _ _ hk

