/-! Methods as functions, 32: X5_addStep, X6_isEvent, X6_readCall, X6_takeVar, X6_readInto, X6_sortOf, X6_readEvent -/
theorem dX5_addStep_0 : decode cX5_addStep 0 = .ok (.aload_n 0, 1) := by decide +kernel
theorem dX5_addStep_1 : decode cX5_addStep 1 = .ok (.getfield 67, 3) := by decide +kernel
theorem dX5_addStep_10 : decode cX5_addStep 10 = .ok (.sipush 399, 3) := by decide +kernel
theorem dX5_addStep_13 : decode cX5_addStep 13 = .ok (.ireturn, 1) := by decide +kernel
theorem dX5_addStep_14 : decode cX5_addStep 14 = .ok (.aload_n 0, 1) := by decide +kernel
theorem dX5_addStep_15 : decode cX5_addStep 15 = .ok (.getfield 67, 3) := by decide +kernel
theorem dX5_addStep_18 : decode cX5_addStep 18 = .ok (.istore_n 3, 1) := by decide +kernel
theorem dX5_addStep_19 : decode cX5_addStep 19 = .ok (.aload_n 0, 1) := by decide +kernel
theorem dX5_addStep_20 : decode cX5_addStep 20 = .ok (.dup, 1) := by decide +kernel
theorem dX5_addStep_21 : decode cX5_addStep 21 = .ok (.getfield 67, 3) := by decide +kernel
theorem dX5_addStep_24 : decode cX5_addStep 24 = .ok (.iconst 1, 1) := by decide +kernel
theorem dX5_addStep_25 : decode cX5_addStep 25 = .ok (.iadd, 1) := by decide +kernel
theorem dX5_addStep_26 : decode cX5_addStep 26 = .ok (.putfield 67, 3) := by decide +kernel
theorem dX5_addStep_29 : decode cX5_addStep 29 = .ok (.aload_n 0, 1) := by decide +kernel
theorem dX5_addStep_30 : decode cX5_addStep 30 = .ok (.getfield 57, 3) := by decide +kernel
theorem dX5_addStep_33 : decode cX5_addStep 33 = .ok (.iload_n 3, 1) := by decide +kernel
theorem dX5_addStep_34 : decode cX5_addStep 34 = .ok (.aaload, 1) := by decide +kernel
theorem dX5_addStep_35 : decode cX5_addStep 35 = .ok (.iconst (-1), 1) := by decide +kernel
theorem dX5_addStep_36 : decode cX5_addStep 36 = .ok (.invokestatic 70, 3) := by decide +kernel
theorem dX5_addStep_39 : decode cX5_addStep 39 = .ok (.aload_n 0, 1) := by decide +kernel
theorem dX5_addStep_4 : decode cX5_addStep 4 = .ok (.sipush 400, 3) := by decide +kernel
theorem dX5_addStep_40 : decode cX5_addStep 40 = .ok (.getfield 57, 3) := by decide +kernel
theorem dX5_addStep_43 : decode cX5_addStep 43 = .ok (.iload_n 3, 1) := by decide +kernel
theorem dX5_addStep_44 : decode cX5_addStep 44 = .ok (.aaload, 1) := by decide +kernel
theorem dX5_addStep_45 : decode cX5_addStep 45 = .ok (.iconst 0, 1) := by decide +kernel
theorem dX5_addStep_46 : decode cX5_addStep 46 = .ok (.iload_n 1, 1) := by decide +kernel
theorem dX5_addStep_47 : decode cX5_addStep 47 = .ok (.iastore, 1) := by decide +kernel
theorem dX5_addStep_48 : decode cX5_addStep 48 = .ok (.aload_n 0, 1) := by decide +kernel
theorem dX5_addStep_49 : decode cX5_addStep 49 = .ok (.getfield 57, 3) := by decide +kernel
theorem dX5_addStep_52 : decode cX5_addStep 52 = .ok (.iload_n 3, 1) := by decide +kernel
theorem dX5_addStep_53 : decode cX5_addStep 53 = .ok (.aaload, 1) := by decide +kernel
theorem dX5_addStep_54 : decode cX5_addStep 54 = .ok (.iconst 2, 1) := by decide +kernel
theorem dX5_addStep_55 : decode cX5_addStep 55 = .ok (.iload_n 2, 1) := by decide +kernel
theorem dX5_addStep_56 : decode cX5_addStep 56 = .ok (.iastore, 1) := by decide +kernel
theorem dX5_addStep_57 : decode cX5_addStep 57 = .ok (.iload_n 3, 1) := by decide +kernel
theorem dX5_addStep_58 : decode cX5_addStep 58 = .ok (.ireturn, 1) := by decide +kernel
theorem dX5_addStep_7 : decode cX5_addStep 7 = .ok (.if_icmp .lt 7, 3) := by decide +kernel
noncomputable def f_X5_addStep (x1 : Int32) (x2 : Int32) (s : t_S) : Option (Int32 × t_S) :=
 if (s.1 428 18) < (400 : Int32) then (t_let (t_setI s 428 18 ((s.1 428 18) + (1 : Int32))) (fun s1 =>
 if t_ix (s.1 428 18) 400 = true then
  (f_J7_fill_53178 (445 + 1 * ((s.1 428 18).toNatClampNeg)) (-1 : Int32) s1).bind (fun r2 =>
 t_let (t_setI r2 (445 + 1 * ((s.1 428 18).toNatClampNeg)) ((0 : Int32).toNatClampNeg) x1) (fun s2 =>
 t_let (t_setI s2 (445 + 1 * ((s.1 428 18).toNatClampNeg)) ((2 : Int32).toNatClampNeg) x2) (fun s3 =>
 some ((s.1 428 18), s3))))
else none))
 else (some ((399 : Int32), s))
set_option maxRecDepth 4000 in
set_option maxHeartbeats 1000000 in
theorem C_X5_addStep (x1 : Int32) (x2 : Int32) (s : t_S) (r : Int32 × t_S) (hr : f_X5_addStep x1 x2 s = some r) : t_C yX5_addStep cX5_addStep 4 (some .int) 1 [.ref 428, .int x1, .int x2] s (fun v s' => v = some (.int r.1) ∧ s' = r.2) := by
  refine t_C.imp (P := fun v s' => ∃ x, v = some (.int x) ∧ (fun q => q = r) ((x, s'))) (t_C.of (by decide +kernel) (Nat.le_of_ble_eq_true rfl) ?_) (fun v s' hp => by obtain ⟨x, rfl, rfl⟩ := hp; exact ⟨rfl, rfl⟩)
  intro D cy ad bs X
  have hk : t_hk (f_X5_addStep x1 x2 s) (fun q => q = r) := ⟨r, hr, rfl⟩
  show mj_G D cy ad bs X cX5_addStep 4 yX5_addStep.cls (some .int) yX5_addStep.name 1 0 0 1065 (t_P (fun v s' => ∃ x, v = some (.int x) ∧ (fun q => q = r) ((x, s')))) 0 [(0, .ref 428), (1, .int x1), (2, .int x2)] [] (t_m s) 1065 0 0
  refine mj_aload_n dX5_addStep_0 0 rfl ?_
  refine t_getI dX5_addStep_1 F_X5_67 qf_428_18 ?_
  refine mj_sipush (v := 400) dX5_addStep_4 (by decide) ?_
  refine mj_icmp_lt 14 dX5_addStep_7 (by decide) (fun z => t_posK hk z (fun hk => ?_)) (fun z => t_negK hk z (fun hk => ?_))
  · refine mj_aload_n dX5_addStep_14 0 rfl ?_
    refine t_getI dX5_addStep_15 F_X5_67 qf_428_18 ?_
    refine mj_istore_n 3 (lv2 := [(3, .int (s.1 428 18)), (0, .ref 428), (1, .int x1), (2, .int x2)]) dX5_addStep_18 rfl (by decide) rfl ?_
    refine mj_aload_n dX5_addStep_19 1 rfl ?_
    refine mj_dup dX5_addStep_20 rfl ?_
    refine t_getI dX5_addStep_21 F_X5_67 qf_428_18 ?_
    refine mj_iconst (v := 1) dX5_addStep_24 (by decide) ?_
    refine mj_iadd dX5_addStep_25 ?_
    refine t_putIK dX5_addStep_26 F_X5_67 qf_428_18 rfl (fun s1 ws1 => t_letE hk ws1 (fun hk => ?_))
    refine mj_aload_n dX5_addStep_29 1 rfl ?_
    refine t_getR 444 dX5_addStep_30 F_X5_57 qr_428_17 ?_
    refine mj_iload_n dX5_addStep_33 0 rfl ?_
    refine t_chkK hk (fun c0 hk => ?_)
    refine t_aaldI dX5_addStep_34 qq_444 (t_ixv c0) ?_
    refine mj_iconst (v := (-1)) dX5_addStep_35 (by decide) ?_
    refine t_bndK hk (fun r2 er2 hk => ?_)
    refine t_callSvE dX5_addStep_36 M_J7_fill_53178 (C_J7_fill_53178 _ _ _ _ er2) ML_X5_70 SM_J7_fill_53178 (As := [.ref (445 + 1 * ((s.1 428 18).toNatClampNeg)), .int (-1)]) rfl rfl (Nat.le_of_ble_eq_true rfl) (Nat.le_of_ble_eq_true rfl) (Nat.le_of_ble_eq_true rfl) (Nat.le_of_ble_eq_true rfl) ?_
    refine mj_aload_n dX5_addStep_39 1 rfl ?_
    refine t_getR 444 dX5_addStep_40 F_X5_57 qr_428_17 ?_
    refine mj_iload_n dX5_addStep_43 0 rfl ?_
    refine t_aaldI dX5_addStep_44 qq_444 (t_ixv c0) ?_
    refine mj_iconst (v := 0) dX5_addStep_45 (by decide) ?_
    refine mj_iload_n dX5_addStep_46 2 rfl ?_
    refine t_iastK dX5_addStep_47 (t_row445 (t_ixn c0)) (by unfold vp_in; decide) (fun s2 ws2 => t_letE hk ws2 (fun hk => ?_))
    refine mj_aload_n dX5_addStep_48 1 rfl ?_
    refine t_getR 444 dX5_addStep_49 F_X5_57 qr_428_17 ?_
    refine mj_iload_n dX5_addStep_52 0 rfl ?_
    refine t_aaldI dX5_addStep_53 qq_444 (t_ixv c0) ?_
    refine mj_iconst (v := 2) dX5_addStep_54 (by decide) ?_
    refine mj_iload_n dX5_addStep_55 3 rfl ?_
    refine t_iastK dX5_addStep_56 (t_row445 (t_ixn c0)) (by unfold vp_in; decide) (fun s3 ws3 => t_letE hk ws3 (fun hk => ?_))
    refine mj_iload_n dX5_addStep_57 0 rfl ?_
    exact t_somK hk (fun hf => t_iret dX5_addStep_58 rfl rfl ⟨_, rfl, hf⟩ (Nat.le_of_ble_eq_true rfl) (Nat.le_of_ble_eq_true rfl))
  · refine mj_sipush (v := 399) dX5_addStep_10 (by decide) ?_
    exact t_somK hk (fun hf => t_iret dX5_addStep_13 rfl rfl ⟨_, rfl, hf⟩ (Nat.le_of_ble_eq_true rfl) (Nat.le_of_ble_eq_true rfl))

theorem dX6_isEvent_0 : decode cX6_isEvent 0 = .ok (.iload_n 0, 1) := by decide +kernel
theorem dX6_isEvent_1 : decode cX6_isEvent 1 = .ok (.bipush 11, 2) := by decide +kernel
theorem dX6_isEvent_12 : decode cX6_isEvent 12 = .ok (.iload_n 0, 1) := by decide +kernel
theorem dX6_isEvent_13 : decode cX6_isEvent 13 = .ok (.bipush 13, 2) := by decide +kernel
theorem dX6_isEvent_15 : decode cX6_isEvent 15 = .ok (.if_icmp .ne 7, 3) := by decide +kernel
theorem dX6_isEvent_18 : decode cX6_isEvent 18 = .ok (.iconst 1, 1) := by decide +kernel
theorem dX6_isEvent_19 : decode cX6_isEvent 19 = .ok (.goto 4, 3) := by decide +kernel
theorem dX6_isEvent_22 : decode cX6_isEvent 22 = .ok (.iconst 0, 1) := by decide +kernel
theorem dX6_isEvent_23 : decode cX6_isEvent 23 = .ok (.ireturn, 1) := by decide +kernel
theorem dX6_isEvent_3 : decode cX6_isEvent 3 = .ok (.if_icmp .eq 15, 3) := by decide +kernel
theorem dX6_isEvent_6 : decode cX6_isEvent 6 = .ok (.iload_n 0, 1) := by decide +kernel
theorem dX6_isEvent_7 : decode cX6_isEvent 7 = .ok (.bipush 12, 2) := by decide +kernel
theorem dX6_isEvent_9 : decode cX6_isEvent 9 = .ok (.if_icmp .eq 9, 3) := by decide +kernel
noncomputable def k_X6_isEvent_18 (s : t_S) : Int32 :=
 (1 : Int32)
set_option maxRecDepth 4000 in
set_option maxHeartbeats 1000000 in
theorem B_X6_isEvent_18 {D : va_G} {cy : Nat → ClassId} {ad : Nat → Nat} {bs : Nat} {X : State → Heap → Prop} (s : t_S) (Q : Int32 → Prop) (hk : t_ht (k_X6_isEvent_18 s) Q) : mj_G D cy ad bs X cX6_isEvent 1 yX6_isEvent.cls (some .boolean) yX6_isEvent.name 0 0 0 1065 (t_P (fun v s' => s' = s ∧ ∃ x, v = some (.int x) ∧ Q (x))) 18 [] [] (t_m s) 1065 0 0 := by
  refine mj_iconst (v := 1) dX6_isEvent_18 (by decide) ?_
  refine mj_goto 23 dX6_isEvent_19 (by decide) ?_
  exact t_iret dX6_isEvent_23 rfl (by decide) ⟨rfl, _, rfl, hk⟩ (Nat.le_of_ble_eq_true rfl) (Nat.le_of_ble_eq_true rfl)
noncomputable def f_X6_isEvent (x1 : Int32) (s : t_S) : Int32 :=
 if x1 = (11 : Int32) then (k_X6_isEvent_18 s)
 else (if x1 = (12 : Int32) then (k_X6_isEvent_18 s)
 else (if x1 = (13 : Int32) then (k_X6_isEvent_18 s)
 else ((0 : Int32))))
set_option maxRecDepth 4000 in
set_option maxHeartbeats 1000000 in
theorem C_X6_isEvent (x1 : Int32) (s : t_S) : t_C yX6_isEvent cX6_isEvent 1 (some .boolean) 0 [.int x1] s (fun v s' => v = some (.int (f_X6_isEvent x1 s)) ∧ s' = s) := by
  refine t_C.imp (P := fun v s' => s' = s ∧ ∃ x, v = some (.int x) ∧ (fun r => r = f_X6_isEvent x1 s) (x)) (t_C.of (by decide +kernel) (Nat.le_of_ble_eq_true rfl) ?_) (fun v s' hp => by obtain ⟨rfl, x, rfl, rfl⟩ := hp; exact ⟨rfl, rfl⟩)
  intro D cy ad bs X
  have hk : t_ht (f_X6_isEvent x1 s) (fun r => r = f_X6_isEvent x1 s) := rfl
  show mj_G D cy ad bs X cX6_isEvent 1 yX6_isEvent.cls (some .boolean) yX6_isEvent.name 0 0 0 1065 (t_P (fun v s' => s' = s ∧ ∃ x, v = some (.int x) ∧ (fun r => r = f_X6_isEvent x1 s) (x))) 0 [(0, .int x1)] [] (t_m s) 1065 0 0
  refine mj_iload_n dX6_isEvent_0 0 rfl ?_
  refine mj_bipush (v := 11) dX6_isEvent_1 (by decide) ?_
  refine mj_icmp_eq 18 dX6_isEvent_3 (by decide) (fun z => t_posTK hk z (fun hk => ?_)) (fun z => t_negTK hk z (fun hk => ?_))
  · refine mj_sublv [] [] rfl ?_
    exact B_X6_isEvent_18 _ _ hk
  · refine mj_iload_n dX6_isEvent_6 0 rfl ?_
    refine mj_bipush (v := 12) dX6_isEvent_7 (by decide) ?_
    refine mj_icmp_eq 18 dX6_isEvent_9 (by decide) (fun z => t_posTK hk z (fun hk => ?_)) (fun z => t_negTK hk z (fun hk => ?_))
    · refine mj_sublv [] [] rfl ?_
      exact B_X6_isEvent_18 _ _ hk
    · refine mj_iload_n dX6_isEvent_12 0 rfl ?_
      refine mj_bipush (v := 13) dX6_isEvent_13 (by decide) ?_
      refine mj_icmp_ne 22 dX6_isEvent_15 (by decide) (fun z => t_negTK hk z (fun hk => ?_)) (fun z => t_posTK hk z (fun hk => ?_))
      · refine mj_iconst (v := 0) dX6_isEvent_22 (by decide) ?_
        exact t_iret dX6_isEvent_23 rfl (by decide) ⟨rfl, _, rfl, hk⟩ (Nat.le_of_ble_eq_true rfl) (Nat.le_of_ble_eq_true rfl)
      · refine mj_sublv [] [] rfl ?_
        exact B_X6_isEvent_18 _ _ hk

theorem dX6_readCall_0 : decode cX6_readCall 0 = .ok (.aload_n 0, 1) := by decide +kernel
theorem dX6_readCall_1 : decode cX6_readCall 1 = .ok (.getfield 28, 3) := by decide +kernel
theorem dX6_readCall_102 : decode cX6_readCall 102 = .ok (.iconst 0, 1) := by decide +kernel
theorem dX6_readCall_103 : decode cX6_readCall 103 = .ok (.iconst 0, 1) := by decide +kernel
theorem dX6_readCall_104 : decode cX6_readCall 104 = .ok (.invokevirtual 202, 3) := by decide +kernel
theorem dX6_readCall_107 : decode cX6_readCall 107 = .ok (.pop, 1) := by decide +kernel
theorem dX6_readCall_108 : decode cX6_readCall 108 = .ok (.aload_n 0, 1) := by decide +kernel
theorem dX6_readCall_109 : decode cX6_readCall 109 = .ok (.getfield 18, 3) := by decide +kernel
theorem dX6_readCall_112 : decode cX6_readCall 112 = .ok (.iload_n 2, 1) := by decide +kernel
theorem dX6_readCall_113 : decode cX6_readCall 113 = .ok (.iload 4, 2) := by decide +kernel
theorem dX6_readCall_115 : decode cX6_readCall 115 = .ok (.iload_n 3, 1) := by decide +kernel
theorem dX6_readCall_116 : decode cX6_readCall 116 = .ok (.aload_n 0, 1) := by decide +kernel
theorem dX6_readCall_117 : decode cX6_readCall 117 = .ok (.invokevirtual 254, 3) := by decide +kernel
theorem dX6_readCall_12 : decode cX6_readCall 12 = .ok (.getfield 183, 3) := by decide +kernel
theorem dX6_readCall_120 : decode cX6_readCall 120 = .ok (.iload_n 1, 1) := by decide +kernel
theorem dX6_readCall_121 : decode cX6_readCall 121 = .ok (.iload 5, 2) := by decide +kernel
theorem dX6_readCall_123 : decode cX6_readCall 123 = .ok (.invokevirtual 257, 3) := by decide +kernel
theorem dX6_readCall_126 : decode cX6_readCall 126 = .ok (.return_, 1) := by decide +kernel
theorem dX6_readCall_15 : decode cX6_readCall 15 = .ok (.istore 4, 2) := by decide +kernel
theorem dX6_readCall_17 : decode cX6_readCall 17 = .ok (.aload_n 0, 1) := by decide +kernel
theorem dX6_readCall_18 : decode cX6_readCall 18 = .ok (.getfield 28, 3) := by decide +kernel
theorem dX6_readCall_21 : decode cX6_readCall 21 = .ok (.iconst 1, 1) := by decide +kernel
theorem dX6_readCall_22 : decode cX6_readCall 22 = .ok (.invokevirtual 184, 3) := by decide +kernel
theorem dX6_readCall_25 : decode cX6_readCall 25 = .ok (.aload_n 0, 1) := by decide +kernel
theorem dX6_readCall_26 : decode cX6_readCall 26 = .ok (.getfield 28, 3) := by decide +kernel
theorem dX6_readCall_29 : decode cX6_readCall 29 = .ok (.bipush 40, 2) := by decide +kernel
theorem dX6_readCall_31 : decode cX6_readCall 31 = .ok (.invokevirtual 184, 3) := by decide +kernel
theorem dX6_readCall_34 : decode cX6_readCall 34 = .ok (.aload_n 0, 1) := by decide +kernel
theorem dX6_readCall_35 : decode cX6_readCall 35 = .ok (.getfield 48, 3) := by decide +kernel
theorem dX6_readCall_38 : decode cX6_readCall 38 = .ok (.getfield 531, 3) := by decide +kernel
theorem dX6_readCall_4 : decode cX6_readCall 4 = .ok (.invokevirtual 166, 3) := by decide +kernel
theorem dX6_readCall_41 : decode cX6_readCall 41 = .ok (.iload_n 1, 1) := by decide +kernel
theorem dX6_readCall_42 : decode cX6_readCall 42 = .ok (.aaload, 1) := by decide +kernel
theorem dX6_readCall_43 : decode cX6_readCall 43 = .ok (.iconst 5, 1) := by decide +kernel
theorem dX6_readCall_44 : decode cX6_readCall 44 = .ok (.iaload, 1) := by decide +kernel
theorem dX6_readCall_45 : decode cX6_readCall 45 = .ok (.ifCond .ge 21, 3) := by decide +kernel
theorem dX6_readCall_48 : decode cX6_readCall 48 = .ok (.aload_n 0, 1) := by decide +kernel
theorem dX6_readCall_49 : decode cX6_readCall 49 = .ok (.getfield 48, 3) := by decide +kernel
theorem dX6_readCall_52 : decode cX6_readCall 52 = .ok (.getfield 531, 3) := by decide +kernel
theorem dX6_readCall_55 : decode cX6_readCall 55 = .ok (.iload_n 1, 1) := by decide +kernel
theorem dX6_readCall_56 : decode cX6_readCall 56 = .ok (.aaload, 1) := by decide +kernel
theorem dX6_readCall_57 : decode cX6_readCall 57 = .ok (.iconst 5, 1) := by decide +kernel
theorem dX6_readCall_58 : decode cX6_readCall 58 = .ok (.aload_n 0, 1) := by decide +kernel
theorem dX6_readCall_59 : decode cX6_readCall 59 = .ok (.getfield 43, 3) := by decide +kernel
theorem dX6_readCall_62 : decode cX6_readCall 62 = .ok (.getfield 64, 3) := by decide +kernel
theorem dX6_readCall_65 : decode cX6_readCall 65 = .ok (.iastore, 1) := by decide +kernel
theorem dX6_readCall_66 : decode cX6_readCall 66 = .ok (.aload_n 0, 1) := by decide +kernel
theorem dX6_readCall_67 : decode cX6_readCall 67 = .ok (.getfield 28, 3) := by decide +kernel
theorem dX6_readCall_7 : decode cX6_readCall 7 = .ok (.istore_n 3, 1) := by decide +kernel
theorem dX6_readCall_70 : decode cX6_readCall 70 = .ok (.getfield 85, 3) := by decide +kernel
theorem dX6_readCall_73 : decode cX6_readCall 73 = .ok (.bipush 41, 2) := by decide +kernel
theorem dX6_readCall_75 : decode cX6_readCall 75 = .ok (.if_icmp .ne 7, 3) := by decide +kernel
theorem dX6_readCall_78 : decode cX6_readCall 78 = .ok (.iconst 0, 1) := by decide +kernel
theorem dX6_readCall_79 : decode cX6_readCall 79 = .ok (.goto 8, 3) := by decide +kernel
theorem dX6_readCall_8 : decode cX6_readCall 8 = .ok (.aload_n 0, 1) := by decide +kernel
theorem dX6_readCall_82 : decode cX6_readCall 82 = .ok (.aload_n 0, 1) := by decide +kernel
theorem dX6_readCall_83 : decode cX6_readCall 83 = .ok (.iconst 0, 1) := by decide +kernel
theorem dX6_readCall_84 : decode cX6_readCall 84 = .ok (.invokevirtual 518, 3) := by decide +kernel
theorem dX6_readCall_87 : decode cX6_readCall 87 = .ok (.istore 5, 2) := by decide +kernel
theorem dX6_readCall_89 : decode cX6_readCall 89 = .ok (.aload_n 0, 1) := by decide +kernel
theorem dX6_readCall_9 : decode cX6_readCall 9 = .ok (.getfield 28, 3) := by decide +kernel
theorem dX6_readCall_90 : decode cX6_readCall 90 = .ok (.getfield 28, 3) := by decide +kernel
theorem dX6_readCall_93 : decode cX6_readCall 93 = .ok (.bipush 41, 2) := by decide +kernel
theorem dX6_readCall_95 : decode cX6_readCall 95 = .ok (.invokevirtual 184, 3) := by decide +kernel
theorem dX6_readCall_98 : decode cX6_readCall 98 = .ok (.aload_n 0, 1) := by decide +kernel
theorem dX6_readCall_99 : decode cX6_readCall 99 = .ok (.getfield 43, 3) := by decide +kernel
noncomputable def k_X6_readCall_87 (l1 : Int32) (l2 : Int32) (l3 : Int32) (l4 : Int32) (k0 : Int32) (s : t_S) : Option (t_S) :=
 (f_X2_need (41 : Int32) s).bind (fun r1 =>
 (f_X0_emit (0 : Int32) (0 : Int32) r1).bind (fun r2 =>
 (f_X3_add l2 l4 l3 (f_X6_home r2.2) l1 k0 r2.2).bind (fun r4 =>
 some (r4))))
set_option maxRecDepth 4000 in
set_option maxHeartbeats 1000000 in
theorem B_X6_readCall_87 {D : va_G} {cy : Nat → ClassId} {ad : Nat → Nat} {bs : Nat} {X : State → Heap → Prop} (l1 : Int32) (l2 : Int32) (l3 : Int32) (l4 : Int32) (k0 : Int32) (s : t_S) (Q : t_S → Prop) (hk : t_hk (k_X6_readCall_87 l1 l2 l3 l4 k0 s) Q) : mj_G D cy ad bs X cX6_readCall 6 yX6_readCall.cls none yX6_readCall.name 254 0 0 1065 (t_P (fun v s' => v = none ∧ Q (s'))) 87 [(0, .ref 845), (1, .int l1), (2, .int l2), (3, .int l3), (4, .int l4)] [.int k0] (t_m s) 1065 0 0 := by
  refine mj_istore (lv2 := [(5, .int k0), (0, .ref 845), (1, .int l1), (2, .int l2), (3, .int l3), (4, .int l4)]) dX6_readCall_87 (by decide) rfl ?_
  refine mj_aload_n dX6_readCall_89 1 rfl ?_
  refine t_getR 1 dX6_readCall_90 F_X6_28 qr_845_0 ?_
  refine mj_bipush (v := 41) dX6_readCall_93 (by decide) ?_
  refine t_bndK hk (fun r1 er1 hk => ?_)
  refine t_callVvE dX6_readCall_95 M_X2_need (C_X2_need _ _ _ er1) ML_X6_184 IM_X2_need SE_X2_need qc_1 rfl (As := [.int 41]) rfl rfl (Nat.le_of_ble_eq_true rfl) (Nat.le_of_ble_eq_true rfl) (Nat.le_of_ble_eq_true rfl) (Nat.le_of_ble_eq_true rfl) ?_
  refine mj_aload_n dX6_readCall_98 1 rfl ?_
  refine t_getR 334 dX6_readCall_99 F_X6_43 qr_845_3 ?_
  refine mj_iconst (v := 0) dX6_readCall_102 (by decide) ?_
  refine mj_iconst (v := 0) dX6_readCall_103 (by decide) ?_
  refine t_bndK hk (fun r2 er2 hk => ?_)
  refine t_callViE dX6_readCall_104 M_X0_emit (C_X0_emit _ _ _ _ er2) ML_X6_202 IM_X0_emit SE_X0_emit qc_334 rfl (As := [.int 0, .int 0]) rfl rfl (Nat.le_of_ble_eq_true rfl) (Nat.le_of_ble_eq_true rfl) (Nat.le_of_ble_eq_true rfl) (Nat.le_of_ble_eq_true rfl) ?_
  refine mj_pop dX6_readCall_107 rfl ?_
  refine mj_aload_n dX6_readCall_108 1 rfl ?_
  refine t_getR 846 dX6_readCall_109 F_X6_18 qr_845_5 ?_
  refine mj_iload_n dX6_readCall_112 3 rfl ?_
  refine mj_iload dX6_readCall_113 5 rfl ?_
  refine mj_iload_n dX6_readCall_115 4 rfl ?_
  refine mj_aload_n dX6_readCall_116 1 rfl ?_
  refine t_callViP dX6_readCall_117 M_X6_home (C_X6_home _) ML_X6_254 IM_X6_home SE_X6_home qc_845 rfl (As := []) rfl rfl (Nat.le_of_ble_eq_true rfl) (Nat.le_of_ble_eq_true rfl) (Nat.le_of_ble_eq_true rfl) (Nat.le_of_ble_eq_true rfl) ?_
  refine mj_iload_n dX6_readCall_120 2 rfl ?_
  refine mj_iload dX6_readCall_121 0 rfl ?_
  refine t_bndK hk (fun r4 er4 hk => ?_)
  refine t_callVvE dX6_readCall_123 M_X3_add (C_X3_add _ _ _ _ _ _ _ _ er4) ML_X6_257 IM_X3_add SE_X3_add qc_846 rfl (As := [.int l2, .int l4, .int l3, .int (f_X6_home r2.2), .int l1, .int k0]) rfl rfl (Nat.le_of_ble_eq_true rfl) (Nat.le_of_ble_eq_true rfl) (Nat.le_of_ble_eq_true rfl) (Nat.le_of_ble_eq_true rfl) ?_
  exact t_somK hk (fun hf => t_vret dX6_readCall_126 rfl ⟨rfl, hf⟩ (Nat.le_of_ble_eq_true rfl) (Nat.le_of_ble_eq_true rfl))
noncomputable def k_X6_readCall_66 (l1 : Int32) (l2 : Int32) (l3 : Int32) (l4 : Int32) (s : t_S) : Option (t_S) :=
 if (s.1 1 8) = (41 : Int32) then (k_X6_readCall_87 l1 l2 l3 l4 0 s)
 else ((f_X6_readExps (0 : Int32) s).bind (fun r1 =>
 k_X6_readCall_87 l1 l2 l3 l4 r1.1 r1.2))
set_option maxRecDepth 4000 in
set_option maxHeartbeats 1000000 in
theorem B_X6_readCall_66 {D : va_G} {cy : Nat → ClassId} {ad : Nat → Nat} {bs : Nat} {X : State → Heap → Prop} (l1 : Int32) (l2 : Int32) (l3 : Int32) (l4 : Int32) (s : t_S) (Q : t_S → Prop) (hk : t_hk (k_X6_readCall_66 l1 l2 l3 l4 s) Q) : mj_G D cy ad bs X cX6_readCall 6 yX6_readCall.cls none yX6_readCall.name 254 0 0 1065 (t_P (fun v s' => v = none ∧ Q (s'))) 66 [(0, .ref 845), (1, .int l1), (2, .int l2), (3, .int l3), (4, .int l4)] [] (t_m s) 1065 0 0 := by
  refine mj_aload_n dX6_readCall_66 0 rfl ?_
  refine t_getR 1 dX6_readCall_67 F_X6_28 qr_845_0 ?_
  refine t_getI dX6_readCall_70 F_X6_85 qf_1_8 ?_
  refine mj_bipush (v := 41) dX6_readCall_73 (by decide) ?_
  refine mj_icmp_ne 82 dX6_readCall_75 (by decide) (fun z => t_negK hk z (fun hk => ?_)) (fun z => t_posK hk z (fun hk => ?_))
  · refine mj_aload_n dX6_readCall_82 0 rfl ?_
    refine mj_iconst (v := 0) dX6_readCall_83 (by decide) ?_
    refine t_bndK hk (fun r1 er1 hk => ?_)
    refine t_callViE dX6_readCall_84 M_X6_readExps (C_X6_readExps _ _ _ er1) ML_X6_518 IM_X6_readExps SE_X6_readExps qc_845 rfl (As := [.int 0]) rfl rfl (Nat.le_of_ble_eq_true rfl) (Nat.le_of_ble_eq_true rfl) (Nat.le_of_ble_eq_true rfl) (Nat.le_of_ble_eq_true rfl) ?_
    exact B_X6_readCall_87 _ _ _ _ _ _ _ hk
  · refine mj_iconst (v := 0) dX6_readCall_78 (by decide) ?_
    refine mj_goto 87 dX6_readCall_79 (by decide) ?_
    exact B_X6_readCall_87 _ _ _ _ _ _ _ hk
noncomputable def f_X6_readCall (x1 : Int32) (x2 : Int32) (s : t_S) : Option (t_S) :=
 (f_X2_need (1 : Int32) s).bind (fun r2 =>
 (f_X2_need (40 : Int32) r2).bind (fun r3 =>
 if t_ix x1 400 = true then
  if (0 : Int32) ≤ (r3.1 (445 + 1 * (x1.toNatClampNeg)) ((5 : Int32).toNatClampNeg)) then (k_X6_readCall_66 x1 x2 (f_X2_word s) (s.1 1 9) r3)
 else (t_let (t_setI r3 (445 + 1 * (x1.toNatClampNeg)) ((5 : Int32).toNatClampNeg) (r3.1 334 2)) (fun s1 =>
 k_X6_readCall_66 x1 x2 (f_X2_word s) (s.1 1 9) s1))
else none))
set_option maxRecDepth 4000 in
set_option maxHeartbeats 1000000 in
theorem C_X6_readCall (x1 : Int32) (x2 : Int32) (s : t_S) (r : t_S) (hr : f_X6_readCall x1 x2 s = some r) : t_C yX6_readCall cX6_readCall 6 none 254 [.ref 845, .int x1, .int x2] s (fun v s' => v = none ∧ s' = r) := by
  refine t_C.imp (P := fun v s' => v = none ∧ (fun q => q = r) (s')) (t_C.of (by decide +kernel) (Nat.le_of_ble_eq_true rfl) ?_) (fun v s' hp => hp)
  intro D cy ad bs X
  have hk : t_hk (f_X6_readCall x1 x2 s) (fun q => q = r) := ⟨r, hr, rfl⟩
  show mj_G D cy ad bs X cX6_readCall 6 yX6_readCall.cls none yX6_readCall.name 254 0 0 1065 (t_P (fun v s' => v = none ∧ (fun q => q = r) (s'))) 0 [(0, .ref 845), (1, .int x1), (2, .int x2)] [] (t_m s) 1065 0 0
  refine mj_aload_n dX6_readCall_0 0 rfl ?_
  refine t_getR 1 dX6_readCall_1 F_X6_28 qr_845_0 ?_
  refine t_callViP dX6_readCall_4 M_X2_word (C_X2_word _) ML_X6_166 IM_X2_word SE_X2_word qc_1 rfl (As := []) rfl rfl (Nat.le_of_ble_eq_true rfl) (Nat.le_of_ble_eq_true rfl) (Nat.le_of_ble_eq_true rfl) (Nat.le_of_ble_eq_true rfl) ?_
  refine mj_istore_n 3 (lv2 := [(3, .int (f_X2_word s)), (0, .ref 845), (1, .int x1), (2, .int x2)]) dX6_readCall_7 rfl (by decide) rfl ?_
  refine mj_aload_n dX6_readCall_8 1 rfl ?_
  refine t_getR 1 dX6_readCall_9 F_X6_28 qr_845_0 ?_
  refine t_getI dX6_readCall_12 F_X6_183 qf_1_9 ?_
  refine mj_istore (lv2 := [(4, .int (s.1 1 9)), (3, .int (f_X2_word s)), (0, .ref 845), (1, .int x1), (2, .int x2)]) dX6_readCall_15 (by decide) rfl ?_
  refine mj_aload_n dX6_readCall_17 2 rfl ?_
  refine t_getR 1 dX6_readCall_18 F_X6_28 qr_845_0 ?_
  refine mj_iconst (v := 1) dX6_readCall_21 (by decide) ?_
  refine t_bndK hk (fun r2 er2 hk => ?_)
  refine t_callVvE dX6_readCall_22 M_X2_need (C_X2_need _ _ _ er2) ML_X6_184 IM_X2_need SE_X2_need qc_1 rfl (As := [.int 1]) rfl rfl (Nat.le_of_ble_eq_true rfl) (Nat.le_of_ble_eq_true rfl) (Nat.le_of_ble_eq_true rfl) (Nat.le_of_ble_eq_true rfl) ?_
  refine mj_aload_n dX6_readCall_25 2 rfl ?_
  refine t_getR 1 dX6_readCall_26 F_X6_28 qr_845_0 ?_
  refine mj_bipush (v := 40) dX6_readCall_29 (by decide) ?_
  refine t_bndK hk (fun r3 er3 hk => ?_)
  refine t_callVvE dX6_readCall_31 M_X2_need (C_X2_need _ _ _ er3) ML_X6_184 IM_X2_need SE_X2_need qc_1 rfl (As := [.int 40]) rfl rfl (Nat.le_of_ble_eq_true rfl) (Nat.le_of_ble_eq_true rfl) (Nat.le_of_ble_eq_true rfl) (Nat.le_of_ble_eq_true rfl) ?_
  refine mj_aload_n dX6_readCall_34 2 rfl ?_
  refine t_getR 428 dX6_readCall_35 F_X6_48 qr_845_4 ?_
  refine t_getR 444 dX6_readCall_38 F_X6_531 qr_428_17 ?_
  refine mj_iload_n dX6_readCall_41 3 rfl ?_
  refine t_chkK hk (fun c3 hk => ?_)
  refine t_aaldI dX6_readCall_42 qq_444 (t_ixv c3) ?_
  refine mj_iconst (v := 5) dX6_readCall_43 (by decide) ?_
  refine t_iald dX6_readCall_44 (t_row445 (t_ixn c3)) (by unfold vp_in; decide) ?_
  refine mj_if_ge 66 dX6_readCall_45 (by decide) (fun z => t_posK hk z (fun hk => ?_)) (fun z => t_negK hk z (fun hk => ?_))
  · refine mj_sublv [(0, .ref 845), (1, .int x1), (2, .int x2), (3, .int (f_X2_word s)), (4, .int (s.1 1 9))] [2, 3, 4, 1, 0] rfl ?_
    exact B_X6_readCall_66 _ _ _ _ _ _ hk
  · refine mj_aload_n dX6_readCall_48 2 rfl ?_
    refine t_getR 428 dX6_readCall_49 F_X6_48 qr_845_4 ?_
    refine t_getR 444 dX6_readCall_52 F_X6_531 qr_428_17 ?_
    refine mj_iload_n dX6_readCall_55 3 rfl ?_
    refine t_aaldI dX6_readCall_56 qq_444 (t_ixv c3) ?_
    refine mj_iconst (v := 5) dX6_readCall_57 (by decide) ?_
    refine mj_aload_n dX6_readCall_58 2 rfl ?_
    refine t_getR 334 dX6_readCall_59 F_X6_43 qr_845_3 ?_
    refine t_getI dX6_readCall_62 F_X6_64 qf_334_2 ?_
    refine t_iastK dX6_readCall_65 (t_row445 (t_ixn c3)) (by unfold vp_in; decide) (fun s1 ws1 => t_letE hk ws1 (fun hk => ?_))
    refine mj_sublv [(0, .ref 845), (1, .int x1), (2, .int x2), (3, .int (f_X2_word s)), (4, .int (s.1 1 9))] [2, 3, 4, 1, 0] rfl ?_
    exact B_X6_readCall_66 _ _ _ _ _ _ hk

theorem dX6_takeVar_0 : decode cX6_takeVar 0 = .ok (.aload_n 0, 1) := by decide +kernel
theorem dX6_takeVar_1 : decode cX6_takeVar 1 = .ok (.getfield 28, 3) := by decide +kernel
theorem dX6_takeVar_11 : decode cX6_takeVar 11 = .ok (.aload_n 0, 1) := by decide +kernel
theorem dX6_takeVar_12 : decode cX6_takeVar 12 = .ok (.getfield 48, 3) := by decide +kernel
theorem dX6_takeVar_15 : decode cX6_takeVar 15 = .ok (.aload_n 0, 1) := by decide +kernel
theorem dX6_takeVar_16 : decode cX6_takeVar 16 = .ok (.getfield 134, 3) := by decide +kernel
theorem dX6_takeVar_19 : decode cX6_takeVar 19 = .ok (.aload_n 0, 1) := by decide +kernel
theorem dX6_takeVar_20 : decode cX6_takeVar 20 = .ok (.getfield 28, 3) := by decide +kernel
theorem dX6_takeVar_23 : decode cX6_takeVar 23 = .ok (.invokevirtual 166, 3) := by decide +kernel
theorem dX6_takeVar_26 : decode cX6_takeVar 26 = .ok (.invokevirtual 286, 3) := by decide +kernel
theorem dX6_takeVar_29 : decode cX6_takeVar 29 = .ok (.goto 4, 3) := by decide +kernel
theorem dX6_takeVar_32 : decode cX6_takeVar 32 = .ok (.iconst (-1), 1) := by decide +kernel
theorem dX6_takeVar_33 : decode cX6_takeVar 33 = .ok (.istore_n 2, 1) := by decide +kernel
theorem dX6_takeVar_34 : decode cX6_takeVar 34 = .ok (.aload_n 0, 1) := by decide +kernel
theorem dX6_takeVar_35 : decode cX6_takeVar 35 = .ok (.getfield 48, 3) := by decide +kernel
theorem dX6_takeVar_38 : decode cX6_takeVar 38 = .ok (.getfield 531, 3) := by decide +kernel
theorem dX6_takeVar_4 : decode cX6_takeVar 4 = .ok (.getfield 85, 3) := by decide +kernel
theorem dX6_takeVar_41 : decode cX6_takeVar 41 = .ok (.iload_n 1, 1) := by decide +kernel
theorem dX6_takeVar_42 : decode cX6_takeVar 42 = .ok (.aaload, 1) := by decide +kernel
theorem dX6_takeVar_43 : decode cX6_takeVar 43 = .ok (.bipush 7, 2) := by decide +kernel
theorem dX6_takeVar_45 : decode cX6_takeVar 45 = .ok (.iload_n 2, 1) := by decide +kernel
theorem dX6_takeVar_46 : decode cX6_takeVar 46 = .ok (.iastore, 1) := by decide +kernel
theorem dX6_takeVar_47 : decode cX6_takeVar 47 = .ok (.iload_n 2, 1) := by decide +kernel
theorem dX6_takeVar_48 : decode cX6_takeVar 48 = .ok (.ifCond .lt 13, 3) := by decide +kernel
theorem dX6_takeVar_51 : decode cX6_takeVar 51 = .ok (.aload_n 0, 1) := by decide +kernel
theorem dX6_takeVar_52 : decode cX6_takeVar 52 = .ok (.getfield 28, 3) := by decide +kernel
theorem dX6_takeVar_55 : decode cX6_takeVar 55 = .ok (.invokevirtual 170, 3) := by decide +kernel
theorem dX6_takeVar_58 : decode cX6_takeVar 58 = .ok (.goto 11, 3) := by decide +kernel
theorem dX6_takeVar_61 : decode cX6_takeVar 61 = .ok (.aload_n 0, 1) := by decide +kernel
theorem dX6_takeVar_62 : decode cX6_takeVar 62 = .ok (.bipush 14, 2) := by decide +kernel
theorem dX6_takeVar_64 : decode cX6_takeVar 64 = .ok (.iload_n 1, 1) := by decide +kernel
theorem dX6_takeVar_65 : decode cX6_takeVar 65 = .ok (.iconst 0, 1) := by decide +kernel
theorem dX6_takeVar_66 : decode cX6_takeVar 66 = .ok (.invokevirtual 250, 3) := by decide +kernel
theorem dX6_takeVar_69 : decode cX6_takeVar 69 = .ok (.return_, 1) := by decide +kernel
theorem dX6_takeVar_7 : decode cX6_takeVar 7 = .ok (.iconst 1, 1) := by decide +kernel
theorem dX6_takeVar_8 : decode cX6_takeVar 8 = .ok (.if_icmp .ne 24, 3) := by decide +kernel
noncomputable def k_X6_takeVar_33 (l1 : Int32) (k0 : Int32) (s : t_S) : Option (t_S) :=
 if t_ix l1 400 = true then
  t_let (t_setI s (445 + 1 * (l1.toNatClampNeg)) ((7 : Int32).toNatClampNeg) k0) (fun s1 =>
 if k0 < (0 : Int32) then ((f_X6_link (14 : Int32) l1 (0 : Int32) s1).bind (fun r2 =>
 some (r2)))
 else ((f_X2_advance s1).bind (fun r3 =>
 some (r3))))
else none
set_option maxRecDepth 4000 in
set_option maxHeartbeats 1000000 in
theorem B_X6_takeVar_33 {D : va_G} {cy : Nat → ClassId} {ad : Nat → Nat} {bs : Nat} {X : State → Heap → Prop} (l1 : Int32) (k0 : Int32) (s : t_S) (Q : t_S → Prop) (hk : t_hk (k_X6_takeVar_33 l1 k0 s) Q) : mj_G D cy ad bs X cX6_takeVar 3 yX6_takeVar.cls none yX6_takeVar.name 2 0 0 1065 (t_P (fun v s' => v = none ∧ Q (s'))) 33 [(0, .ref 845), (1, .int l1)] [.int k0] (t_m s) 1065 0 0 := by
  refine mj_istore_n 2 (lv2 := [(2, .int k0), (0, .ref 845), (1, .int l1)]) dX6_takeVar_33 rfl (by decide) rfl ?_
  refine mj_aload_n dX6_takeVar_34 1 rfl ?_
  refine t_getR 428 dX6_takeVar_35 F_X6_48 qr_845_4 ?_
  refine t_getR 444 dX6_takeVar_38 F_X6_531 qr_428_17 ?_
  refine mj_iload_n dX6_takeVar_41 2 rfl ?_
  refine t_chkK hk (fun c0 hk => ?_)
  refine t_aaldI dX6_takeVar_42 qq_444 (t_ixv c0) ?_
  refine mj_bipush (v := 7) dX6_takeVar_43 (by decide) ?_
  refine mj_iload_n dX6_takeVar_45 0 rfl ?_
  refine t_iastK dX6_takeVar_46 (t_row445 (t_ixn c0)) (by unfold vp_in; decide) (fun s1 ws1 => t_letE hk ws1 (fun hk => ?_))
  refine mj_iload_n dX6_takeVar_47 0 rfl ?_
  refine mj_if_lt 61 dX6_takeVar_48 (by decide) (fun z => t_posK hk z (fun hk => ?_)) (fun z => t_negK hk z (fun hk => ?_))
  · refine mj_aload_n dX6_takeVar_61 1 rfl ?_
    refine mj_bipush (v := 14) dX6_takeVar_62 (by decide) ?_
    refine mj_iload_n dX6_takeVar_64 2 rfl ?_
    refine mj_iconst (v := 0) dX6_takeVar_65 (by decide) ?_
    refine t_bndK hk (fun r2 er2 hk => ?_)
    refine t_callVvE dX6_takeVar_66 M_X6_link (C_X6_link _ _ _ _ _ er2) ML_X6_250 IM_X6_link SE_X6_link qc_845 rfl (As := [.int 14, .int l1, .int 0]) rfl rfl (Nat.le_of_ble_eq_true rfl) (Nat.le_of_ble_eq_true rfl) (Nat.le_of_ble_eq_true rfl) (Nat.le_of_ble_eq_true rfl) ?_
    exact t_somK hk (fun hf => t_vret dX6_takeVar_69 rfl ⟨rfl, hf⟩ (Nat.le_of_ble_eq_true rfl) (Nat.le_of_ble_eq_true rfl))
  · refine mj_aload_n dX6_takeVar_51 1 rfl ?_
    refine t_getR 1 dX6_takeVar_52 F_X6_28 qr_845_0 ?_
    refine t_bndK hk (fun r3 er3 hk => ?_)
    refine t_callVvE dX6_takeVar_55 M_X2_advance (C_X2_advance _ _ er3) ML_X6_170 IM_X2_advance SE_X2_advance qc_1 rfl (As := []) rfl rfl (Nat.le_of_ble_eq_true rfl) (Nat.le_of_ble_eq_true rfl) (Nat.le_of_ble_eq_true rfl) (Nat.le_of_ble_eq_true rfl) ?_
    refine mj_goto 69 dX6_takeVar_58 (by decide) ?_
    exact t_somK hk (fun hf => t_vret dX6_takeVar_69 rfl ⟨rfl, hf⟩ (Nat.le_of_ble_eq_true rfl) (Nat.le_of_ble_eq_true rfl))
noncomputable def f_X6_takeVar (x1 : Int32) (s : t_S) : Option (t_S) :=
 if (s.1 1 8) = (1 : Int32) then ((f_X5_placeOf (s.1 845 12) (f_X2_word s) s).bind (fun r2 =>
 k_X6_takeVar_33 x1 r2 s))
 else (k_X6_takeVar_33 x1 (-1) s)
set_option maxRecDepth 4000 in
set_option maxHeartbeats 1000000 in
theorem C_X6_takeVar (x1 : Int32) (s : t_S) (r : t_S) (hr : f_X6_takeVar x1 s = some r) : t_C yX6_takeVar cX6_takeVar 3 none 2 [.ref 845, .int x1] s (fun v s' => v = none ∧ s' = r) := by
  refine t_C.imp (P := fun v s' => v = none ∧ (fun q => q = r) (s')) (t_C.of (by decide +kernel) (Nat.le_of_ble_eq_true rfl) ?_) (fun v s' hp => hp)
  intro D cy ad bs X
  have hk : t_hk (f_X6_takeVar x1 s) (fun q => q = r) := ⟨r, hr, rfl⟩
  show mj_G D cy ad bs X cX6_takeVar 3 yX6_takeVar.cls none yX6_takeVar.name 2 0 0 1065 (t_P (fun v s' => v = none ∧ (fun q => q = r) (s'))) 0 [(0, .ref 845), (1, .int x1)] [] (t_m s) 1065 0 0
  refine mj_aload_n dX6_takeVar_0 0 rfl ?_
  refine t_getR 1 dX6_takeVar_1 F_X6_28 qr_845_0 ?_
  refine t_getI dX6_takeVar_4 F_X6_85 qf_1_8 ?_
  refine mj_iconst (v := 1) dX6_takeVar_7 (by decide) ?_
  refine mj_icmp_ne 32 dX6_takeVar_8 (by decide) (fun z => t_negK hk z (fun hk => ?_)) (fun z => t_posK hk z (fun hk => ?_))
  · refine mj_iconst (v := (-1)) dX6_takeVar_32 (by decide) ?_
    exact B_X6_takeVar_33 _ _ _ _ hk
  · refine mj_aload_n dX6_takeVar_11 0 rfl ?_
    refine t_getR 428 dX6_takeVar_12 F_X6_48 qr_845_4 ?_
    refine mj_aload_n dX6_takeVar_15 0 rfl ?_
    refine t_getI dX6_takeVar_16 F_X6_134 qf_845_12 ?_
    refine mj_aload_n dX6_takeVar_19 0 rfl ?_
    refine t_getR 1 dX6_takeVar_20 F_X6_28 qr_845_0 ?_
    refine t_callViP dX6_takeVar_23 M_X2_word (C_X2_word _) ML_X6_166 IM_X2_word SE_X2_word qc_1 rfl (As := []) rfl rfl (Nat.le_of_ble_eq_true rfl) (Nat.le_of_ble_eq_true rfl) (Nat.le_of_ble_eq_true rfl) (Nat.le_of_ble_eq_true rfl) ?_
    refine t_bndK hk (fun r2 er2 hk => ?_)
    refine t_callViP dX6_takeVar_26 M_X5_placeOf (C_X5_placeOf _ _ _ _ er2) ML_X6_286 IM_X5_placeOf SE_X5_placeOf qc_428 rfl (As := [.int (s.1 845 12), .int (f_X2_word s)]) rfl rfl (Nat.le_of_ble_eq_true rfl) (Nat.le_of_ble_eq_true rfl) (Nat.le_of_ble_eq_true rfl) (Nat.le_of_ble_eq_true rfl) ?_
    refine mj_goto 33 dX6_takeVar_29 (by decide) ?_
    exact B_X6_takeVar_33 _ _ _ _ hk

theorem dX6_readInto_0 : decode cX6_readInto 0 = .ok (.aload_n 0, 1) := by decide +kernel
theorem dX6_readInto_1 : decode cX6_readInto 1 = .ok (.getfield 28, 3) := by decide +kernel
theorem dX6_readInto_10 : decode cX6_readInto 10 = .ok (.ifCond .eq 8, 3) := by decide +kernel
theorem dX6_readInto_13 : decode cX6_readInto 13 = .ok (.aload_n 0, 1) := by decide +kernel
theorem dX6_readInto_14 : decode cX6_readInto 14 = .ok (.iload_n 1, 1) := by decide +kernel
theorem dX6_readInto_15 : decode cX6_readInto 15 = .ok (.invokevirtual 570, 3) := by decide +kernel
theorem dX6_readInto_18 : decode cX6_readInto 18 = .ok (.return_, 1) := by decide +kernel
theorem dX6_readInto_4 : decode cX6_readInto 4 = .ok (.sipush 242, 3) := by decide +kernel
theorem dX6_readInto_7 : decode cX6_readInto 7 = .ok (.invokevirtual 246, 3) := by decide +kernel
noncomputable def f_X6_readInto (x1 : Int32) (s : t_S) : Option (t_S) :=
 (f_X2_take (242 : Int32) s).bind (fun r1 =>
 if r1.1 = (0 : Int32) then (some (r1.2))
 else ((f_X6_takeVar x1 r1.2).bind (fun r2 =>
 some (r2))))
set_option maxRecDepth 4000 in
set_option maxHeartbeats 1000000 in
theorem C_X6_readInto (x1 : Int32) (s : t_S) (r : t_S) (hr : f_X6_readInto x1 s = some r) : t_C yX6_readInto cX6_readInto 2 none 3 [.ref 845, .int x1] s (fun v s' => v = none ∧ s' = r) := by
  refine t_C.imp (P := fun v s' => v = none ∧ (fun q => q = r) (s')) (t_C.of (by decide +kernel) (Nat.le_of_ble_eq_true rfl) ?_) (fun v s' hp => hp)
  intro D cy ad bs X
  have hk : t_hk (f_X6_readInto x1 s) (fun q => q = r) := ⟨r, hr, rfl⟩
  show mj_G D cy ad bs X cX6_readInto 2 yX6_readInto.cls none yX6_readInto.name 3 0 0 1065 (t_P (fun v s' => v = none ∧ (fun q => q = r) (s'))) 0 [(0, .ref 845), (1, .int x1)] [] (t_m s) 1065 0 0
  refine mj_aload_n dX6_readInto_0 0 rfl ?_
  refine t_getR 1 dX6_readInto_1 F_X6_28 qr_845_0 ?_
  refine mj_sipush (v := 242) dX6_readInto_4 (by decide) ?_
  refine t_bndK hk (fun r1 er1 hk => ?_)
  refine t_callViE dX6_readInto_7 M_X2_take (C_X2_take _ _ _ er1) ML_X6_246 IM_X2_take SE_X2_take qc_1 rfl (As := [.int 242]) rfl rfl (Nat.le_of_ble_eq_true rfl) (Nat.le_of_ble_eq_true rfl) (Nat.le_of_ble_eq_true rfl) (Nat.le_of_ble_eq_true rfl) ?_
  refine mj_if_eq 18 dX6_readInto_10 (by decide) (fun z => t_posK hk z (fun hk => ?_)) (fun z => t_negK hk z (fun hk => ?_))
  · exact t_somK hk (fun hf => t_vret dX6_readInto_18 rfl ⟨rfl, hf⟩ (Nat.le_of_ble_eq_true rfl) (Nat.le_of_ble_eq_true rfl))
  · refine mj_aload_n dX6_readInto_13 0 rfl ?_
    refine mj_iload_n dX6_readInto_14 1 rfl ?_
    refine t_bndK hk (fun r2 er2 hk => ?_)
    refine t_callVvE dX6_readInto_15 M_X6_takeVar (C_X6_takeVar _ _ _ er2) ML_X6_570 IM_X6_takeVar SE_X6_takeVar qc_845 rfl (As := [.int x1]) rfl rfl (Nat.le_of_ble_eq_true rfl) (Nat.le_of_ble_eq_true rfl) (Nat.le_of_ble_eq_true rfl) (Nat.le_of_ble_eq_true rfl) ?_
    exact t_somK hk (fun hf => t_vret dX6_readInto_18 rfl ⟨rfl, hf⟩ (Nat.le_of_ble_eq_true rfl) (Nat.le_of_ble_eq_true rfl))

theorem dX6_sortOf_0 : decode cX6_sortOf 0 = .ok (.iload_n 0, 1) := by decide +kernel
theorem dX6_sortOf_1 : decode cX6_sortOf 1 = .ok (.lookupswitch 237 #[(1, 181), (209, 179), (237, 183), (239, 185), (240, 187), (241, 189), (243, 192), (247, 195), (248, 198), (249, 201), (250, 213), (251, 216), (252, 219), (253, 222), (255, 225), (258, 228), (259, 231), (260, 234), (262, 204), (264, 207), (265, 210)], 179) := by decide +kernel
theorem dX6_sortOf_180 : decode cX6_sortOf 180 = .ok (.iconst 1, 1) := by decide +kernel
theorem dX6_sortOf_181 : decode cX6_sortOf 181 = .ok (.ireturn, 1) := by decide +kernel
theorem dX6_sortOf_182 : decode cX6_sortOf 182 = .ok (.iconst 2, 1) := by decide +kernel
theorem dX6_sortOf_183 : decode cX6_sortOf 183 = .ok (.ireturn, 1) := by decide +kernel
theorem dX6_sortOf_184 : decode cX6_sortOf 184 = .ok (.iconst 3, 1) := by decide +kernel
theorem dX6_sortOf_185 : decode cX6_sortOf 185 = .ok (.ireturn, 1) := by decide +kernel
theorem dX6_sortOf_186 : decode cX6_sortOf 186 = .ok (.iconst 4, 1) := by decide +kernel
theorem dX6_sortOf_187 : decode cX6_sortOf 187 = .ok (.ireturn, 1) := by decide +kernel
theorem dX6_sortOf_188 : decode cX6_sortOf 188 = .ok (.iconst 5, 1) := by decide +kernel
theorem dX6_sortOf_189 : decode cX6_sortOf 189 = .ok (.ireturn, 1) := by decide +kernel
theorem dX6_sortOf_190 : decode cX6_sortOf 190 = .ok (.bipush 6, 2) := by decide +kernel
theorem dX6_sortOf_192 : decode cX6_sortOf 192 = .ok (.ireturn, 1) := by decide +kernel
theorem dX6_sortOf_193 : decode cX6_sortOf 193 = .ok (.bipush 7, 2) := by decide +kernel
theorem dX6_sortOf_195 : decode cX6_sortOf 195 = .ok (.ireturn, 1) := by decide +kernel
theorem dX6_sortOf_196 : decode cX6_sortOf 196 = .ok (.bipush 8, 2) := by decide +kernel
theorem dX6_sortOf_198 : decode cX6_sortOf 198 = .ok (.ireturn, 1) := by decide +kernel
theorem dX6_sortOf_199 : decode cX6_sortOf 199 = .ok (.bipush 9, 2) := by decide +kernel
theorem dX6_sortOf_201 : decode cX6_sortOf 201 = .ok (.ireturn, 1) := by decide +kernel
theorem dX6_sortOf_202 : decode cX6_sortOf 202 = .ok (.bipush 10, 2) := by decide +kernel
theorem dX6_sortOf_204 : decode cX6_sortOf 204 = .ok (.ireturn, 1) := by decide +kernel
theorem dX6_sortOf_205 : decode cX6_sortOf 205 = .ok (.bipush 11, 2) := by decide +kernel
theorem dX6_sortOf_207 : decode cX6_sortOf 207 = .ok (.ireturn, 1) := by decide +kernel
theorem dX6_sortOf_208 : decode cX6_sortOf 208 = .ok (.bipush 12, 2) := by decide +kernel
theorem dX6_sortOf_210 : decode cX6_sortOf 210 = .ok (.ireturn, 1) := by decide +kernel
theorem dX6_sortOf_211 : decode cX6_sortOf 211 = .ok (.bipush 13, 2) := by decide +kernel
theorem dX6_sortOf_213 : decode cX6_sortOf 213 = .ok (.ireturn, 1) := by decide +kernel
theorem dX6_sortOf_214 : decode cX6_sortOf 214 = .ok (.bipush 14, 2) := by decide +kernel
theorem dX6_sortOf_216 : decode cX6_sortOf 216 = .ok (.ireturn, 1) := by decide +kernel
theorem dX6_sortOf_217 : decode cX6_sortOf 217 = .ok (.bipush 15, 2) := by decide +kernel
theorem dX6_sortOf_219 : decode cX6_sortOf 219 = .ok (.ireturn, 1) := by decide +kernel
theorem dX6_sortOf_220 : decode cX6_sortOf 220 = .ok (.bipush 16, 2) := by decide +kernel
theorem dX6_sortOf_222 : decode cX6_sortOf 222 = .ok (.ireturn, 1) := by decide +kernel
theorem dX6_sortOf_223 : decode cX6_sortOf 223 = .ok (.bipush 17, 2) := by decide +kernel
theorem dX6_sortOf_225 : decode cX6_sortOf 225 = .ok (.ireturn, 1) := by decide +kernel
theorem dX6_sortOf_226 : decode cX6_sortOf 226 = .ok (.bipush 18, 2) := by decide +kernel
theorem dX6_sortOf_228 : decode cX6_sortOf 228 = .ok (.ireturn, 1) := by decide +kernel
theorem dX6_sortOf_229 : decode cX6_sortOf 229 = .ok (.bipush 19, 2) := by decide +kernel
theorem dX6_sortOf_231 : decode cX6_sortOf 231 = .ok (.ireturn, 1) := by decide +kernel
theorem dX6_sortOf_232 : decode cX6_sortOf 232 = .ok (.bipush 20, 2) := by decide +kernel
theorem dX6_sortOf_234 : decode cX6_sortOf 234 = .ok (.ireturn, 1) := by decide +kernel
theorem dX6_sortOf_235 : decode cX6_sortOf 235 = .ok (.bipush 21, 2) := by decide +kernel
theorem dX6_sortOf_237 : decode cX6_sortOf 237 = .ok (.ireturn, 1) := by decide +kernel
theorem dX6_sortOf_238 : decode cX6_sortOf 238 = .ok (.iconst 0, 1) := by decide +kernel
theorem dX6_sortOf_239 : decode cX6_sortOf 239 = .ok (.ireturn, 1) := by decide +kernel
noncomputable def f_X6_sortOf (x1 : Int32) (s : t_S) : Int32 :=
 if x1.toInt = 1 then ((2 : Int32))
 else if x1.toInt = 209 then ((1 : Int32))
 else if x1.toInt = 237 then ((3 : Int32))
 else if x1.toInt = 239 then ((4 : Int32))
 else if x1.toInt = 240 then ((5 : Int32))
 else if x1.toInt = 241 then ((6 : Int32))
 else if x1.toInt = 243 then ((7 : Int32))
 else if x1.toInt = 247 then ((8 : Int32))
 else if x1.toInt = 248 then ((9 : Int32))
 else if x1.toInt = 249 then ((10 : Int32))
 else if x1.toInt = 250 then ((14 : Int32))
 else if x1.toInt = 251 then ((15 : Int32))
 else if x1.toInt = 252 then ((16 : Int32))
 else if x1.toInt = 253 then ((17 : Int32))
 else if x1.toInt = 255 then ((18 : Int32))
 else if x1.toInt = 258 then ((19 : Int32))
 else if x1.toInt = 259 then ((20 : Int32))
 else if x1.toInt = 260 then ((21 : Int32))
 else if x1.toInt = 262 then ((11 : Int32))
 else if x1.toInt = 264 then ((12 : Int32))
 else if x1.toInt = 265 then ((13 : Int32))
 else ((0 : Int32))
set_option maxRecDepth 4000 in
set_option maxHeartbeats 1000000 in
theorem C_X6_sortOf (x1 : Int32) (s : t_S) : t_C yX6_sortOf cX6_sortOf 1 (some .int) 0 [.int x1] s (fun v s' => v = some (.int (f_X6_sortOf x1 s)) ∧ s' = s) := by
  refine t_C.imp (P := fun v s' => s' = s ∧ ∃ x, v = some (.int x) ∧ (fun r => r = f_X6_sortOf x1 s) (x)) (t_C.of (by decide +kernel) (Nat.le_of_ble_eq_true rfl) ?_) (fun v s' hp => by obtain ⟨rfl, x, rfl, rfl⟩ := hp; exact ⟨rfl, rfl⟩)
  intro D cy ad bs X
  have hk : t_ht (f_X6_sortOf x1 s) (fun r => r = f_X6_sortOf x1 s) := rfl
  show mj_G D cy ad bs X cX6_sortOf 1 yX6_sortOf.cls (some .int) yX6_sortOf.name 0 0 0 1065 (t_P (fun v s' => s' = s ∧ ∃ x, v = some (.int x) ∧ (fun r => r = f_X6_sortOf x1 s) (x))) 0 [(0, .int x1)] [] (t_m s) 1065 0 0
  refine mj_iload_n dX6_sortOf_0 0 rfl ?_
  by_cases h0 : x1.toInt = 1
  · replace hk := t_posT hk h0
    refine mj_lookup 182 dX6_sortOf_1 (by decide) (by rw [h0] <;> rfl) (by decide) ?_
    refine mj_iconst (v := 2) dX6_sortOf_182 (by decide) ?_
    exact t_iret dX6_sortOf_183 rfl rfl ⟨rfl, _, rfl, hk⟩ (Nat.le_of_ble_eq_true rfl) (Nat.le_of_ble_eq_true rfl)
  replace hk := t_negT hk h0
  by_cases h1 : x1.toInt = 209
  · replace hk := t_posT hk h1
    refine mj_lookup 180 dX6_sortOf_1 (by decide) (by rw [h1] <;> rfl) (by decide) ?_
    refine mj_iconst (v := 1) dX6_sortOf_180 (by decide) ?_
    exact t_iret dX6_sortOf_181 rfl rfl ⟨rfl, _, rfl, hk⟩ (Nat.le_of_ble_eq_true rfl) (Nat.le_of_ble_eq_true rfl)
  replace hk := t_negT hk h1
  by_cases h2 : x1.toInt = 237
  · replace hk := t_posT hk h2
    refine mj_lookup 184 dX6_sortOf_1 (by decide) (by rw [h2] <;> rfl) (by decide) ?_
    refine mj_iconst (v := 3) dX6_sortOf_184 (by decide) ?_
    exact t_iret dX6_sortOf_185 rfl rfl ⟨rfl, _, rfl, hk⟩ (Nat.le_of_ble_eq_true rfl) (Nat.le_of_ble_eq_true rfl)
  replace hk := t_negT hk h2
  by_cases h3 : x1.toInt = 239
  · replace hk := t_posT hk h3
    refine mj_lookup 186 dX6_sortOf_1 (by decide) (by rw [h3] <;> rfl) (by decide) ?_
    refine mj_iconst (v := 4) dX6_sortOf_186 (by decide) ?_
    exact t_iret dX6_sortOf_187 rfl rfl ⟨rfl, _, rfl, hk⟩ (Nat.le_of_ble_eq_true rfl) (Nat.le_of_ble_eq_true rfl)
  replace hk := t_negT hk h3
  by_cases h4 : x1.toInt = 240
  · replace hk := t_posT hk h4
    refine mj_lookup 188 dX6_sortOf_1 (by decide) (by rw [h4] <;> rfl) (by decide) ?_
    refine mj_iconst (v := 5) dX6_sortOf_188 (by decide) ?_
    exact t_iret dX6_sortOf_189 rfl rfl ⟨rfl, _, rfl, hk⟩ (Nat.le_of_ble_eq_true rfl) (Nat.le_of_ble_eq_true rfl)
  replace hk := t_negT hk h4
  by_cases h5 : x1.toInt = 241
  · replace hk := t_posT hk h5
    refine mj_lookup 190 dX6_sortOf_1 (by decide) (by rw [h5] <;> rfl) (by decide) ?_
    refine mj_bipush (v := 6) dX6_sortOf_190 (by decide) ?_
    exact t_iret dX6_sortOf_192 rfl rfl ⟨rfl, _, rfl, hk⟩ (Nat.le_of_ble_eq_true rfl) (Nat.le_of_ble_eq_true rfl)
  replace hk := t_negT hk h5
  by_cases h6 : x1.toInt = 243
  · replace hk := t_posT hk h6
    refine mj_lookup 193 dX6_sortOf_1 (by decide) (by rw [h6] <;> rfl) (by decide) ?_
    refine mj_bipush (v := 7) dX6_sortOf_193 (by decide) ?_
    exact t_iret dX6_sortOf_195 rfl rfl ⟨rfl, _, rfl, hk⟩ (Nat.le_of_ble_eq_true rfl) (Nat.le_of_ble_eq_true rfl)
  replace hk := t_negT hk h6
  by_cases h7 : x1.toInt = 247
  · replace hk := t_posT hk h7
    refine mj_lookup 196 dX6_sortOf_1 (by decide) (by rw [h7] <;> rfl) (by decide) ?_
    refine mj_bipush (v := 8) dX6_sortOf_196 (by decide) ?_
    exact t_iret dX6_sortOf_198 rfl rfl ⟨rfl, _, rfl, hk⟩ (Nat.le_of_ble_eq_true rfl) (Nat.le_of_ble_eq_true rfl)
  replace hk := t_negT hk h7
  by_cases h8 : x1.toInt = 248
  · replace hk := t_posT hk h8
    refine mj_lookup 199 dX6_sortOf_1 (by decide) (by rw [h8] <;> rfl) (by decide) ?_
    refine mj_bipush (v := 9) dX6_sortOf_199 (by decide) ?_
    exact t_iret dX6_sortOf_201 rfl rfl ⟨rfl, _, rfl, hk⟩ (Nat.le_of_ble_eq_true rfl) (Nat.le_of_ble_eq_true rfl)
  replace hk := t_negT hk h8
  by_cases h9 : x1.toInt = 249
  · replace hk := t_posT hk h9
    refine mj_lookup 202 dX6_sortOf_1 (by decide) (by rw [h9] <;> rfl) (by decide) ?_
    refine mj_bipush (v := 10) dX6_sortOf_202 (by decide) ?_
    exact t_iret dX6_sortOf_204 rfl rfl ⟨rfl, _, rfl, hk⟩ (Nat.le_of_ble_eq_true rfl) (Nat.le_of_ble_eq_true rfl)
  replace hk := t_negT hk h9
  by_cases h10 : x1.toInt = 250
  · replace hk := t_posT hk h10
    refine mj_lookup 214 dX6_sortOf_1 (by decide) (by rw [h10] <;> rfl) (by decide) ?_
    refine mj_bipush (v := 14) dX6_sortOf_214 (by decide) ?_
    exact t_iret dX6_sortOf_216 rfl rfl ⟨rfl, _, rfl, hk⟩ (Nat.le_of_ble_eq_true rfl) (Nat.le_of_ble_eq_true rfl)
  replace hk := t_negT hk h10
  by_cases h11 : x1.toInt = 251
  · replace hk := t_posT hk h11
    refine mj_lookup 217 dX6_sortOf_1 (by decide) (by rw [h11] <;> rfl) (by decide) ?_
    refine mj_bipush (v := 15) dX6_sortOf_217 (by decide) ?_
    exact t_iret dX6_sortOf_219 rfl rfl ⟨rfl, _, rfl, hk⟩ (Nat.le_of_ble_eq_true rfl) (Nat.le_of_ble_eq_true rfl)
  replace hk := t_negT hk h11
  by_cases h12 : x1.toInt = 252
  · replace hk := t_posT hk h12
    refine mj_lookup 220 dX6_sortOf_1 (by decide) (by rw [h12] <;> rfl) (by decide) ?_
    refine mj_bipush (v := 16) dX6_sortOf_220 (by decide) ?_
    exact t_iret dX6_sortOf_222 rfl rfl ⟨rfl, _, rfl, hk⟩ (Nat.le_of_ble_eq_true rfl) (Nat.le_of_ble_eq_true rfl)
  replace hk := t_negT hk h12
  by_cases h13 : x1.toInt = 253
  · replace hk := t_posT hk h13
    refine mj_lookup 223 dX6_sortOf_1 (by decide) (by rw [h13] <;> rfl) (by decide) ?_
    refine mj_bipush (v := 17) dX6_sortOf_223 (by decide) ?_
    exact t_iret dX6_sortOf_225 rfl rfl ⟨rfl, _, rfl, hk⟩ (Nat.le_of_ble_eq_true rfl) (Nat.le_of_ble_eq_true rfl)
  replace hk := t_negT hk h13
  by_cases h14 : x1.toInt = 255
  · replace hk := t_posT hk h14
    refine mj_lookup 226 dX6_sortOf_1 (by decide) (by rw [h14] <;> rfl) (by decide) ?_
    refine mj_bipush (v := 18) dX6_sortOf_226 (by decide) ?_
    exact t_iret dX6_sortOf_228 rfl rfl ⟨rfl, _, rfl, hk⟩ (Nat.le_of_ble_eq_true rfl) (Nat.le_of_ble_eq_true rfl)
  replace hk := t_negT hk h14
  by_cases h15 : x1.toInt = 258
  · replace hk := t_posT hk h15
    refine mj_lookup 229 dX6_sortOf_1 (by decide) (by rw [h15] <;> rfl) (by decide) ?_
    refine mj_bipush (v := 19) dX6_sortOf_229 (by decide) ?_
    exact t_iret dX6_sortOf_231 rfl rfl ⟨rfl, _, rfl, hk⟩ (Nat.le_of_ble_eq_true rfl) (Nat.le_of_ble_eq_true rfl)
  replace hk := t_negT hk h15
  by_cases h16 : x1.toInt = 259
  · replace hk := t_posT hk h16
    refine mj_lookup 232 dX6_sortOf_1 (by decide) (by rw [h16] <;> rfl) (by decide) ?_
    refine mj_bipush (v := 20) dX6_sortOf_232 (by decide) ?_
    exact t_iret dX6_sortOf_234 rfl rfl ⟨rfl, _, rfl, hk⟩ (Nat.le_of_ble_eq_true rfl) (Nat.le_of_ble_eq_true rfl)
  replace hk := t_negT hk h16
  by_cases h17 : x1.toInt = 260
  · replace hk := t_posT hk h17
    refine mj_lookup 235 dX6_sortOf_1 (by decide) (by rw [h17] <;> rfl) (by decide) ?_
    refine mj_bipush (v := 21) dX6_sortOf_235 (by decide) ?_
    exact t_iret dX6_sortOf_237 rfl rfl ⟨rfl, _, rfl, hk⟩ (Nat.le_of_ble_eq_true rfl) (Nat.le_of_ble_eq_true rfl)
  replace hk := t_negT hk h17
  by_cases h18 : x1.toInt = 262
  · replace hk := t_posT hk h18
    refine mj_lookup 205 dX6_sortOf_1 (by decide) (by rw [h18] <;> rfl) (by decide) ?_
    refine mj_bipush (v := 11) dX6_sortOf_205 (by decide) ?_
    exact t_iret dX6_sortOf_207 rfl rfl ⟨rfl, _, rfl, hk⟩ (Nat.le_of_ble_eq_true rfl) (Nat.le_of_ble_eq_true rfl)
  replace hk := t_negT hk h18
  by_cases h19 : x1.toInt = 264
  · replace hk := t_posT hk h19
    refine mj_lookup 208 dX6_sortOf_1 (by decide) (by rw [h19] <;> rfl) (by decide) ?_
    refine mj_bipush (v := 12) dX6_sortOf_208 (by decide) ?_
    exact t_iret dX6_sortOf_210 rfl rfl ⟨rfl, _, rfl, hk⟩ (Nat.le_of_ble_eq_true rfl) (Nat.le_of_ble_eq_true rfl)
  replace hk := t_negT hk h19
  by_cases h20 : x1.toInt = 265
  · replace hk := t_posT hk h20
    refine mj_lookup 211 dX6_sortOf_1 (by decide) (by rw [h20] <;> rfl) (by decide) ?_
    refine mj_bipush (v := 13) dX6_sortOf_211 (by decide) ?_
    exact t_iret dX6_sortOf_213 rfl rfl ⟨rfl, _, rfl, hk⟩ (Nat.le_of_ble_eq_true rfl) (Nat.le_of_ble_eq_true rfl)
  replace hk := t_negT hk h20
  refine mj_lookup 238 dX6_sortOf_1 (by decide) (t_lk0 _ (And.intro h0 (And.intro h1 (And.intro h2 (And.intro h3 (And.intro h4 (And.intro h5 (And.intro h6 (And.intro h7 (And.intro h8 (And.intro h9 (And.intro h10 (And.intro h11 (And.intro h12 (And.intro h13 (And.intro h14 (And.intro h15 (And.intro h16 (And.intro h17 (And.intro h18 (And.intro h19 (And.intro h20 trivial)))))))))))))))))))))) (by decide) ?_
  refine mj_iconst (v := 0) dX6_sortOf_238 (by decide) ?_
  exact t_iret dX6_sortOf_239 rfl rfl ⟨rfl, _, rfl, hk⟩ (Nat.le_of_ble_eq_true rfl) (Nat.le_of_ble_eq_true rfl)

theorem dX6_readEvent_0 : decode cX6_readEvent 0 = .ok (.aload_n 0, 1) := by decide +kernel
theorem dX6_readEvent_1 : decode cX6_readEvent 1 = .ok (.getfield 48, 3) := by decide +kernel
theorem dX6_readEvent_10 : decode cX6_readEvent 10 = .ok (.aload_n 2, 1) := by decide +kernel
theorem dX6_readEvent_100 : decode cX6_readEvent 100 = .ok (.iastore, 1) := by decide +kernel
theorem dX6_readEvent_101 : decode cX6_readEvent 101 = .ok (.aload_n 0, 1) := by decide +kernel
theorem dX6_readEvent_102 : decode cX6_readEvent 102 = .ok (.getfield 43, 3) := by decide +kernel
theorem dX6_readEvent_105 : decode cX6_readEvent 105 = .ok (.iconst 0, 1) := by decide +kernel
theorem dX6_readEvent_106 : decode cX6_readEvent 106 = .ok (.iconst 0, 1) := by decide +kernel
theorem dX6_readEvent_107 : decode cX6_readEvent 107 = .ok (.invokevirtual 202, 3) := by decide +kernel
theorem dX6_readEvent_11 : decode cX6_readEvent 11 = .ok (.iconst 0, 1) := by decide +kernel
theorem dX6_readEvent_110 : decode cX6_readEvent 110 = .ok (.pop, 1) := by decide +kernel
theorem dX6_readEvent_111 : decode cX6_readEvent 111 = .ok (.aload_n 0, 1) := by decide +kernel
theorem dX6_readEvent_112 : decode cX6_readEvent 112 = .ok (.getfield 28, 3) := by decide +kernel
theorem dX6_readEvent_115 : decode cX6_readEvent 115 = .ok (.sipush 263, 3) := by decide +kernel
theorem dX6_readEvent_118 : decode cX6_readEvent 118 = .ok (.invokevirtual 246, 3) := by decide +kernel
theorem dX6_readEvent_12 : decode cX6_readEvent 12 = .ok (.aload_n 0, 1) := by decide +kernel
theorem dX6_readEvent_121 : decode cX6_readEvent 121 = .ok (.ifCond .eq 12, 3) := by decide +kernel
theorem dX6_readEvent_124 : decode cX6_readEvent 124 = .ok (.aload_n 2, 1) := by decide +kernel
theorem dX6_readEvent_125 : decode cX6_readEvent 125 = .ok (.bipush 10, 2) := by decide +kernel
theorem dX6_readEvent_127 : decode cX6_readEvent 127 = .ok (.aload_n 0, 1) := by decide +kernel
theorem dX6_readEvent_128 : decode cX6_readEvent 128 = .ok (.iconst (-1), 1) := by decide +kernel
theorem dX6_readEvent_129 : decode cX6_readEvent 129 = .ok (.invokevirtual 120, 3) := by decide +kernel
theorem dX6_readEvent_13 : decode cX6_readEvent 13 = .ok (.getfield 28, 3) := by decide +kernel
theorem dX6_readEvent_132 : decode cX6_readEvent 132 = .ok (.iastore, 1) := by decide +kernel
theorem dX6_readEvent_133 : decode cX6_readEvent 133 = .ok (.aload_n 0, 1) := by decide +kernel
theorem dX6_readEvent_134 : decode cX6_readEvent 134 = .ok (.iload_n 1, 1) := by decide +kernel
theorem dX6_readEvent_135 : decode cX6_readEvent 135 = .ok (.invokevirtual 564, 3) := by decide +kernel
theorem dX6_readEvent_138 : decode cX6_readEvent 138 = .ok (.return_, 1) := by decide +kernel
theorem dX6_readEvent_16 : decode cX6_readEvent 16 = .ok (.getfield 85, 3) := by decide +kernel
theorem dX6_readEvent_19 : decode cX6_readEvent 19 = .ok (.invokestatic 534, 3) := by decide +kernel
theorem dX6_readEvent_22 : decode cX6_readEvent 22 = .ok (.iastore, 1) := by decide +kernel
theorem dX6_readEvent_23 : decode cX6_readEvent 23 = .ok (.aload_n 0, 1) := by decide +kernel
theorem dX6_readEvent_24 : decode cX6_readEvent 24 = .ok (.getfield 28, 3) := by decide +kernel
theorem dX6_readEvent_27 : decode cX6_readEvent 27 = .ok (.invokevirtual 170, 3) := by decide +kernel
theorem dX6_readEvent_30 : decode cX6_readEvent 30 = .ok (.aload_n 2, 1) := by decide +kernel
theorem dX6_readEvent_31 : decode cX6_readEvent 31 = .ok (.iconst 0, 1) := by decide +kernel
theorem dX6_readEvent_32 : decode cX6_readEvent 32 = .ok (.iaload, 1) := by decide +kernel
theorem dX6_readEvent_33 : decode cX6_readEvent 33 = .ok (.bipush 12, 2) := by decide +kernel
theorem dX6_readEvent_35 : decode cX6_readEvent 35 = .ok (.if_icmp .ne 11, 3) := by decide +kernel
theorem dX6_readEvent_38 : decode cX6_readEvent 38 = .ok (.aload_n 0, 1) := by decide +kernel
theorem dX6_readEvent_39 : decode cX6_readEvent 39 = .ok (.bipush 6, 2) := by decide +kernel
theorem dX6_readEvent_4 : decode cX6_readEvent 4 = .ok (.getfield 531, 3) := by decide +kernel
theorem dX6_readEvent_41 : decode cX6_readEvent 41 = .ok (.iload_n 1, 1) := by decide +kernel
theorem dX6_readEvent_42 : decode cX6_readEvent 42 = .ok (.iconst 0, 1) := by decide +kernel
theorem dX6_readEvent_43 : decode cX6_readEvent 43 = .ok (.invokevirtual 250, 3) := by decide +kernel
theorem dX6_readEvent_46 : decode cX6_readEvent 46 = .ok (.aload_n 2, 1) := by decide +kernel
theorem dX6_readEvent_47 : decode cX6_readEvent 47 = .ok (.iconst 0, 1) := by decide +kernel
theorem dX6_readEvent_48 : decode cX6_readEvent 48 = .ok (.iaload, 1) := by decide +kernel
theorem dX6_readEvent_49 : decode cX6_readEvent 49 = .ok (.bipush 13, 2) := by decide +kernel
theorem dX6_readEvent_51 : decode cX6_readEvent 51 = .ok (.if_icmp .ne 11, 3) := by decide +kernel
theorem dX6_readEvent_54 : decode cX6_readEvent 54 = .ok (.aload_n 2, 1) := by decide +kernel
theorem dX6_readEvent_55 : decode cX6_readEvent 55 = .ok (.iconst 5, 1) := by decide +kernel
theorem dX6_readEvent_56 : decode cX6_readEvent 56 = .ok (.aload_n 0, 1) := by decide +kernel
theorem dX6_readEvent_57 : decode cX6_readEvent 57 = .ok (.iconst (-1), 1) := by decide +kernel
theorem dX6_readEvent_58 : decode cX6_readEvent 58 = .ok (.invokevirtual 120, 3) := by decide +kernel
theorem dX6_readEvent_61 : decode cX6_readEvent 61 = .ok (.iastore, 1) := by decide +kernel
theorem dX6_readEvent_62 : decode cX6_readEvent 62 = .ok (.aload_n 2, 1) := by decide +kernel
theorem dX6_readEvent_63 : decode cX6_readEvent 63 = .ok (.iconst 0, 1) := by decide +kernel
theorem dX6_readEvent_64 : decode cX6_readEvent 64 = .ok (.iaload, 1) := by decide +kernel
theorem dX6_readEvent_65 : decode cX6_readEvent 65 = .ok (.bipush 11, 2) := by decide +kernel
theorem dX6_readEvent_67 : decode cX6_readEvent 67 = .ok (.if_icmp .eq 4, 3) := by decide +kernel
theorem dX6_readEvent_7 : decode cX6_readEvent 7 = .ok (.iload_n 1, 1) := by decide +kernel
theorem dX6_readEvent_70 : decode cX6_readEvent 70 = .ok (.return_, 1) := by decide +kernel
theorem dX6_readEvent_71 : decode cX6_readEvent 71 = .ok (.aload_n 0, 1) := by decide +kernel
theorem dX6_readEvent_72 : decode cX6_readEvent 72 = .ok (.iconst 5, 1) := by decide +kernel
theorem dX6_readEvent_73 : decode cX6_readEvent 73 = .ok (.iload_n 1, 1) := by decide +kernel
theorem dX6_readEvent_74 : decode cX6_readEvent 74 = .ok (.iconst 0, 1) := by decide +kernel
theorem dX6_readEvent_75 : decode cX6_readEvent 75 = .ok (.invokevirtual 250, 3) := by decide +kernel
theorem dX6_readEvent_78 : decode cX6_readEvent 78 = .ok (.aload_n 2, 1) := by decide +kernel
theorem dX6_readEvent_79 : decode cX6_readEvent 79 = .ok (.bipush 9, 2) := by decide +kernel
theorem dX6_readEvent_8 : decode cX6_readEvent 8 = .ok (.aaload, 1) := by decide +kernel
theorem dX6_readEvent_81 : decode cX6_readEvent 81 = .ok (.aload_n 0, 1) := by decide +kernel
theorem dX6_readEvent_82 : decode cX6_readEvent 82 = .ok (.getfield 43, 3) := by decide +kernel
theorem dX6_readEvent_85 : decode cX6_readEvent 85 = .ok (.getfield 64, 3) := by decide +kernel
theorem dX6_readEvent_88 : decode cX6_readEvent 88 = .ok (.iastore, 1) := by decide +kernel
theorem dX6_readEvent_89 : decode cX6_readEvent 89 = .ok (.aload_n 2, 1) := by decide +kernel
theorem dX6_readEvent_9 : decode cX6_readEvent 9 = .ok (.astore_n 2, 1) := by decide +kernel
theorem dX6_readEvent_90 : decode cX6_readEvent 90 = .ok (.bipush 8, 2) := by decide +kernel
theorem dX6_readEvent_92 : decode cX6_readEvent 92 = .ok (.aload_n 0, 1) := by decide +kernel
theorem dX6_readEvent_93 : decode cX6_readEvent 93 = .ok (.iconst 0, 1) := by decide +kernel
theorem dX6_readEvent_94 : decode cX6_readEvent 94 = .ok (.sipush (-1000), 3) := by decide +kernel
theorem dX6_readEvent_97 : decode cX6_readEvent 97 = .ok (.invokevirtual 198, 3) := by decide +kernel
noncomputable def k_X6_readEvent_133 (l1 : Int32) (s : t_S) : Option (t_S) :=
 (f_X6_readInto l1 s).bind (fun r1 =>
 some (r1))
set_option maxRecDepth 4000 in
set_option maxHeartbeats 1000000 in
theorem B_X6_readEvent_133 {D : va_G} {cy : Nat → ClassId} {ad : Nat → Nat} {bs : Nat} {X : State → Heap → Prop} (l1 : Int32) (s : t_S) (Q : t_S → Prop) (hk : t_hk (k_X6_readEvent_133 l1 s) Q) : mj_G D cy ad bs X cX6_readEvent 3 yX6_readEvent.cls none yX6_readEvent.name 254 0 0 1065 (t_P (fun v s' => v = none ∧ Q (s'))) 133 [(0, .ref 845), (1, .int l1)] [] (t_m s) 1065 0 0 := by
  refine mj_aload_n dX6_readEvent_133 0 rfl ?_
  refine mj_iload_n dX6_readEvent_134 1 rfl ?_
  refine t_bndK hk (fun r1 er1 hk => ?_)
  refine t_callVvE dX6_readEvent_135 M_X6_readInto (C_X6_readInto _ _ _ er1) ML_X6_564 IM_X6_readInto SE_X6_readInto qc_845 rfl (As := [.int l1]) rfl rfl (Nat.le_of_ble_eq_true rfl) (Nat.le_of_ble_eq_true rfl) (Nat.le_of_ble_eq_true rfl) (Nat.le_of_ble_eq_true rfl) ?_
  exact t_somK hk (fun hf => t_vret dX6_readEvent_138 rfl ⟨rfl, hf⟩ (Nat.le_of_ble_eq_true rfl) (Nat.le_of_ble_eq_true rfl))
noncomputable def k_X6_readEvent_62 (l1 : Int32) (l2 : Nat) (s : t_S) : Option (t_S) :=
 if t_oka l2 1 (t_ln l2) = true then
  if t_ix (0 : Int32) (t_ln l2) = true then
  if (s.1 l2 ((0 : Int32).toNatClampNeg)) = (11 : Int32) then ((f_X6_link (5 : Int32) l1 (0 : Int32) s).bind (fun r3 =>
 if t_ix (9 : Int32) (t_ln l2) = true then
  t_let (t_setI r3 l2 ((9 : Int32).toNatClampNeg) (r3.1 334 2)) (fun s1 =>
 (f_X6_readTempl (0 : Int32) (-1000 : Int32) s1).bind (fun r5 =>
 if t_ix (8 : Int32) (t_ln l2) = true then
  t_let (t_setI r5.2 l2 ((8 : Int32).toNatClampNeg) r5.1) (fun s2 =>
 (f_X0_emit (0 : Int32) (0 : Int32) s2).bind (fun r7 =>
 (f_X2_take (263 : Int32) r7.2).bind (fun r8 =>
 if r8.1 = (0 : Int32) then (k_X6_readEvent_133 l1 r8.2)
 else ((f_X6_readExp (-1 : Int32) r8.2).bind (fun r9 =>
 if t_ix (10 : Int32) (t_ln l2) = true then
  t_let (t_setI r9.2 l2 ((10 : Int32).toNatClampNeg) r9.1) (fun s3 =>
 k_X6_readEvent_133 l1 s3)
else none)))))
else none))
else none))
 else (some (s))
else none
else none
set_option maxRecDepth 4000 in
set_option maxHeartbeats 1000000 in
theorem B_X6_readEvent_62 {D : va_G} {cy : Nat → ClassId} {ad : Nat → Nat} {bs : Nat} {X : State → Heap → Prop} (l1 : Int32) (l2 : Nat) (s : t_S) (Q : t_S → Prop) (hk : t_hk (k_X6_readEvent_62 l1 l2 s) Q) : mj_G D cy ad bs X cX6_readEvent 3 yX6_readEvent.cls none yX6_readEvent.name 254 0 0 1065 (t_P (fun v s' => v = none ∧ Q (s'))) 62 [(0, .ref 845), (1, .int l1), (2, .ref l2)] [] (t_m s) 1065 0 0 := by
  refine mj_aload_n dX6_readEvent_62 2 rfl ?_
  refine mj_iconst (v := 0) dX6_readEvent_63 (by decide) ?_
  refine t_chkK hk (fun c0 hk => ?_)
  refine t_chkK hk (fun c1 hk => ?_)
  refine t_iald dX6_readEvent_64 c0 (t_ixv c1) ?_
  refine mj_bipush (v := 11) dX6_readEvent_65 (by decide) ?_
  refine mj_icmp_eq 71 dX6_readEvent_67 (by decide) (fun z => t_posK hk z (fun hk => ?_)) (fun z => t_negK hk z (fun hk => ?_))
  · refine mj_aload_n dX6_readEvent_71 0 rfl ?_
    refine mj_iconst (v := 5) dX6_readEvent_72 (by decide) ?_
    refine mj_iload_n dX6_readEvent_73 1 rfl ?_
    refine mj_iconst (v := 0) dX6_readEvent_74 (by decide) ?_
    refine t_bndK hk (fun r3 er3 hk => ?_)
    refine t_callVvE dX6_readEvent_75 M_X6_link (C_X6_link _ _ _ _ _ er3) ML_X6_250 IM_X6_link SE_X6_link qc_845 rfl (As := [.int 5, .int l1, .int 0]) rfl rfl (Nat.le_of_ble_eq_true rfl) (Nat.le_of_ble_eq_true rfl) (Nat.le_of_ble_eq_true rfl) (Nat.le_of_ble_eq_true rfl) ?_
    refine mj_aload_n dX6_readEvent_78 2 rfl ?_
    refine mj_bipush (v := 9) dX6_readEvent_79 (by decide) ?_
    refine mj_aload_n dX6_readEvent_81 0 rfl ?_
    refine t_getR 334 dX6_readEvent_82 F_X6_43 qr_845_3 ?_
    refine t_getI dX6_readEvent_85 F_X6_64 qf_334_2 ?_
    refine t_chkK hk (fun c3 hk => ?_)
    refine t_iastK dX6_readEvent_88 c0 (t_ixv c3) (fun s1 ws1 => t_letE hk ws1 (fun hk => ?_))
    refine mj_aload_n dX6_readEvent_89 2 rfl ?_
    refine mj_bipush (v := 8) dX6_readEvent_90 (by decide) ?_
    refine mj_aload_n dX6_readEvent_92 0 rfl ?_
    refine mj_iconst (v := 0) dX6_readEvent_93 (by decide) ?_
    refine mj_sipush (v := (-1000)) dX6_readEvent_94 (by decide) ?_
    refine t_bndK hk (fun r5 er5 hk => ?_)
    refine t_callViE dX6_readEvent_97 M_X6_readTempl (C_X6_readTempl _ _ _ _ er5) ML_X6_198 IM_X6_readTempl SE_X6_readTempl qc_845 rfl (As := [.int 0, .int (-1000)]) rfl rfl (Nat.le_of_ble_eq_true rfl) (Nat.le_of_ble_eq_true rfl) (Nat.le_of_ble_eq_true rfl) (Nat.le_of_ble_eq_true rfl) ?_
    refine t_chkK hk (fun c5 hk => ?_)
    refine t_iastK dX6_readEvent_100 c0 (t_ixv c5) (fun s2 ws2 => t_letE hk ws2 (fun hk => ?_))
    refine mj_aload_n dX6_readEvent_101 0 rfl ?_
    refine t_getR 334 dX6_readEvent_102 F_X6_43 qr_845_3 ?_
    refine mj_iconst (v := 0) dX6_readEvent_105 (by decide) ?_
    refine mj_iconst (v := 0) dX6_readEvent_106 (by decide) ?_
    refine t_bndK hk (fun r7 er7 hk => ?_)
    refine t_callViE dX6_readEvent_107 M_X0_emit (C_X0_emit _ _ _ _ er7) ML_X6_202 IM_X0_emit SE_X0_emit qc_334 rfl (As := [.int 0, .int 0]) rfl rfl (Nat.le_of_ble_eq_true rfl) (Nat.le_of_ble_eq_true rfl) (Nat.le_of_ble_eq_true rfl) (Nat.le_of_ble_eq_true rfl) ?_
    refine mj_pop dX6_readEvent_110 rfl ?_
    refine mj_aload_n dX6_readEvent_111 0 rfl ?_
    refine t_getR 1 dX6_readEvent_112 F_X6_28 qr_845_0 ?_
    refine mj_sipush (v := 263) dX6_readEvent_115 (by decide) ?_
    refine t_bndK hk (fun r8 er8 hk => ?_)
    refine t_callViE dX6_readEvent_118 M_X2_take (C_X2_take _ _ _ er8) ML_X6_246 IM_X2_take SE_X2_take qc_1 rfl (As := [.int 263]) rfl rfl (Nat.le_of_ble_eq_true rfl) (Nat.le_of_ble_eq_true rfl) (Nat.le_of_ble_eq_true rfl) (Nat.le_of_ble_eq_true rfl) ?_
    refine mj_if_eq 133 dX6_readEvent_121 (by decide) (fun z => t_posK hk z (fun hk => ?_)) (fun z => t_negK hk z (fun hk => ?_))
    · refine mj_sublv [(0, .ref 845), (1, .int l1)] [0, 1] rfl ?_
      exact B_X6_readEvent_133 _ _ _ hk
    · refine mj_aload_n dX6_readEvent_124 2 rfl ?_
      refine mj_bipush (v := 10) dX6_readEvent_125 (by decide) ?_
      refine mj_aload_n dX6_readEvent_127 0 rfl ?_
      refine mj_iconst (v := (-1)) dX6_readEvent_128 (by decide) ?_
      refine t_bndK hk (fun r9 er9 hk => ?_)
      refine t_callViE dX6_readEvent_129 M_X6_readExp (C_X6_readExp _ _ _ er9) ML_X6_120 IM_X6_readExp SE_X6_readExp qc_845 rfl (As := [.int (-1)]) rfl rfl (Nat.le_of_ble_eq_true rfl) (Nat.le_of_ble_eq_true rfl) (Nat.le_of_ble_eq_true rfl) (Nat.le_of_ble_eq_true rfl) ?_
      refine t_chkK hk (fun c9 hk => ?_)
      refine t_iastK dX6_readEvent_132 c0 (t_ixv c9) (fun s3 ws3 => t_letE hk ws3 (fun hk => ?_))
      refine mj_sublv [(0, .ref 845), (1, .int l1)] [0, 1] rfl ?_
      exact B_X6_readEvent_133 _ _ _ hk
  · exact t_somK hk (fun hf => t_vret dX6_readEvent_70 rfl ⟨rfl, hf⟩ (Nat.le_of_ble_eq_true rfl) (Nat.le_of_ble_eq_true rfl))
noncomputable def k_X6_readEvent_46 (l1 : Int32) (l2 : Nat) (s : t_S) : Option (t_S) :=
 if t_oka l2 1 (t_ln l2) = true then
  if t_ix (0 : Int32) (t_ln l2) = true then
  if (s.1 l2 ((0 : Int32).toNatClampNeg)) = (13 : Int32) then ((f_X6_readExp (-1 : Int32) s).bind (fun r3 =>
 if t_ix (5 : Int32) (t_ln l2) = true then
  t_let (t_setI r3.2 l2 ((5 : Int32).toNatClampNeg) r3.1) (fun s1 =>
 k_X6_readEvent_62 l1 l2 s1)
else none))
 else (k_X6_readEvent_62 l1 l2 s)
else none
else none
set_option maxRecDepth 4000 in
set_option maxHeartbeats 1000000 in
theorem B_X6_readEvent_46 {D : va_G} {cy : Nat → ClassId} {ad : Nat → Nat} {bs : Nat} {X : State → Heap → Prop} (l1 : Int32) (l2 : Nat) (s : t_S) (Q : t_S → Prop) (hk : t_hk (k_X6_readEvent_46 l1 l2 s) Q) : mj_G D cy ad bs X cX6_readEvent 3 yX6_readEvent.cls none yX6_readEvent.name 254 0 0 1065 (t_P (fun v s' => v = none ∧ Q (s'))) 46 [(0, .ref 845), (1, .int l1), (2, .ref l2)] [] (t_m s) 1065 0 0 := by
  refine mj_aload_n dX6_readEvent_46 2 rfl ?_
  refine mj_iconst (v := 0) dX6_readEvent_47 (by decide) ?_
  refine t_chkK hk (fun c0 hk => ?_)
  refine t_chkK hk (fun c1 hk => ?_)
  refine t_iald dX6_readEvent_48 c0 (t_ixv c1) ?_
  refine mj_bipush (v := 13) dX6_readEvent_49 (by decide) ?_
  refine mj_icmp_ne 62 dX6_readEvent_51 (by decide) (fun z => t_negK hk z (fun hk => ?_)) (fun z => t_posK hk z (fun hk => ?_))
  · exact B_X6_readEvent_62 _ _ _ _ hk
  · refine mj_aload_n dX6_readEvent_54 2 rfl ?_
    refine mj_iconst (v := 5) dX6_readEvent_55 (by decide) ?_
    refine mj_aload_n dX6_readEvent_56 0 rfl ?_
    refine mj_iconst (v := (-1)) dX6_readEvent_57 (by decide) ?_
    refine t_bndK hk (fun r3 er3 hk => ?_)
    refine t_callViE dX6_readEvent_58 M_X6_readExp (C_X6_readExp _ _ _ er3) ML_X6_120 IM_X6_readExp SE_X6_readExp qc_845 rfl (As := [.int (-1)]) rfl rfl (Nat.le_of_ble_eq_true rfl) (Nat.le_of_ble_eq_true rfl) (Nat.le_of_ble_eq_true rfl) (Nat.le_of_ble_eq_true rfl) ?_
    refine t_chkK hk (fun c3 hk => ?_)
    refine t_iastK dX6_readEvent_61 c0 (t_ixv c3) (fun s1 ws1 => t_letE hk ws1 (fun hk => ?_))
    exact B_X6_readEvent_62 _ _ _ _ hk
noncomputable def f_X6_readEvent (x1 : Int32) (s : t_S) : Option (t_S) :=
 if t_ix x1 400 = true then
  t_let (t_setI s (445 + 1 * (x1.toNatClampNeg)) ((0 : Int32).toNatClampNeg) (f_X6_sortOf (s.1 1 8) s)) (fun s1 =>
 (f_X2_advance s1).bind (fun r3 =>
 if (r3.1 (445 + 1 * (x1.toNatClampNeg)) ((0 : Int32).toNatClampNeg)) = (12 : Int32) then ((f_X6_link (6 : Int32) x1 (0 : Int32) r3).bind (fun r4 =>
 k_X6_readEvent_46 x1 (445 + 1 * (x1.toNatClampNeg)) r4))
 else (k_X6_readEvent_46 x1 (445 + 1 * (x1.toNatClampNeg)) r3)))
else none
set_option maxRecDepth 4000 in
set_option maxHeartbeats 1000000 in
theorem C_X6_readEvent (x1 : Int32) (s : t_S) (r : t_S) (hr : f_X6_readEvent x1 s = some r) : t_C yX6_readEvent cX6_readEvent 3 none 254 [.ref 845, .int x1] s (fun v s' => v = none ∧ s' = r) := by
  refine t_C.imp (P := fun v s' => v = none ∧ (fun q => q = r) (s')) (t_C.of (by decide +kernel) (Nat.le_of_ble_eq_true rfl) ?_) (fun v s' hp => hp)
  intro D cy ad bs X
  have hk : t_hk (f_X6_readEvent x1 s) (fun q => q = r) := ⟨r, hr, rfl⟩
  show mj_G D cy ad bs X cX6_readEvent 3 yX6_readEvent.cls none yX6_readEvent.name 254 0 0 1065 (t_P (fun v s' => v = none ∧ (fun q => q = r) (s'))) 0 [(0, .ref 845), (1, .int x1)] [] (t_m s) 1065 0 0
  refine mj_aload_n dX6_readEvent_0 0 rfl ?_
  refine t_getR 428 dX6_readEvent_1 F_X6_48 qr_845_4 ?_
  refine t_getR 444 dX6_readEvent_4 F_X6_531 qr_428_17 ?_
  refine mj_iload_n dX6_readEvent_7 1 rfl ?_
  refine t_chkK hk (fun c0 hk => ?_)
  refine t_aaldI dX6_readEvent_8 qq_444 (t_ixv c0) ?_
  refine mj_astore_n 2 (lv2 := [(2, .ref (445 + 1 * (x1.toNatClampNeg))), (0, .ref 845), (1, .int x1)]) dX6_readEvent_9 rfl (by decide) rfl ?_
  refine mj_aload_n dX6_readEvent_10 0 rfl ?_
  refine mj_iconst (v := 0) dX6_readEvent_11 (by decide) ?_
  refine mj_aload_n dX6_readEvent_12 1 rfl ?_
  refine t_getR 1 dX6_readEvent_13 F_X6_28 qr_845_0 ?_
  refine t_getI dX6_readEvent_16 F_X6_85 qf_1_8 ?_
  refine t_callSiP dX6_readEvent_19 M_X6_sortOf (C_X6_sortOf _ _) ML_X6_534 SM_X6_sortOf (As := [.int (s.1 1 8)]) rfl rfl (Nat.le_of_ble_eq_true rfl) (Nat.le_of_ble_eq_true rfl) (Nat.le_of_ble_eq_true rfl) (Nat.le_of_ble_eq_true rfl) ?_
  refine t_iastK dX6_readEvent_22 (t_row445 (t_ixn c0)) (by unfold vp_in; decide) (fun s1 ws1 => t_letE hk ws1 (fun hk => ?_))
  refine mj_aload_n dX6_readEvent_23 1 rfl ?_
  refine t_getR 1 dX6_readEvent_24 F_X6_28 qr_845_0 ?_
  refine t_bndK hk (fun r3 er3 hk => ?_)
  refine t_callVvE dX6_readEvent_27 M_X2_advance (C_X2_advance _ _ er3) ML_X6_170 IM_X2_advance SE_X2_advance qc_1 rfl (As := []) rfl rfl (Nat.le_of_ble_eq_true rfl) (Nat.le_of_ble_eq_true rfl) (Nat.le_of_ble_eq_true rfl) (Nat.le_of_ble_eq_true rfl) ?_
  refine mj_aload_n dX6_readEvent_30 0 rfl ?_
  refine mj_iconst (v := 0) dX6_readEvent_31 (by decide) ?_
  refine t_iald dX6_readEvent_32 (t_row445 (t_ixn c0)) (by unfold vp_in; decide) ?_
  refine mj_bipush (v := 12) dX6_readEvent_33 (by decide) ?_
  refine mj_icmp_ne 46 dX6_readEvent_35 (by decide) (fun z => t_negK hk z (fun hk => ?_)) (fun z => t_posK hk z (fun hk => ?_))
  · refine mj_sublv [(0, .ref 845), (1, .int x1), (2, .ref (445 + 1 * (x1.toNatClampNeg)))] [1, 2, 0] rfl ?_
    exact B_X6_readEvent_46 _ _ _ _ hk
  · refine mj_aload_n dX6_readEvent_38 1 rfl ?_
    refine mj_bipush (v := 6) dX6_readEvent_39 (by decide) ?_
    refine mj_iload_n dX6_readEvent_41 2 rfl ?_
    refine mj_iconst (v := 0) dX6_readEvent_42 (by decide) ?_
    refine t_bndK hk (fun r4 er4 hk => ?_)
    refine t_callVvE dX6_readEvent_43 M_X6_link (C_X6_link _ _ _ _ _ er4) ML_X6_250 IM_X6_link SE_X6_link qc_845 rfl (As := [.int 6, .int x1, .int 0]) rfl rfl (Nat.le_of_ble_eq_true rfl) (Nat.le_of_ble_eq_true rfl) (Nat.le_of_ble_eq_true rfl) (Nat.le_of_ble_eq_true rfl) ?_
    refine mj_sublv [(0, .ref 845), (1, .int x1), (2, .ref (445 + 1 * (x1.toNatClampNeg)))] [1, 2, 0] rfl ?_
    exact B_X6_readEvent_46 _ _ _ _ hk

