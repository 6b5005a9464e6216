/-! Methods as functions, 25: X2_advance, X2_need, X5_addKind, X2_word, X5_hasOwn, X6_beginsBase, X6_beginsExp, X6_bindingOf, X6_bindingOfTop, X6_operationOf, X6_lower, X6_node -/
theorem qa_854 : t_oka 854 1 6004 = true := by decide +kernel
theorem qc_845 : t_okc 845 6 = true := by decide +kernel
theorem qf_845_10 : t_okf 845 6 10 0 = true := by decide +kernel
theorem qf_845_7 : t_okf 845 6 7 0 = true := by decide +kernel
theorem qr_845_3 : t_okr 845 6 3 334 = true := by decide +kernel
theorem qr_845_6 : t_okr 845 6 6 854 = true := by decide +kernel
theorem dX2_advance_0 : decode cX2_advance 0 = .ok (.aload_n 0, 1) := by decide +kernel
theorem dX2_advance_1 : decode cX2_advance 1 = .ok (.getfield 103, 3) := by decide +kernel
theorem dX2_advance_11 : decode cX2_advance 11 = .ok (.iconst 1, 1) := by decide +kernel
theorem dX2_advance_12 : decode cX2_advance 12 = .ok (.iadd, 1) := by decide +kernel
theorem dX2_advance_13 : decode cX2_advance 13 = .ok (.aload_n 0, 1) := by decide +kernel
theorem dX2_advance_14 : decode cX2_advance 14 = .ok (.getfield 86, 3) := by decide +kernel
theorem dX2_advance_17 : decode cX2_advance 17 = .ok (.if_icmp .lt 4, 3) := by decide +kernel
theorem dX2_advance_20 : decode cX2_advance 20 = .ok (.return_, 1) := by decide +kernel
theorem dX2_advance_21 : decode cX2_advance 21 = .ok (.aload_n 0, 1) := by decide +kernel
theorem dX2_advance_22 : decode cX2_advance 22 = .ok (.dup, 1) := by decide +kernel
theorem dX2_advance_23 : decode cX2_advance 23 = .ok (.getfield 109, 3) := by decide +kernel
theorem dX2_advance_26 : decode cX2_advance 26 = .ok (.iconst 1, 1) := by decide +kernel
theorem dX2_advance_27 : decode cX2_advance 27 = .ok (.iadd, 1) := by decide +kernel
theorem dX2_advance_28 : decode cX2_advance 28 = .ok (.putfield 109, 3) := by decide +kernel
theorem dX2_advance_31 : decode cX2_advance 31 = .ok (.aload_n 0, 1) := by decide +kernel
theorem dX2_advance_32 : decode cX2_advance 32 = .ok (.aload_n 0, 1) := by decide +kernel
theorem dX2_advance_33 : decode cX2_advance 33 = .ok (.getfield 15, 3) := by decide +kernel
theorem dX2_advance_36 : decode cX2_advance 36 = .ok (.aload_n 0, 1) := by decide +kernel
theorem dX2_advance_37 : decode cX2_advance 37 = .ok (.getfield 109, 3) := by decide +kernel
theorem dX2_advance_4 : decode cX2_advance 4 = .ok (.ifCond .ne 16, 3) := by decide +kernel
theorem dX2_advance_40 : decode cX2_advance 40 = .ok (.iaload, 1) := by decide +kernel
theorem dX2_advance_41 : decode cX2_advance 41 = .ok (.putfield 74, 3) := by decide +kernel
theorem dX2_advance_44 : decode cX2_advance 44 = .ok (.aload_n 0, 1) := by decide +kernel
theorem dX2_advance_45 : decode cX2_advance 45 = .ok (.aload_n 0, 1) := by decide +kernel
theorem dX2_advance_46 : decode cX2_advance 46 = .ok (.getfield 19, 3) := by decide +kernel
theorem dX2_advance_49 : decode cX2_advance 49 = .ok (.aload_n 0, 1) := by decide +kernel
theorem dX2_advance_50 : decode cX2_advance 50 = .ok (.getfield 109, 3) := by decide +kernel
theorem dX2_advance_53 : decode cX2_advance 53 = .ok (.iaload, 1) := by decide +kernel
theorem dX2_advance_54 : decode cX2_advance 54 = .ok (.putfield 112, 3) := by decide +kernel
theorem dX2_advance_57 : decode cX2_advance 57 = .ok (.aload_n 0, 1) := by decide +kernel
theorem dX2_advance_58 : decode cX2_advance 58 = .ok (.aload_n 0, 1) := by decide +kernel
theorem dX2_advance_59 : decode cX2_advance 59 = .ok (.getfield 22, 3) := by decide +kernel
theorem dX2_advance_62 : decode cX2_advance 62 = .ok (.aload_n 0, 1) := by decide +kernel
theorem dX2_advance_63 : decode cX2_advance 63 = .ok (.getfield 109, 3) := by decide +kernel
theorem dX2_advance_66 : decode cX2_advance 66 = .ok (.laload, 1) := by decide +kernel
theorem dX2_advance_67 : decode cX2_advance 67 = .ok (.putfield 95, 3) := by decide +kernel
theorem dX2_advance_7 : decode cX2_advance 7 = .ok (.aload_n 0, 1) := by decide +kernel
theorem dX2_advance_70 : decode cX2_advance 70 = .ok (.aload_n 0, 1) := by decide +kernel
theorem dX2_advance_71 : decode cX2_advance 71 = .ok (.getfield 74, 3) := by decide +kernel
theorem dX2_advance_74 : decode cX2_advance 74 = .ok (.iconst 5, 1) := by decide +kernel
theorem dX2_advance_75 : decode cX2_advance 75 = .ok (.if_icmp .ne 16, 3) := by decide +kernel
theorem dX2_advance_78 : decode cX2_advance 78 = .ok (.aload_n 0, 1) := by decide +kernel
theorem dX2_advance_79 : decode cX2_advance 79 = .ok (.iconst 1, 1) := by decide +kernel
theorem dX2_advance_8 : decode cX2_advance 8 = .ok (.getfield 109, 3) := by decide +kernel
theorem dX2_advance_80 : decode cX2_advance 80 = .ok (.putfield 103, 3) := by decide +kernel
theorem dX2_advance_83 : decode cX2_advance 83 = .ok (.aload_n 0, 1) := by decide +kernel
theorem dX2_advance_84 : decode cX2_advance 84 = .ok (.aload_n 0, 1) := by decide +kernel
theorem dX2_advance_85 : decode cX2_advance 85 = .ok (.getfield 112, 3) := by decide +kernel
theorem dX2_advance_88 : decode cX2_advance 88 = .ok (.putfield 106, 3) := by decide +kernel
theorem dX2_advance_91 : decode cX2_advance 91 = .ok (.return_, 1) := by decide +kernel
noncomputable def f_X2_advance (s : t_S) : Option (t_S) :=
 if (s.1 1 11) = (0 : Int32) then (if ((s.1 1 7) + (1 : Int32)) < (s.1 1 6) then (t_let (t_setI s 1 7 ((s.1 1 7) + (1 : Int32))) (fun s1 =>
 if t_ix (s1.1 1 7) 12001 = true then
  t_let (t_setI s1 1 8 (s1.1 3 ((s1.1 1 7).toNatClampNeg))) (fun s2 =>
 if t_ix (s2.1 1 7) 12001 = true then
  t_let (t_setI s2 1 9 (s2.1 4 ((s2.1 1 7).toNatClampNeg))) (fun s3 =>
 if t_ix (s3.1 1 7) 12001 = true then
  t_let (t_setJ s3 1 10 (s3.2.1 5 ((s3.1 1 7).toNatClampNeg))) (fun s4 =>
 if (s4.1 1 8) = (5 : Int32) then (t_let (t_setI s4 1 11 (1 : Int32)) (fun s5 =>
 t_let (t_setI s5 1 12 (s5.1 1 9)) (fun s6 =>
 some (s6))))
 else (some (s4)))
else none)
else none)
else none))
 else (some (s)))
 else (some (s))
set_option maxRecDepth 4000 in
set_option maxHeartbeats 1000000 in
theorem C_X2_advance (s : t_S) (r : t_S) (hr : f_X2_advance s = some r) : t_C yX2_advance cX2_advance 1 none 0 [.ref 1] s (fun v s' => v = none ∧ s' = r) := by
  refine t_C.imp (P := fun v s' => v = none ∧ (fun q => q = r) (s')) (t_C.of (by decide +kernel) (Nat.le_of_ble_eq_true rfl) ?_) (fun v s' hp => hp)
  intro D cy ad bs X
  have hk : t_hk (f_X2_advance s) (fun q => q = r) := ⟨r, hr, rfl⟩
  show mj_G D cy ad bs X cX2_advance 1 yX2_advance.cls none yX2_advance.name 0 0 0 1065 (t_P (fun v s' => v = none ∧ (fun q => q = r) (s'))) 0 [(0, .ref 1)] [] (t_m s) 1065 0 0
  refine mj_aload_n dX2_advance_0 0 rfl ?_
  refine t_getI dX2_advance_1 F_X2_103 qf_1_11 ?_
  refine mj_if_ne 20 dX2_advance_4 (by decide) (fun z => t_negK hk z (fun hk => ?_)) (fun z => t_posK hk z (fun hk => ?_))
  · exact t_somK hk (fun hf => t_vret dX2_advance_20 rfl ⟨rfl, hf⟩ (Nat.le_of_ble_eq_true rfl) (Nat.le_of_ble_eq_true rfl))
  · refine mj_aload_n dX2_advance_7 0 rfl ?_
    refine t_getI dX2_advance_8 F_X2_109 qf_1_7 ?_
    refine mj_iconst (v := 1) dX2_advance_11 (by decide) ?_
    refine mj_iadd dX2_advance_12 ?_
    refine mj_aload_n dX2_advance_13 0 rfl ?_
    refine t_getI dX2_advance_14 F_X2_86 qf_1_6 ?_
    refine mj_icmp_lt 21 dX2_advance_17 (by decide) (fun z => t_posK hk z (fun hk => ?_)) (fun z => t_negK hk z (fun hk => ?_))
    · refine mj_aload_n dX2_advance_21 0 rfl ?_
      refine mj_dup dX2_advance_22 rfl ?_
      refine t_getI dX2_advance_23 F_X2_109 qf_1_7 ?_
      refine mj_iconst (v := 1) dX2_advance_26 (by decide) ?_
      refine mj_iadd dX2_advance_27 ?_
      refine t_putIK dX2_advance_28 F_X2_109 qf_1_7 rfl (fun s1 ws1 => t_letE hk ws1 (fun hk => ?_))
      refine mj_aload_n dX2_advance_31 0 rfl ?_
      refine mj_aload_n dX2_advance_32 0 rfl ?_
      refine t_getR 3 dX2_advance_33 F_X2_15 qr_1_3 ?_
      refine mj_aload_n dX2_advance_36 0 rfl ?_
      refine t_getI dX2_advance_37 F_X2_109 qf_1_7 ?_
      refine t_chkK hk (fun c0 hk => ?_)
      refine t_iald dX2_advance_40 qa_3 (t_ixv c0) ?_
      refine t_putIK dX2_advance_41 F_X2_74 qf_1_8 rfl (fun s2 ws2 => t_letE hk ws2 (fun hk => ?_))
      refine mj_aload_n dX2_advance_44 0 rfl ?_
      refine mj_aload_n dX2_advance_45 0 rfl ?_
      refine t_getR 4 dX2_advance_46 F_X2_19 qr_1_4 ?_
      refine mj_aload_n dX2_advance_49 0 rfl ?_
      refine t_getI dX2_advance_50 F_X2_109 qf_1_7 ?_
      refine t_chkK hk (fun c1 hk => ?_)
      refine t_iald dX2_advance_53 qa_4 (t_ixv c1) ?_
      refine t_putIK dX2_advance_54 F_X2_112 qf_1_9 rfl (fun s3 ws3 => t_letE hk ws3 (fun hk => ?_))
      refine mj_aload_n dX2_advance_57 0 rfl ?_
      refine mj_aload_n dX2_advance_58 0 rfl ?_
      refine t_getR 5 dX2_advance_59 F_X2_22 qr_1_5 ?_
      refine mj_aload_n dX2_advance_62 0 rfl ?_
      refine t_getI dX2_advance_63 F_X2_109 qf_1_7 ?_
      refine t_chkK hk (fun c2 hk => ?_)
      refine t_lald dX2_advance_66 qa_5 (t_ixv c2) ?_
      refine t_putJK dX2_advance_67 F_X2_95 qf_1_10 rfl (fun s4 ws4 => t_letE hk ws4 (fun hk => ?_))
      refine mj_aload_n dX2_advance_70 0 rfl ?_
      refine t_getI dX2_advance_71 F_X2_74 qf_1_8 ?_
      refine mj_iconst (v := 5) dX2_advance_74 (by decide) ?_
      refine mj_icmp_ne 91 dX2_advance_75 (by decide) (fun z => t_negK hk z (fun hk => ?_)) (fun z => t_posK hk z (fun hk => ?_))
      · exact t_somK hk (fun hf => t_vret dX2_advance_91 rfl ⟨rfl, hf⟩ (Nat.le_of_ble_eq_true rfl) (Nat.le_of_ble_eq_true rfl))
      · refine mj_aload_n dX2_advance_78 0 rfl ?_
        refine mj_iconst (v := 1) dX2_advance_79 (by decide) ?_
        refine t_putIK dX2_advance_80 F_X2_103 qf_1_11 rfl (fun s5 ws5 => t_letE hk ws5 (fun hk => ?_))
        refine mj_aload_n dX2_advance_83 0 rfl ?_
        refine mj_aload_n dX2_advance_84 0 rfl ?_
        refine t_getI dX2_advance_85 F_X2_112 qf_1_9 ?_
        refine t_putIK dX2_advance_88 F_X2_106 qf_1_12 rfl (fun s6 ws6 => t_letE hk ws6 (fun hk => ?_))
        exact t_somK hk (fun hf => t_vret dX2_advance_91 rfl ⟨rfl, hf⟩ (Nat.le_of_ble_eq_true rfl) (Nat.le_of_ble_eq_true rfl))
    · exact t_somK hk (fun hf => t_vret dX2_advance_20 rfl ⟨rfl, hf⟩ (Nat.le_of_ble_eq_true rfl) (Nat.le_of_ble_eq_true rfl))

theorem dX2_need_0 : decode cX2_need 0 = .ok (.aload_n 0, 1) := by decide +kernel
theorem dX2_need_1 : decode cX2_need 1 = .ok (.getfield 74, 3) := by decide +kernel
theorem dX2_need_12 : decode cX2_need 12 = .ok (.goto 8, 3) := by decide +kernel
theorem dX2_need_15 : decode cX2_need 15 = .ok (.aload_n 0, 1) := by decide +kernel
theorem dX2_need_16 : decode cX2_need 16 = .ok (.iconst 2, 1) := by decide +kernel
theorem dX2_need_17 : decode cX2_need 17 = .ok (.invokevirtual 115, 3) := by decide +kernel
theorem dX2_need_20 : decode cX2_need 20 = .ok (.return_, 1) := by decide +kernel
theorem dX2_need_4 : decode cX2_need 4 = .ok (.iload_n 1, 1) := by decide +kernel
theorem dX2_need_5 : decode cX2_need 5 = .ok (.if_icmp .ne 10, 3) := by decide +kernel
theorem dX2_need_8 : decode cX2_need 8 = .ok (.aload_n 0, 1) := by decide +kernel
theorem dX2_need_9 : decode cX2_need 9 = .ok (.invokevirtual 80, 3) := by decide +kernel
noncomputable def f_X2_need (x1 : Int32) (s : t_S) : Option (t_S) :=
 if (s.1 1 8) = x1 then ((f_X2_advance s).bind (fun r2 =>
 some (r2)))
 else ((f_X2_fail (2 : Int32) s).bind (fun r1 =>
 some (r1)))
set_option maxRecDepth 4000 in
set_option maxHeartbeats 1000000 in
theorem C_X2_need (x1 : Int32) (s : t_S) (r : t_S) (hr : f_X2_need x1 s = some r) : t_C yX2_need cX2_need 2 none 1 [.ref 1, .int x1] s (fun v s' => v = none ∧ s' = r) := by
  refine t_C.imp (P := fun v s' => v = none ∧ (fun q => q = r) (s')) (t_C.of (by decide +kernel) (Nat.le_of_ble_eq_true rfl) ?_) (fun v s' hp => hp)
  intro D cy ad bs X
  have hk : t_hk (f_X2_need x1 s) (fun q => q = r) := ⟨r, hr, rfl⟩
  show mj_G D cy ad bs X cX2_need 2 yX2_need.cls none yX2_need.name 1 0 0 1065 (t_P (fun v s' => v = none ∧ (fun q => q = r) (s'))) 0 [(0, .ref 1), (1, .int x1)] [] (t_m s) 1065 0 0
  refine mj_aload_n dX2_need_0 0 rfl ?_
  refine t_getI dX2_need_1 F_X2_74 qf_1_8 ?_
  refine mj_iload_n dX2_need_4 1 rfl ?_
  refine mj_icmp_ne 15 dX2_need_5 (by decide) (fun z => t_negK hk z (fun hk => ?_)) (fun z => t_posK hk z (fun hk => ?_))
  · refine mj_aload_n dX2_need_15 0 rfl ?_
    refine mj_iconst (v := 2) dX2_need_16 (by decide) ?_
    refine t_bndK hk (fun r1 er1 hk => ?_)
    refine t_callVvE dX2_need_17 M_X2_fail (C_X2_fail _ _ _ er1) ML_X2_115 IM_X2_fail SE_X2_fail qc_1 rfl (As := [.int 2]) rfl rfl (Nat.le_of_ble_eq_true rfl) (Nat.le_of_ble_eq_true rfl) (Nat.le_of_ble_eq_true rfl) (Nat.le_of_ble_eq_true rfl) ?_
    exact t_somK hk (fun hf => t_vret dX2_need_20 rfl ⟨rfl, hf⟩ (Nat.le_of_ble_eq_true rfl) (Nat.le_of_ble_eq_true rfl))
  · refine mj_aload_n dX2_need_8 0 rfl ?_
    refine t_bndK hk (fun r2 er2 hk => ?_)
    refine t_callVvE dX2_need_9 M_X2_advance (C_X2_advance _ _ er2) ML_X2_80 IM_X2_advance SE_X2_advance qc_1 rfl (As := []) rfl rfl (Nat.le_of_ble_eq_true rfl) (Nat.le_of_ble_eq_true rfl) (Nat.le_of_ble_eq_true rfl) (Nat.le_of_ble_eq_true rfl) ?_
    refine mj_goto 20 dX2_need_12 (by decide) ?_
    exact t_somK hk (fun hf => t_vret dX2_need_20 rfl ⟨rfl, hf⟩ (Nat.le_of_ble_eq_true rfl) (Nat.le_of_ble_eq_true rfl))

theorem dX5_addKind_0 : decode cX5_addKind 0 = .ok (.aload_n 0, 1) := by decide +kernel
theorem dX5_addKind_1 : decode cX5_addKind 1 = .ok (.iload_n 1, 1) := by decide +kernel
theorem dX5_addKind_11 : decode cX5_addKind 11 = .ok (.iload_n 1, 1) := by decide +kernel
theorem dX5_addKind_12 : decode cX5_addKind 12 = .ok (.iconst 0, 1) := by decide +kernel
theorem dX5_addKind_13 : decode cX5_addKind 13 = .ok (.iastore, 1) := by decide +kernel
theorem dX5_addKind_14 : decode cX5_addKind 14 = .ok (.aload_n 0, 1) := by decide +kernel
theorem dX5_addKind_15 : decode cX5_addKind 15 = .ok (.getfield 16, 3) := by decide +kernel
theorem dX5_addKind_18 : decode cX5_addKind 18 = .ok (.iload_n 1, 1) := by decide +kernel
theorem dX5_addKind_19 : decode cX5_addKind 19 = .ok (.iconst 0, 1) := by decide +kernel
theorem dX5_addKind_2 : decode cX5_addKind 2 = .ok (.iconst 1, 1) := by decide +kernel
theorem dX5_addKind_20 : decode cX5_addKind 20 = .ok (.iastore, 1) := by decide +kernel
theorem dX5_addKind_21 : decode cX5_addKind 21 = .ok (.aload_n 0, 1) := by decide +kernel
theorem dX5_addKind_22 : decode cX5_addKind 22 = .ok (.getfield 22, 3) := by decide +kernel
theorem dX5_addKind_25 : decode cX5_addKind 25 = .ok (.iload_n 1, 1) := by decide +kernel
theorem dX5_addKind_26 : decode cX5_addKind 26 = .ok (.iconst 0, 1) := by decide +kernel
theorem dX5_addKind_27 : decode cX5_addKind 27 = .ok (.iastore, 1) := by decide +kernel
theorem dX5_addKind_28 : decode cX5_addKind 28 = .ok (.return_, 1) := by decide +kernel
theorem dX5_addKind_3 : decode cX5_addKind 3 = .ok (.iadd, 1) := by decide +kernel
theorem dX5_addKind_4 : decode cX5_addKind 4 = .ok (.putfield 60, 3) := by decide +kernel
theorem dX5_addKind_7 : decode cX5_addKind 7 = .ok (.aload_n 0, 1) := by decide +kernel
theorem dX5_addKind_8 : decode cX5_addKind 8 = .ok (.getfield 9, 3) := by decide +kernel
noncomputable def f_X5_addKind (x1 : Int32) (s : t_S) : Option (t_S) :=
 t_let (t_setI s 428 0 (x1 + (1 : Int32))) (fun s1 =>
 if t_ix x1 8 = true then
  t_let (t_setI s1 429 (x1.toNatClampNeg) (0 : Int32)) (fun s2 =>
 t_let (t_setI s2 431 (x1.toNatClampNeg) (0 : Int32)) (fun s3 =>
 t_let (t_setI s3 433 (x1.toNatClampNeg) (0 : Int32)) (fun s4 =>
 some (s4))))
else none)
set_option maxRecDepth 4000 in
set_option maxHeartbeats 1000000 in
theorem C_X5_addKind (x1 : Int32) (s : t_S) (r : t_S) (hr : f_X5_addKind x1 s = some r) : t_C yX5_addKind cX5_addKind 2 none 0 [.ref 428, .int x1] s (fun v s' => v = none ∧ s' = r) := by
  refine t_C.imp (P := fun v s' => v = none ∧ (fun q => q = r) (s')) (t_C.of (by decide +kernel) (Nat.le_of_ble_eq_true rfl) ?_) (fun v s' hp => hp)
  intro D cy ad bs X
  have hk : t_hk (f_X5_addKind x1 s) (fun q => q = r) := ⟨r, hr, rfl⟩
  show mj_G D cy ad bs X cX5_addKind 2 yX5_addKind.cls none yX5_addKind.name 0 0 0 1065 (t_P (fun v s' => v = none ∧ (fun q => q = r) (s'))) 0 [(0, .ref 428), (1, .int x1)] [] (t_m s) 1065 0 0
  refine mj_aload_n dX5_addKind_0 0 rfl ?_
  refine mj_iload_n dX5_addKind_1 1 rfl ?_
  refine mj_iconst (v := 1) dX5_addKind_2 (by decide) ?_
  refine mj_iadd dX5_addKind_3 ?_
  refine t_putIK dX5_addKind_4 F_X5_60 qf_428_0 rfl (fun s1 ws1 => t_letE hk ws1 (fun hk => ?_))
  refine mj_aload_n dX5_addKind_7 0 rfl ?_
  refine t_getR 429 dX5_addKind_8 F_X5_9 qr_428_1 ?_
  refine mj_iload_n dX5_addKind_11 1 rfl ?_
  refine mj_iconst (v := 0) dX5_addKind_12 (by decide) ?_
  refine t_chkK hk (fun c0 hk => ?_)
  refine t_iastK dX5_addKind_13 qa_429 (t_ixv c0) (fun s2 ws2 => t_letE hk ws2 (fun hk => ?_))
  refine mj_aload_n dX5_addKind_14 0 rfl ?_
  refine t_getR 431 dX5_addKind_15 F_X5_16 qr_428_3 ?_
  refine mj_iload_n dX5_addKind_18 1 rfl ?_
  refine mj_iconst (v := 0) dX5_addKind_19 (by decide) ?_
  refine t_iastK dX5_addKind_20 qa_431 (t_ixv c0) (fun s3 ws3 => t_letE hk ws3 (fun hk => ?_))
  refine mj_aload_n dX5_addKind_21 0 rfl ?_
  refine t_getR 433 dX5_addKind_22 F_X5_22 qr_428_5 ?_
  refine mj_iload_n dX5_addKind_25 1 rfl ?_
  refine mj_iconst (v := 0) dX5_addKind_26 (by decide) ?_
  refine t_iastK dX5_addKind_27 qa_433 (t_ixv c0) (fun s4 ws4 => t_letE hk ws4 (fun hk => ?_))
  exact t_somK hk (fun hf => t_vret dX5_addKind_28 rfl ⟨rfl, hf⟩ (Nat.le_of_ble_eq_true rfl) (Nat.le_of_ble_eq_true rfl))

theorem dX2_word_0 : decode cX2_word 0 = .ok (.aload_n 0, 1) := by decide +kernel
theorem dX2_word_1 : decode cX2_word 1 = .ok (.getfield 95, 3) := by decide +kernel
theorem dX2_word_4 : decode cX2_word 4 = .ok (.l2i, 1) := by decide +kernel
theorem dX2_word_5 : decode cX2_word 5 = .ok (.ireturn, 1) := by decide +kernel
noncomputable def f_X2_word (s : t_S) : Int32 :=
 ((s.2.1 1 10).toInt32)
set_option maxRecDepth 4000 in
set_option maxHeartbeats 1000000 in
theorem C_X2_word (s : t_S) : t_C yX2_word cX2_word 1 (some .int) 0 [.ref 1] s (fun v s' => v = some (.int (f_X2_word s)) ∧ s' = s) := by
  refine t_C.imp (P := fun v s' => s' = s ∧ ∃ x, v = some (.int x) ∧ (fun r => r = f_X2_word s) (x)) (t_C.of (by decide +kernel) (Nat.le_of_ble_eq_true rfl) ?_) (fun v s' hp => by obtain ⟨rfl, x, rfl, rfl⟩ := hp; exact ⟨rfl, rfl⟩)
  intro D cy ad bs X
  have hk : t_ht (f_X2_word s) (fun r => r = f_X2_word s) := rfl
  show mj_G D cy ad bs X cX2_word 1 yX2_word.cls (some .int) yX2_word.name 0 0 0 1065 (t_P (fun v s' => s' = s ∧ ∃ x, v = some (.int x) ∧ (fun r => r = f_X2_word s) (x))) 0 [(0, .ref 1)] [] (t_m s) 1065 0 0
  refine mj_aload_n dX2_word_0 0 rfl ?_
  refine t_getJ dX2_word_1 F_X2_95 qf_1_10 ?_
  refine mj_l2i (v := (s.2.1 1 10).toInt32) dX2_word_4 rfl ?_
  exact t_iret dX2_word_5 rfl rfl ⟨rfl, _, rfl, hk⟩ (Nat.le_of_ble_eq_true rfl) (Nat.le_of_ble_eq_true rfl)

theorem dX5_hasOwn_0 : decode cX5_hasOwn 0 = .ok (.iload_n 1, 1) := by decide +kernel
theorem dX5_hasOwn_1 : decode cX5_hasOwn 1 = .ok (.ifCond .lt 69, 3) := by decide +kernel
theorem dX5_hasOwn_11 : decode cX5_hasOwn 11 = .ok (.imul, 1) := by decide +kernel
theorem dX5_hasOwn_12 : decode cX5_hasOwn 12 = .ok (.aload_n 0, 1) := by decide +kernel
theorem dX5_hasOwn_13 : decode cX5_hasOwn 13 = .ok (.getfield 9, 3) := by decide +kernel
theorem dX5_hasOwn_16 : decode cX5_hasOwn 16 = .ok (.iload_n 1, 1) := by decide +kernel
theorem dX5_hasOwn_17 : decode cX5_hasOwn 17 = .ok (.iaload, 1) := by decide +kernel
theorem dX5_hasOwn_18 : decode cX5_hasOwn 18 = .ok (.iload_n 2, 1) := by decide +kernel
theorem dX5_hasOwn_19 : decode cX5_hasOwn 19 = .ok (.invokestatic 76, 3) := by decide +kernel
theorem dX5_hasOwn_22 : decode cX5_hasOwn 22 = .ok (.ifCond .ge 44, 3) := by decide +kernel
theorem dX5_hasOwn_25 : decode cX5_hasOwn 25 = .ok (.aload_n 0, 1) := by decide +kernel
theorem dX5_hasOwn_26 : decode cX5_hasOwn 26 = .ok (.getfield 19, 3) := by decide +kernel
theorem dX5_hasOwn_29 : decode cX5_hasOwn 29 = .ok (.iload_n 1, 1) := by decide +kernel
theorem dX5_hasOwn_30 : decode cX5_hasOwn 30 = .ok (.iconst 4, 1) := by decide +kernel
theorem dX5_hasOwn_31 : decode cX5_hasOwn 31 = .ok (.imul, 1) := by decide +kernel
theorem dX5_hasOwn_32 : decode cX5_hasOwn 32 = .ok (.aload_n 0, 1) := by decide +kernel
theorem dX5_hasOwn_33 : decode cX5_hasOwn 33 = .ok (.getfield 16, 3) := by decide +kernel
theorem dX5_hasOwn_36 : decode cX5_hasOwn 36 = .ok (.iload_n 1, 1) := by decide +kernel
theorem dX5_hasOwn_37 : decode cX5_hasOwn 37 = .ok (.iaload, 1) := by decide +kernel
theorem dX5_hasOwn_38 : decode cX5_hasOwn 38 = .ok (.iload_n 2, 1) := by decide +kernel
theorem dX5_hasOwn_39 : decode cX5_hasOwn 39 = .ok (.invokestatic 76, 3) := by decide +kernel
theorem dX5_hasOwn_4 : decode cX5_hasOwn 4 = .ok (.aload_n 0, 1) := by decide +kernel
theorem dX5_hasOwn_42 : decode cX5_hasOwn 42 = .ok (.ifCond .ge 24, 3) := by decide +kernel
theorem dX5_hasOwn_45 : decode cX5_hasOwn 45 = .ok (.aload_n 0, 1) := by decide +kernel
theorem dX5_hasOwn_46 : decode cX5_hasOwn 46 = .ok (.getfield 25, 3) := by decide +kernel
theorem dX5_hasOwn_49 : decode cX5_hasOwn 49 = .ok (.iload_n 1, 1) := by decide +kernel
theorem dX5_hasOwn_5 : decode cX5_hasOwn 5 = .ok (.getfield 13, 3) := by decide +kernel
theorem dX5_hasOwn_50 : decode cX5_hasOwn 50 = .ok (.bipush 8, 2) := by decide +kernel
theorem dX5_hasOwn_52 : decode cX5_hasOwn 52 = .ok (.imul, 1) := by decide +kernel
theorem dX5_hasOwn_53 : decode cX5_hasOwn 53 = .ok (.aload_n 0, 1) := by decide +kernel
theorem dX5_hasOwn_54 : decode cX5_hasOwn 54 = .ok (.getfield 22, 3) := by decide +kernel
theorem dX5_hasOwn_57 : decode cX5_hasOwn 57 = .ok (.iload_n 1, 1) := by decide +kernel
theorem dX5_hasOwn_58 : decode cX5_hasOwn 58 = .ok (.iaload, 1) := by decide +kernel
theorem dX5_hasOwn_59 : decode cX5_hasOwn 59 = .ok (.iload_n 2, 1) := by decide +kernel
theorem dX5_hasOwn_60 : decode cX5_hasOwn 60 = .ok (.invokestatic 76, 3) := by decide +kernel
theorem dX5_hasOwn_63 : decode cX5_hasOwn 63 = .ok (.ifCond .lt 7, 3) := by decide +kernel
theorem dX5_hasOwn_66 : decode cX5_hasOwn 66 = .ok (.iconst 1, 1) := by decide +kernel
theorem dX5_hasOwn_67 : decode cX5_hasOwn 67 = .ok (.goto 4, 3) := by decide +kernel
theorem dX5_hasOwn_70 : decode cX5_hasOwn 70 = .ok (.iconst 0, 1) := by decide +kernel
theorem dX5_hasOwn_71 : decode cX5_hasOwn 71 = .ok (.ireturn, 1) := by decide +kernel
theorem dX5_hasOwn_8 : decode cX5_hasOwn 8 = .ok (.iload_n 1, 1) := by decide +kernel
theorem dX5_hasOwn_9 : decode cX5_hasOwn 9 = .ok (.bipush 6, 2) := by decide +kernel
noncomputable def k_X5_hasOwn_66 (s : t_S) : Option (Int32) :=
 some (1 : Int32)
set_option maxRecDepth 4000 in
set_option maxHeartbeats 1000000 in
theorem B_X5_hasOwn_66 {D : va_G} {cy : Nat → ClassId} {ad : Nat → Nat} {bs : Nat} {X : State → Heap → Prop} (s : t_S) (Q : Int32 → Prop) (hk : t_hk (k_X5_hasOwn_66 s) Q) : mj_G D cy ad bs X cX5_hasOwn 3 yX5_hasOwn.cls (some .boolean) yX5_hasOwn.name 1 0 0 1065 (t_P (fun v s' => s' = s ∧ ∃ x, v = some (.int x) ∧ Q (x))) 66 [] [] (t_m s) 1065 0 0 := by
  refine mj_iconst (v := 1) dX5_hasOwn_66 (by decide) ?_
  refine mj_goto 71 dX5_hasOwn_67 (by decide) ?_
  exact t_somK hk (fun hf => t_iret dX5_hasOwn_71 rfl (by decide) ⟨rfl, _, rfl, hf⟩ (Nat.le_of_ble_eq_true rfl) (Nat.le_of_ble_eq_true rfl))
noncomputable def f_X5_hasOwn (x1 : Int32) (x2 : Int32) (s : t_S) : Option (Int32) :=
 if x1 < (0 : Int32) then (some (0 : Int32))
 else (if t_ix x1 8 = true then
  (f_X5_find 430 (x1 * (6 : Int32)) (s.1 429 (x1.toNatClampNeg)) x2 s).bind (fun r2 =>
 if (0 : Int32) ≤ r2 then (k_X5_hasOwn_66 s)
 else ((f_X5_find 432 (x1 * (4 : Int32)) (s.1 431 (x1.toNatClampNeg)) x2 s).bind (fun r3 =>
 if (0 : Int32) ≤ r3 then (k_X5_hasOwn_66 s)
 else ((f_X5_find 434 (x1 * (8 : Int32)) (s.1 433 (x1.toNatClampNeg)) x2 s).bind (fun r4 =>
 if r4 < (0 : Int32) then (some (0 : Int32))
 else (k_X5_hasOwn_66 s))))))
else none)
set_option maxRecDepth 4000 in
set_option maxHeartbeats 1000000 in
theorem C_X5_hasOwn (x1 : Int32) (x2 : Int32) (s : t_S) (r : Int32) (hr : f_X5_hasOwn x1 x2 s = some r) : t_C yX5_hasOwn cX5_hasOwn 3 (some .boolean) 1 [.ref 428, .int x1, .int x2] s (fun v s' => v = some (.int r) ∧ s' = s) := by
  refine t_C.imp (P := fun v s' => s' = s ∧ ∃ x, v = some (.int x) ∧ (fun q => q = r) (x)) (t_C.of (by decide +kernel) (Nat.le_of_ble_eq_true rfl) ?_) (fun v s' hp => by obtain ⟨rfl, x, rfl, rfl⟩ := hp; exact ⟨rfl, rfl⟩)
  intro D cy ad bs X
  have hk : t_hk (f_X5_hasOwn x1 x2 s) (fun q => q = r) := ⟨r, hr, rfl⟩
  show mj_G D cy ad bs X cX5_hasOwn 3 yX5_hasOwn.cls (some .boolean) yX5_hasOwn.name 1 0 0 1065 (t_P (fun v s' => s' = s ∧ ∃ x, v = some (.int x) ∧ (fun q => q = r) (x))) 0 [(0, .ref 428), (1, .int x1), (2, .int x2)] [] (t_m s) 1065 0 0
  refine mj_iload_n dX5_hasOwn_0 1 rfl ?_
  refine mj_if_lt 70 dX5_hasOwn_1 (by decide) (fun z => t_posK hk z (fun hk => ?_)) (fun z => t_negK hk z (fun hk => ?_))
  · refine mj_iconst (v := 0) dX5_hasOwn_70 (by decide) ?_
    exact t_somK hk (fun hf => t_iret dX5_hasOwn_71 rfl (by decide) ⟨rfl, _, rfl, hf⟩ (Nat.le_of_ble_eq_true rfl) (Nat.le_of_ble_eq_true rfl))
  · refine mj_aload_n dX5_hasOwn_4 0 rfl ?_
    refine t_getR 430 dX5_hasOwn_5 F_X5_13 qr_428_2 ?_
    refine mj_iload_n dX5_hasOwn_8 1 rfl ?_
    refine mj_bipush (v := 6) dX5_hasOwn_9 (by decide) ?_
    refine mj_imul dX5_hasOwn_11 ?_
    refine mj_aload_n dX5_hasOwn_12 0 rfl ?_
    refine t_getR 429 dX5_hasOwn_13 F_X5_9 qr_428_1 ?_
    refine mj_iload_n dX5_hasOwn_16 1 rfl ?_
    refine t_chkK hk (fun c0 hk => ?_)
    refine t_iald dX5_hasOwn_17 qa_429 (t_ixv c0) ?_
    refine mj_iload_n dX5_hasOwn_18 2 rfl ?_
    refine t_bndK hk (fun r2 er2 hk => ?_)
    refine t_callSiP dX5_hasOwn_19 M_X5_find (C_X5_find _ _ _ _ _ _ er2) ML_X5_76 SM_X5_find (As := [.ref 430, .int (x1 * (6 : Int32)), .int (s.1 429 (x1.toNatClampNeg)), .int x2]) rfl rfl (Nat.le_of_ble_eq_true rfl) (Nat.le_of_ble_eq_true rfl) (Nat.le_of_ble_eq_true rfl) (Nat.le_of_ble_eq_true rfl) ?_
    refine mj_if_ge 66 dX5_hasOwn_22 (by decide) (fun z => t_posK hk z (fun hk => ?_)) (fun z => t_negK hk z (fun hk => ?_))
    · refine mj_sublv [] [] rfl ?_
      exact B_X5_hasOwn_66 _ _ hk
    · refine mj_aload_n dX5_hasOwn_25 0 rfl ?_
      refine t_getR 432 dX5_hasOwn_26 F_X5_19 qr_428_4 ?_
      refine mj_iload_n dX5_hasOwn_29 1 rfl ?_
      refine mj_iconst (v := 4) dX5_hasOwn_30 (by decide) ?_
      refine mj_imul dX5_hasOwn_31 ?_
      refine mj_aload_n dX5_hasOwn_32 0 rfl ?_
      refine t_getR 431 dX5_hasOwn_33 F_X5_16 qr_428_3 ?_
      refine mj_iload_n dX5_hasOwn_36 1 rfl ?_
      refine t_iald dX5_hasOwn_37 qa_431 (t_ixv c0) ?_
      refine mj_iload_n dX5_hasOwn_38 2 rfl ?_
      refine t_bndK hk (fun r3 er3 hk => ?_)
      refine t_callSiP dX5_hasOwn_39 M_X5_find (C_X5_find _ _ _ _ _ _ er3) ML_X5_76 SM_X5_find (As := [.ref 432, .int (x1 * (4 : Int32)), .int (s.1 431 (x1.toNatClampNeg)), .int x2]) rfl rfl (Nat.le_of_ble_eq_true rfl) (Nat.le_of_ble_eq_true rfl) (Nat.le_of_ble_eq_true rfl) (Nat.le_of_ble_eq_true rfl) ?_
      refine mj_if_ge 66 dX5_hasOwn_42 (by decide) (fun z => t_posK hk z (fun hk => ?_)) (fun z => t_negK hk z (fun hk => ?_))
      · refine mj_sublv [] [] rfl ?_
        exact B_X5_hasOwn_66 _ _ hk
      · refine mj_aload_n dX5_hasOwn_45 0 rfl ?_
        refine t_getR 434 dX5_hasOwn_46 F_X5_25 qr_428_6 ?_
        refine mj_iload_n dX5_hasOwn_49 1 rfl ?_
        refine mj_bipush (v := 8) dX5_hasOwn_50 (by decide) ?_
        refine mj_imul dX5_hasOwn_52 ?_
        refine mj_aload_n dX5_hasOwn_53 0 rfl ?_
        refine t_getR 433 dX5_hasOwn_54 F_X5_22 qr_428_5 ?_
        refine mj_iload_n dX5_hasOwn_57 1 rfl ?_
        refine t_iald dX5_hasOwn_58 qa_433 (t_ixv c0) ?_
        refine mj_iload_n dX5_hasOwn_59 2 rfl ?_
        refine t_bndK hk (fun r4 er4 hk => ?_)
        refine t_callSiP dX5_hasOwn_60 M_X5_find (C_X5_find _ _ _ _ _ _ er4) ML_X5_76 SM_X5_find (As := [.ref 434, .int (x1 * (8 : Int32)), .int (s.1 433 (x1.toNatClampNeg)), .int x2]) rfl rfl (Nat.le_of_ble_eq_true rfl) (Nat.le_of_ble_eq_true rfl) (Nat.le_of_ble_eq_true rfl) (Nat.le_of_ble_eq_true rfl) ?_
        refine mj_if_lt 70 dX5_hasOwn_63 (by decide) (fun z => t_posK hk z (fun hk => ?_)) (fun z => t_negK hk z (fun hk => ?_))
        · refine mj_iconst (v := 0) dX5_hasOwn_70 (by decide) ?_
          exact t_somK hk (fun hf => t_iret dX5_hasOwn_71 rfl (by decide) ⟨rfl, _, rfl, hf⟩ (Nat.le_of_ble_eq_true rfl) (Nat.le_of_ble_eq_true rfl))
        · refine mj_sublv [] [] rfl ?_
          exact B_X5_hasOwn_66 _ _ hk

theorem dX6_beginsBase_0 : decode cX6_beginsBase 0 = .ok (.iload_n 0, 1) := by decide +kernel
theorem dX6_beginsBase_1 : decode cX6_beginsBase 1 = .ok (.lookupswitch 133 #[(1, 131), (2, 131), (3, 131), (40, 131), (91, 131), (123, 131), (221, 131), (222, 131), (223, 131), (231, 131), (232, 131), (233, 131), (234, 131), (235, 131), (236, 131)], 131) := by decide +kernel
theorem dX6_beginsBase_132 : decode cX6_beginsBase 132 = .ok (.iconst 1, 1) := by decide +kernel
theorem dX6_beginsBase_133 : decode cX6_beginsBase 133 = .ok (.ireturn, 1) := by decide +kernel
theorem dX6_beginsBase_134 : decode cX6_beginsBase 134 = .ok (.iconst 0, 1) := by decide +kernel
theorem dX6_beginsBase_135 : decode cX6_beginsBase 135 = .ok (.ireturn, 1) := by decide +kernel
noncomputable def f_X6_beginsBase (x1 : Int32) (s : t_S) : Int32 :=
 if x1.toInt = 1 then ((1 : Int32))
 else if x1.toInt = 2 then ((1 : Int32))
 else if x1.toInt = 3 then ((1 : Int32))
 else if x1.toInt = 40 then ((1 : Int32))
 else if x1.toInt = 91 then ((1 : Int32))
 else if x1.toInt = 123 then ((1 : Int32))
 else if x1.toInt = 221 then ((1 : Int32))
 else if x1.toInt = 222 then ((1 : Int32))
 else if x1.toInt = 223 then ((1 : Int32))
 else if x1.toInt = 231 then ((1 : Int32))
 else if x1.toInt = 232 then ((1 : Int32))
 else if x1.toInt = 233 then ((1 : Int32))
 else if x1.toInt = 234 then ((1 : Int32))
 else if x1.toInt = 235 then ((1 : Int32))
 else if x1.toInt = 236 then ((1 : Int32))
 else ((0 : Int32))
set_option maxRecDepth 4000 in
set_option maxHeartbeats 1000000 in
theorem C_X6_beginsBase (x1 : Int32) (s : t_S) : t_C yX6_beginsBase cX6_beginsBase 1 (some .boolean) 0 [.int x1] s (fun v s' => v = some (.int (f_X6_beginsBase x1 s)) ∧ s' = s) := by
  refine t_C.imp (P := fun v s' => s' = s ∧ ∃ x, v = some (.int x) ∧ (fun r => r = f_X6_beginsBase x1 s) (x)) (t_C.of (by decide +kernel) (Nat.le_of_ble_eq_true rfl) ?_) (fun v s' hp => by obtain ⟨rfl, x, rfl, rfl⟩ := hp; exact ⟨rfl, rfl⟩)
  intro D cy ad bs X
  have hk : t_ht (f_X6_beginsBase x1 s) (fun r => r = f_X6_beginsBase x1 s) := rfl
  show mj_G D cy ad bs X cX6_beginsBase 1 yX6_beginsBase.cls (some .boolean) yX6_beginsBase.name 0 0 0 1065 (t_P (fun v s' => s' = s ∧ ∃ x, v = some (.int x) ∧ (fun r => r = f_X6_beginsBase x1 s) (x))) 0 [(0, .int x1)] [] (t_m s) 1065 0 0
  refine mj_iload_n dX6_beginsBase_0 0 rfl ?_
  by_cases h0 : x1.toInt = 1
  · replace hk := t_posT hk h0
    refine mj_lookup 132 dX6_beginsBase_1 (by decide) (by rw [h0] <;> rfl) (by decide) ?_
    refine mj_iconst (v := 1) dX6_beginsBase_132 (by decide) ?_
    exact t_iret dX6_beginsBase_133 rfl (by decide) ⟨rfl, _, rfl, hk⟩ (Nat.le_of_ble_eq_true rfl) (Nat.le_of_ble_eq_true rfl)
  replace hk := t_negT hk h0
  by_cases h1 : x1.toInt = 2
  · replace hk := t_posT hk h1
    refine mj_lookup 132 dX6_beginsBase_1 (by decide) (by rw [h1] <;> rfl) (by decide) ?_
    refine mj_iconst (v := 1) dX6_beginsBase_132 (by decide) ?_
    exact t_iret dX6_beginsBase_133 rfl (by decide) ⟨rfl, _, rfl, hk⟩ (Nat.le_of_ble_eq_true rfl) (Nat.le_of_ble_eq_true rfl)
  replace hk := t_negT hk h1
  by_cases h2 : x1.toInt = 3
  · replace hk := t_posT hk h2
    refine mj_lookup 132 dX6_beginsBase_1 (by decide) (by rw [h2] <;> rfl) (by decide) ?_
    refine mj_iconst (v := 1) dX6_beginsBase_132 (by decide) ?_
    exact t_iret dX6_beginsBase_133 rfl (by decide) ⟨rfl, _, rfl, hk⟩ (Nat.le_of_ble_eq_true rfl) (Nat.le_of_ble_eq_true rfl)
  replace hk := t_negT hk h2
  by_cases h3 : x1.toInt = 40
  · replace hk := t_posT hk h3
    refine mj_lookup 132 dX6_beginsBase_1 (by decide) (by rw [h3] <;> rfl) (by decide) ?_
    refine mj_iconst (v := 1) dX6_beginsBase_132 (by decide) ?_
    exact t_iret dX6_beginsBase_133 rfl (by decide) ⟨rfl, _, rfl, hk⟩ (Nat.le_of_ble_eq_true rfl) (Nat.le_of_ble_eq_true rfl)
  replace hk := t_negT hk h3
  by_cases h4 : x1.toInt = 91
  · replace hk := t_posT hk h4
    refine mj_lookup 132 dX6_beginsBase_1 (by decide) (by rw [h4] <;> rfl) (by decide) ?_
    refine mj_iconst (v := 1) dX6_beginsBase_132 (by decide) ?_
    exact t_iret dX6_beginsBase_133 rfl (by decide) ⟨rfl, _, rfl, hk⟩ (Nat.le_of_ble_eq_true rfl) (Nat.le_of_ble_eq_true rfl)
  replace hk := t_negT hk h4
  by_cases h5 : x1.toInt = 123
  · replace hk := t_posT hk h5
    refine mj_lookup 132 dX6_beginsBase_1 (by decide) (by rw [h5] <;> rfl) (by decide) ?_
    refine mj_iconst (v := 1) dX6_beginsBase_132 (by decide) ?_
    exact t_iret dX6_beginsBase_133 rfl (by decide) ⟨rfl, _, rfl, hk⟩ (Nat.le_of_ble_eq_true rfl) (Nat.le_of_ble_eq_true rfl)
  replace hk := t_negT hk h5
  by_cases h6 : x1.toInt = 221
  · replace hk := t_posT hk h6
    refine mj_lookup 132 dX6_beginsBase_1 (by decide) (by rw [h6] <;> rfl) (by decide) ?_
    refine mj_iconst (v := 1) dX6_beginsBase_132 (by decide) ?_
    exact t_iret dX6_beginsBase_133 rfl (by decide) ⟨rfl, _, rfl, hk⟩ (Nat.le_of_ble_eq_true rfl) (Nat.le_of_ble_eq_true rfl)
  replace hk := t_negT hk h6
  by_cases h7 : x1.toInt = 222
  · replace hk := t_posT hk h7
    refine mj_lookup 132 dX6_beginsBase_1 (by decide) (by rw [h7] <;> rfl) (by decide) ?_
    refine mj_iconst (v := 1) dX6_beginsBase_132 (by decide) ?_
    exact t_iret dX6_beginsBase_133 rfl (by decide) ⟨rfl, _, rfl, hk⟩ (Nat.le_of_ble_eq_true rfl) (Nat.le_of_ble_eq_true rfl)
  replace hk := t_negT hk h7
  by_cases h8 : x1.toInt = 223
  · replace hk := t_posT hk h8
    refine mj_lookup 132 dX6_beginsBase_1 (by decide) (by rw [h8] <;> rfl) (by decide) ?_
    refine mj_iconst (v := 1) dX6_beginsBase_132 (by decide) ?_
    exact t_iret dX6_beginsBase_133 rfl (by decide) ⟨rfl, _, rfl, hk⟩ (Nat.le_of_ble_eq_true rfl) (Nat.le_of_ble_eq_true rfl)
  replace hk := t_negT hk h8
  by_cases h9 : x1.toInt = 231
  · replace hk := t_posT hk h9
    refine mj_lookup 132 dX6_beginsBase_1 (by decide) (by rw [h9] <;> rfl) (by decide) ?_
    refine mj_iconst (v := 1) dX6_beginsBase_132 (by decide) ?_
    exact t_iret dX6_beginsBase_133 rfl (by decide) ⟨rfl, _, rfl, hk⟩ (Nat.le_of_ble_eq_true rfl) (Nat.le_of_ble_eq_true rfl)
  replace hk := t_negT hk h9
  by_cases h10 : x1.toInt = 232
  · replace hk := t_posT hk h10
    refine mj_lookup 132 dX6_beginsBase_1 (by decide) (by rw [h10] <;> rfl) (by decide) ?_
    refine mj_iconst (v := 1) dX6_beginsBase_132 (by decide) ?_
    exact t_iret dX6_beginsBase_133 rfl (by decide) ⟨rfl, _, rfl, hk⟩ (Nat.le_of_ble_eq_true rfl) (Nat.le_of_ble_eq_true rfl)
  replace hk := t_negT hk h10
  by_cases h11 : x1.toInt = 233
  · replace hk := t_posT hk h11
    refine mj_lookup 132 dX6_beginsBase_1 (by decide) (by rw [h11] <;> rfl) (by decide) ?_
    refine mj_iconst (v := 1) dX6_beginsBase_132 (by decide) ?_
    exact t_iret dX6_beginsBase_133 rfl (by decide) ⟨rfl, _, rfl, hk⟩ (Nat.le_of_ble_eq_true rfl) (Nat.le_of_ble_eq_true rfl)
  replace hk := t_negT hk h11
  by_cases h12 : x1.toInt = 234
  · replace hk := t_posT hk h12
    refine mj_lookup 132 dX6_beginsBase_1 (by decide) (by rw [h12] <;> rfl) (by decide) ?_
    refine mj_iconst (v := 1) dX6_beginsBase_132 (by decide) ?_
    exact t_iret dX6_beginsBase_133 rfl (by decide) ⟨rfl, _, rfl, hk⟩ (Nat.le_of_ble_eq_true rfl) (Nat.le_of_ble_eq_true rfl)
  replace hk := t_negT hk h12
  by_cases h13 : x1.toInt = 235
  · replace hk := t_posT hk h13
    refine mj_lookup 132 dX6_beginsBase_1 (by decide) (by rw [h13] <;> rfl) (by decide) ?_
    refine mj_iconst (v := 1) dX6_beginsBase_132 (by decide) ?_
    exact t_iret dX6_beginsBase_133 rfl (by decide) ⟨rfl, _, rfl, hk⟩ (Nat.le_of_ble_eq_true rfl) (Nat.le_of_ble_eq_true rfl)
  replace hk := t_negT hk h13
  by_cases h14 : x1.toInt = 236
  · replace hk := t_posT hk h14
    refine mj_lookup 132 dX6_beginsBase_1 (by decide) (by rw [h14] <;> rfl) (by decide) ?_
    refine mj_iconst (v := 1) dX6_beginsBase_132 (by decide) ?_
    exact t_iret dX6_beginsBase_133 rfl (by decide) ⟨rfl, _, rfl, hk⟩ (Nat.le_of_ble_eq_true rfl) (Nat.le_of_ble_eq_true rfl)
  replace hk := t_negT hk h14
  refine mj_lookup 134 dX6_beginsBase_1 (by decide) (t_lk0 _ (And.intro h0 (And.intro h1 (And.intro h2 (And.intro h3 (And.intro h4 (And.intro h5 (And.intro h6 (And.intro h7 (And.intro h8 (And.intro h9 (And.intro h10 (And.intro h11 (And.intro h12 (And.intro h13 (And.intro h14 trivial)))))))))))))))) (by decide) ?_
  refine mj_iconst (v := 0) dX6_beginsBase_134 (by decide) ?_
  exact t_iret dX6_beginsBase_135 rfl (by decide) ⟨rfl, _, rfl, hk⟩ (Nat.le_of_ble_eq_true rfl) (Nat.le_of_ble_eq_true rfl)

theorem dX6_beginsExp_0 : decode cX6_beginsExp 0 = .ok (.iload_n 0, 1) := by decide +kernel
theorem dX6_beginsExp_1 : decode cX6_beginsExp 1 = .ok (.bipush 45, 2) := by decide +kernel
theorem dX6_beginsExp_12 : decode cX6_beginsExp 12 = .ok (.iload_n 0, 1) := by decide +kernel
theorem dX6_beginsExp_13 : decode cX6_beginsExp 13 = .ok (.bipush 64, 2) := by decide +kernel
theorem dX6_beginsExp_15 : decode cX6_beginsExp 15 = .ok (.if_icmp .eq 17, 3) := by decide +kernel
theorem dX6_beginsExp_18 : decode cX6_beginsExp 18 = .ok (.iload_n 0, 1) := by decide +kernel
theorem dX6_beginsExp_19 : decode cX6_beginsExp 19 = .ok (.sipush 230, 3) := by decide +kernel
theorem dX6_beginsExp_22 : decode cX6_beginsExp 22 = .ok (.if_icmp .eq 10, 3) := by decide +kernel
theorem dX6_beginsExp_25 : decode cX6_beginsExp 25 = .ok (.iload_n 0, 1) := by decide +kernel
theorem dX6_beginsExp_26 : decode cX6_beginsExp 26 = .ok (.invokestatic 453, 3) := by decide +kernel
theorem dX6_beginsExp_29 : decode cX6_beginsExp 29 = .ok (.ifCond .eq 7, 3) := by decide +kernel
theorem dX6_beginsExp_3 : decode cX6_beginsExp 3 = .ok (.if_icmp .eq 29, 3) := by decide +kernel
theorem dX6_beginsExp_32 : decode cX6_beginsExp 32 = .ok (.iconst 1, 1) := by decide +kernel
theorem dX6_beginsExp_33 : decode cX6_beginsExp 33 = .ok (.goto 4, 3) := by decide +kernel
theorem dX6_beginsExp_36 : decode cX6_beginsExp 36 = .ok (.iconst 0, 1) := by decide +kernel
theorem dX6_beginsExp_37 : decode cX6_beginsExp 37 = .ok (.ireturn, 1) := by decide +kernel
theorem dX6_beginsExp_6 : decode cX6_beginsExp 6 = .ok (.iload_n 0, 1) := by decide +kernel
theorem dX6_beginsExp_7 : decode cX6_beginsExp 7 = .ok (.bipush 33, 2) := by decide +kernel
theorem dX6_beginsExp_9 : decode cX6_beginsExp 9 = .ok (.if_icmp .eq 23, 3) := by decide +kernel
noncomputable def k_X6_beginsExp_32 (s : t_S) : Int32 :=
 (1 : Int32)
set_option maxRecDepth 4000 in
set_option maxHeartbeats 1000000 in
theorem B_X6_beginsExp_32 {D : va_G} {cy : Nat → ClassId} {ad : Nat → Nat} {bs : Nat} {X : State → Heap → Prop} (s : t_S) (Q : Int32 → Prop) (hk : t_ht (k_X6_beginsExp_32 s) Q) : mj_G D cy ad bs X cX6_beginsExp 1 yX6_beginsExp.cls (some .boolean) yX6_beginsExp.name 1 0 0 1065 (t_P (fun v s' => s' = s ∧ ∃ x, v = some (.int x) ∧ Q (x))) 32 [] [] (t_m s) 1065 0 0 := by
  refine mj_iconst (v := 1) dX6_beginsExp_32 (by decide) ?_
  refine mj_goto 37 dX6_beginsExp_33 (by decide) ?_
  exact t_iret dX6_beginsExp_37 rfl (by decide) ⟨rfl, _, rfl, hk⟩ (Nat.le_of_ble_eq_true rfl) (Nat.le_of_ble_eq_true rfl)
noncomputable def f_X6_beginsExp (x1 : Int32) (s : t_S) : Int32 :=
 if x1 = (45 : Int32) then (k_X6_beginsExp_32 s)
 else (if x1 = (33 : Int32) then (k_X6_beginsExp_32 s)
 else (if x1 = (64 : Int32) then (k_X6_beginsExp_32 s)
 else (if x1 = (230 : Int32) then (k_X6_beginsExp_32 s)
 else (if (f_X6_beginsBase x1 s) = (0 : Int32) then ((0 : Int32))
 else (k_X6_beginsExp_32 s)))))
set_option maxRecDepth 4000 in
set_option maxHeartbeats 1000000 in
theorem C_X6_beginsExp (x1 : Int32) (s : t_S) : t_C yX6_beginsExp cX6_beginsExp 1 (some .boolean) 1 [.int x1] s (fun v s' => v = some (.int (f_X6_beginsExp x1 s)) ∧ s' = s) := by
  refine t_C.imp (P := fun v s' => s' = s ∧ ∃ x, v = some (.int x) ∧ (fun r => r = f_X6_beginsExp x1 s) (x)) (t_C.of (by decide +kernel) (Nat.le_of_ble_eq_true rfl) ?_) (fun v s' hp => by obtain ⟨rfl, x, rfl, rfl⟩ := hp; exact ⟨rfl, rfl⟩)
  intro D cy ad bs X
  have hk : t_ht (f_X6_beginsExp x1 s) (fun r => r = f_X6_beginsExp x1 s) := rfl
  show mj_G D cy ad bs X cX6_beginsExp 1 yX6_beginsExp.cls (some .boolean) yX6_beginsExp.name 1 0 0 1065 (t_P (fun v s' => s' = s ∧ ∃ x, v = some (.int x) ∧ (fun r => r = f_X6_beginsExp x1 s) (x))) 0 [(0, .int x1)] [] (t_m s) 1065 0 0
  refine mj_iload_n dX6_beginsExp_0 0 rfl ?_
  refine mj_bipush (v := 45) dX6_beginsExp_1 (by decide) ?_
  refine mj_icmp_eq 32 dX6_beginsExp_3 (by decide) (fun z => t_posTK hk z (fun hk => ?_)) (fun z => t_negTK hk z (fun hk => ?_))
  · refine mj_sublv [] [] rfl ?_
    exact B_X6_beginsExp_32 _ _ hk
  · refine mj_iload_n dX6_beginsExp_6 0 rfl ?_
    refine mj_bipush (v := 33) dX6_beginsExp_7 (by decide) ?_
    refine mj_icmp_eq 32 dX6_beginsExp_9 (by decide) (fun z => t_posTK hk z (fun hk => ?_)) (fun z => t_negTK hk z (fun hk => ?_))
    · refine mj_sublv [] [] rfl ?_
      exact B_X6_beginsExp_32 _ _ hk
    · refine mj_iload_n dX6_beginsExp_12 0 rfl ?_
      refine mj_bipush (v := 64) dX6_beginsExp_13 (by decide) ?_
      refine mj_icmp_eq 32 dX6_beginsExp_15 (by decide) (fun z => t_posTK hk z (fun hk => ?_)) (fun z => t_negTK hk z (fun hk => ?_))
      · refine mj_sublv [] [] rfl ?_
        exact B_X6_beginsExp_32 _ _ hk
      · refine mj_iload_n dX6_beginsExp_18 0 rfl ?_
        refine mj_sipush (v := 230) dX6_beginsExp_19 (by decide) ?_
        refine mj_icmp_eq 32 dX6_beginsExp_22 (by decide) (fun z => t_posTK hk z (fun hk => ?_)) (fun z => t_negTK hk z (fun hk => ?_))
        · refine mj_sublv [] [] rfl ?_
          exact B_X6_beginsExp_32 _ _ hk
        · refine mj_iload_n dX6_beginsExp_25 0 rfl ?_
          refine t_callSiP dX6_beginsExp_26 M_X6_beginsBase (C_X6_beginsBase _ _) ML_X6_453 SM_X6_beginsBase (As := [.int x1]) rfl rfl (Nat.le_of_ble_eq_true rfl) (Nat.le_of_ble_eq_true rfl) (Nat.le_of_ble_eq_true rfl) (Nat.le_of_ble_eq_true rfl) ?_
          refine mj_if_eq 36 dX6_beginsExp_29 (by decide) (fun z => t_posTK hk z (fun hk => ?_)) (fun z => t_negTK hk z (fun hk => ?_))
          · refine mj_iconst (v := 0) dX6_beginsExp_36 (by decide) ?_
            exact t_iret dX6_beginsExp_37 rfl (by decide) ⟨rfl, _, rfl, hk⟩ (Nat.le_of_ble_eq_true rfl) (Nat.le_of_ble_eq_true rfl)
          · refine mj_sublv [] [] rfl ?_
            exact B_X6_beginsExp_32 _ _ hk

theorem dX6_bindingOf_0 : decode cX6_bindingOf 0 = .ok (.iload_n 0, 1) := by decide +kernel
theorem dX6_bindingOf_1 : decode cX6_bindingOf 1 = .ok (.tableswitch 229 12 62 #[223, 223, 223, 223, 221, 219, 229, 229, 229, 229, 229, 229, 229, 229, 229, 229, 229, 229, 229, 229, 229, 229, 229, 229, 229, 227, 225, 229, 229, 229, 227, 225, 229, 225, 229, 227, 229, 229, 229, 229, 229, 229, 229, 229, 229, 229, 229, 229, 223, 229, 223], 219) := by decide +kernel
theorem dX6_bindingOf_220 : decode cX6_bindingOf 220 = .ok (.iconst 1, 1) := by decide +kernel
theorem dX6_bindingOf_221 : decode cX6_bindingOf 221 = .ok (.ireturn, 1) := by decide +kernel
theorem dX6_bindingOf_222 : decode cX6_bindingOf 222 = .ok (.iconst 2, 1) := by decide +kernel
theorem dX6_bindingOf_223 : decode cX6_bindingOf 223 = .ok (.ireturn, 1) := by decide +kernel
theorem dX6_bindingOf_224 : decode cX6_bindingOf 224 = .ok (.iconst 3, 1) := by decide +kernel
theorem dX6_bindingOf_225 : decode cX6_bindingOf 225 = .ok (.ireturn, 1) := by decide +kernel
theorem dX6_bindingOf_226 : decode cX6_bindingOf 226 = .ok (.iconst 4, 1) := by decide +kernel
theorem dX6_bindingOf_227 : decode cX6_bindingOf 227 = .ok (.ireturn, 1) := by decide +kernel
theorem dX6_bindingOf_228 : decode cX6_bindingOf 228 = .ok (.iconst 5, 1) := by decide +kernel
theorem dX6_bindingOf_229 : decode cX6_bindingOf 229 = .ok (.ireturn, 1) := by decide +kernel
theorem dX6_bindingOf_230 : decode cX6_bindingOf 230 = .ok (.iconst 0, 1) := by decide +kernel
theorem dX6_bindingOf_231 : decode cX6_bindingOf 231 = .ok (.ireturn, 1) := by decide +kernel
noncomputable def f_X6_bindingOf (x1 : Int32) (s : t_S) : Int32 :=
 if x1.toInt < 12 ∨ 62 < x1.toInt then ((0 : Int32))
 else if x1.toInt = 12 then ((3 : Int32))
 else if x1.toInt = 13 then ((3 : Int32))
 else if x1.toInt = 14 then ((3 : Int32))
 else if x1.toInt = 15 then ((3 : Int32))
 else if x1.toInt = 16 then ((2 : Int32))
 else if x1.toInt = 17 then ((1 : Int32))
 else if x1.toInt = 18 then ((0 : Int32))
 else if x1.toInt = 19 then ((0 : Int32))
 else if x1.toInt = 20 then ((0 : Int32))
 else if x1.toInt = 21 then ((0 : Int32))
 else if x1.toInt = 22 then ((0 : Int32))
 else if x1.toInt = 23 then ((0 : Int32))
 else if x1.toInt = 24 then ((0 : Int32))
 else if x1.toInt = 25 then ((0 : Int32))
 else if x1.toInt = 26 then ((0 : Int32))
 else if x1.toInt = 27 then ((0 : Int32))
 else if x1.toInt = 28 then ((0 : Int32))
 else if x1.toInt = 29 then ((0 : Int32))
 else if x1.toInt = 30 then ((0 : Int32))
 else if x1.toInt = 31 then ((0 : Int32))
 else if x1.toInt = 32 then ((0 : Int32))
 else if x1.toInt = 33 then ((0 : Int32))
 else if x1.toInt = 34 then ((0 : Int32))
 else if x1.toInt = 35 then ((0 : Int32))
 else if x1.toInt = 36 then ((0 : Int32))
 else if x1.toInt = 37 then ((5 : Int32))
 else if x1.toInt = 38 then ((4 : Int32))
 else if x1.toInt = 39 then ((0 : Int32))
 else if x1.toInt = 40 then ((0 : Int32))
 else if x1.toInt = 41 then ((0 : Int32))
 else if x1.toInt = 42 then ((5 : Int32))
 else if x1.toInt = 43 then ((4 : Int32))
 else if x1.toInt = 44 then ((0 : Int32))
 else if x1.toInt = 45 then ((4 : Int32))
 else if x1.toInt = 46 then ((0 : Int32))
 else if x1.toInt = 47 then ((5 : Int32))
 else if x1.toInt = 48 then ((0 : Int32))
 else if x1.toInt = 49 then ((0 : Int32))
 else if x1.toInt = 50 then ((0 : Int32))
 else if x1.toInt = 51 then ((0 : Int32))
 else if x1.toInt = 52 then ((0 : Int32))
 else if x1.toInt = 53 then ((0 : Int32))
 else if x1.toInt = 54 then ((0 : Int32))
 else if x1.toInt = 55 then ((0 : Int32))
 else if x1.toInt = 56 then ((0 : Int32))
 else if x1.toInt = 57 then ((0 : Int32))
 else if x1.toInt = 58 then ((0 : Int32))
 else if x1.toInt = 59 then ((0 : Int32))
 else if x1.toInt = 60 then ((3 : Int32))
 else if x1.toInt = 61 then ((0 : Int32))
 else ((3 : Int32))
set_option maxRecDepth 4000 in
set_option maxHeartbeats 1000000 in
theorem C_X6_bindingOf (x1 : Int32) (s : t_S) : t_C yX6_bindingOf cX6_bindingOf 1 (some .int) 0 [.int x1] s (fun v s' => v = some (.int (f_X6_bindingOf x1 s)) ∧ s' = s) := by
  refine t_C.imp (P := fun v s' => s' = s ∧ ∃ x, v = some (.int x) ∧ (fun r => r = f_X6_bindingOf x1 s) (x)) (t_C.of (by decide +kernel) (Nat.le_of_ble_eq_true rfl) ?_) (fun v s' hp => by obtain ⟨rfl, x, rfl, rfl⟩ := hp; exact ⟨rfl, rfl⟩)
  intro D cy ad bs X
  have hk : t_ht (f_X6_bindingOf x1 s) (fun r => r = f_X6_bindingOf x1 s) := rfl
  show mj_G D cy ad bs X cX6_bindingOf 1 yX6_bindingOf.cls (some .int) yX6_bindingOf.name 0 0 0 1065 (t_P (fun v s' => s' = s ∧ ∃ x, v = some (.int x) ∧ (fun r => r = f_X6_bindingOf x1 s) (x))) 0 [(0, .int x1)] [] (t_m s) 1065 0 0
  refine mj_iload_n dX6_bindingOf_0 0 rfl ?_
  by_cases hout : x1.toInt < 12 ∨ 62 < x1.toInt
  · replace hk := t_posT hk hout
    refine mj_tableOut 230 dX6_bindingOf_1 hout (by decide) ?_
    refine mj_iconst (v := 0) dX6_bindingOf_230 (by decide) ?_
    exact t_iret dX6_bindingOf_231 rfl rfl ⟨rfl, _, rfl, hk⟩ (Nat.le_of_ble_eq_true rfl) (Nat.le_of_ble_eq_true rfl)
  · replace hk := t_negT hk hout
    have hh1 : ¬ x1.toInt < 12 := fun z => hout (Or.inl z)
    have hh2 : ¬ (62 : Int) < x1.toInt := fun z => hout (Or.inr z)
    by_cases h0 : x1.toInt = 12
    · replace hk := t_posT hk h0
      refine mj_tableIn 224 dX6_bindingOf_1 hh1 hh2 (by rw [h0]; rfl) (by decide) ?_
      refine mj_iconst (v := 3) dX6_bindingOf_224 (by decide) ?_
      exact t_iret dX6_bindingOf_225 rfl rfl ⟨rfl, _, rfl, hk⟩ (Nat.le_of_ble_eq_true rfl) (Nat.le_of_ble_eq_true rfl)
    replace hk := t_negT hk h0
    by_cases h1 : x1.toInt = 13
    · replace hk := t_posT hk h1
      refine mj_tableIn 224 dX6_bindingOf_1 hh1 hh2 (by rw [h1]; rfl) (by decide) ?_
      refine mj_iconst (v := 3) dX6_bindingOf_224 (by decide) ?_
      exact t_iret dX6_bindingOf_225 rfl rfl ⟨rfl, _, rfl, hk⟩ (Nat.le_of_ble_eq_true rfl) (Nat.le_of_ble_eq_true rfl)
    replace hk := t_negT hk h1
    by_cases h2 : x1.toInt = 14
    · replace hk := t_posT hk h2
      refine mj_tableIn 224 dX6_bindingOf_1 hh1 hh2 (by rw [h2]; rfl) (by decide) ?_
      refine mj_iconst (v := 3) dX6_bindingOf_224 (by decide) ?_
      exact t_iret dX6_bindingOf_225 rfl rfl ⟨rfl, _, rfl, hk⟩ (Nat.le_of_ble_eq_true rfl) (Nat.le_of_ble_eq_true rfl)
    replace hk := t_negT hk h2
    by_cases h3 : x1.toInt = 15
    · replace hk := t_posT hk h3
      refine mj_tableIn 224 dX6_bindingOf_1 hh1 hh2 (by rw [h3]; rfl) (by decide) ?_
      refine mj_iconst (v := 3) dX6_bindingOf_224 (by decide) ?_
      exact t_iret dX6_bindingOf_225 rfl rfl ⟨rfl, _, rfl, hk⟩ (Nat.le_of_ble_eq_true rfl) (Nat.le_of_ble_eq_true rfl)
    replace hk := t_negT hk h3
    by_cases h4 : x1.toInt = 16
    · replace hk := t_posT hk h4
      refine mj_tableIn 222 dX6_bindingOf_1 hh1 hh2 (by rw [h4]; rfl) (by decide) ?_
      refine mj_iconst (v := 2) dX6_bindingOf_222 (by decide) ?_
      exact t_iret dX6_bindingOf_223 rfl rfl ⟨rfl, _, rfl, hk⟩ (Nat.le_of_ble_eq_true rfl) (Nat.le_of_ble_eq_true rfl)
    replace hk := t_negT hk h4
    by_cases h5 : x1.toInt = 17
    · replace hk := t_posT hk h5
      refine mj_tableIn 220 dX6_bindingOf_1 hh1 hh2 (by rw [h5]; rfl) (by decide) ?_
      refine mj_iconst (v := 1) dX6_bindingOf_220 (by decide) ?_
      exact t_iret dX6_bindingOf_221 rfl rfl ⟨rfl, _, rfl, hk⟩ (Nat.le_of_ble_eq_true rfl) (Nat.le_of_ble_eq_true rfl)
    replace hk := t_negT hk h5
    by_cases h6 : x1.toInt = 18
    · replace hk := t_posT hk h6
      refine mj_tableIn 230 dX6_bindingOf_1 hh1 hh2 (by rw [h6]; rfl) (by decide) ?_
      refine mj_iconst (v := 0) dX6_bindingOf_230 (by decide) ?_
      exact t_iret dX6_bindingOf_231 rfl rfl ⟨rfl, _, rfl, hk⟩ (Nat.le_of_ble_eq_true rfl) (Nat.le_of_ble_eq_true rfl)
    replace hk := t_negT hk h6
    by_cases h7 : x1.toInt = 19
    · replace hk := t_posT hk h7
      refine mj_tableIn 230 dX6_bindingOf_1 hh1 hh2 (by rw [h7]; rfl) (by decide) ?_
      refine mj_iconst (v := 0) dX6_bindingOf_230 (by decide) ?_
      exact t_iret dX6_bindingOf_231 rfl rfl ⟨rfl, _, rfl, hk⟩ (Nat.le_of_ble_eq_true rfl) (Nat.le_of_ble_eq_true rfl)
    replace hk := t_negT hk h7
    by_cases h8 : x1.toInt = 20
    · replace hk := t_posT hk h8
      refine mj_tableIn 230 dX6_bindingOf_1 hh1 hh2 (by rw [h8]; rfl) (by decide) ?_
      refine mj_iconst (v := 0) dX6_bindingOf_230 (by decide) ?_
      exact t_iret dX6_bindingOf_231 rfl rfl ⟨rfl, _, rfl, hk⟩ (Nat.le_of_ble_eq_true rfl) (Nat.le_of_ble_eq_true rfl)
    replace hk := t_negT hk h8
    by_cases h9 : x1.toInt = 21
    · replace hk := t_posT hk h9
      refine mj_tableIn 230 dX6_bindingOf_1 hh1 hh2 (by rw [h9]; rfl) (by decide) ?_
      refine mj_iconst (v := 0) dX6_bindingOf_230 (by decide) ?_
      exact t_iret dX6_bindingOf_231 rfl rfl ⟨rfl, _, rfl, hk⟩ (Nat.le_of_ble_eq_true rfl) (Nat.le_of_ble_eq_true rfl)
    replace hk := t_negT hk h9
    by_cases h10 : x1.toInt = 22
    · replace hk := t_posT hk h10
      refine mj_tableIn 230 dX6_bindingOf_1 hh1 hh2 (by rw [h10]; rfl) (by decide) ?_
      refine mj_iconst (v := 0) dX6_bindingOf_230 (by decide) ?_
      exact t_iret dX6_bindingOf_231 rfl rfl ⟨rfl, _, rfl, hk⟩ (Nat.le_of_ble_eq_true rfl) (Nat.le_of_ble_eq_true rfl)
    replace hk := t_negT hk h10
    by_cases h11 : x1.toInt = 23
    · replace hk := t_posT hk h11
      refine mj_tableIn 230 dX6_bindingOf_1 hh1 hh2 (by rw [h11]; rfl) (by decide) ?_
      refine mj_iconst (v := 0) dX6_bindingOf_230 (by decide) ?_
      exact t_iret dX6_bindingOf_231 rfl rfl ⟨rfl, _, rfl, hk⟩ (Nat.le_of_ble_eq_true rfl) (Nat.le_of_ble_eq_true rfl)
    replace hk := t_negT hk h11
    by_cases h12 : x1.toInt = 24
    · replace hk := t_posT hk h12
      refine mj_tableIn 230 dX6_bindingOf_1 hh1 hh2 (by rw [h12]; rfl) (by decide) ?_
      refine mj_iconst (v := 0) dX6_bindingOf_230 (by decide) ?_
      exact t_iret dX6_bindingOf_231 rfl rfl ⟨rfl, _, rfl, hk⟩ (Nat.le_of_ble_eq_true rfl) (Nat.le_of_ble_eq_true rfl)
    replace hk := t_negT hk h12
    by_cases h13 : x1.toInt = 25
    · replace hk := t_posT hk h13
      refine mj_tableIn 230 dX6_bindingOf_1 hh1 hh2 (by rw [h13]; rfl) (by decide) ?_
      refine mj_iconst (v := 0) dX6_bindingOf_230 (by decide) ?_
      exact t_iret dX6_bindingOf_231 rfl rfl ⟨rfl, _, rfl, hk⟩ (Nat.le_of_ble_eq_true rfl) (Nat.le_of_ble_eq_true rfl)
    replace hk := t_negT hk h13
    by_cases h14 : x1.toInt = 26
    · replace hk := t_posT hk h14
      refine mj_tableIn 230 dX6_bindingOf_1 hh1 hh2 (by rw [h14]; rfl) (by decide) ?_
      refine mj_iconst (v := 0) dX6_bindingOf_230 (by decide) ?_
      exact t_iret dX6_bindingOf_231 rfl rfl ⟨rfl, _, rfl, hk⟩ (Nat.le_of_ble_eq_true rfl) (Nat.le_of_ble_eq_true rfl)
    replace hk := t_negT hk h14
    by_cases h15 : x1.toInt = 27
    · replace hk := t_posT hk h15
      refine mj_tableIn 230 dX6_bindingOf_1 hh1 hh2 (by rw [h15]; rfl) (by decide) ?_
      refine mj_iconst (v := 0) dX6_bindingOf_230 (by decide) ?_
      exact t_iret dX6_bindingOf_231 rfl rfl ⟨rfl, _, rfl, hk⟩ (Nat.le_of_ble_eq_true rfl) (Nat.le_of_ble_eq_true rfl)
    replace hk := t_negT hk h15
    by_cases h16 : x1.toInt = 28
    · replace hk := t_posT hk h16
      refine mj_tableIn 230 dX6_bindingOf_1 hh1 hh2 (by rw [h16]; rfl) (by decide) ?_
      refine mj_iconst (v := 0) dX6_bindingOf_230 (by decide) ?_
      exact t_iret dX6_bindingOf_231 rfl rfl ⟨rfl, _, rfl, hk⟩ (Nat.le_of_ble_eq_true rfl) (Nat.le_of_ble_eq_true rfl)
    replace hk := t_negT hk h16
    by_cases h17 : x1.toInt = 29
    · replace hk := t_posT hk h17
      refine mj_tableIn 230 dX6_bindingOf_1 hh1 hh2 (by rw [h17]; rfl) (by decide) ?_
      refine mj_iconst (v := 0) dX6_bindingOf_230 (by decide) ?_
      exact t_iret dX6_bindingOf_231 rfl rfl ⟨rfl, _, rfl, hk⟩ (Nat.le_of_ble_eq_true rfl) (Nat.le_of_ble_eq_true rfl)
    replace hk := t_negT hk h17
    by_cases h18 : x1.toInt = 30
    · replace hk := t_posT hk h18
      refine mj_tableIn 230 dX6_bindingOf_1 hh1 hh2 (by rw [h18]; rfl) (by decide) ?_
      refine mj_iconst (v := 0) dX6_bindingOf_230 (by decide) ?_
      exact t_iret dX6_bindingOf_231 rfl rfl ⟨rfl, _, rfl, hk⟩ (Nat.le_of_ble_eq_true rfl) (Nat.le_of_ble_eq_true rfl)
    replace hk := t_negT hk h18
    by_cases h19 : x1.toInt = 31
    · replace hk := t_posT hk h19
      refine mj_tableIn 230 dX6_bindingOf_1 hh1 hh2 (by rw [h19]; rfl) (by decide) ?_
      refine mj_iconst (v := 0) dX6_bindingOf_230 (by decide) ?_
      exact t_iret dX6_bindingOf_231 rfl rfl ⟨rfl, _, rfl, hk⟩ (Nat.le_of_ble_eq_true rfl) (Nat.le_of_ble_eq_true rfl)
    replace hk := t_negT hk h19
    by_cases h20 : x1.toInt = 32
    · replace hk := t_posT hk h20
      refine mj_tableIn 230 dX6_bindingOf_1 hh1 hh2 (by rw [h20]; rfl) (by decide) ?_
      refine mj_iconst (v := 0) dX6_bindingOf_230 (by decide) ?_
      exact t_iret dX6_bindingOf_231 rfl rfl ⟨rfl, _, rfl, hk⟩ (Nat.le_of_ble_eq_true rfl) (Nat.le_of_ble_eq_true rfl)
    replace hk := t_negT hk h20
    by_cases h21 : x1.toInt = 33
    · replace hk := t_posT hk h21
      refine mj_tableIn 230 dX6_bindingOf_1 hh1 hh2 (by rw [h21]; rfl) (by decide) ?_
      refine mj_iconst (v := 0) dX6_bindingOf_230 (by decide) ?_
      exact t_iret dX6_bindingOf_231 rfl rfl ⟨rfl, _, rfl, hk⟩ (Nat.le_of_ble_eq_true rfl) (Nat.le_of_ble_eq_true rfl)
    replace hk := t_negT hk h21
    by_cases h22 : x1.toInt = 34
    · replace hk := t_posT hk h22
      refine mj_tableIn 230 dX6_bindingOf_1 hh1 hh2 (by rw [h22]; rfl) (by decide) ?_
      refine mj_iconst (v := 0) dX6_bindingOf_230 (by decide) ?_
      exact t_iret dX6_bindingOf_231 rfl rfl ⟨rfl, _, rfl, hk⟩ (Nat.le_of_ble_eq_true rfl) (Nat.le_of_ble_eq_true rfl)
    replace hk := t_negT hk h22
    by_cases h23 : x1.toInt = 35
    · replace hk := t_posT hk h23
      refine mj_tableIn 230 dX6_bindingOf_1 hh1 hh2 (by rw [h23]; rfl) (by decide) ?_
      refine mj_iconst (v := 0) dX6_bindingOf_230 (by decide) ?_
      exact t_iret dX6_bindingOf_231 rfl rfl ⟨rfl, _, rfl, hk⟩ (Nat.le_of_ble_eq_true rfl) (Nat.le_of_ble_eq_true rfl)
    replace hk := t_negT hk h23
    by_cases h24 : x1.toInt = 36
    · replace hk := t_posT hk h24
      refine mj_tableIn 230 dX6_bindingOf_1 hh1 hh2 (by rw [h24]; rfl) (by decide) ?_
      refine mj_iconst (v := 0) dX6_bindingOf_230 (by decide) ?_
      exact t_iret dX6_bindingOf_231 rfl rfl ⟨rfl, _, rfl, hk⟩ (Nat.le_of_ble_eq_true rfl) (Nat.le_of_ble_eq_true rfl)
    replace hk := t_negT hk h24
    by_cases h25 : x1.toInt = 37
    · replace hk := t_posT hk h25
      refine mj_tableIn 228 dX6_bindingOf_1 hh1 hh2 (by rw [h25]; rfl) (by decide) ?_
      refine mj_iconst (v := 5) dX6_bindingOf_228 (by decide) ?_
      exact t_iret dX6_bindingOf_229 rfl rfl ⟨rfl, _, rfl, hk⟩ (Nat.le_of_ble_eq_true rfl) (Nat.le_of_ble_eq_true rfl)
    replace hk := t_negT hk h25
    by_cases h26 : x1.toInt = 38
    · replace hk := t_posT hk h26
      refine mj_tableIn 226 dX6_bindingOf_1 hh1 hh2 (by rw [h26]; rfl) (by decide) ?_
      refine mj_iconst (v := 4) dX6_bindingOf_226 (by decide) ?_
      exact t_iret dX6_bindingOf_227 rfl rfl ⟨rfl, _, rfl, hk⟩ (Nat.le_of_ble_eq_true rfl) (Nat.le_of_ble_eq_true rfl)
    replace hk := t_negT hk h26
    by_cases h27 : x1.toInt = 39
    · replace hk := t_posT hk h27
      refine mj_tableIn 230 dX6_bindingOf_1 hh1 hh2 (by rw [h27]; rfl) (by decide) ?_
      refine mj_iconst (v := 0) dX6_bindingOf_230 (by decide) ?_
      exact t_iret dX6_bindingOf_231 rfl rfl ⟨rfl, _, rfl, hk⟩ (Nat.le_of_ble_eq_true rfl) (Nat.le_of_ble_eq_true rfl)
    replace hk := t_negT hk h27
    by_cases h28 : x1.toInt = 40
    · replace hk := t_posT hk h28
      refine mj_tableIn 230 dX6_bindingOf_1 hh1 hh2 (by rw [h28]; rfl) (by decide) ?_
      refine mj_iconst (v := 0) dX6_bindingOf_230 (by decide) ?_
      exact t_iret dX6_bindingOf_231 rfl rfl ⟨rfl, _, rfl, hk⟩ (Nat.le_of_ble_eq_true rfl) (Nat.le_of_ble_eq_true rfl)
    replace hk := t_negT hk h28
    by_cases h29 : x1.toInt = 41
    · replace hk := t_posT hk h29
      refine mj_tableIn 230 dX6_bindingOf_1 hh1 hh2 (by rw [h29]; rfl) (by decide) ?_
      refine mj_iconst (v := 0) dX6_bindingOf_230 (by decide) ?_
      exact t_iret dX6_bindingOf_231 rfl rfl ⟨rfl, _, rfl, hk⟩ (Nat.le_of_ble_eq_true rfl) (Nat.le_of_ble_eq_true rfl)
    replace hk := t_negT hk h29
    by_cases h30 : x1.toInt = 42
    · replace hk := t_posT hk h30
      refine mj_tableIn 228 dX6_bindingOf_1 hh1 hh2 (by rw [h30]; rfl) (by decide) ?_
      refine mj_iconst (v := 5) dX6_bindingOf_228 (by decide) ?_
      exact t_iret dX6_bindingOf_229 rfl rfl ⟨rfl, _, rfl, hk⟩ (Nat.le_of_ble_eq_true rfl) (Nat.le_of_ble_eq_true rfl)
    replace hk := t_negT hk h30
    by_cases h31 : x1.toInt = 43
    · replace hk := t_posT hk h31
      refine mj_tableIn 226 dX6_bindingOf_1 hh1 hh2 (by rw [h31]; rfl) (by decide) ?_
      refine mj_iconst (v := 4) dX6_bindingOf_226 (by decide) ?_
      exact t_iret dX6_bindingOf_227 rfl rfl ⟨rfl, _, rfl, hk⟩ (Nat.le_of_ble_eq_true rfl) (Nat.le_of_ble_eq_true rfl)
    replace hk := t_negT hk h31
    by_cases h32 : x1.toInt = 44
    · replace hk := t_posT hk h32
      refine mj_tableIn 230 dX6_bindingOf_1 hh1 hh2 (by rw [h32]; rfl) (by decide) ?_
      refine mj_iconst (v := 0) dX6_bindingOf_230 (by decide) ?_
      exact t_iret dX6_bindingOf_231 rfl rfl ⟨rfl, _, rfl, hk⟩ (Nat.le_of_ble_eq_true rfl) (Nat.le_of_ble_eq_true rfl)
    replace hk := t_negT hk h32
    by_cases h33 : x1.toInt = 45
    · replace hk := t_posT hk h33
      refine mj_tableIn 226 dX6_bindingOf_1 hh1 hh2 (by rw [h33]; rfl) (by decide) ?_
      refine mj_iconst (v := 4) dX6_bindingOf_226 (by decide) ?_
      exact t_iret dX6_bindingOf_227 rfl rfl ⟨rfl, _, rfl, hk⟩ (Nat.le_of_ble_eq_true rfl) (Nat.le_of_ble_eq_true rfl)
    replace hk := t_negT hk h33
    by_cases h34 : x1.toInt = 46
    · replace hk := t_posT hk h34
      refine mj_tableIn 230 dX6_bindingOf_1 hh1 hh2 (by rw [h34]; rfl) (by decide) ?_
      refine mj_iconst (v := 0) dX6_bindingOf_230 (by decide) ?_
      exact t_iret dX6_bindingOf_231 rfl rfl ⟨rfl, _, rfl, hk⟩ (Nat.le_of_ble_eq_true rfl) (Nat.le_of_ble_eq_true rfl)
    replace hk := t_negT hk h34
    by_cases h35 : x1.toInt = 47
    · replace hk := t_posT hk h35
      refine mj_tableIn 228 dX6_bindingOf_1 hh1 hh2 (by rw [h35]; rfl) (by decide) ?_
      refine mj_iconst (v := 5) dX6_bindingOf_228 (by decide) ?_
      exact t_iret dX6_bindingOf_229 rfl rfl ⟨rfl, _, rfl, hk⟩ (Nat.le_of_ble_eq_true rfl) (Nat.le_of_ble_eq_true rfl)
    replace hk := t_negT hk h35
    by_cases h36 : x1.toInt = 48
    · replace hk := t_posT hk h36
      refine mj_tableIn 230 dX6_bindingOf_1 hh1 hh2 (by rw [h36]; rfl) (by decide) ?_
      refine mj_iconst (v := 0) dX6_bindingOf_230 (by decide) ?_
      exact t_iret dX6_bindingOf_231 rfl rfl ⟨rfl, _, rfl, hk⟩ (Nat.le_of_ble_eq_true rfl) (Nat.le_of_ble_eq_true rfl)
    replace hk := t_negT hk h36
    by_cases h37 : x1.toInt = 49
    · replace hk := t_posT hk h37
      refine mj_tableIn 230 dX6_bindingOf_1 hh1 hh2 (by rw [h37]; rfl) (by decide) ?_
      refine mj_iconst (v := 0) dX6_bindingOf_230 (by decide) ?_
      exact t_iret dX6_bindingOf_231 rfl rfl ⟨rfl, _, rfl, hk⟩ (Nat.le_of_ble_eq_true rfl) (Nat.le_of_ble_eq_true rfl)
    replace hk := t_negT hk h37
    by_cases h38 : x1.toInt = 50
    · replace hk := t_posT hk h38
      refine mj_tableIn 230 dX6_bindingOf_1 hh1 hh2 (by rw [h38]; rfl) (by decide) ?_
      refine mj_iconst (v := 0) dX6_bindingOf_230 (by decide) ?_
      exact t_iret dX6_bindingOf_231 rfl rfl ⟨rfl, _, rfl, hk⟩ (Nat.le_of_ble_eq_true rfl) (Nat.le_of_ble_eq_true rfl)
    replace hk := t_negT hk h38
    by_cases h39 : x1.toInt = 51
    · replace hk := t_posT hk h39
      refine mj_tableIn 230 dX6_bindingOf_1 hh1 hh2 (by rw [h39]; rfl) (by decide) ?_
      refine mj_iconst (v := 0) dX6_bindingOf_230 (by decide) ?_
      exact t_iret dX6_bindingOf_231 rfl rfl ⟨rfl, _, rfl, hk⟩ (Nat.le_of_ble_eq_true rfl) (Nat.le_of_ble_eq_true rfl)
    replace hk := t_negT hk h39
    by_cases h40 : x1.toInt = 52
    · replace hk := t_posT hk h40
      refine mj_tableIn 230 dX6_bindingOf_1 hh1 hh2 (by rw [h40]; rfl) (by decide) ?_
      refine mj_iconst (v := 0) dX6_bindingOf_230 (by decide) ?_
      exact t_iret dX6_bindingOf_231 rfl rfl ⟨rfl, _, rfl, hk⟩ (Nat.le_of_ble_eq_true rfl) (Nat.le_of_ble_eq_true rfl)
    replace hk := t_negT hk h40
    by_cases h41 : x1.toInt = 53
    · replace hk := t_posT hk h41
      refine mj_tableIn 230 dX6_bindingOf_1 hh1 hh2 (by rw [h41]; rfl) (by decide) ?_
      refine mj_iconst (v := 0) dX6_bindingOf_230 (by decide) ?_
      exact t_iret dX6_bindingOf_231 rfl rfl ⟨rfl, _, rfl, hk⟩ (Nat.le_of_ble_eq_true rfl) (Nat.le_of_ble_eq_true rfl)
    replace hk := t_negT hk h41
    by_cases h42 : x1.toInt = 54
    · replace hk := t_posT hk h42
      refine mj_tableIn 230 dX6_bindingOf_1 hh1 hh2 (by rw [h42]; rfl) (by decide) ?_
      refine mj_iconst (v := 0) dX6_bindingOf_230 (by decide) ?_
      exact t_iret dX6_bindingOf_231 rfl rfl ⟨rfl, _, rfl, hk⟩ (Nat.le_of_ble_eq_true rfl) (Nat.le_of_ble_eq_true rfl)
    replace hk := t_negT hk h42
    by_cases h43 : x1.toInt = 55
    · replace hk := t_posT hk h43
      refine mj_tableIn 230 dX6_bindingOf_1 hh1 hh2 (by rw [h43]; rfl) (by decide) ?_
      refine mj_iconst (v := 0) dX6_bindingOf_230 (by decide) ?_
      exact t_iret dX6_bindingOf_231 rfl rfl ⟨rfl, _, rfl, hk⟩ (Nat.le_of_ble_eq_true rfl) (Nat.le_of_ble_eq_true rfl)
    replace hk := t_negT hk h43
    by_cases h44 : x1.toInt = 56
    · replace hk := t_posT hk h44
      refine mj_tableIn 230 dX6_bindingOf_1 hh1 hh2 (by rw [h44]; rfl) (by decide) ?_
      refine mj_iconst (v := 0) dX6_bindingOf_230 (by decide) ?_
      exact t_iret dX6_bindingOf_231 rfl rfl ⟨rfl, _, rfl, hk⟩ (Nat.le_of_ble_eq_true rfl) (Nat.le_of_ble_eq_true rfl)
    replace hk := t_negT hk h44
    by_cases h45 : x1.toInt = 57
    · replace hk := t_posT hk h45
      refine mj_tableIn 230 dX6_bindingOf_1 hh1 hh2 (by rw [h45]; rfl) (by decide) ?_
      refine mj_iconst (v := 0) dX6_bindingOf_230 (by decide) ?_
      exact t_iret dX6_bindingOf_231 rfl rfl ⟨rfl, _, rfl, hk⟩ (Nat.le_of_ble_eq_true rfl) (Nat.le_of_ble_eq_true rfl)
    replace hk := t_negT hk h45
    by_cases h46 : x1.toInt = 58
    · replace hk := t_posT hk h46
      refine mj_tableIn 230 dX6_bindingOf_1 hh1 hh2 (by rw [h46]; rfl) (by decide) ?_
      refine mj_iconst (v := 0) dX6_bindingOf_230 (by decide) ?_
      exact t_iret dX6_bindingOf_231 rfl rfl ⟨rfl, _, rfl, hk⟩ (Nat.le_of_ble_eq_true rfl) (Nat.le_of_ble_eq_true rfl)
    replace hk := t_negT hk h46
    by_cases h47 : x1.toInt = 59
    · replace hk := t_posT hk h47
      refine mj_tableIn 230 dX6_bindingOf_1 hh1 hh2 (by rw [h47]; rfl) (by decide) ?_
      refine mj_iconst (v := 0) dX6_bindingOf_230 (by decide) ?_
      exact t_iret dX6_bindingOf_231 rfl rfl ⟨rfl, _, rfl, hk⟩ (Nat.le_of_ble_eq_true rfl) (Nat.le_of_ble_eq_true rfl)
    replace hk := t_negT hk h47
    by_cases h48 : x1.toInt = 60
    · replace hk := t_posT hk h48
      refine mj_tableIn 224 dX6_bindingOf_1 hh1 hh2 (by rw [h48]; rfl) (by decide) ?_
      refine mj_iconst (v := 3) dX6_bindingOf_224 (by decide) ?_
      exact t_iret dX6_bindingOf_225 rfl rfl ⟨rfl, _, rfl, hk⟩ (Nat.le_of_ble_eq_true rfl) (Nat.le_of_ble_eq_true rfl)
    replace hk := t_negT hk h48
    by_cases h49 : x1.toInt = 61
    · replace hk := t_posT hk h49
      refine mj_tableIn 230 dX6_bindingOf_1 hh1 hh2 (by rw [h49]; rfl) (by decide) ?_
      refine mj_iconst (v := 0) dX6_bindingOf_230 (by decide) ?_
      exact t_iret dX6_bindingOf_231 rfl rfl ⟨rfl, _, rfl, hk⟩ (Nat.le_of_ble_eq_true rfl) (Nat.le_of_ble_eq_true rfl)
    replace hk := t_negT hk h49
    have h50 : x1.toInt = 62 := by omega
    refine mj_tableIn 224 dX6_bindingOf_1 hh1 hh2 (by rw [h50]; rfl) (by decide) ?_
    refine mj_iconst (v := 3) dX6_bindingOf_224 (by decide) ?_
    exact t_iret dX6_bindingOf_225 rfl rfl ⟨rfl, _, rfl, hk⟩ (Nat.le_of_ble_eq_true rfl) (Nat.le_of_ble_eq_true rfl)

theorem dX6_bindingOfTop_0 : decode cX6_bindingOfTop 0 = .ok (.aload_n 0, 1) := by decide +kernel
theorem dX6_bindingOfTop_1 : decode cX6_bindingOfTop 1 = .ok (.getfield 11, 3) := by decide +kernel
theorem dX6_bindingOfTop_10 : decode cX6_bindingOfTop 10 = .ok (.iconst 2, 1) := by decide +kernel
theorem dX6_bindingOfTop_11 : decode cX6_bindingOfTop 11 = .ok (.isub, 1) := by decide +kernel
theorem dX6_bindingOfTop_12 : decode cX6_bindingOfTop 12 = .ok (.iaload, 1) := by decide +kernel
theorem dX6_bindingOfTop_13 : decode cX6_bindingOfTop 13 = .ok (.invokestatic 464, 3) := by decide +kernel
theorem dX6_bindingOfTop_16 : decode cX6_bindingOfTop 16 = .ok (.ireturn, 1) := by decide +kernel
theorem dX6_bindingOfTop_4 : decode cX6_bindingOfTop 4 = .ok (.iconst 2, 1) := by decide +kernel
theorem dX6_bindingOfTop_5 : decode cX6_bindingOfTop 5 = .ok (.aload_n 0, 1) := by decide +kernel
theorem dX6_bindingOfTop_6 : decode cX6_bindingOfTop 6 = .ok (.getfield 128, 3) := by decide +kernel
theorem dX6_bindingOfTop_9 : decode cX6_bindingOfTop 9 = .ok (.imul, 1) := by decide +kernel
noncomputable def f_X6_bindingOfTop (s : t_S) : Option (Int32) :=
 if t_ix (((2 : Int32) * (s.1 845 7)) - (2 : Int32)) 6004 = true then
  some (f_X6_bindingOf (s.1 854 ((((2 : Int32) * (s.1 845 7)) - (2 : Int32)).toNatClampNeg)) s)
else none
set_option maxRecDepth 4000 in
set_option maxHeartbeats 1000000 in
theorem C_X6_bindingOfTop (s : t_S) (r : Int32) (hr : f_X6_bindingOfTop s = some r) : t_C yX6_bindingOfTop cX6_bindingOfTop 1 (some .int) 1 [.ref 845] s (fun v s' => v = some (.int r) ∧ s' = s) := by
  refine t_C.imp (P := fun v s' => s' = s ∧ ∃ x, v = some (.int x) ∧ (fun q => q = r) (x)) (t_C.of (by decide +kernel) (Nat.le_of_ble_eq_true rfl) ?_) (fun v s' hp => by obtain ⟨rfl, x, rfl, rfl⟩ := hp; exact ⟨rfl, rfl⟩)
  intro D cy ad bs X
  have hk : t_hk (f_X6_bindingOfTop s) (fun q => q = r) := ⟨r, hr, rfl⟩
  show mj_G D cy ad bs X cX6_bindingOfTop 1 yX6_bindingOfTop.cls (some .int) yX6_bindingOfTop.name 1 0 0 1065 (t_P (fun v s' => s' = s ∧ ∃ x, v = some (.int x) ∧ (fun q => q = r) (x))) 0 [(0, .ref 845)] [] (t_m s) 1065 0 0
  refine mj_aload_n dX6_bindingOfTop_0 0 rfl ?_
  refine t_getR 854 dX6_bindingOfTop_1 F_X6_11 qr_845_6 ?_
  refine mj_iconst (v := 2) dX6_bindingOfTop_4 (by decide) ?_
  refine mj_aload_n dX6_bindingOfTop_5 0 rfl ?_
  refine t_getI dX6_bindingOfTop_6 F_X6_128 qf_845_7 ?_
  refine mj_imul dX6_bindingOfTop_9 ?_
  refine mj_iconst (v := 2) dX6_bindingOfTop_10 (by decide) ?_
  refine mj_isub dX6_bindingOfTop_11 ?_
  refine t_chkK hk (fun c0 hk => ?_)
  refine t_iald dX6_bindingOfTop_12 qa_854 (t_ixv c0) ?_
  refine t_callSiP dX6_bindingOfTop_13 M_X6_bindingOf (C_X6_bindingOf _ _) ML_X6_464 SM_X6_bindingOf (As := [.int (s.1 854 ((((2 : Int32) * (s.1 845 7)) - (2 : Int32)).toNatClampNeg))]) rfl rfl (Nat.le_of_ble_eq_true rfl) (Nat.le_of_ble_eq_true rfl) (Nat.le_of_ble_eq_true rfl) (Nat.le_of_ble_eq_true rfl) ?_
  exact t_somK hk (fun hf => t_iret dX6_bindingOfTop_16 rfl rfl ⟨rfl, _, rfl, hf⟩ (Nat.le_of_ble_eq_true rfl) (Nat.le_of_ble_eq_true rfl))

theorem dX6_operationOf_0 : decode cX6_operationOf 0 = .ok (.iload_n 0, 1) := by decide +kernel
theorem dX6_operationOf_1 : decode cX6_operationOf 1 = .ok (.lookupswitch 132 #[(12, 99), (13, 102), (14, 108), (15, 114), (38, 123), (42, 126), (43, 117), (45, 120), (47, 129), (60, 105), (62, 111)], 99) := by decide +kernel
theorem dX6_operationOf_100 : decode cX6_operationOf 100 = .ok (.bipush 26, 2) := by decide +kernel
theorem dX6_operationOf_102 : decode cX6_operationOf 102 = .ok (.ireturn, 1) := by decide +kernel
theorem dX6_operationOf_103 : decode cX6_operationOf 103 = .ok (.bipush 27, 2) := by decide +kernel
theorem dX6_operationOf_105 : decode cX6_operationOf 105 = .ok (.ireturn, 1) := by decide +kernel
theorem dX6_operationOf_106 : decode cX6_operationOf 106 = .ok (.bipush 22, 2) := by decide +kernel
theorem dX6_operationOf_108 : decode cX6_operationOf 108 = .ok (.ireturn, 1) := by decide +kernel
theorem dX6_operationOf_109 : decode cX6_operationOf 109 = .ok (.bipush 23, 2) := by decide +kernel
theorem dX6_operationOf_111 : decode cX6_operationOf 111 = .ok (.ireturn, 1) := by decide +kernel
theorem dX6_operationOf_112 : decode cX6_operationOf 112 = .ok (.bipush 24, 2) := by decide +kernel
theorem dX6_operationOf_114 : decode cX6_operationOf 114 = .ok (.ireturn, 1) := by decide +kernel
theorem dX6_operationOf_115 : decode cX6_operationOf 115 = .ok (.bipush 25, 2) := by decide +kernel
theorem dX6_operationOf_117 : decode cX6_operationOf 117 = .ok (.ireturn, 1) := by decide +kernel
theorem dX6_operationOf_118 : decode cX6_operationOf 118 = .ok (.bipush 16, 2) := by decide +kernel
theorem dX6_operationOf_120 : decode cX6_operationOf 120 = .ok (.ireturn, 1) := by decide +kernel
theorem dX6_operationOf_121 : decode cX6_operationOf 121 = .ok (.bipush 17, 2) := by decide +kernel
theorem dX6_operationOf_123 : decode cX6_operationOf 123 = .ok (.ireturn, 1) := by decide +kernel
theorem dX6_operationOf_124 : decode cX6_operationOf 124 = .ok (.bipush 21, 2) := by decide +kernel
theorem dX6_operationOf_126 : decode cX6_operationOf 126 = .ok (.ireturn, 1) := by decide +kernel
theorem dX6_operationOf_127 : decode cX6_operationOf 127 = .ok (.bipush 18, 2) := by decide +kernel
theorem dX6_operationOf_129 : decode cX6_operationOf 129 = .ok (.ireturn, 1) := by decide +kernel
theorem dX6_operationOf_130 : decode cX6_operationOf 130 = .ok (.bipush 19, 2) := by decide +kernel
theorem dX6_operationOf_132 : decode cX6_operationOf 132 = .ok (.ireturn, 1) := by decide +kernel
theorem dX6_operationOf_133 : decode cX6_operationOf 133 = .ok (.bipush 20, 2) := by decide +kernel
theorem dX6_operationOf_135 : decode cX6_operationOf 135 = .ok (.ireturn, 1) := by decide +kernel
noncomputable def f_X6_operationOf (x1 : Int32) (s : t_S) : Int32 :=
 if x1.toInt = 12 then ((26 : Int32))
 else if x1.toInt = 13 then ((27 : Int32))
 else if x1.toInt = 14 then ((23 : Int32))
 else if x1.toInt = 15 then ((25 : Int32))
 else if x1.toInt = 38 then ((21 : Int32))
 else if x1.toInt = 42 then ((18 : Int32))
 else if x1.toInt = 43 then ((16 : Int32))
 else if x1.toInt = 45 then ((17 : Int32))
 else if x1.toInt = 47 then ((19 : Int32))
 else if x1.toInt = 60 then ((22 : Int32))
 else if x1.toInt = 62 then ((24 : Int32))
 else ((20 : Int32))
set_option maxRecDepth 4000 in
set_option maxHeartbeats 1000000 in
theorem C_X6_operationOf (x1 : Int32) (s : t_S) : t_C yX6_operationOf cX6_operationOf 1 (some .int) 0 [.int x1] s (fun v s' => v = some (.int (f_X6_operationOf x1 s)) ∧ s' = s) := by
  refine t_C.imp (P := fun v s' => s' = s ∧ ∃ x, v = some (.int x) ∧ (fun r => r = f_X6_operationOf x1 s) (x)) (t_C.of (by decide +kernel) (Nat.le_of_ble_eq_true rfl) ?_) (fun v s' hp => by obtain ⟨rfl, x, rfl, rfl⟩ := hp; exact ⟨rfl, rfl⟩)
  intro D cy ad bs X
  have hk : t_ht (f_X6_operationOf x1 s) (fun r => r = f_X6_operationOf x1 s) := rfl
  show mj_G D cy ad bs X cX6_operationOf 1 yX6_operationOf.cls (some .int) yX6_operationOf.name 0 0 0 1065 (t_P (fun v s' => s' = s ∧ ∃ x, v = some (.int x) ∧ (fun r => r = f_X6_operationOf x1 s) (x))) 0 [(0, .int x1)] [] (t_m s) 1065 0 0
  refine mj_iload_n dX6_operationOf_0 0 rfl ?_
  by_cases h0 : x1.toInt = 12
  · replace hk := t_posT hk h0
    refine mj_lookup 100 dX6_operationOf_1 (by decide) (by rw [h0] <;> rfl) (by decide) ?_
    refine mj_bipush (v := 26) dX6_operationOf_100 (by decide) ?_
    exact t_iret dX6_operationOf_102 rfl rfl ⟨rfl, _, rfl, hk⟩ (Nat.le_of_ble_eq_true rfl) (Nat.le_of_ble_eq_true rfl)
  replace hk := t_negT hk h0
  by_cases h1 : x1.toInt = 13
  · replace hk := t_posT hk h1
    refine mj_lookup 103 dX6_operationOf_1 (by decide) (by rw [h1] <;> rfl) (by decide) ?_
    refine mj_bipush (v := 27) dX6_operationOf_103 (by decide) ?_
    exact t_iret dX6_operationOf_105 rfl rfl ⟨rfl, _, rfl, hk⟩ (Nat.le_of_ble_eq_true rfl) (Nat.le_of_ble_eq_true rfl)
  replace hk := t_negT hk h1
  by_cases h2 : x1.toInt = 14
  · replace hk := t_posT hk h2
    refine mj_lookup 109 dX6_operationOf_1 (by decide) (by rw [h2] <;> rfl) (by decide) ?_
    refine mj_bipush (v := 23) dX6_operationOf_109 (by decide) ?_
    exact t_iret dX6_operationOf_111 rfl rfl ⟨rfl, _, rfl, hk⟩ (Nat.le_of_ble_eq_true rfl) (Nat.le_of_ble_eq_true rfl)
  replace hk := t_negT hk h2
  by_cases h3 : x1.toInt = 15
  · replace hk := t_posT hk h3
    refine mj_lookup 115 dX6_operationOf_1 (by decide) (by rw [h3] <;> rfl) (by decide) ?_
    refine mj_bipush (v := 25) dX6_operationOf_115 (by decide) ?_
    exact t_iret dX6_operationOf_117 rfl rfl ⟨rfl, _, rfl, hk⟩ (Nat.le_of_ble_eq_true rfl) (Nat.le_of_ble_eq_true rfl)
  replace hk := t_negT hk h3
  by_cases h4 : x1.toInt = 38
  · replace hk := t_posT hk h4
    refine mj_lookup 124 dX6_operationOf_1 (by decide) (by rw [h4] <;> rfl) (by decide) ?_
    refine mj_bipush (v := 21) dX6_operationOf_124 (by decide) ?_
    exact t_iret dX6_operationOf_126 rfl rfl ⟨rfl, _, rfl, hk⟩ (Nat.le_of_ble_eq_true rfl) (Nat.le_of_ble_eq_true rfl)
  replace hk := t_negT hk h4
  by_cases h5 : x1.toInt = 42
  · replace hk := t_posT hk h5
    refine mj_lookup 127 dX6_operationOf_1 (by decide) (by rw [h5] <;> rfl) (by decide) ?_
    refine mj_bipush (v := 18) dX6_operationOf_127 (by decide) ?_
    exact t_iret dX6_operationOf_129 rfl rfl ⟨rfl, _, rfl, hk⟩ (Nat.le_of_ble_eq_true rfl) (Nat.le_of_ble_eq_true rfl)
  replace hk := t_negT hk h5
  by_cases h6 : x1.toInt = 43
  · replace hk := t_posT hk h6
    refine mj_lookup 118 dX6_operationOf_1 (by decide) (by rw [h6] <;> rfl) (by decide) ?_
    refine mj_bipush (v := 16) dX6_operationOf_118 (by decide) ?_
    exact t_iret dX6_operationOf_120 rfl rfl ⟨rfl, _, rfl, hk⟩ (Nat.le_of_ble_eq_true rfl) (Nat.le_of_ble_eq_true rfl)
  replace hk := t_negT hk h6
  by_cases h7 : x1.toInt = 45
  · replace hk := t_posT hk h7
    refine mj_lookup 121 dX6_operationOf_1 (by decide) (by rw [h7] <;> rfl) (by decide) ?_
    refine mj_bipush (v := 17) dX6_operationOf_121 (by decide) ?_
    exact t_iret dX6_operationOf_123 rfl rfl ⟨rfl, _, rfl, hk⟩ (Nat.le_of_ble_eq_true rfl) (Nat.le_of_ble_eq_true rfl)
  replace hk := t_negT hk h7
  by_cases h8 : x1.toInt = 47
  · replace hk := t_posT hk h8
    refine mj_lookup 130 dX6_operationOf_1 (by decide) (by rw [h8] <;> rfl) (by decide) ?_
    refine mj_bipush (v := 19) dX6_operationOf_130 (by decide) ?_
    exact t_iret dX6_operationOf_132 rfl rfl ⟨rfl, _, rfl, hk⟩ (Nat.le_of_ble_eq_true rfl) (Nat.le_of_ble_eq_true rfl)
  replace hk := t_negT hk h8
  by_cases h9 : x1.toInt = 60
  · replace hk := t_posT hk h9
    refine mj_lookup 106 dX6_operationOf_1 (by decide) (by rw [h9] <;> rfl) (by decide) ?_
    refine mj_bipush (v := 22) dX6_operationOf_106 (by decide) ?_
    exact t_iret dX6_operationOf_108 rfl rfl ⟨rfl, _, rfl, hk⟩ (Nat.le_of_ble_eq_true rfl) (Nat.le_of_ble_eq_true rfl)
  replace hk := t_negT hk h9
  by_cases h10 : x1.toInt = 62
  · replace hk := t_posT hk h10
    refine mj_lookup 112 dX6_operationOf_1 (by decide) (by rw [h10] <;> rfl) (by decide) ?_
    refine mj_bipush (v := 24) dX6_operationOf_112 (by decide) ?_
    exact t_iret dX6_operationOf_114 rfl rfl ⟨rfl, _, rfl, hk⟩ (Nat.le_of_ble_eq_true rfl) (Nat.le_of_ble_eq_true rfl)
  replace hk := t_negT hk h10
  refine mj_lookup 133 dX6_operationOf_1 (by decide) (t_lk0 _ (And.intro h0 (And.intro h1 (And.intro h2 (And.intro h3 (And.intro h4 (And.intro h5 (And.intro h6 (And.intro h7 (And.intro h8 (And.intro h9 (And.intro h10 trivial)))))))))))) (by decide) ?_
  refine mj_bipush (v := 20) dX6_operationOf_133 (by decide) ?_
  exact t_iret dX6_operationOf_135 rfl rfl ⟨rfl, _, rfl, hk⟩ (Nat.le_of_ble_eq_true rfl) (Nat.le_of_ble_eq_true rfl)

theorem dX6_lower_0 : decode cX6_lower 0 = .ok (.aload_n 0, 1) := by decide +kernel
theorem dX6_lower_1 : decode cX6_lower 1 = .ok (.getfield 128, 3) := by decide +kernel
theorem dX6_lower_101 : decode cX6_lower 101 = .ok (.iastore, 1) := by decide +kernel
theorem dX6_lower_102 : decode cX6_lower 102 = .ok (.goto 16, 3) := by decide +kernel
theorem dX6_lower_105 : decode cX6_lower 105 = .ok (.aload_n 0, 1) := by decide +kernel
theorem dX6_lower_106 : decode cX6_lower 106 = .ok (.getfield 43, 3) := by decide +kernel
theorem dX6_lower_109 : decode cX6_lower 109 = .ok (.iload_n 3, 1) := by decide +kernel
theorem dX6_lower_110 : decode cX6_lower 110 = .ok (.invokestatic 482, 3) := by decide +kernel
theorem dX6_lower_113 : decode cX6_lower 113 = .ok (.iconst 0, 1) := by decide +kernel
theorem dX6_lower_114 : decode cX6_lower 114 = .ok (.invokevirtual 202, 3) := by decide +kernel
theorem dX6_lower_117 : decode cX6_lower 117 = .ok (.pop, 1) := by decide +kernel
theorem dX6_lower_118 : decode cX6_lower 118 = .ok (.goto (-118), 3) := by decide +kernel
theorem dX6_lower_12 : decode cX6_lower 12 = .ok (.iload_n 2, 1) := by decide +kernel
theorem dX6_lower_121 : decode cX6_lower 121 = .ok (.return_, 1) := by decide +kernel
theorem dX6_lower_13 : decode cX6_lower 13 = .ok (.if_icmp .gt 16, 3) := by decide +kernel
theorem dX6_lower_16 : decode cX6_lower 16 = .ok (.aload_n 0, 1) := by decide +kernel
theorem dX6_lower_17 : decode cX6_lower 17 = .ok (.invokevirtual 470, 3) := by decide +kernel
theorem dX6_lower_20 : decode cX6_lower 20 = .ok (.iload_n 2, 1) := by decide +kernel
theorem dX6_lower_21 : decode cX6_lower 21 = .ok (.if_icmp .ne 100, 3) := by decide +kernel
theorem dX6_lower_24 : decode cX6_lower 24 = .ok (.iload_n 2, 1) := by decide +kernel
theorem dX6_lower_25 : decode cX6_lower 25 = .ok (.iconst 3, 1) := by decide +kernel
theorem dX6_lower_26 : decode cX6_lower 26 = .ok (.if_icmp .eq 95, 3) := by decide +kernel
theorem dX6_lower_29 : decode cX6_lower 29 = .ok (.aload_n 0, 1) := by decide +kernel
theorem dX6_lower_30 : decode cX6_lower 30 = .ok (.dup, 1) := by decide +kernel
theorem dX6_lower_31 : decode cX6_lower 31 = .ok (.getfield 128, 3) := by decide +kernel
theorem dX6_lower_34 : decode cX6_lower 34 = .ok (.iconst 1, 1) := by decide +kernel
theorem dX6_lower_35 : decode cX6_lower 35 = .ok (.isub, 1) := by decide +kernel
theorem dX6_lower_36 : decode cX6_lower 36 = .ok (.putfield 128, 3) := by decide +kernel
theorem dX6_lower_39 : decode cX6_lower 39 = .ok (.aload_n 0, 1) := by decide +kernel
theorem dX6_lower_4 : decode cX6_lower 4 = .ok (.iload_n 1, 1) := by decide +kernel
theorem dX6_lower_40 : decode cX6_lower 40 = .ok (.getfield 11, 3) := by decide +kernel
theorem dX6_lower_43 : decode cX6_lower 43 = .ok (.iconst 2, 1) := by decide +kernel
theorem dX6_lower_44 : decode cX6_lower 44 = .ok (.aload_n 0, 1) := by decide +kernel
theorem dX6_lower_45 : decode cX6_lower 45 = .ok (.getfield 128, 3) := by decide +kernel
theorem dX6_lower_48 : decode cX6_lower 48 = .ok (.imul, 1) := by decide +kernel
theorem dX6_lower_49 : decode cX6_lower 49 = .ok (.iaload, 1) := by decide +kernel
theorem dX6_lower_5 : decode cX6_lower 5 = .ok (.if_icmp .le 116, 3) := by decide +kernel
theorem dX6_lower_50 : decode cX6_lower 50 = .ok (.istore_n 3, 1) := by decide +kernel
theorem dX6_lower_51 : decode cX6_lower 51 = .ok (.iload_n 3, 1) := by decide +kernel
theorem dX6_lower_52 : decode cX6_lower 52 = .ok (.bipush 16, 2) := by decide +kernel
theorem dX6_lower_54 : decode cX6_lower 54 = .ok (.if_icmp .eq 9, 3) := by decide +kernel
theorem dX6_lower_57 : decode cX6_lower 57 = .ok (.iload_n 3, 1) := by decide +kernel
theorem dX6_lower_58 : decode cX6_lower 58 = .ok (.bipush 17, 2) := by decide +kernel
theorem dX6_lower_60 : decode cX6_lower 60 = .ok (.if_icmp .ne 45, 3) := by decide +kernel
theorem dX6_lower_63 : decode cX6_lower 63 = .ok (.aload_n 0, 1) := by decide +kernel
theorem dX6_lower_64 : decode cX6_lower 64 = .ok (.getfield 43, 3) := by decide +kernel
theorem dX6_lower_67 : decode cX6_lower 67 = .ok (.bipush 30, 2) := by decide +kernel
theorem dX6_lower_69 : decode cX6_lower 69 = .ok (.iconst 0, 1) := by decide +kernel
theorem dX6_lower_70 : decode cX6_lower 70 = .ok (.invokevirtual 202, 3) := by decide +kernel
theorem dX6_lower_73 : decode cX6_lower 73 = .ok (.pop, 1) := by decide +kernel
theorem dX6_lower_74 : decode cX6_lower 74 = .ok (.aload_n 0, 1) := by decide +kernel
theorem dX6_lower_75 : decode cX6_lower 75 = .ok (.getfield 43, 3) := by decide +kernel
theorem dX6_lower_78 : decode cX6_lower 78 = .ok (.getfield 479, 3) := by decide +kernel
theorem dX6_lower_8 : decode cX6_lower 8 = .ok (.aload_n 0, 1) := by decide +kernel
theorem dX6_lower_81 : decode cX6_lower 81 = .ok (.aload_n 0, 1) := by decide +kernel
theorem dX6_lower_82 : decode cX6_lower 82 = .ok (.getfield 11, 3) := by decide +kernel
theorem dX6_lower_85 : decode cX6_lower 85 = .ok (.iconst 2, 1) := by decide +kernel
theorem dX6_lower_86 : decode cX6_lower 86 = .ok (.aload_n 0, 1) := by decide +kernel
theorem dX6_lower_87 : decode cX6_lower 87 = .ok (.getfield 128, 3) := by decide +kernel
theorem dX6_lower_9 : decode cX6_lower 9 = .ok (.invokevirtual 470, 3) := by decide +kernel
theorem dX6_lower_90 : decode cX6_lower 90 = .ok (.imul, 1) := by decide +kernel
theorem dX6_lower_91 : decode cX6_lower 91 = .ok (.iconst 1, 1) := by decide +kernel
theorem dX6_lower_92 : decode cX6_lower 92 = .ok (.iadd, 1) := by decide +kernel
theorem dX6_lower_93 : decode cX6_lower 93 = .ok (.iaload, 1) := by decide +kernel
theorem dX6_lower_94 : decode cX6_lower 94 = .ok (.aload_n 0, 1) := by decide +kernel
theorem dX6_lower_95 : decode cX6_lower 95 = .ok (.getfield 43, 3) := by decide +kernel
theorem dX6_lower_98 : decode cX6_lower 98 = .ok (.getfield 64, 3) := by decide +kernel
noncomputable def k_X6_lower_63 (l1 : Int32) (l2 : Int32) (s : t_S) : Option ((Int32 × Int32 × t_S) ⊕ (t_S)) :=
 (f_X0_emit (30 : Int32) (0 : Int32) s).bind (fun r1 =>
 if t_ix (((2 : Int32) * (r1.2.1 845 7)) + (1 : Int32)) 6004 = true then
  if t_ix (r1.2.1 854 ((((2 : Int32) * (r1.2.1 845 7)) + (1 : Int32)).toNatClampNeg)) 16000 = true then
  t_let (t_setI r1.2 336 ((r1.2.1 854 ((((2 : Int32) * (r1.2.1 845 7)) + (1 : Int32)).toNatClampNeg)).toNatClampNeg) (r1.2.1 334 2)) (fun s1 =>
 some (.inl (l1, l2, s1)))
else none
else none)
set_option maxRecDepth 4000 in
set_option maxHeartbeats 1000000 in
theorem B_X6_lower_63 {D : va_G} {cy : Nat → ClassId} {ad : Nat → Nat} {bs : Nat} {X : State → Heap → Prop} (l1 : Int32) (l2 : Int32) (s : t_S) (Q : (Int32 × Int32 × t_S) ⊕ (t_S) → Prop) (Hb0 : ∀ (y0 : Int32) (y1 : Int32) (y2 : t_S), Q (.inl (y0, y1, y2)) → mj_G D cy ad bs X cX6_lower 4 yX6_lower.cls none yX6_lower.name 2 0 0 1065 (t_P (fun v s' => v = none ∧ Q (.inr (s')))) 0 [(0, .ref 845), (1, .int (y0)), (2, .int (y1))] [] (t_m y2) 1065 0 0) (hk : t_hk (k_X6_lower_63 l1 l2 s) Q) : mj_G D cy ad bs X cX6_lower 4 yX6_lower.cls none yX6_lower.name 2 0 0 1065 (t_P (fun v s' => v = none ∧ Q (.inr (s')))) 63 [(0, .ref 845), (1, .int l1), (2, .int l2)] [] (t_m s) 1065 0 0 := by
  refine mj_aload_n dX6_lower_63 0 rfl ?_
  refine t_getR 334 dX6_lower_64 F_X6_43 qr_845_3 ?_
  refine mj_bipush (v := 30) dX6_lower_67 (by decide) ?_
  refine mj_iconst (v := 0) dX6_lower_69 (by decide) ?_
  refine t_bndK hk (fun r1 er1 hk => ?_)
  refine t_callViE dX6_lower_70 M_X0_emit (C_X0_emit _ _ _ _ er1) ML_X6_202 IM_X0_emit SE_X0_emit qc_334 rfl (As := [.int 30, .int 0]) rfl rfl (Nat.le_of_ble_eq_true rfl) (Nat.le_of_ble_eq_true rfl) (Nat.le_of_ble_eq_true rfl) (Nat.le_of_ble_eq_true rfl) ?_
  refine mj_pop dX6_lower_73 rfl ?_
  refine mj_aload_n dX6_lower_74 0 rfl ?_
  refine t_getR 334 dX6_lower_75 F_X6_43 qr_845_3 ?_
  refine t_getR 336 dX6_lower_78 F_X6_479 qr_334_1 ?_
  refine mj_aload_n dX6_lower_81 0 rfl ?_
  refine t_getR 854 dX6_lower_82 F_X6_11 qr_845_6 ?_
  refine mj_iconst (v := 2) dX6_lower_85 (by decide) ?_
  refine mj_aload_n dX6_lower_86 0 rfl ?_
  refine t_getI dX6_lower_87 F_X6_128 qf_845_7 ?_
  refine mj_imul dX6_lower_90 ?_
  refine mj_iconst (v := 1) dX6_lower_91 (by decide) ?_
  refine mj_iadd dX6_lower_92 ?_
  refine t_chkK hk (fun c1 hk => ?_)
  refine t_iald dX6_lower_93 qa_854 (t_ixv c1) ?_
  refine mj_aload_n dX6_lower_94 0 rfl ?_
  refine t_getR 334 dX6_lower_95 F_X6_43 qr_845_3 ?_
  refine t_getI dX6_lower_98 F_X6_64 qf_334_2 ?_
  refine t_chkK hk (fun c2 hk => ?_)
  refine t_iastK dX6_lower_101 qa_336 (t_ixv c2) (fun s1 ws1 => t_letE hk ws1 (fun hk => ?_))
  refine mj_goto 118 dX6_lower_102 (by decide) ?_
  refine mj_goto 0 dX6_lower_118 (by decide) ?_
  exact t_somK hk (fun hf => Hb0 l1 l2 s1 hf)
noncomputable def k_X6_lower_29 (l1 : Int32) (l2 : Int32) (s : t_S) : Option ((Int32 × Int32 × t_S) ⊕ (t_S)) :=
 t_let (t_setI s 845 7 ((s.1 845 7) - (1 : Int32))) (fun s1 =>
 if t_ix ((2 : Int32) * (s1.1 845 7)) 6004 = true then
  if (s1.1 854 (((2 : Int32) * (s1.1 845 7)).toNatClampNeg)) = (16 : Int32) then (k_X6_lower_63 l1 l2 s1)
 else (if (s1.1 854 (((2 : Int32) * (s1.1 845 7)).toNatClampNeg)) = (17 : Int32) then (k_X6_lower_63 l1 l2 s1)
 else ((f_X0_emit (f_X6_operationOf (s1.1 854 (((2 : Int32) * (s1.1 845 7)).toNatClampNeg)) s1) (0 : Int32) s1).bind (fun r3 =>
 some (.inl (l1, l2, r3.2)))))
else none)
set_option maxRecDepth 4000 in
set_option maxHeartbeats 1000000 in
theorem B_X6_lower_29 {D : va_G} {cy : Nat → ClassId} {ad : Nat → Nat} {bs : Nat} {X : State → Heap → Prop} (l1 : Int32) (l2 : Int32) (s : t_S) (Q : (Int32 × Int32 × t_S) ⊕ (t_S) → Prop) (Hb0 : ∀ (y0 : Int32) (y1 : Int32) (y2 : t_S), Q (.inl (y0, y1, y2)) → mj_G D cy ad bs X cX6_lower 4 yX6_lower.cls none yX6_lower.name 2 0 0 1065 (t_P (fun v s' => v = none ∧ Q (.inr (s')))) 0 [(0, .ref 845), (1, .int (y0)), (2, .int (y1))] [] (t_m y2) 1065 0 0) (hk : t_hk (k_X6_lower_29 l1 l2 s) Q) : mj_G D cy ad bs X cX6_lower 4 yX6_lower.cls none yX6_lower.name 2 0 0 1065 (t_P (fun v s' => v = none ∧ Q (.inr (s')))) 29 [(0, .ref 845), (1, .int l1), (2, .int l2)] [] (t_m s) 1065 0 0 := by
  refine mj_aload_n dX6_lower_29 0 rfl ?_
  refine mj_dup dX6_lower_30 rfl ?_
  refine t_getI dX6_lower_31 F_X6_128 qf_845_7 ?_
  refine mj_iconst (v := 1) dX6_lower_34 (by decide) ?_
  refine mj_isub dX6_lower_35 ?_
  refine t_putIK dX6_lower_36 F_X6_128 qf_845_7 rfl (fun s1 ws1 => t_letE hk ws1 (fun hk => ?_))
  refine mj_aload_n dX6_lower_39 0 rfl ?_
  refine t_getR 854 dX6_lower_40 F_X6_11 qr_845_6 ?_
  refine mj_iconst (v := 2) dX6_lower_43 (by decide) ?_
  refine mj_aload_n dX6_lower_44 0 rfl ?_
  refine t_getI dX6_lower_45 F_X6_128 qf_845_7 ?_
  refine mj_imul dX6_lower_48 ?_
  refine t_chkK hk (fun c0 hk => ?_)
  refine t_iald dX6_lower_49 qa_854 (t_ixv c0) ?_
  refine mj_istore_n 3 (lv2 := [(3, .int (s1.1 854 (((2 : Int32) * (s1.1 845 7)).toNatClampNeg))), (0, .ref 845), (1, .int l1), (2, .int l2)]) dX6_lower_50 rfl (by decide) rfl ?_
  refine mj_iload_n dX6_lower_51 0 rfl ?_
  refine mj_bipush (v := 16) dX6_lower_52 (by decide) ?_
  refine mj_icmp_eq 63 dX6_lower_54 (by decide) (fun z => t_posK hk z (fun hk => ?_)) (fun z => t_negK hk z (fun hk => ?_))
  · refine mj_sublv [(0, .ref 845), (1, .int l1), (2, .int l2)] [1, 2, 3] rfl ?_
    exact B_X6_lower_63 _ _ _ _ (fun y0 y1 y2 hx => Hb0 y0 y1 y2 hx) hk
  · refine mj_iload_n dX6_lower_57 0 rfl ?_
    refine mj_bipush (v := 17) dX6_lower_58 (by decide) ?_
    refine mj_icmp_ne 105 dX6_lower_60 (by decide) (fun z => t_negK hk z (fun hk => ?_)) (fun z => t_posK hk z (fun hk => ?_))
    · refine mj_aload_n dX6_lower_105 1 rfl ?_
      refine t_getR 334 dX6_lower_106 F_X6_43 qr_845_3 ?_
      refine mj_iload_n dX6_lower_109 0 rfl ?_
      refine t_callSiP dX6_lower_110 M_X6_operationOf (C_X6_operationOf _ _) ML_X6_482 SM_X6_operationOf (As := [.int (s1.1 854 (((2 : Int32) * (s1.1 845 7)).toNatClampNeg))]) rfl rfl (Nat.le_of_ble_eq_true rfl) (Nat.le_of_ble_eq_true rfl) (Nat.le_of_ble_eq_true rfl) (Nat.le_of_ble_eq_true rfl) ?_
      refine mj_iconst (v := 0) dX6_lower_113 (by decide) ?_
      refine t_bndK hk (fun r3 er3 hk => ?_)
      refine t_callViE dX6_lower_114 M_X0_emit (C_X0_emit _ _ _ _ er3) ML_X6_202 IM_X0_emit SE_X0_emit qc_334 rfl (As := [.int (f_X6_operationOf (s1.1 854 (((2 : Int32) * (s1.1 845 7)).toNatClampNeg)) s1), .int 0]) rfl rfl (Nat.le_of_ble_eq_true rfl) (Nat.le_of_ble_eq_true rfl) (Nat.le_of_ble_eq_true rfl) (Nat.le_of_ble_eq_true rfl) ?_
      refine mj_pop dX6_lower_117 rfl ?_
      refine mj_goto 0 dX6_lower_118 (by decide) ?_
      refine mj_sublv [(0, .ref 845), (1, .int l1), (2, .int l2)] [1, 2, 3] rfl ?_
      exact t_somK hk (fun hf => Hb0 l1 l2 r3.2 hf)
    · refine mj_sublv [(0, .ref 845), (1, .int l1), (2, .int l2)] [1, 2, 3] rfl ?_
      exact B_X6_lower_63 _ _ _ _ (fun y0 y1 y2 hx => Hb0 y0 y1 y2 hx) hk
noncomputable def k_X6_lower_0 (l1 : Int32) (l2 : Int32) (s : t_S) : Option ((Int32 × Int32 × t_S) ⊕ (t_S)) :=
 if (s.1 845 7) ≤ l1 then ((some (s)).map Sum.inr)
 else ((f_X6_bindingOfTop s).bind (fun r1 =>
 if l2 < r1 then (k_X6_lower_29 l1 l2 s)
 else ((f_X6_bindingOfTop s).bind (fun r2 =>
 if r2 = l2 then (if l2 = (3 : Int32) then ((some (s)).map Sum.inr)
 else (k_X6_lower_29 l1 l2 s))
 else ((some (s)).map Sum.inr)))))
set_option maxRecDepth 4000 in
set_option maxHeartbeats 1000000 in
theorem B_X6_lower_0 {D : va_G} {cy : Nat → ClassId} {ad : Nat → Nat} {bs : Nat} {X : State → Heap → Prop} (l1 : Int32) (l2 : Int32) (s : t_S) (Q : (Int32 × Int32 × t_S) ⊕ (t_S) → Prop) (Hb0 : ∀ (y0 : Int32) (y1 : Int32) (y2 : t_S), Q (.inl (y0, y1, y2)) → mj_G D cy ad bs X cX6_lower 4 yX6_lower.cls none yX6_lower.name 2 0 0 1065 (t_P (fun v s' => v = none ∧ Q (.inr (s')))) 0 [(0, .ref 845), (1, .int (y0)), (2, .int (y1))] [] (t_m y2) 1065 0 0) (hk : t_hk (k_X6_lower_0 l1 l2 s) Q) : mj_G D cy ad bs X cX6_lower 4 yX6_lower.cls none yX6_lower.name 2 0 0 1065 (t_P (fun v s' => v = none ∧ Q (.inr (s')))) 0 [(0, .ref 845), (1, .int l1), (2, .int l2)] [] (t_m s) 1065 0 0 := by
  refine mj_aload_n dX6_lower_0 0 rfl ?_
  refine t_getI dX6_lower_1 F_X6_128 qf_845_7 ?_
  refine mj_iload_n dX6_lower_4 1 rfl ?_
  refine mj_icmp_le 121 dX6_lower_5 (by decide) (fun z => t_posK hk z (fun hk => ?_)) (fun z => t_negK hk z (fun hk => ?_))
  · refine t_mapK hk (fun hk => ?_)
    exact t_somK hk (fun hf => t_vret dX6_lower_121 rfl ⟨rfl, hf⟩ (Nat.le_of_ble_eq_true rfl) (Nat.le_of_ble_eq_true rfl))
  · refine mj_aload_n dX6_lower_8 0 rfl ?_
    refine t_bndK hk (fun r1 er1 hk => ?_)
    refine t_callViP dX6_lower_9 M_X6_bindingOfTop (C_X6_bindingOfTop _ _ er1) ML_X6_470 IM_X6_bindingOfTop SE_X6_bindingOfTop qc_845 rfl (As := []) rfl rfl (Nat.le_of_ble_eq_true rfl) (Nat.le_of_ble_eq_true rfl) (Nat.le_of_ble_eq_true rfl) (Nat.le_of_ble_eq_true rfl) ?_
    refine mj_iload_n dX6_lower_12 2 rfl ?_
    refine mj_icmp_gt 29 dX6_lower_13 (by decide) (fun z => t_posK hk z (fun hk => ?_)) (fun z => t_negK hk z (fun hk => ?_))
    · exact B_X6_lower_29 _ _ _ _ (fun y0 y1 y2 hx => Hb0 y0 y1 y2 hx) hk
    · refine mj_aload_n dX6_lower_16 0 rfl ?_
      refine t_bndK hk (fun r2 er2 hk => ?_)
      refine t_callViP dX6_lower_17 M_X6_bindingOfTop (C_X6_bindingOfTop _ _ er2) ML_X6_470 IM_X6_bindingOfTop SE_X6_bindingOfTop qc_845 rfl (As := []) rfl rfl (Nat.le_of_ble_eq_true rfl) (Nat.le_of_ble_eq_true rfl) (Nat.le_of_ble_eq_true rfl) (Nat.le_of_ble_eq_true rfl) ?_
      refine mj_iload_n dX6_lower_20 2 rfl ?_
      refine mj_icmp_ne 121 dX6_lower_21 (by decide) (fun z => t_negK hk z (fun hk => ?_)) (fun z => t_posK hk z (fun hk => ?_))
      · refine t_mapK hk (fun hk => ?_)
        exact t_somK hk (fun hf => t_vret dX6_lower_121 rfl ⟨rfl, hf⟩ (Nat.le_of_ble_eq_true rfl) (Nat.le_of_ble_eq_true rfl))
      · refine mj_iload_n dX6_lower_24 2 rfl ?_
        refine mj_iconst (v := 3) dX6_lower_25 (by decide) ?_
        refine mj_icmp_eq 121 dX6_lower_26 (by decide) (fun z => t_posK hk z (fun hk => ?_)) (fun z => t_negK hk z (fun hk => ?_))
        · refine t_mapK hk (fun hk => ?_)
          exact t_somK hk (fun hf => t_vret dX6_lower_121 rfl ⟨rfl, hf⟩ (Nat.le_of_ble_eq_true rfl) (Nat.le_of_ble_eq_true rfl))
        · exact B_X6_lower_29 _ _ _ _ (fun y0 y1 y2 hx => Hb0 y0 y1 y2 hx) hk
noncomputable def b_X6_lower_0 (x : Int32 × Int32 × t_S) : Option ((Int32 × Int32 × t_S) ⊕ (t_S)) := k_X6_lower_0 x.1 x.2.1 x.2.2
set_option maxRecDepth 4000 in
set_option maxHeartbeats 1000000 in
theorem LH_X6_lower_0 {D : va_G} {cy : Nat → ClassId} {ad : Nat → Nat} {bs : Nat} {X : State → Heap → Prop} : ∀ (n : Nat) (y0 : Int32) (y1 : Int32) (y2 : t_S) (Q : t_S → Prop) (hk : t_hk (t_loop (b_X6_lower_0) n (y0, y1, y2)) Q), mj_G D cy ad bs X cX6_lower 4 yX6_lower.cls none yX6_lower.name 2 0 0 1065 (t_P (fun v s' => v = none ∧ Q (s'))) 0 [(0, .ref 845), (1, .int (y0)), (2, .int (y1))] [] (t_m y2) 1065 0 0 := by
  intro n
  induction n with
  | zero => intro y0 y1 y2 Q hk; obtain ⟨r, hr, _⟩ := hk; cases hr
  | succ n ih =>
    intro y0 y1 y2 Q hk
    exact B_X6_lower_0 y0 y1 y2 (fun y => t_lq (b_X6_lower_0) n Q y) (fun y0' y1' y2' hy => ih y0' y1' y2' Q hy) (t_lp hk)
noncomputable def f_X6_lower (x1 : Int32) (x2 : Int32) (s : t_S) : Option (t_S) :=
 t_loop (b_X6_lower_0) t_N (x1, x2, s)
set_option maxRecDepth 4000 in
set_option maxHeartbeats 1000000 in
theorem C_X6_lower (x1 : Int32) (x2 : Int32) (s : t_S) (r : t_S) (hr : f_X6_lower x1 x2 s = some r) : t_C yX6_lower cX6_lower 4 none 2 [.ref 845, .int x1, .int x2] s (fun v s' => v = none ∧ s' = r) := by
  refine t_C.imp (P := fun v s' => v = none ∧ (fun q => q = r) (s')) (t_C.of (by decide +kernel) (Nat.le_of_ble_eq_true rfl) ?_) (fun v s' hp => hp)
  intro D cy ad bs X
  have hk : t_hk (f_X6_lower x1 x2 s) (fun q => q = r) := ⟨r, hr, rfl⟩
  show mj_G D cy ad bs X cX6_lower 4 yX6_lower.cls none yX6_lower.name 2 0 0 1065 (t_P (fun v s' => v = none ∧ (fun q => q = r) (s'))) 0 [(0, .ref 845), (1, .int x1), (2, .int x2)] [] (t_m s) 1065 0 0
  exact LH_X6_lower_0 _ x1 x2 s _ hk

theorem dX6_node_0 : decode cX6_node 0 = .ok (.aload_n 0, 1) := by decide +kernel
theorem dX6_node_1 : decode cX6_node 1 = .ok (.getfield 106, 3) := by decide +kernel
theorem dX6_node_10 : decode cX6_node 10 = .ok (.aload_n 0, 1) := by decide +kernel
theorem dX6_node_11 : decode cX6_node 11 = .ok (.getfield 28, 3) := by decide +kernel
theorem dX6_node_14 : decode cX6_node 14 = .ok (.iconst 5, 1) := by decide +kernel
theorem dX6_node_15 : decode cX6_node 15 = .ok (.invokevirtual 100, 3) := by decide +kernel
theorem dX6_node_18 : decode cX6_node 18 = .ok (.goto 13, 3) := by decide +kernel
theorem dX6_node_21 : decode cX6_node 21 = .ok (.aload_n 0, 1) := by decide +kernel
theorem dX6_node_22 : decode cX6_node 22 = .ok (.dup, 1) := by decide +kernel
theorem dX6_node_23 : decode cX6_node 23 = .ok (.getfield 106, 3) := by decide +kernel
theorem dX6_node_26 : decode cX6_node 26 = .ok (.iconst 1, 1) := by decide +kernel
theorem dX6_node_27 : decode cX6_node 27 = .ok (.iadd, 1) := by decide +kernel
theorem dX6_node_28 : decode cX6_node 28 = .ok (.putfield 106, 3) := by decide +kernel
theorem dX6_node_31 : decode cX6_node 31 = .ok (.return_, 1) := by decide +kernel
theorem dX6_node_4 : decode cX6_node 4 = .ok (.sipush 3000, 3) := by decide +kernel
theorem dX6_node_7 : decode cX6_node 7 = .ok (.if_icmp .lt 14, 3) := by decide +kernel
noncomputable def f_X6_node (s : t_S) : Option (t_S) :=
 if (s.1 845 10) < (3000 : Int32) then (t_let (t_setI s 845 10 ((s.1 845 10) + (1 : Int32))) (fun s1 =>
 some (s1)))
 else ((f_X2_fail (5 : Int32) s).bind (fun r1 =>
 some (r1)))
set_option maxRecDepth 4000 in
set_option maxHeartbeats 1000000 in
theorem C_X6_node (s : t_S) (r : t_S) (hr : f_X6_node s = some r) : t_C yX6_node cX6_node 1 none 1 [.ref 845] s (fun v s' => v = none ∧ s' = r) := by
  refine t_C.imp (P := fun v s' => v = none ∧ (fun q => q = r) (s')) (t_C.of (by decide +kernel) (Nat.le_of_ble_eq_true rfl) ?_) (fun v s' hp => hp)
  intro D cy ad bs X
  have hk : t_hk (f_X6_node s) (fun q => q = r) := ⟨r, hr, rfl⟩
  show mj_G D cy ad bs X cX6_node 1 yX6_node.cls none yX6_node.name 1 0 0 1065 (t_P (fun v s' => v = none ∧ (fun q => q = r) (s'))) 0 [(0, .ref 845)] [] (t_m s) 1065 0 0
  refine mj_aload_n dX6_node_0 0 rfl ?_
  refine t_getI dX6_node_1 F_X6_106 qf_845_10 ?_
  refine mj_sipush (v := 3000) dX6_node_4 (by decide) ?_
  refine mj_icmp_lt 21 dX6_node_7 (by decide) (fun z => t_posK hk z (fun hk => ?_)) (fun z => t_negK hk z (fun hk => ?_))
  · refine mj_aload_n dX6_node_21 0 rfl ?_
    refine mj_dup dX6_node_22 rfl ?_
    refine t_getI dX6_node_23 F_X6_106 qf_845_10 ?_
    refine mj_iconst (v := 1) dX6_node_26 (by decide) ?_
    refine mj_iadd dX6_node_27 ?_
    refine t_putIK dX6_node_28 F_X6_106 qf_845_10 rfl (fun s1 ws1 => t_letE hk ws1 (fun hk => ?_))
    exact t_somK hk (fun hf => t_vret dX6_node_31 rfl ⟨rfl, hf⟩ (Nat.le_of_ble_eq_true rfl) (Nat.le_of_ble_eq_true rfl))
  · refine mj_aload_n dX6_node_10 0 rfl ?_
    refine t_getR 1 dX6_node_11 F_X6_28 qr_845_0 ?_
    refine mj_iconst (v := 5) dX6_node_14 (by decide) ?_
    refine t_bndK hk (fun r1 er1 hk => ?_)
    refine t_callVvE dX6_node_15 M_X2_fail (C_X2_fail _ _ _ er1) ML_X6_100 IM_X2_fail SE_X2_fail qc_1 rfl (As := [.int 5]) rfl rfl (Nat.le_of_ble_eq_true rfl) (Nat.le_of_ble_eq_true rfl) (Nat.le_of_ble_eq_true rfl) (Nat.le_of_ble_eq_true rfl) ?_
    refine mj_goto 31 dX6_node_18 (by decide) ?_
    exact t_somK hk (fun hf => t_vret dX6_node_31 rfl ⟨rfl, hf⟩ (Nat.le_of_ble_eq_true rfl) (Nat.le_of_ble_eq_true rfl))

