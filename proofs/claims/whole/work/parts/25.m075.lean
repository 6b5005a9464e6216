/-! Methods as functions, 75: X13_varLine, X13_simple -/
theorem dX13_varLine_0 : decode cX13_varLine 0 = .ok (.aload_n 0, 1) := by decide +kernel
theorem dX13_varLine_1 : decode cX13_varLine 1 = .ok (.getfield 584, 3) := by decide +kernel
theorem dX13_varLine_10 : decode cX13_varLine 10 = .ok (.getfield 144, 3) := by decide +kernel
theorem dX13_varLine_102 : decode cX13_varLine 102 = .ok (.iastore, 1) := by decide +kernel
theorem dX13_varLine_103 : decode cX13_varLine 103 = .ok (.aload_n 0, 1) := by decide +kernel
theorem dX13_varLine_104 : decode cX13_varLine 104 = .ok (.aload_n 0, 1) := by decide +kernel
theorem dX13_varLine_105 : decode cX13_varLine 105 = .ok (.getfield 120, 3) := by decide +kernel
theorem dX13_varLine_108 : decode cX13_varLine 108 = .ok (.iload_n 2, 1) := by decide +kernel
theorem dX13_varLine_109 : decode cX13_varLine 109 = .ok (.iaload, 1) := by decide +kernel
theorem dX13_varLine_110 : decode cX13_varLine 110 = .ok (.putfield 621, 3) := by decide +kernel
theorem dX13_varLine_113 : decode cX13_varLine 113 = .ok (.return_, 1) := by decide +kernel
theorem dX13_varLine_13 : decode cX13_varLine 13 = .ok (.iload_n 1, 1) := by decide +kernel
theorem dX13_varLine_14 : decode cX13_varLine 14 = .ok (.aload_n 0, 1) := by decide +kernel
theorem dX13_varLine_15 : decode cX13_varLine 15 = .ok (.getfield 391, 3) := by decide +kernel
theorem dX13_varLine_18 : decode cX13_varLine 18 = .ok (.iastore, 1) := by decide +kernel
theorem dX13_varLine_19 : decode cX13_varLine 19 = .ok (.aload_n 0, 1) := by decide +kernel
theorem dX13_varLine_20 : decode cX13_varLine 20 = .ok (.getfield 385, 3) := by decide +kernel
theorem dX13_varLine_23 : decode cX13_varLine 23 = .ok (.iconst 1, 1) := by decide +kernel
theorem dX13_varLine_24 : decode cX13_varLine 24 = .ok (.if_icmp .ne 24, 3) := by decide +kernel
theorem dX13_varLine_27 : decode cX13_varLine 27 = .ok (.aload_n 0, 1) := by decide +kernel
theorem dX13_varLine_28 : decode cX13_varLine 28 = .ok (.getfield 397, 3) := by decide +kernel
theorem dX13_varLine_31 : decode cX13_varLine 31 = .ok (.ifCond .ge 17, 3) := by decide +kernel
theorem dX13_varLine_34 : decode cX13_varLine 34 = .ok (.aload_n 0, 1) := by decide +kernel
theorem dX13_varLine_35 : decode cX13_varLine 35 = .ok (.getfield 375, 3) := by decide +kernel
theorem dX13_varLine_38 : decode cX13_varLine 38 = .ok (.ifCond .ne 10, 3) := by decide +kernel
theorem dX13_varLine_4 : decode cX13_varLine 4 = .ok (.sipush 2000, 3) := by decide +kernel
theorem dX13_varLine_41 : decode cX13_varLine 41 = .ok (.aload_n 0, 1) := by decide +kernel
theorem dX13_varLine_42 : decode cX13_varLine 42 = .ok (.invokevirtual 468, 3) := by decide +kernel
theorem dX13_varLine_45 : decode cX13_varLine 45 = .ok (.goto 4, 3) := by decide +kernel
theorem dX13_varLine_48 : decode cX13_varLine 48 = .ok (.iconst (-1), 1) := by decide +kernel
theorem dX13_varLine_49 : decode cX13_varLine 49 = .ok (.istore_n 3, 1) := by decide +kernel
theorem dX13_varLine_50 : decode cX13_varLine 50 = .ok (.aload_n 0, 1) := by decide +kernel
theorem dX13_varLine_51 : decode cX13_varLine 51 = .ok (.iload_n 2, 1) := by decide +kernel
theorem dX13_varLine_52 : decode cX13_varLine 52 = .ok (.invokevirtual 730, 3) := by decide +kernel
theorem dX13_varLine_55 : decode cX13_varLine 55 = .ok (.aload_n 0, 1) := by decide +kernel
theorem dX13_varLine_56 : decode cX13_varLine 56 = .ok (.getfield 141, 3) := by decide +kernel
theorem dX13_varLine_59 : decode cX13_varLine 59 = .ok (.iload_n 1, 1) := by decide +kernel
theorem dX13_varLine_60 : decode cX13_varLine 60 = .ok (.iload_n 3, 1) := by decide +kernel
theorem dX13_varLine_61 : decode cX13_varLine 61 = .ok (.iastore, 1) := by decide +kernel
theorem dX13_varLine_62 : decode cX13_varLine 62 = .ok (.aload_n 0, 1) := by decide +kernel
theorem dX13_varLine_63 : decode cX13_varLine 63 = .ok (.invokevirtual 714, 3) := by decide +kernel
theorem dX13_varLine_66 : decode cX13_varLine 66 = .ok (.aload_n 0, 1) := by decide +kernel
theorem dX13_varLine_67 : decode cX13_varLine 67 = .ok (.getfield 135, 3) := by decide +kernel
theorem dX13_varLine_7 : decode cX13_varLine 7 = .ok (.isub, 1) := by decide +kernel
theorem dX13_varLine_70 : decode cX13_varLine 70 = .ok (.iload_n 1, 1) := by decide +kernel
theorem dX13_varLine_71 : decode cX13_varLine 71 = .ok (.aload_n 0, 1) := by decide +kernel
theorem dX13_varLine_72 : decode cX13_varLine 72 = .ok (.getfield 708, 3) := by decide +kernel
theorem dX13_varLine_75 : decode cX13_varLine 75 = .ok (.iastore, 1) := by decide +kernel
theorem dX13_varLine_76 : decode cX13_varLine 76 = .ok (.aload_n 0, 1) := by decide +kernel
theorem dX13_varLine_77 : decode cX13_varLine 77 = .ok (.getfield 138, 3) := by decide +kernel
theorem dX13_varLine_8 : decode cX13_varLine 8 = .ok (.istore_n 2, 1) := by decide +kernel
theorem dX13_varLine_80 : decode cX13_varLine 80 = .ok (.iload_n 1, 1) := by decide +kernel
theorem dX13_varLine_81 : decode cX13_varLine 81 = .ok (.aload_n 0, 1) := by decide +kernel
theorem dX13_varLine_82 : decode cX13_varLine 82 = .ok (.getfield 711, 3) := by decide +kernel
theorem dX13_varLine_85 : decode cX13_varLine 85 = .ok (.iastore, 1) := by decide +kernel
theorem dX13_varLine_86 : decode cX13_varLine 86 = .ok (.aload_n 0, 1) := by decide +kernel
theorem dX13_varLine_87 : decode cX13_varLine 87 = .ok (.sipush 14909, 3) := by decide +kernel
theorem dX13_varLine_9 : decode cX13_varLine 9 = .ok (.aload_n 0, 1) := by decide +kernel
theorem dX13_varLine_90 : decode cX13_varLine 90 = .ok (.invokevirtual 528, 3) := by decide +kernel
theorem dX13_varLine_93 : decode cX13_varLine 93 = .ok (.aload_n 0, 1) := by decide +kernel
theorem dX13_varLine_94 : decode cX13_varLine 94 = .ok (.getfield 147, 3) := by decide +kernel
theorem dX13_varLine_97 : decode cX13_varLine 97 = .ok (.iload_n 1, 1) := by decide +kernel
theorem dX13_varLine_98 : decode cX13_varLine 98 = .ok (.aload_n 0, 1) := by decide +kernel
theorem dX13_varLine_99 : decode cX13_varLine 99 = .ok (.invokestatic 581, 3) := by decide +kernel
noncomputable def k_X13_varLine_49 (l1 : Int32) (l2 : Int32) (k0 : Int32) (s : t_S) : Option (t_S) :=
 (f_X13_addLocal l2 s).bind (fun r1 =>
 if t_ix l1 401 = true then
  t_let (t_setI r1 993 (l1.toNatClampNeg) k0) (fun s1 =>
 (f_X13_typeHint s1).bind (fun r3 =>
 t_let (t_setI r3 991 (l1.toNatClampNeg) (r3.1 950 86)) (fun s2 =>
 t_let (t_setI s2 992 (l1.toNatClampNeg) (s2.1 950 87)) (fun s3 =>
 (f_X13_mustBe (14909 : Int32) s3).bind (fun r4 =>
 (f_X13_exp r4).bind (fun r5 =>
 t_let (t_setI r5.2 995 (l1.toNatClampNeg) r5.1) (fun s4 =>
 if t_ix l2 40 = true then
  t_let (t_setI s4 950 34 (s4.1 986 (l2.toNatClampNeg))) (fun s5 =>
 some (s5))
else none)))))))
else none)
set_option maxRecDepth 4000 in
set_option maxHeartbeats 1000000 in
theorem B_X13_varLine_49 {D : va_G} {cy : Nat → ClassId} {ad : Nat → Nat} {bs : Nat} {X : State → Heap → Prop} (l1 : Int32) (l2 : Int32) (k0 : Int32) (s : t_S) (Q : t_S → Prop) (hk : t_hk (k_X13_varLine_49 l1 l2 k0 s) Q) : mj_G D cy ad bs X cX13_varLine 4 yX13_varLine.cls none yX13_varLine.name 309 0 0 1065 (t_P (fun v s' => v = none ∧ Q (s'))) 49 [(0, .ref 950), (1, .int l1), (2, .int l2)] [.int k0] (t_m s) 1065 0 0 := by
  refine mj_istore_n 3 (lv2 := [(3, .int k0), (0, .ref 950), (1, .int l1), (2, .int l2)]) dX13_varLine_49 rfl (by decide) rfl ?_
  refine mj_aload_n dX13_varLine_50 1 rfl ?_
  refine mj_iload_n dX13_varLine_51 3 rfl ?_
  refine t_bndK hk (fun r1 er1 hk => ?_)
  refine t_callVvE dX13_varLine_52 M_X13_addLocal (C_X13_addLocal _ _ _ er1) ML_X13_730 IM_X13_addLocal SE_X13_addLocal qc_950 rfl (As := [.int l2]) rfl rfl (Nat.le_of_ble_eq_true rfl) (Nat.le_of_ble_eq_true rfl) (Nat.le_of_ble_eq_true rfl) (Nat.le_of_ble_eq_true rfl) ?_
  refine mj_aload_n dX13_varLine_55 1 rfl ?_
  refine t_getR 993 dX13_varLine_56 F_X13_141 qr_950_71 ?_
  refine mj_iload_n dX13_varLine_59 2 rfl ?_
  refine mj_iload_n dX13_varLine_60 0 rfl ?_
  refine t_chkK hk (fun c1 hk => ?_)
  refine t_iastK dX13_varLine_61 qa_993 (t_ixv c1) (fun s1 ws1 => t_letE hk ws1 (fun hk => ?_))
  refine mj_aload_n dX13_varLine_62 1 rfl ?_
  refine t_bndK hk (fun r3 er3 hk => ?_)
  refine t_callVvE dX13_varLine_63 M_X13_typeHint (C_X13_typeHint _ _ er3) ML_X13_714 IM_X13_typeHint SE_X13_typeHint qc_950 rfl (As := []) rfl rfl (Nat.le_of_ble_eq_true rfl) (Nat.le_of_ble_eq_true rfl) (Nat.le_of_ble_eq_true rfl) (Nat.le_of_ble_eq_true rfl) ?_
  refine mj_aload_n dX13_varLine_66 1 rfl ?_
  refine t_getR 991 dX13_varLine_67 F_X13_135 qr_950_69 ?_
  refine mj_iload_n dX13_varLine_70 2 rfl ?_
  refine mj_aload_n dX13_varLine_71 1 rfl ?_
  refine t_getI dX13_varLine_72 F_X13_708 qf_950_86 ?_
  refine t_iastK dX13_varLine_75 qa_991 (t_ixv c1) (fun s2 ws2 => t_letE hk ws2 (fun hk => ?_))
  refine mj_aload_n dX13_varLine_76 1 rfl ?_
  refine t_getR 992 dX13_varLine_77 F_X13_138 qr_950_70 ?_
  refine mj_iload_n dX13_varLine_80 2 rfl ?_
  refine mj_aload_n dX13_varLine_81 1 rfl ?_
  refine t_getI dX13_varLine_82 F_X13_711 qf_950_87 ?_
  refine t_iastK dX13_varLine_85 qa_992 (t_ixv c1) (fun s3 ws3 => t_letE hk ws3 (fun hk => ?_))
  refine mj_aload_n dX13_varLine_86 1 rfl ?_
  refine mj_sipush (v := 14909) dX13_varLine_87 (by decide) ?_
  refine t_bndK hk (fun r4 er4 hk => ?_)
  refine t_callVvE dX13_varLine_90 M_X13_mustBe (C_X13_mustBe _ _ _ er4) ML_X13_528 IM_X13_mustBe SE_X13_mustBe qc_950 rfl (As := [.int 14909]) rfl rfl (Nat.le_of_ble_eq_true rfl) (Nat.le_of_ble_eq_true rfl) (Nat.le_of_ble_eq_true rfl) (Nat.le_of_ble_eq_true rfl) ?_
  refine mj_aload_n dX13_varLine_93 1 rfl ?_
  refine t_getR 995 dX13_varLine_94 F_X13_147 qr_950_73 ?_
  refine mj_iload_n dX13_varLine_97 2 rfl ?_
  refine mj_aload_n dX13_varLine_98 1 rfl ?_
  refine t_bndK hk (fun r5 er5 hk => ?_)
  refine t_callSiE dX13_varLine_99 M_X13_exp (C_X13_exp _ _ er5) ML_X13_581 SM_X13_exp (As := [.ref 950]) rfl rfl (Nat.le_of_ble_eq_true rfl) (Nat.le_of_ble_eq_true rfl) (Nat.le_of_ble_eq_true rfl) (Nat.le_of_ble_eq_true rfl) ?_
  refine t_iastK dX13_varLine_102 qa_995 (t_ixv c1) (fun s4 ws4 => t_letE hk ws4 (fun hk => ?_))
  refine mj_aload_n dX13_varLine_103 1 rfl ?_
  refine mj_aload_n dX13_varLine_104 1 rfl ?_
  refine t_getR 986 dX13_varLine_105 F_X13_120 qr_950_62 ?_
  refine mj_iload_n dX13_varLine_108 3 rfl ?_
  refine t_chkK hk (fun c5 hk => ?_)
  refine t_iald dX13_varLine_109 qa_986 (t_ixv c5) ?_
  refine t_putIK dX13_varLine_110 F_X13_621 qf_950_34 rfl (fun s5 ws5 => t_letE hk ws5 (fun hk => ?_))
  exact t_somK hk (fun hf => t_vret dX13_varLine_113 rfl ⟨rfl, hf⟩ (Nat.le_of_ble_eq_true rfl) (Nat.le_of_ble_eq_true rfl))
noncomputable def k_X13_varLine_48 (l1 : Int32) (l2 : Int32) (s : t_S) : Option (t_S) :=
 k_X13_varLine_49 l1 l2 (-1) s
set_option maxRecDepth 4000 in
set_option maxHeartbeats 1000000 in
theorem B_X13_varLine_48 {D : va_G} {cy : Nat → ClassId} {ad : Nat → Nat} {bs : Nat} {X : State → Heap → Prop} (l1 : Int32) (l2 : Int32) (s : t_S) (Q : t_S → Prop) (hk : t_hk (k_X13_varLine_48 l1 l2 s) Q) : mj_G D cy ad bs X cX13_varLine 4 yX13_varLine.cls none yX13_varLine.name 309 0 0 1065 (t_P (fun v s' => v = none ∧ Q (s'))) 48 [(0, .ref 950), (1, .int l1), (2, .int l2)] [] (t_m s) 1065 0 0 := by
  refine mj_iconst (v := (-1)) dX13_varLine_48 (by decide) ?_
  exact B_X13_varLine_49 _ _ _ _ _ hk
noncomputable def f_X13_varLine (x1 : Int32) (s : t_S) : Option (t_S) :=
 if t_ix x1 401 = true then
  t_let (t_setI s 994 (x1.toNatClampNeg) (s.1 950 6)) (fun s1 =>
 if (s1.1 950 5) = (1 : Int32) then (if (0 : Int32) ≤ (s1.1 950 10) then (k_X13_varLine_48 x1 ((s.1 950 33) - (2000 : Int32)) s1)
 else (if (s1.1 950 2) = (0 : Int32) then ((f_X13_name s1).bind (fun r2 =>
 k_X13_varLine_49 x1 ((s.1 950 33) - (2000 : Int32)) r2.1 r2.2))
 else (k_X13_varLine_48 x1 ((s.1 950 33) - (2000 : Int32)) s1)))
 else (k_X13_varLine_48 x1 ((s.1 950 33) - (2000 : Int32)) s1))
else none
set_option maxRecDepth 4000 in
set_option maxHeartbeats 1000000 in
theorem C_X13_varLine (x1 : Int32) (s : t_S) (r : t_S) (hr : f_X13_varLine x1 s = some r) : t_C yX13_varLine cX13_varLine 4 none 309 [.ref 950, .int x1] s (fun v s' => v = none ∧ s' = r) := by
  refine t_C.imp (P := fun v s' => v = none ∧ (fun q => q = r) (s')) (t_C.of (by decide +kernel) (Nat.le_of_ble_eq_true rfl) ?_) (fun v s' hp => hp)
  intro D cy ad bs X
  have hk : t_hk (f_X13_varLine x1 s) (fun q => q = r) := ⟨r, hr, rfl⟩
  show mj_G D cy ad bs X cX13_varLine 4 yX13_varLine.cls none yX13_varLine.name 309 0 0 1065 (t_P (fun v s' => v = none ∧ (fun q => q = r) (s'))) 0 [(0, .ref 950), (1, .int x1)] [] (t_m s) 1065 0 0
  refine mj_aload_n dX13_varLine_0 0 rfl ?_
  refine t_getI dX13_varLine_1 F_X13_584 qf_950_33 ?_
  refine mj_sipush (v := 2000) dX13_varLine_4 (by decide) ?_
  refine mj_isub dX13_varLine_7 ?_
  refine mj_istore_n 2 (lv2 := [(2, .int ((s.1 950 33) - (2000 : Int32))), (0, .ref 950), (1, .int x1)]) dX13_varLine_8 rfl (by decide) rfl ?_
  refine mj_aload_n dX13_varLine_9 1 rfl ?_
  refine t_getR 994 dX13_varLine_10 F_X13_144 qr_950_72 ?_
  refine mj_iload_n dX13_varLine_13 2 rfl ?_
  refine mj_aload_n dX13_varLine_14 1 rfl ?_
  refine t_getI dX13_varLine_15 F_X13_391 qf_950_6 ?_
  refine t_chkK hk (fun c0 hk => ?_)
  refine t_iastK dX13_varLine_18 qa_994 (t_ixv c0) (fun s1 ws1 => t_letE hk ws1 (fun hk => ?_))
  refine mj_aload_n dX13_varLine_19 1 rfl ?_
  refine t_getI dX13_varLine_20 F_X13_385 qf_950_5 ?_
  refine mj_iconst (v := 1) dX13_varLine_23 (by decide) ?_
  refine mj_icmp_ne 48 dX13_varLine_24 (by decide) (fun z => t_negK hk z (fun hk => ?_)) (fun z => t_posK hk z (fun hk => ?_))
  · refine mj_sublv [(0, .ref 950), (1, .int x1), (2, .int ((s.1 950 33) - (2000 : Int32)))] [1, 2, 0] rfl ?_
    exact B_X13_varLine_48 _ _ _ _ hk
  · refine mj_aload_n dX13_varLine_27 1 rfl ?_
    refine t_getI dX13_varLine_28 F_X13_397 qf_950_10 ?_
    refine mj_if_ge 48 dX13_varLine_31 (by decide) (fun z => t_posK hk z (fun hk => ?_)) (fun z => t_negK hk z (fun hk => ?_))
    · refine mj_sublv [(0, .ref 950), (1, .int x1), (2, .int ((s.1 950 33) - (2000 : Int32)))] [1, 2, 0] rfl ?_
      exact B_X13_varLine_48 _ _ _ _ hk
    · refine mj_aload_n dX13_varLine_34 1 rfl ?_
      refine t_getI dX13_varLine_35 F_X13_375 qf_950_2 ?_
      refine mj_if_ne 48 dX13_varLine_38 (by decide) (fun z => t_negK hk z (fun hk => ?_)) (fun z => t_posK hk z (fun hk => ?_))
      · refine mj_sublv [(0, .ref 950), (1, .int x1), (2, .int ((s.1 950 33) - (2000 : Int32)))] [1, 2, 0] rfl ?_
        exact B_X13_varLine_48 _ _ _ _ hk
      · refine mj_aload_n dX13_varLine_41 1 rfl ?_
        refine t_bndK hk (fun r2 er2 hk => ?_)
        refine t_callViE dX13_varLine_42 M_X13_name (C_X13_name _ _ er2) ML_X13_468 IM_X13_name SE_X13_name qc_950 rfl (As := []) rfl rfl (Nat.le_of_ble_eq_true rfl) (Nat.le_of_ble_eq_true rfl) (Nat.le_of_ble_eq_true rfl) (Nat.le_of_ble_eq_true rfl) ?_
        refine mj_goto 49 dX13_varLine_45 (by decide) ?_
        refine mj_sublv [(0, .ref 950), (1, .int x1), (2, .int ((s.1 950 33) - (2000 : Int32)))] [1, 2, 0] rfl ?_
        exact B_X13_varLine_49 _ _ _ _ _ hk

theorem dX13_simple_0 : decode cX13_simple 0 = .ok (.iload_n 2, 1) := by decide +kernel
theorem dX13_simple_1 : decode cX13_simple 1 = .ok (.lookupswitch 294 #[(9, 75), (40, 90), (41, 130), (43, 170), (47, 236), (48, 257), (50, 257), (58, 90)], 75) := by decide +kernel
theorem dX13_simple_102 : decode cX13_simple 102 = .ok (.iconst 5, 1) := by decide +kernel
theorem dX13_simple_103 : decode cX13_simple 103 = .ok (.goto 5, 3) := by decide +kernel
theorem dX13_simple_106 : decode cX13_simple 106 = .ok (.bipush 17, 2) := by decide +kernel
theorem dX13_simple_108 : decode cX13_simple 108 = .ok (.iastore, 1) := by decide +kernel
theorem dX13_simple_109 : decode cX13_simple 109 = .ok (.aload_n 0, 1) := by decide +kernel
theorem dX13_simple_110 : decode cX13_simple 110 = .ok (.bipush 59, 2) := by decide +kernel
theorem dX13_simple_112 : decode cX13_simple 112 = .ok (.invokevirtual 449, 3) := by decide +kernel
theorem dX13_simple_115 : decode cX13_simple 115 = .ok (.ifCond .ne 186, 3) := by decide +kernel
theorem dX13_simple_118 : decode cX13_simple 118 = .ok (.aload_n 0, 1) := by decide +kernel
theorem dX13_simple_119 : decode cX13_simple 119 = .ok (.getfield 147, 3) := by decide +kernel
theorem dX13_simple_122 : decode cX13_simple 122 = .ok (.iload_n 1, 1) := by decide +kernel
theorem dX13_simple_123 : decode cX13_simple 123 = .ok (.aload_n 0, 1) := by decide +kernel
theorem dX13_simple_124 : decode cX13_simple 124 = .ok (.invokestatic 581, 3) := by decide +kernel
theorem dX13_simple_127 : decode cX13_simple 127 = .ok (.iastore, 1) := by decide +kernel
theorem dX13_simple_128 : decode cX13_simple 128 = .ok (.goto 173, 3) := by decide +kernel
theorem dX13_simple_131 : decode cX13_simple 131 = .ok (.aload_n 0, 1) := by decide +kernel
theorem dX13_simple_132 : decode cX13_simple 132 = .ok (.getfield 126, 3) := by decide +kernel
theorem dX13_simple_135 : decode cX13_simple 135 = .ok (.iload_n 1, 1) := by decide +kernel
theorem dX13_simple_136 : decode cX13_simple 136 = .ok (.bipush 6, 2) := by decide +kernel
theorem dX13_simple_138 : decode cX13_simple 138 = .ok (.iastore, 1) := by decide +kernel
theorem dX13_simple_139 : decode cX13_simple 139 = .ok (.aload_n 0, 1) := by decide +kernel
theorem dX13_simple_140 : decode cX13_simple 140 = .ok (.getfield 147, 3) := by decide +kernel
theorem dX13_simple_143 : decode cX13_simple 143 = .ok (.iload_n 1, 1) := by decide +kernel
theorem dX13_simple_144 : decode cX13_simple 144 = .ok (.aload_n 0, 1) := by decide +kernel
theorem dX13_simple_145 : decode cX13_simple 145 = .ok (.iload_n 1, 1) := by decide +kernel
theorem dX13_simple_146 : decode cX13_simple 146 = .ok (.invokevirtual 764, 3) := by decide +kernel
theorem dX13_simple_149 : decode cX13_simple 149 = .ok (.iastore, 1) := by decide +kernel
theorem dX13_simple_150 : decode cX13_simple 150 = .ok (.aload_n 0, 1) := by decide +kernel
theorem dX13_simple_151 : decode cX13_simple 151 = .ok (.bipush 42, 2) := by decide +kernel
theorem dX13_simple_153 : decode cX13_simple 153 = .ok (.invokevirtual 455, 3) := by decide +kernel
theorem dX13_simple_156 : decode cX13_simple 156 = .ok (.ifCond .eq 145, 3) := by decide +kernel
theorem dX13_simple_159 : decode cX13_simple 159 = .ok (.aload_n 0, 1) := by decide +kernel
theorem dX13_simple_160 : decode cX13_simple 160 = .ok (.invokevirtual 452, 3) := by decide +kernel
theorem dX13_simple_163 : decode cX13_simple 163 = .ok (.aload_n 0, 1) := by decide +kernel
theorem dX13_simple_164 : decode cX13_simple 164 = .ok (.iload_n 1, 1) := by decide +kernel
theorem dX13_simple_165 : decode cX13_simple 165 = .ok (.invokevirtual 767, 3) := by decide +kernel
theorem dX13_simple_168 : decode cX13_simple 168 = .ok (.goto 133, 3) := by decide +kernel
theorem dX13_simple_171 : decode cX13_simple 171 = .ok (.aload_n 0, 1) := by decide +kernel
theorem dX13_simple_172 : decode cX13_simple 172 = .ok (.getfield 126, 3) := by decide +kernel
theorem dX13_simple_175 : decode cX13_simple 175 = .ok (.iload_n 1, 1) := by decide +kernel
theorem dX13_simple_176 : decode cX13_simple 176 = .ok (.bipush 7, 2) := by decide +kernel
theorem dX13_simple_178 : decode cX13_simple 178 = .ok (.iastore, 1) := by decide +kernel
theorem dX13_simple_179 : decode cX13_simple 179 = .ok (.aload_n 0, 1) := by decide +kernel
theorem dX13_simple_180 : decode cX13_simple 180 = .ok (.bipush 44, 2) := by decide +kernel
theorem dX13_simple_182 : decode cX13_simple 182 = .ok (.invokevirtual 455, 3) := by decide +kernel
theorem dX13_simple_185 : decode cX13_simple 185 = .ok (.ifCond .ne 30, 3) := by decide +kernel
theorem dX13_simple_188 : decode cX13_simple 188 = .ok (.aload_n 0, 1) := by decide +kernel
theorem dX13_simple_189 : decode cX13_simple 189 = .ok (.bipush 45, 2) := by decide +kernel
theorem dX13_simple_191 : decode cX13_simple 191 = .ok (.invokevirtual 455, 3) := by decide +kernel
theorem dX13_simple_194 : decode cX13_simple 194 = .ok (.ifCond .ne 21, 3) := by decide +kernel
theorem dX13_simple_197 : decode cX13_simple 197 = .ok (.aload_n 0, 1) := by decide +kernel
theorem dX13_simple_198 : decode cX13_simple 198 = .ok (.bipush 46, 2) := by decide +kernel
theorem dX13_simple_200 : decode cX13_simple 200 = .ok (.invokevirtual 455, 3) := by decide +kernel
theorem dX13_simple_203 : decode cX13_simple 203 = .ok (.ifCond .ne 12, 3) := by decide +kernel
theorem dX13_simple_206 : decode cX13_simple 206 = .ok (.aload_n 0, 1) := by decide +kernel
theorem dX13_simple_207 : decode cX13_simple 207 = .ok (.iconst 2, 1) := by decide +kernel
theorem dX13_simple_208 : decode cX13_simple 208 = .ok (.aload_n 0, 1) := by decide +kernel
theorem dX13_simple_209 : decode cX13_simple 209 = .ok (.getfield 391, 3) := by decide +kernel
theorem dX13_simple_212 : decode cX13_simple 212 = .ok (.invokevirtual 411, 3) := by decide +kernel
theorem dX13_simple_215 : decode cX13_simple 215 = .ok (.aload_n 0, 1) := by decide +kernel
theorem dX13_simple_216 : decode cX13_simple 216 = .ok (.getfield 135, 3) := by decide +kernel
theorem dX13_simple_219 : decode cX13_simple 219 = .ok (.iload_n 1, 1) := by decide +kernel
theorem dX13_simple_220 : decode cX13_simple 220 = .ok (.aload_n 0, 1) := by decide +kernel
theorem dX13_simple_221 : decode cX13_simple 221 = .ok (.getfield 397, 3) := by decide +kernel
theorem dX13_simple_224 : decode cX13_simple 224 = .ok (.bipush 44, 2) := by decide +kernel
theorem dX13_simple_226 : decode cX13_simple 226 = .ok (.isub, 1) := by decide +kernel
theorem dX13_simple_227 : decode cX13_simple 227 = .ok (.iconst 1, 1) := by decide +kernel
theorem dX13_simple_228 : decode cX13_simple 228 = .ok (.iadd, 1) := by decide +kernel
theorem dX13_simple_229 : decode cX13_simple 229 = .ok (.iastore, 1) := by decide +kernel
theorem dX13_simple_230 : decode cX13_simple 230 = .ok (.aload_n 0, 1) := by decide +kernel
theorem dX13_simple_231 : decode cX13_simple 231 = .ok (.invokevirtual 452, 3) := by decide +kernel
theorem dX13_simple_234 : decode cX13_simple 234 = .ok (.goto 67, 3) := by decide +kernel
theorem dX13_simple_237 : decode cX13_simple 237 = .ok (.aload_n 0, 1) := by decide +kernel
theorem dX13_simple_238 : decode cX13_simple 238 = .ok (.getfield 126, 3) := by decide +kernel
theorem dX13_simple_241 : decode cX13_simple 241 = .ok (.iload_n 1, 1) := by decide +kernel
theorem dX13_simple_242 : decode cX13_simple 242 = .ok (.bipush 8, 2) := by decide +kernel
theorem dX13_simple_244 : decode cX13_simple 244 = .ok (.iastore, 1) := by decide +kernel
theorem dX13_simple_245 : decode cX13_simple 245 = .ok (.aload_n 0, 1) := by decide +kernel
theorem dX13_simple_246 : decode cX13_simple 246 = .ok (.getfield 147, 3) := by decide +kernel
theorem dX13_simple_249 : decode cX13_simple 249 = .ok (.iload_n 1, 1) := by decide +kernel
theorem dX13_simple_250 : decode cX13_simple 250 = .ok (.aload_n 0, 1) := by decide +kernel
theorem dX13_simple_251 : decode cX13_simple 251 = .ok (.invokestatic 581, 3) := by decide +kernel
theorem dX13_simple_254 : decode cX13_simple 254 = .ok (.iastore, 1) := by decide +kernel
theorem dX13_simple_255 : decode cX13_simple 255 = .ok (.goto 46, 3) := by decide +kernel
theorem dX13_simple_258 : decode cX13_simple 258 = .ok (.aload_n 0, 1) := by decide +kernel
theorem dX13_simple_259 : decode cX13_simple 259 = .ok (.getfield 126, 3) := by decide +kernel
theorem dX13_simple_262 : decode cX13_simple 262 = .ok (.iload_n 1, 1) := by decide +kernel
theorem dX13_simple_263 : decode cX13_simple 263 = .ok (.iload_n 2, 1) := by decide +kernel
theorem dX13_simple_264 : decode cX13_simple 264 = .ok (.bipush 48, 2) := by decide +kernel
theorem dX13_simple_266 : decode cX13_simple 266 = .ok (.if_icmp .ne 8, 3) := by decide +kernel
theorem dX13_simple_269 : decode cX13_simple 269 = .ok (.bipush 9, 2) := by decide +kernel
theorem dX13_simple_271 : decode cX13_simple 271 = .ok (.goto 5, 3) := by decide +kernel
theorem dX13_simple_274 : decode cX13_simple 274 = .ok (.bipush 12, 2) := by decide +kernel
theorem dX13_simple_276 : decode cX13_simple 276 = .ok (.iastore, 1) := by decide +kernel
theorem dX13_simple_277 : decode cX13_simple 277 = .ok (.aload_n 0, 1) := by decide +kernel
theorem dX13_simple_278 : decode cX13_simple 278 = .ok (.iload_n 1, 1) := by decide +kernel
theorem dX13_simple_279 : decode cX13_simple 279 = .ok (.invokevirtual 770, 3) := by decide +kernel
theorem dX13_simple_282 : decode cX13_simple 282 = .ok (.aload_n 0, 1) := by decide +kernel
theorem dX13_simple_283 : decode cX13_simple 283 = .ok (.getfield 147, 3) := by decide +kernel
theorem dX13_simple_286 : decode cX13_simple 286 = .ok (.iload_n 1, 1) := by decide +kernel
theorem dX13_simple_287 : decode cX13_simple 287 = .ok (.aload_n 0, 1) := by decide +kernel
theorem dX13_simple_288 : decode cX13_simple 288 = .ok (.invokestatic 581, 3) := by decide +kernel
theorem dX13_simple_291 : decode cX13_simple 291 = .ok (.iastore, 1) := by decide +kernel
theorem dX13_simple_292 : decode cX13_simple 292 = .ok (.goto 9, 3) := by decide +kernel
theorem dX13_simple_295 : decode cX13_simple 295 = .ok (.aload_n 0, 1) := by decide +kernel
theorem dX13_simple_296 : decode cX13_simple 296 = .ok (.iload_n 1, 1) := by decide +kernel
theorem dX13_simple_297 : decode cX13_simple 297 = .ok (.iload_n 2, 1) := by decide +kernel
theorem dX13_simple_298 : decode cX13_simple 298 = .ok (.invokevirtual 773, 3) := by decide +kernel
theorem dX13_simple_301 : decode cX13_simple 301 = .ok (.return_, 1) := by decide +kernel
theorem dX13_simple_76 : decode cX13_simple 76 = .ok (.aload_n 0, 1) := by decide +kernel
theorem dX13_simple_77 : decode cX13_simple 77 = .ok (.getfield 126, 3) := by decide +kernel
theorem dX13_simple_80 : decode cX13_simple 80 = .ok (.iload_n 1, 1) := by decide +kernel
theorem dX13_simple_81 : decode cX13_simple 81 = .ok (.iconst 1, 1) := by decide +kernel
theorem dX13_simple_82 : decode cX13_simple 82 = .ok (.iastore, 1) := by decide +kernel
theorem dX13_simple_83 : decode cX13_simple 83 = .ok (.aload_n 0, 1) := by decide +kernel
theorem dX13_simple_84 : decode cX13_simple 84 = .ok (.iload_n 1, 1) := by decide +kernel
theorem dX13_simple_85 : decode cX13_simple 85 = .ok (.invokevirtual 761, 3) := by decide +kernel
theorem dX13_simple_88 : decode cX13_simple 88 = .ok (.goto 213, 3) := by decide +kernel
theorem dX13_simple_91 : decode cX13_simple 91 = .ok (.aload_n 0, 1) := by decide +kernel
theorem dX13_simple_92 : decode cX13_simple 92 = .ok (.getfield 126, 3) := by decide +kernel
theorem dX13_simple_95 : decode cX13_simple 95 = .ok (.iload_n 1, 1) := by decide +kernel
theorem dX13_simple_96 : decode cX13_simple 96 = .ok (.iload_n 2, 1) := by decide +kernel
theorem dX13_simple_97 : decode cX13_simple 97 = .ok (.bipush 40, 2) := by decide +kernel
theorem dX13_simple_99 : decode cX13_simple 99 = .ok (.if_icmp .ne 7, 3) := by decide +kernel
noncomputable def k_X13_simple_108 (l1 : Int32) (k0 : Int32) (k1 : Int32) (s : t_S) : Option (t_S) :=
 if t_ix k1 401 = true then
  t_let (t_setI s 988 (k1.toNatClampNeg) k0) (fun s1 =>
 if (f_X13_is (59 : Int32) s1) = (0 : Int32) then ((f_X13_exp s1).bind (fun r3 =>
 if t_ix l1 401 = true then
  t_let (t_setI r3.2 995 (l1.toNatClampNeg) r3.1) (fun s2 =>
 some (s2))
else none))
 else (some (s1)))
else none
set_option maxRecDepth 4000 in
set_option maxHeartbeats 1000000 in
theorem B_X13_simple_108 {D : va_G} {cy : Nat → ClassId} {ad : Nat → Nat} {bs : Nat} {X : State → Heap → Prop} (l1 : Int32) (k0 : Int32) (k1 : Int32) (s : t_S) (Q : t_S → Prop) (hk : t_hk (k_X13_simple_108 l1 k0 k1 s) Q) : mj_G D cy ad bs X cX13_simple 3 yX13_simple.cls none yX13_simple.name 311 0 0 1065 (t_P (fun v s' => v = none ∧ Q (s'))) 108 [(0, .ref 950), (1, .int l1)] [.int k0, .int k1, .ref 988] (t_m s) 1065 0 0 := by
  refine t_chkK hk (fun c0 hk => ?_)
  refine t_iastK dX13_simple_108 qa_988 (t_ixv c0) (fun s1 ws1 => t_letE hk ws1 (fun hk => ?_))
  refine mj_aload_n dX13_simple_109 0 rfl ?_
  refine mj_bipush (v := 59) dX13_simple_110 (by decide) ?_
  refine t_callViP dX13_simple_112 M_X13_is (C_X13_is _ _) ML_X13_449 IM_X13_is SE_X13_is qc_950 rfl (As := [.int 59]) rfl rfl (Nat.le_of_ble_eq_true rfl) (Nat.le_of_ble_eq_true rfl) (Nat.le_of_ble_eq_true rfl) (Nat.le_of_ble_eq_true rfl) ?_
  refine mj_if_ne 301 dX13_simple_115 (by decide) (fun z => t_negK hk z (fun hk => ?_)) (fun z => t_posK hk z (fun hk => ?_))
  · exact t_somK hk (fun hf => t_vret dX13_simple_301 rfl ⟨rfl, hf⟩ (Nat.le_of_ble_eq_true rfl) (Nat.le_of_ble_eq_true rfl))
  · refine mj_aload_n dX13_simple_118 0 rfl ?_
    refine t_getR 995 dX13_simple_119 F_X13_147 qr_950_73 ?_
    refine mj_iload_n dX13_simple_122 1 rfl ?_
    refine mj_aload_n dX13_simple_123 0 rfl ?_
    refine t_bndK hk (fun r3 er3 hk => ?_)
    refine t_callSiE dX13_simple_124 M_X13_exp (C_X13_exp _ _ er3) ML_X13_581 SM_X13_exp (As := [.ref 950]) rfl rfl (Nat.le_of_ble_eq_true rfl) (Nat.le_of_ble_eq_true rfl) (Nat.le_of_ble_eq_true rfl) (Nat.le_of_ble_eq_true rfl) ?_
    refine t_chkK hk (fun c3 hk => ?_)
    refine t_iastK dX13_simple_127 qa_995 (t_ixv c3) (fun s2 ws2 => t_letE hk ws2 (fun hk => ?_))
    refine mj_goto 301 dX13_simple_128 (by decide) ?_
    exact t_somK hk (fun hf => t_vret dX13_simple_301 rfl ⟨rfl, hf⟩ (Nat.le_of_ble_eq_true rfl) (Nat.le_of_ble_eq_true rfl))
noncomputable def k_X13_simple_276 (l1 : Int32) (k0 : Int32) (k1 : Int32) (s : t_S) : Option (t_S) :=
 if t_ix k1 401 = true then
  t_let (t_setI s 988 (k1.toNatClampNeg) k0) (fun s1 =>
 (f_X13_wordOf l1 s1).bind (fun r2 =>
 (f_X13_exp r2).bind (fun r3 =>
 if t_ix l1 401 = true then
  t_let (t_setI r3.2 995 (l1.toNatClampNeg) r3.1) (fun s2 =>
 some (s2))
else none)))
else none
set_option maxRecDepth 4000 in
set_option maxHeartbeats 1000000 in
theorem B_X13_simple_276 {D : va_G} {cy : Nat → ClassId} {ad : Nat → Nat} {bs : Nat} {X : State → Heap → Prop} (l1 : Int32) (k0 : Int32) (k1 : Int32) (s : t_S) (Q : t_S → Prop) (hk : t_hk (k_X13_simple_276 l1 k0 k1 s) Q) : mj_G D cy ad bs X cX13_simple 3 yX13_simple.cls none yX13_simple.name 311 0 0 1065 (t_P (fun v s' => v = none ∧ Q (s'))) 276 [(0, .ref 950), (1, .int l1)] [.int k0, .int k1, .ref 988] (t_m s) 1065 0 0 := by
  refine t_chkK hk (fun c0 hk => ?_)
  refine t_iastK dX13_simple_276 qa_988 (t_ixv c0) (fun s1 ws1 => t_letE hk ws1 (fun hk => ?_))
  refine mj_aload_n dX13_simple_277 0 rfl ?_
  refine mj_iload_n dX13_simple_278 1 rfl ?_
  refine t_bndK hk (fun r2 er2 hk => ?_)
  refine t_callVvE dX13_simple_279 M_X13_wordOf (C_X13_wordOf _ _ _ er2) ML_X13_770 IM_X13_wordOf SE_X13_wordOf qc_950 rfl (As := [.int l1]) rfl rfl (Nat.le_of_ble_eq_true rfl) (Nat.le_of_ble_eq_true rfl) (Nat.le_of_ble_eq_true rfl) (Nat.le_of_ble_eq_true rfl) ?_
  refine mj_aload_n dX13_simple_282 0 rfl ?_
  refine t_getR 995 dX13_simple_283 F_X13_147 qr_950_73 ?_
  refine mj_iload_n dX13_simple_286 1 rfl ?_
  refine mj_aload_n dX13_simple_287 0 rfl ?_
  refine t_bndK hk (fun r3 er3 hk => ?_)
  refine t_callSiE dX13_simple_288 M_X13_exp (C_X13_exp _ _ er3) ML_X13_581 SM_X13_exp (As := [.ref 950]) rfl rfl (Nat.le_of_ble_eq_true rfl) (Nat.le_of_ble_eq_true rfl) (Nat.le_of_ble_eq_true rfl) (Nat.le_of_ble_eq_true rfl) ?_
  refine t_chkK hk (fun c3 hk => ?_)
  refine t_iastK dX13_simple_291 qa_995 (t_ixv c3) (fun s2 ws2 => t_letE hk ws2 (fun hk => ?_))
  refine mj_goto 301 dX13_simple_292 (by decide) ?_
  exact t_somK hk (fun hf => t_vret dX13_simple_301 rfl ⟨rfl, hf⟩ (Nat.le_of_ble_eq_true rfl) (Nat.le_of_ble_eq_true rfl))
noncomputable def k_X13_simple_215 (l1 : Int32) (s : t_S) : Option (t_S) :=
 if t_ix l1 401 = true then
  t_let (t_setI s 991 (l1.toNatClampNeg) (((s.1 950 10) - (44 : Int32)) + (1 : Int32))) (fun s1 =>
 (f_X13_next s1).bind (fun r2 =>
 some (r2)))
else none
set_option maxRecDepth 4000 in
set_option maxHeartbeats 1000000 in
theorem B_X13_simple_215 {D : va_G} {cy : Nat → ClassId} {ad : Nat → Nat} {bs : Nat} {X : State → Heap → Prop} (l1 : Int32) (s : t_S) (Q : t_S → Prop) (hk : t_hk (k_X13_simple_215 l1 s) Q) : mj_G D cy ad bs X cX13_simple 3 yX13_simple.cls none yX13_simple.name 311 0 0 1065 (t_P (fun v s' => v = none ∧ Q (s'))) 215 [(0, .ref 950), (1, .int l1)] [] (t_m s) 1065 0 0 := by
  refine mj_aload_n dX13_simple_215 0 rfl ?_
  refine t_getR 991 dX13_simple_216 F_X13_135 qr_950_69 ?_
  refine mj_iload_n dX13_simple_219 1 rfl ?_
  refine mj_aload_n dX13_simple_220 0 rfl ?_
  refine t_getI dX13_simple_221 F_X13_397 qf_950_10 ?_
  refine mj_bipush (v := 44) dX13_simple_224 (by decide) ?_
  refine mj_isub dX13_simple_226 ?_
  refine mj_iconst (v := 1) dX13_simple_227 (by decide) ?_
  refine mj_iadd dX13_simple_228 ?_
  refine t_chkK hk (fun c0 hk => ?_)
  refine t_iastK dX13_simple_229 qa_991 (t_ixv c0) (fun s1 ws1 => t_letE hk ws1 (fun hk => ?_))
  refine mj_aload_n dX13_simple_230 0 rfl ?_
  refine t_bndK hk (fun r2 er2 hk => ?_)
  refine t_callVvE dX13_simple_231 M_X13_next (C_X13_next _ _ er2) ML_X13_452 IM_X13_next SE_X13_next qc_950 rfl (As := []) rfl rfl (Nat.le_of_ble_eq_true rfl) (Nat.le_of_ble_eq_true rfl) (Nat.le_of_ble_eq_true rfl) (Nat.le_of_ble_eq_true rfl) ?_
  refine mj_goto 301 dX13_simple_234 (by decide) ?_
  exact t_somK hk (fun hf => t_vret dX13_simple_301 rfl ⟨rfl, hf⟩ (Nat.le_of_ble_eq_true rfl) (Nat.le_of_ble_eq_true rfl))
noncomputable def f_X13_simple (x1 : Int32) (x2 : Int32) (s : t_S) : Option (t_S) :=
 if x2.toInt = 9 then (if t_ix x1 401 = true then
  t_let (t_setI s 988 (x1.toNatClampNeg) (1 : Int32)) (fun s1 =>
 (f_X13_varLine x1 s1).bind (fun r2 =>
 some (r2)))
else none)
 else if x2.toInt = 40 then (if x2 = (40 : Int32) then (k_X13_simple_108 x1 5 x1 s)
 else (k_X13_simple_108 x1 17 x1 s))
 else if x2.toInt = 41 then (if t_ix x1 401 = true then
  t_let (t_setI s 988 (x1.toNatClampNeg) (6 : Int32)) (fun s2 =>
 (f_X13_callOf x1 s2).bind (fun r4 =>
 t_let (t_setI r4.2 995 (x1.toNatClampNeg) r4.1) (fun s3 =>
 if (f_X13_isWord (42 : Int32) s3) = (0 : Int32) then (some (s3))
 else ((f_X13_next s3).bind (fun r6 =>
 (f_X13_into x1 r6).bind (fun r7 =>
 some (r7)))))))
else none)
 else if x2.toInt = 43 then (if t_ix x1 401 = true then
  t_let (t_setI s 988 (x1.toNatClampNeg) (7 : Int32)) (fun s4 =>
 if (f_X13_isWord (44 : Int32) s4) = (0 : Int32) then (if (f_X13_isWord (45 : Int32) s4) = (0 : Int32) then (if (f_X13_isWord (46 : Int32) s4) = (0 : Int32) then ((f_X13_fail (2 : Int32) (s4.1 950 6) s4).bind (fun r12 =>
 k_X13_simple_215 x1 r12))
 else (k_X13_simple_215 x1 s4))
 else (k_X13_simple_215 x1 s4))
 else (k_X13_simple_215 x1 s4))
else none)
 else if x2.toInt = 47 then (if t_ix x1 401 = true then
  t_let (t_setI s 988 (x1.toNatClampNeg) (8 : Int32)) (fun s5 =>
 (f_X13_exp s5).bind (fun r14 =>
 t_let (t_setI r14.2 995 (x1.toNatClampNeg) r14.1) (fun s6 =>
 some (s6))))
else none)
 else if x2.toInt = 48 then (if x2 = (48 : Int32) then (k_X13_simple_276 x1 9 x1 s)
 else (k_X13_simple_276 x1 12 x1 s))
 else if x2.toInt = 50 then (if x2 = (48 : Int32) then (k_X13_simple_276 x1 9 x1 s)
 else (k_X13_simple_276 x1 12 x1 s))
 else if x2.toInt = 58 then (if x2 = (40 : Int32) then (k_X13_simple_108 x1 5 x1 s)
 else (k_X13_simple_108 x1 17 x1 s))
 else ((f_X13_simpleMore x1 x2 s).bind (fun r15 =>
 some (r15)))
set_option maxRecDepth 4000 in
set_option maxHeartbeats 1000000 in
theorem C_X13_simple (x1 : Int32) (x2 : Int32) (s : t_S) (r : t_S) (hr : f_X13_simple x1 x2 s = some r) : t_C yX13_simple cX13_simple 3 none 311 [.ref 950, .int x1, .int x2] s (fun v s' => v = none ∧ s' = r) := by
  refine t_C.imp (P := fun v s' => v = none ∧ (fun q => q = r) (s')) (t_C.of (by decide +kernel) (Nat.le_of_ble_eq_true rfl) ?_) (fun v s' hp => hp)
  intro D cy ad bs X
  have hk : t_hk (f_X13_simple x1 x2 s) (fun q => q = r) := ⟨r, hr, rfl⟩
  show mj_G D cy ad bs X cX13_simple 3 yX13_simple.cls none yX13_simple.name 311 0 0 1065 (t_P (fun v s' => v = none ∧ (fun q => q = r) (s'))) 0 [(0, .ref 950), (1, .int x1), (2, .int x2)] [] (t_m s) 1065 0 0
  refine mj_iload_n dX13_simple_0 2 rfl ?_
  by_cases h0 : x2.toInt = 9
  · replace hk := t_pos hk h0
    refine mj_lookup 76 dX13_simple_1 (by decide) (by rw [h0] <;> rfl) (by decide) ?_
    refine mj_aload_n dX13_simple_76 0 rfl ?_
    refine t_getR 988 dX13_simple_77 F_X13_126 qr_950_66 ?_
    refine mj_iload_n dX13_simple_80 1 rfl ?_
    refine mj_iconst (v := 1) dX13_simple_81 (by decide) ?_
    refine t_chkK hk (fun c0 hk => ?_)
    refine t_iastK dX13_simple_82 qa_988 (t_ixv c0) (fun s1 ws1 => t_letE hk ws1 (fun hk => ?_))
    refine mj_aload_n dX13_simple_83 0 rfl ?_
    refine mj_iload_n dX13_simple_84 1 rfl ?_
    refine t_bndK hk (fun r2 er2 hk => ?_)
    refine t_callVvE dX13_simple_85 M_X13_varLine (C_X13_varLine _ _ _ er2) ML_X13_761 IM_X13_varLine SE_X13_varLine qc_950 rfl (As := [.int x1]) rfl rfl (Nat.le_of_ble_eq_true rfl) (Nat.le_of_ble_eq_true rfl) (Nat.le_of_ble_eq_true rfl) (Nat.le_of_ble_eq_true rfl) ?_
    refine mj_goto 301 dX13_simple_88 (by decide) ?_
    exact t_somK hk (fun hf => t_vret dX13_simple_301 rfl ⟨rfl, hf⟩ (Nat.le_of_ble_eq_true rfl) (Nat.le_of_ble_eq_true rfl))
  replace hk := t_neg hk h0
  by_cases h1 : x2.toInt = 40
  · replace hk := t_pos hk h1
    refine mj_lookup 91 dX13_simple_1 (by decide) (by rw [h1] <;> rfl) (by decide) ?_
    refine mj_aload_n dX13_simple_91 0 rfl ?_
    refine t_getR 988 dX13_simple_92 F_X13_126 qr_950_66 ?_
    refine mj_iload_n dX13_simple_95 1 rfl ?_
    refine mj_iload_n dX13_simple_96 2 rfl ?_
    refine mj_bipush (v := 40) dX13_simple_97 (by decide) ?_
    refine mj_icmp_ne 106 dX13_simple_99 (by decide) (fun z => t_negK hk z (fun hk => ?_)) (fun z => t_posK hk z (fun hk => ?_))
    · refine mj_bipush (v := 17) dX13_simple_106 (by decide) ?_
      refine mj_sublv [(0, .ref 950), (1, .int x1)] [0, 1] rfl ?_
      exact B_X13_simple_108 _ _ _ _ _ hk
    · refine mj_iconst (v := 5) dX13_simple_102 (by decide) ?_
      refine mj_goto 108 dX13_simple_103 (by decide) ?_
      refine mj_sublv [(0, .ref 950), (1, .int x1)] [0, 1] rfl ?_
      exact B_X13_simple_108 _ _ _ _ _ hk
  replace hk := t_neg hk h1
  by_cases h2 : x2.toInt = 41
  · replace hk := t_pos hk h2
    refine mj_lookup 131 dX13_simple_1 (by decide) (by rw [h2] <;> rfl) (by decide) ?_
    refine mj_aload_n dX13_simple_131 0 rfl ?_
    refine t_getR 988 dX13_simple_132 F_X13_126 qr_950_66 ?_
    refine mj_iload_n dX13_simple_135 1 rfl ?_
    refine mj_bipush (v := 6) dX13_simple_136 (by decide) ?_
    refine t_chkK hk (fun c2 hk => ?_)
    refine t_iastK dX13_simple_138 qa_988 (t_ixv c2) (fun s2 ws2 => t_letE hk ws2 (fun hk => ?_))
    refine mj_aload_n dX13_simple_139 0 rfl ?_
    refine t_getR 995 dX13_simple_140 F_X13_147 qr_950_73 ?_
    refine mj_iload_n dX13_simple_143 1 rfl ?_
    refine mj_aload_n dX13_simple_144 0 rfl ?_
    refine mj_iload_n dX13_simple_145 1 rfl ?_
    refine t_bndK hk (fun r4 er4 hk => ?_)
    refine t_callViE dX13_simple_146 M_X13_callOf (C_X13_callOf _ _ _ er4) ML_X13_764 IM_X13_callOf SE_X13_callOf qc_950 rfl (As := [.int x1]) rfl rfl (Nat.le_of_ble_eq_true rfl) (Nat.le_of_ble_eq_true rfl) (Nat.le_of_ble_eq_true rfl) (Nat.le_of_ble_eq_true rfl) ?_
    refine t_iastK dX13_simple_149 qa_995 (t_ixv c2) (fun s3 ws3 => t_letE hk ws3 (fun hk => ?_))
    refine mj_aload_n dX13_simple_150 0 rfl ?_
    refine mj_bipush (v := 42) dX13_simple_151 (by decide) ?_
    refine t_callViP dX13_simple_153 M_X13_isWord (C_X13_isWord _ _) ML_X13_455 IM_X13_isWord SE_X13_isWord qc_950 rfl (As := [.int 42]) rfl rfl (Nat.le_of_ble_eq_true rfl) (Nat.le_of_ble_eq_true rfl) (Nat.le_of_ble_eq_true rfl) (Nat.le_of_ble_eq_true rfl) ?_
    refine mj_if_eq 301 dX13_simple_156 (by decide) (fun z => t_posK hk z (fun hk => ?_)) (fun z => t_negK hk z (fun hk => ?_))
    · exact t_somK hk (fun hf => t_vret dX13_simple_301 rfl ⟨rfl, hf⟩ (Nat.le_of_ble_eq_true rfl) (Nat.le_of_ble_eq_true rfl))
    · refine mj_aload_n dX13_simple_159 0 rfl ?_
      refine t_bndK hk (fun r6 er6 hk => ?_)
      refine t_callVvE dX13_simple_160 M_X13_next (C_X13_next _ _ er6) ML_X13_452 IM_X13_next SE_X13_next qc_950 rfl (As := []) rfl rfl (Nat.le_of_ble_eq_true rfl) (Nat.le_of_ble_eq_true rfl) (Nat.le_of_ble_eq_true rfl) (Nat.le_of_ble_eq_true rfl) ?_
      refine mj_aload_n dX13_simple_163 0 rfl ?_
      refine mj_iload_n dX13_simple_164 1 rfl ?_
      refine t_bndK hk (fun r7 er7 hk => ?_)
      refine t_callVvE dX13_simple_165 M_X13_into (C_X13_into _ _ _ er7) ML_X13_767 IM_X13_into SE_X13_into qc_950 rfl (As := [.int x1]) rfl rfl (Nat.le_of_ble_eq_true rfl) (Nat.le_of_ble_eq_true rfl) (Nat.le_of_ble_eq_true rfl) (Nat.le_of_ble_eq_true rfl) ?_
      refine mj_goto 301 dX13_simple_168 (by decide) ?_
      exact t_somK hk (fun hf => t_vret dX13_simple_301 rfl ⟨rfl, hf⟩ (Nat.le_of_ble_eq_true rfl) (Nat.le_of_ble_eq_true rfl))
  replace hk := t_neg hk h2
  by_cases h3 : x2.toInt = 43
  · replace hk := t_pos hk h3
    refine mj_lookup 171 dX13_simple_1 (by decide) (by rw [h3] <;> rfl) (by decide) ?_
    refine mj_aload_n dX13_simple_171 0 rfl ?_
    refine t_getR 988 dX13_simple_172 F_X13_126 qr_950_66 ?_
    refine mj_iload_n dX13_simple_175 1 rfl ?_
    refine mj_bipush (v := 7) dX13_simple_176 (by decide) ?_
    refine t_chkK hk (fun c7 hk => ?_)
    refine t_iastK dX13_simple_178 qa_988 (t_ixv c7) (fun s4 ws4 => t_letE hk ws4 (fun hk => ?_))
    refine mj_aload_n dX13_simple_179 0 rfl ?_
    refine mj_bipush (v := 44) dX13_simple_180 (by decide) ?_
    refine t_callViP dX13_simple_182 M_X13_isWord (C_X13_isWord _ _) ML_X13_455 IM_X13_isWord SE_X13_isWord qc_950 rfl (As := [.int 44]) rfl rfl (Nat.le_of_ble_eq_true rfl) (Nat.le_of_ble_eq_true rfl) (Nat.le_of_ble_eq_true rfl) (Nat.le_of_ble_eq_true rfl) ?_
    refine mj_if_ne 215 dX13_simple_185 (by decide) (fun z => t_negK hk z (fun hk => ?_)) (fun z => t_posK hk z (fun hk => ?_))
    · refine mj_sublv [(0, .ref 950), (1, .int x1)] [0, 1] rfl ?_
      exact B_X13_simple_215 _ _ _ hk
    · refine mj_aload_n dX13_simple_188 0 rfl ?_
      refine mj_bipush (v := 45) dX13_simple_189 (by decide) ?_
      refine t_callViP dX13_simple_191 M_X13_isWord (C_X13_isWord _ _) ML_X13_455 IM_X13_isWord SE_X13_isWord qc_950 rfl (As := [.int 45]) rfl rfl (Nat.le_of_ble_eq_true rfl) (Nat.le_of_ble_eq_true rfl) (Nat.le_of_ble_eq_true rfl) (Nat.le_of_ble_eq_true rfl) ?_
      refine mj_if_ne 215 dX13_simple_194 (by decide) (fun z => t_negK hk z (fun hk => ?_)) (fun z => t_posK hk z (fun hk => ?_))
      · refine mj_sublv [(0, .ref 950), (1, .int x1)] [0, 1] rfl ?_
        exact B_X13_simple_215 _ _ _ hk
      · refine mj_aload_n dX13_simple_197 0 rfl ?_
        refine mj_bipush (v := 46) dX13_simple_198 (by decide) ?_
        refine t_callViP dX13_simple_200 M_X13_isWord (C_X13_isWord _ _) ML_X13_455 IM_X13_isWord SE_X13_isWord qc_950 rfl (As := [.int 46]) rfl rfl (Nat.le_of_ble_eq_true rfl) (Nat.le_of_ble_eq_true rfl) (Nat.le_of_ble_eq_true rfl) (Nat.le_of_ble_eq_true rfl) ?_
        refine mj_if_ne 215 dX13_simple_203 (by decide) (fun z => t_negK hk z (fun hk => ?_)) (fun z => t_posK hk z (fun hk => ?_))
        · refine mj_sublv [(0, .ref 950), (1, .int x1)] [0, 1] rfl ?_
          exact B_X13_simple_215 _ _ _ hk
        · refine mj_aload_n dX13_simple_206 0 rfl ?_
          refine mj_iconst (v := 2) dX13_simple_207 (by decide) ?_
          refine mj_aload_n dX13_simple_208 0 rfl ?_
          refine t_getI dX13_simple_209 F_X13_391 qf_950_6 ?_
          refine t_bndK hk (fun r12 er12 hk => ?_)
          refine t_callVvE dX13_simple_212 M_X13_fail (C_X13_fail _ _ _ _ er12) ML_X13_411 IM_X13_fail SE_X13_fail qc_950 rfl (As := [.int 2, .int (s4.1 950 6)]) rfl rfl (Nat.le_of_ble_eq_true rfl) (Nat.le_of_ble_eq_true rfl) (Nat.le_of_ble_eq_true rfl) (Nat.le_of_ble_eq_true rfl) ?_
          refine mj_sublv [(0, .ref 950), (1, .int x1)] [0, 1] rfl ?_
          exact B_X13_simple_215 _ _ _ hk
  replace hk := t_neg hk h3
  by_cases h4 : x2.toInt = 47
  · replace hk := t_pos hk h4
    refine mj_lookup 237 dX13_simple_1 (by decide) (by rw [h4] <;> rfl) (by decide) ?_
    refine mj_aload_n dX13_simple_237 0 rfl ?_
    refine t_getR 988 dX13_simple_238 F_X13_126 qr_950_66 ?_
    refine mj_iload_n dX13_simple_241 1 rfl ?_
    refine mj_bipush (v := 8) dX13_simple_242 (by decide) ?_
    refine t_chkK hk (fun c12 hk => ?_)
    refine t_iastK dX13_simple_244 qa_988 (t_ixv c12) (fun s5 ws5 => t_letE hk ws5 (fun hk => ?_))
    refine mj_aload_n dX13_simple_245 0 rfl ?_
    refine t_getR 995 dX13_simple_246 F_X13_147 qr_950_73 ?_
    refine mj_iload_n dX13_simple_249 1 rfl ?_
    refine mj_aload_n dX13_simple_250 0 rfl ?_
    refine t_bndK hk (fun r14 er14 hk => ?_)
    refine t_callSiE dX13_simple_251 M_X13_exp (C_X13_exp _ _ er14) ML_X13_581 SM_X13_exp (As := [.ref 950]) rfl rfl (Nat.le_of_ble_eq_true rfl) (Nat.le_of_ble_eq_true rfl) (Nat.le_of_ble_eq_true rfl) (Nat.le_of_ble_eq_true rfl) ?_
    refine t_iastK dX13_simple_254 qa_995 (t_ixv c12) (fun s6 ws6 => t_letE hk ws6 (fun hk => ?_))
    refine mj_goto 301 dX13_simple_255 (by decide) ?_
    exact t_somK hk (fun hf => t_vret dX13_simple_301 rfl ⟨rfl, hf⟩ (Nat.le_of_ble_eq_true rfl) (Nat.le_of_ble_eq_true rfl))
  replace hk := t_neg hk h4
  by_cases h5 : x2.toInt = 48
  · replace hk := t_pos hk h5
    refine mj_lookup 258 dX13_simple_1 (by decide) (by rw [h5] <;> rfl) (by decide) ?_
    refine mj_aload_n dX13_simple_258 0 rfl ?_
    refine t_getR 988 dX13_simple_259 F_X13_126 qr_950_66 ?_
    refine mj_iload_n dX13_simple_262 1 rfl ?_
    refine mj_iload_n dX13_simple_263 2 rfl ?_
    refine mj_bipush (v := 48) dX13_simple_264 (by decide) ?_
    refine mj_icmp_ne 274 dX13_simple_266 (by decide) (fun z => t_negK hk z (fun hk => ?_)) (fun z => t_posK hk z (fun hk => ?_))
    · refine mj_bipush (v := 12) dX13_simple_274 (by decide) ?_
      refine mj_sublv [(0, .ref 950), (1, .int x1)] [0, 1] rfl ?_
      exact B_X13_simple_276 _ _ _ _ _ hk
    · refine mj_bipush (v := 9) dX13_simple_269 (by decide) ?_
      refine mj_goto 276 dX13_simple_271 (by decide) ?_
      refine mj_sublv [(0, .ref 950), (1, .int x1)] [0, 1] rfl ?_
      exact B_X13_simple_276 _ _ _ _ _ hk
  replace hk := t_neg hk h5
  by_cases h6 : x2.toInt = 50
  · replace hk := t_pos hk h6
    refine mj_lookup 258 dX13_simple_1 (by decide) (by rw [h6] <;> rfl) (by decide) ?_
    refine mj_aload_n dX13_simple_258 0 rfl ?_
    refine t_getR 988 dX13_simple_259 F_X13_126 qr_950_66 ?_
    refine mj_iload_n dX13_simple_262 1 rfl ?_
    refine mj_iload_n dX13_simple_263 2 rfl ?_
    refine mj_bipush (v := 48) dX13_simple_264 (by decide) ?_
    refine mj_icmp_ne 274 dX13_simple_266 (by decide) (fun z => t_negK hk z (fun hk => ?_)) (fun z => t_posK hk z (fun hk => ?_))
    · refine mj_bipush (v := 12) dX13_simple_274 (by decide) ?_
      refine mj_sublv [(0, .ref 950), (1, .int x1)] [0, 1] rfl ?_
      exact B_X13_simple_276 _ _ _ _ _ hk
    · refine mj_bipush (v := 9) dX13_simple_269 (by decide) ?_
      refine mj_goto 276 dX13_simple_271 (by decide) ?_
      refine mj_sublv [(0, .ref 950), (1, .int x1)] [0, 1] rfl ?_
      exact B_X13_simple_276 _ _ _ _ _ hk
  replace hk := t_neg hk h6
  by_cases h7 : x2.toInt = 58
  · replace hk := t_pos hk h7
    refine mj_lookup 91 dX13_simple_1 (by decide) (by rw [h7] <;> rfl) (by decide) ?_
    refine mj_aload_n dX13_simple_91 0 rfl ?_
    refine t_getR 988 dX13_simple_92 F_X13_126 qr_950_66 ?_
    refine mj_iload_n dX13_simple_95 1 rfl ?_
    refine mj_iload_n dX13_simple_96 2 rfl ?_
    refine mj_bipush (v := 40) dX13_simple_97 (by decide) ?_
    refine mj_icmp_ne 106 dX13_simple_99 (by decide) (fun z => t_negK hk z (fun hk => ?_)) (fun z => t_posK hk z (fun hk => ?_))
    · refine mj_bipush (v := 17) dX13_simple_106 (by decide) ?_
      refine mj_sublv [(0, .ref 950), (1, .int x1)] [0, 1] rfl ?_
      exact B_X13_simple_108 _ _ _ _ _ hk
    · refine mj_iconst (v := 5) dX13_simple_102 (by decide) ?_
      refine mj_goto 108 dX13_simple_103 (by decide) ?_
      refine mj_sublv [(0, .ref 950), (1, .int x1)] [0, 1] rfl ?_
      exact B_X13_simple_108 _ _ _ _ _ hk
  replace hk := t_neg hk h7
  refine mj_lookup 295 dX13_simple_1 (by decide) (t_lk0 _ (And.intro h0 (And.intro h1 (And.intro h2 (And.intro h3 (And.intro h4 (And.intro h5 (And.intro h6 (And.intro h7 trivial))))))))) (by decide) ?_
  refine mj_aload_n dX13_simple_295 0 rfl ?_
  refine mj_iload_n dX13_simple_296 1 rfl ?_
  refine mj_iload_n dX13_simple_297 2 rfl ?_
  refine t_bndK hk (fun r15 er15 hk => ?_)
  refine t_callVvE dX13_simple_298 M_X13_simpleMore (C_X13_simpleMore _ _ _ _ er15) ML_X13_773 IM_X13_simpleMore SE_X13_simpleMore qc_950 rfl (As := [.int x1, .int x2]) rfl rfl (Nat.le_of_ble_eq_true rfl) (Nat.le_of_ble_eq_true rfl) (Nat.le_of_ble_eq_true rfl) (Nat.le_of_ble_eq_true rfl) ?_
  exact t_somK hk (fun hf => t_vret dX13_simple_301 rfl ⟨rfl, hf⟩ (Nat.le_of_ble_eq_true rfl) (Nat.le_of_ble_eq_true rfl))

