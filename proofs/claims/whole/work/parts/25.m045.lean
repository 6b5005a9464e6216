/-! Methods as functions, 45: X6_workValue, X12_value, X7_slotOfPlace, X12_variable, X12_why, X12_within, X13_noValue, X13_packs, X13_weightOf -/
theorem qa_1006 : t_oka 1006 2 626600 = true := by decide +kernel
theorem qf_950_96 : t_okf 950 13 96 0 = true := by decide +kernel
theorem qr_0_3 : t_okr 0 12 3 334 = true := by decide +kernel
theorem qr_950_95 : t_okr 950 13 95 1006 = true := by decide +kernel
theorem dX6_workValue_0 : decode cX6_workValue 0 = .ok (.aload_n 0, 1) := by decide +kernel
theorem dX6_workValue_1 : decode cX6_workValue 1 = .ok (.getfield 43, 3) := by decide +kernel
theorem dX6_workValue_101 : decode cX6_workValue 101 = .ok (.iconst 0, 1) := by decide +kernel
theorem dX6_workValue_102 : decode cX6_workValue 102 = .ok (.istore 4, 2) := by decide +kernel
theorem dX6_workValue_104 : decode cX6_workValue 104 = .ok (.aload_n 0, 1) := by decide +kernel
theorem dX6_workValue_105 : decode cX6_workValue 105 = .ok (.getfield 28, 3) := by decide +kernel
theorem dX6_workValue_108 : decode cX6_workValue 108 = .ok (.aload_n 0, 1) := by decide +kernel
theorem dX6_workValue_109 : decode cX6_workValue 109 = .ok (.getfield 76, 3) := by decide +kernel
theorem dX6_workValue_112 : decode cX6_workValue 112 = .ok (.invokevirtual 49, 3) := by decide +kernel
theorem dX6_workValue_115 : decode cX6_workValue 115 = .ok (.aload_n 0, 1) := by decide +kernel
theorem dX6_workValue_116 : decode cX6_workValue 116 = .ok (.getfield 43, 3) := by decide +kernel
theorem dX6_workValue_119 : decode cX6_workValue 119 = .ok (.iload_n 1, 1) := by decide +kernel
theorem dX6_workValue_12 : decode cX6_workValue 12 = .ok (.getfield 70, 3) := by decide +kernel
theorem dX6_workValue_120 : decode cX6_workValue 120 = .ok (.putfield 64, 3) := by decide +kernel
theorem dX6_workValue_123 : decode cX6_workValue 123 = .ok (.aload_n 0, 1) := by decide +kernel
theorem dX6_workValue_124 : decode cX6_workValue 124 = .ok (.getfield 43, 3) := by decide +kernel
theorem dX6_workValue_127 : decode cX6_workValue 127 = .ok (.iload_n 2, 1) := by decide +kernel
theorem dX6_workValue_128 : decode cX6_workValue 128 = .ok (.putfield 70, 3) := by decide +kernel
theorem dX6_workValue_131 : decode cX6_workValue 131 = .ok (.aload_n 0, 1) := by decide +kernel
theorem dX6_workValue_132 : decode cX6_workValue 132 = .ok (.getfield 38, 3) := by decide +kernel
theorem dX6_workValue_135 : decode cX6_workValue 135 = .ok (.iload_n 3, 1) := by decide +kernel
theorem dX6_workValue_136 : decode cX6_workValue 136 = .ok (.putfield 112, 3) := by decide +kernel
theorem dX6_workValue_139 : decode cX6_workValue 139 = .ok (.iload 4, 2) := by decide +kernel
theorem dX6_workValue_141 : decode cX6_workValue 141 = .ok (.ireturn, 1) := by decide +kernel
theorem dX6_workValue_15 : decode cX6_workValue 15 = .ok (.istore_n 2, 1) := by decide +kernel
theorem dX6_workValue_16 : decode cX6_workValue 16 = .ok (.aload_n 0, 1) := by decide +kernel
theorem dX6_workValue_17 : decode cX6_workValue 17 = .ok (.getfield 38, 3) := by decide +kernel
theorem dX6_workValue_20 : decode cX6_workValue 20 = .ok (.getfield 112, 3) := by decide +kernel
theorem dX6_workValue_23 : decode cX6_workValue 23 = .ok (.istore_n 3, 1) := by decide +kernel
theorem dX6_workValue_24 : decode cX6_workValue 24 = .ok (.aload_n 0, 1) := by decide +kernel
theorem dX6_workValue_25 : decode cX6_workValue 25 = .ok (.aload_n 0, 1) := by decide +kernel
theorem dX6_workValue_26 : decode cX6_workValue 26 = .ok (.getfield 28, 3) := by decide +kernel
theorem dX6_workValue_29 : decode cX6_workValue 29 = .ok (.getfield 113, 3) := by decide +kernel
theorem dX6_workValue_32 : decode cX6_workValue 32 = .ok (.putfield 76, 3) := by decide +kernel
theorem dX6_workValue_35 : decode cX6_workValue 35 = .ok (.aload_n 0, 1) := by decide +kernel
theorem dX6_workValue_36 : decode cX6_workValue 36 = .ok (.invokevirtual 79, 3) := by decide +kernel
theorem dX6_workValue_39 : decode cX6_workValue 39 = .ok (.aload_n 0, 1) := by decide +kernel
theorem dX6_workValue_4 : decode cX6_workValue 4 = .ok (.getfield 64, 3) := by decide +kernel
theorem dX6_workValue_40 : decode cX6_workValue 40 = .ok (.iconst 1, 1) := by decide +kernel
theorem dX6_workValue_41 : decode cX6_workValue 41 = .ok (.putfield 116, 3) := by decide +kernel
theorem dX6_workValue_44 : decode cX6_workValue 44 = .ok (.aload_n 0, 1) := by decide +kernel
theorem dX6_workValue_45 : decode cX6_workValue 45 = .ok (.iconst (-1), 1) := by decide +kernel
theorem dX6_workValue_46 : decode cX6_workValue 46 = .ok (.invokevirtual 120, 3) := by decide +kernel
theorem dX6_workValue_49 : decode cX6_workValue 49 = .ok (.pop, 1) := by decide +kernel
theorem dX6_workValue_50 : decode cX6_workValue 50 = .ok (.aload_n 0, 1) := by decide +kernel
theorem dX6_workValue_51 : decode cX6_workValue 51 = .ok (.getfield 28, 3) := by decide +kernel
theorem dX6_workValue_54 : decode cX6_workValue 54 = .ok (.getfield 85, 3) := by decide +kernel
theorem dX6_workValue_57 : decode cX6_workValue 57 = .ok (.iconst 4, 1) := by decide +kernel
theorem dX6_workValue_58 : decode cX6_workValue 58 = .ok (.if_icmp .eq 11, 3) := by decide +kernel
theorem dX6_workValue_61 : decode cX6_workValue 61 = .ok (.aload_n 0, 1) := by decide +kernel
theorem dX6_workValue_62 : decode cX6_workValue 62 = .ok (.getfield 28, 3) := by decide +kernel
theorem dX6_workValue_65 : decode cX6_workValue 65 = .ok (.iconst 2, 1) := by decide +kernel
theorem dX6_workValue_66 : decode cX6_workValue 66 = .ok (.invokevirtual 100, 3) := by decide +kernel
theorem dX6_workValue_69 : decode cX6_workValue 69 = .ok (.aload_n 0, 1) := by decide +kernel
theorem dX6_workValue_7 : decode cX6_workValue 7 = .ok (.istore_n 1, 1) := by decide +kernel
theorem dX6_workValue_70 : decode cX6_workValue 70 = .ok (.invokevirtual 103, 3) := by decide +kernel
theorem dX6_workValue_73 : decode cX6_workValue 73 = .ok (.aload_n 0, 1) := by decide +kernel
theorem dX6_workValue_74 : decode cX6_workValue 74 = .ok (.getfield 43, 3) := by decide +kernel
theorem dX6_workValue_77 : decode cX6_workValue 77 = .ok (.invokevirtual 124, 3) := by decide +kernel
theorem dX6_workValue_8 : decode cX6_workValue 8 = .ok (.aload_n 0, 1) := by decide +kernel
theorem dX6_workValue_80 : decode cX6_workValue 80 = .ok (.aload_n 0, 1) := by decide +kernel
theorem dX6_workValue_81 : decode cX6_workValue 81 = .ok (.getfield 28, 3) := by decide +kernel
theorem dX6_workValue_84 : decode cX6_workValue 84 = .ok (.getfield 82, 3) := by decide +kernel
theorem dX6_workValue_87 : decode cX6_workValue 87 = .ok (.ifCond .ne 14, 3) := by decide +kernel
theorem dX6_workValue_9 : decode cX6_workValue 9 = .ok (.getfield 43, 3) := by decide +kernel
theorem dX6_workValue_90 : decode cX6_workValue 90 = .ok (.aload_n 0, 1) := by decide +kernel
theorem dX6_workValue_91 : decode cX6_workValue 91 = .ok (.getfield 43, 3) := by decide +kernel
theorem dX6_workValue_94 : decode cX6_workValue 94 = .ok (.iload_n 1, 1) := by decide +kernel
theorem dX6_workValue_95 : decode cX6_workValue 95 = .ok (.invokevirtual 125, 3) := by decide +kernel
theorem dX6_workValue_98 : decode cX6_workValue 98 = .ok (.goto 4, 3) := by decide +kernel
noncomputable def k_X6_workValue_102 (l1 : Int32) (l2 : Int32) (l3 : Int32) (k0 : Int32) (s : t_S) : Option (Int32 × t_S) :=
 (f_X2_forget (s.1 845 16) s).bind (fun r1 =>
 t_let (t_setI r1 334 2 l1) (fun s1 =>
 t_let (t_setI s1 334 4 l2) (fun s2 =>
 t_let (t_setI s2 353 9 l3) (fun s3 =>
 some (k0, s3)))))
set_option maxRecDepth 4000 in
set_option maxHeartbeats 1000000 in
theorem B_X6_workValue_102 {D : va_G} {cy : Nat → ClassId} {ad : Nat → Nat} {bs : Nat} {X : State → Heap → Prop} (l1 : Int32) (l2 : Int32) (l3 : Int32) (k0 : Int32) (s : t_S) (Q : Int32 × t_S → Prop) (hk : t_hk (k_X6_workValue_102 l1 l2 l3 k0 s) Q) : mj_G D cy ad bs X cX6_workValue 5 yX6_workValue.cls (some .int) yX6_workValue.name 406 0 0 1065 (t_P (fun v s' => ∃ x, v = some (.int x) ∧ Q ((x, s')))) 102 [(0, .ref 845), (1, .int l1), (2, .int l2), (3, .int l3)] [.int k0] (t_m s) 1065 0 0 := by
  refine mj_istore (lv2 := [(4, .int k0), (0, .ref 845), (1, .int l1), (2, .int l2), (3, .int l3)]) dX6_workValue_102 (by decide) rfl ?_
  refine mj_aload_n dX6_workValue_104 1 rfl ?_
  refine t_getR 1 dX6_workValue_105 F_X6_28 qr_845_0 ?_
  refine mj_aload_n dX6_workValue_108 1 rfl ?_
  refine t_getI dX6_workValue_109 F_X6_76 qf_845_16 ?_
  refine t_bndK hk (fun r1 er1 hk => ?_)
  refine t_callVvE dX6_workValue_112 M_X2_forget (C_X2_forget _ _ _ er1) ML_X6_49 IM_X2_forget SE_X2_forget qc_1 rfl (As := [.int (s.1 845 16)]) rfl rfl (Nat.le_of_ble_eq_true rfl) (Nat.le_of_ble_eq_true rfl) (Nat.le_of_ble_eq_true rfl) (Nat.le_of_ble_eq_true rfl) ?_
  refine mj_aload_n dX6_workValue_115 1 rfl ?_
  refine t_getR 334 dX6_workValue_116 F_X6_43 qr_845_3 ?_
  refine mj_iload_n dX6_workValue_119 2 rfl ?_
  refine t_putIK dX6_workValue_120 F_X6_64 qf_334_2 rfl (fun s1 ws1 => t_letE hk ws1 (fun hk => ?_))
  refine mj_aload_n dX6_workValue_123 1 rfl ?_
  refine t_getR 334 dX6_workValue_124 F_X6_43 qr_845_3 ?_
  refine mj_iload_n dX6_workValue_127 3 rfl ?_
  refine t_putIK dX6_workValue_128 F_X6_70 qf_334_4 rfl (fun s2 ws2 => t_letE hk ws2 (fun hk => ?_))
  refine mj_aload_n dX6_workValue_131 1 rfl ?_
  refine t_getR 353 dX6_workValue_132 F_X6_38 qr_845_2 ?_
  refine mj_iload_n dX6_workValue_135 4 rfl ?_
  refine t_putIK dX6_workValue_136 F_X6_112 qf_353_9 rfl (fun s3 ws3 => t_letE hk ws3 (fun hk => ?_))
  refine mj_iload dX6_workValue_139 0 rfl ?_
  exact t_somK hk (fun hf => t_iret dX6_workValue_141 rfl rfl ⟨_, rfl, hf⟩ (Nat.le_of_ble_eq_true rfl) (Nat.le_of_ble_eq_true rfl))
noncomputable def k_X6_workValue_69 (l1 : Int32) (l2 : Int32) (l3 : Int32) (s : t_S) : Option (Int32 × t_S) :=
 (f_X6_finishReading s).bind (fun r1 =>
 (f_X0_clear r1).bind (fun r2 =>
 if (r2.1 1 11) = (0 : Int32) then ((f_X0_work l1 r2).bind (fun r3 =>
 k_X6_workValue_102 l1 l2 l3 r3.1 r3.2))
 else (k_X6_workValue_102 l1 l2 l3 0 r2)))
set_option maxRecDepth 4000 in
set_option maxHeartbeats 1000000 in
theorem B_X6_workValue_69 {D : va_G} {cy : Nat → ClassId} {ad : Nat → Nat} {bs : Nat} {X : State → Heap → Prop} (l1 : Int32) (l2 : Int32) (l3 : Int32) (s : t_S) (Q : Int32 × t_S → Prop) (hk : t_hk (k_X6_workValue_69 l1 l2 l3 s) Q) : mj_G D cy ad bs X cX6_workValue 5 yX6_workValue.cls (some .int) yX6_workValue.name 406 0 0 1065 (t_P (fun v s' => ∃ x, v = some (.int x) ∧ Q ((x, s')))) 69 [(0, .ref 845), (1, .int l1), (2, .int l2), (3, .int l3)] [] (t_m s) 1065 0 0 := by
  refine mj_aload_n dX6_workValue_69 0 rfl ?_
  refine t_bndK hk (fun r1 er1 hk => ?_)
  refine t_callVvE dX6_workValue_70 M_X6_finishReading (C_X6_finishReading _ _ er1) ML_X6_103 IM_X6_finishReading SE_X6_finishReading qc_845 rfl (As := []) rfl rfl (Nat.le_of_ble_eq_true rfl) (Nat.le_of_ble_eq_true rfl) (Nat.le_of_ble_eq_true rfl) (Nat.le_of_ble_eq_true rfl) ?_
  refine mj_aload_n dX6_workValue_73 0 rfl ?_
  refine t_getR 334 dX6_workValue_74 F_X6_43 qr_845_3 ?_
  refine t_bndK hk (fun r2 er2 hk => ?_)
  refine t_callVvE dX6_workValue_77 M_X0_clear (C_X0_clear _ _ er2) ML_X6_124 IM_X0_clear SE_X0_clear qc_334 rfl (As := []) rfl rfl (Nat.le_of_ble_eq_true rfl) (Nat.le_of_ble_eq_true rfl) (Nat.le_of_ble_eq_true rfl) (Nat.le_of_ble_eq_true rfl) ?_
  refine mj_aload_n dX6_workValue_80 0 rfl ?_
  refine t_getR 1 dX6_workValue_81 F_X6_28 qr_845_0 ?_
  refine t_getI dX6_workValue_84 F_X6_82 qf_1_11 ?_
  refine mj_if_ne 101 dX6_workValue_87 (by decide) (fun z => t_negK hk z (fun hk => ?_)) (fun z => t_posK hk z (fun hk => ?_))
  · refine mj_iconst (v := 0) dX6_workValue_101 (by decide) ?_
    exact B_X6_workValue_102 _ _ _ _ _ _ hk
  · refine mj_aload_n dX6_workValue_90 0 rfl ?_
    refine t_getR 334 dX6_workValue_91 F_X6_43 qr_845_3 ?_
    refine mj_iload_n dX6_workValue_94 1 rfl ?_
    refine t_bndK hk (fun r3 er3 hk => ?_)
    refine t_callViE dX6_workValue_95 M_X0_work (C_X0_work _ _ _ er3) ML_X6_125 IM_X0_work SE_X0_work qc_334 rfl (As := [.int l1]) rfl rfl (Nat.le_of_ble_eq_true rfl) (Nat.le_of_ble_eq_true rfl) (Nat.le_of_ble_eq_true rfl) (Nat.le_of_ble_eq_true rfl) ?_
    refine mj_goto 102 dX6_workValue_98 (by decide) ?_
    exact B_X6_workValue_102 _ _ _ _ _ _ hk
noncomputable def f_X6_workValue (s : t_S) : Option (Int32 × t_S) :=
 t_let (t_setI s 845 16 (s.1 1 13)) (fun s1 =>
 (f_X6_startReading s1).bind (fun r1 =>
 t_let (t_setI r1 845 15 (1 : Int32)) (fun s2 =>
 (f_X6_readExp (-1 : Int32) s2).bind (fun r2 =>
 if (r2.2.1 1 8) = (4 : Int32) then (k_X6_workValue_69 (s.1 334 2) (s.1 334 4) (s.1 353 9) r2.2)
 else ((f_X2_fail (2 : Int32) r2.2).bind (fun r3 =>
 k_X6_workValue_69 (s.1 334 2) (s.1 334 4) (s.1 353 9) r3))))))
set_option maxRecDepth 4000 in
set_option maxHeartbeats 1000000 in
theorem C_X6_workValue (s : t_S) (r : Int32 × t_S) (hr : f_X6_workValue s = some r) : t_C yX6_workValue cX6_workValue 5 (some .int) 406 [.ref 845] s (fun v s' => v = some (.int r.1) ∧ s' = r.2) := by
  refine t_C.imp (P := fun v s' => ∃ x, v = some (.int x) ∧ (fun q => q = r) ((x, s'))) (t_C.of (by decide +kernel) (Nat.le_of_ble_eq_true rfl) ?_) (fun v s' hp => by obtain ⟨x, rfl, rfl⟩ := hp; exact ⟨rfl, rfl⟩)
  intro D cy ad bs X
  have hk : t_hk (f_X6_workValue s) (fun q => q = r) := ⟨r, hr, rfl⟩
  show mj_G D cy ad bs X cX6_workValue 5 yX6_workValue.cls (some .int) yX6_workValue.name 406 0 0 1065 (t_P (fun v s' => ∃ x, v = some (.int x) ∧ (fun q => q = r) ((x, s')))) 0 [(0, .ref 845)] [] (t_m s) 1065 0 0
  refine mj_aload_n dX6_workValue_0 0 rfl ?_
  refine t_getR 334 dX6_workValue_1 F_X6_43 qr_845_3 ?_
  refine t_getI dX6_workValue_4 F_X6_64 qf_334_2 ?_
  refine mj_istore_n 1 (lv2 := [(1, .int (s.1 334 2)), (0, .ref 845)]) dX6_workValue_7 rfl (by decide) rfl ?_
  refine mj_aload_n dX6_workValue_8 1 rfl ?_
  refine t_getR 334 dX6_workValue_9 F_X6_43 qr_845_3 ?_
  refine t_getI dX6_workValue_12 F_X6_70 qf_334_4 ?_
  refine mj_istore_n 2 (lv2 := [(2, .int (s.1 334 4)), (1, .int (s.1 334 2)), (0, .ref 845)]) dX6_workValue_15 rfl (by decide) rfl ?_
  refine mj_aload_n dX6_workValue_16 2 rfl ?_
  refine t_getR 353 dX6_workValue_17 F_X6_38 qr_845_2 ?_
  refine t_getI dX6_workValue_20 F_X6_112 qf_353_9 ?_
  refine mj_istore_n 3 (lv2 := [(3, .int (s.1 353 9)), (2, .int (s.1 334 4)), (1, .int (s.1 334 2)), (0, .ref 845)]) dX6_workValue_23 rfl (by decide) rfl ?_
  refine mj_aload_n dX6_workValue_24 3 rfl ?_
  refine mj_aload_n dX6_workValue_25 3 rfl ?_
  refine t_getR 1 dX6_workValue_26 F_X6_28 qr_845_0 ?_
  refine t_getI dX6_workValue_29 F_X6_113 qf_1_13 ?_
  refine t_putIK dX6_workValue_32 F_X6_76 qf_845_16 rfl (fun s1 ws1 => t_letE hk ws1 (fun hk => ?_))
  refine mj_aload_n dX6_workValue_35 3 rfl ?_
  refine t_bndK hk (fun r1 er1 hk => ?_)
  refine t_callVvE dX6_workValue_36 M_X6_startReading (C_X6_startReading _ _ er1) ML_X6_79 IM_X6_startReading SE_X6_startReading qc_845 rfl (As := []) rfl rfl (Nat.le_of_ble_eq_true rfl) (Nat.le_of_ble_eq_true rfl) (Nat.le_of_ble_eq_true rfl) (Nat.le_of_ble_eq_true rfl) ?_
  refine mj_aload_n dX6_workValue_39 3 rfl ?_
  refine mj_iconst (v := 1) dX6_workValue_40 (by decide) ?_
  refine t_putIK dX6_workValue_41 F_X6_116 qf_845_15 (by decide) (fun s2 ws2 => t_letE hk ws2 (fun hk => ?_))
  refine mj_aload_n dX6_workValue_44 3 rfl ?_
  refine mj_iconst (v := (-1)) dX6_workValue_45 (by decide) ?_
  refine t_bndK hk (fun r2 er2 hk => ?_)
  refine t_callViE dX6_workValue_46 M_X6_readExp (C_X6_readExp _ _ _ er2) ML_X6_120 IM_X6_readExp SE_X6_readExp qc_845 rfl (As := [.int (-1)]) rfl rfl (Nat.le_of_ble_eq_true rfl) (Nat.le_of_ble_eq_true rfl) (Nat.le_of_ble_eq_true rfl) (Nat.le_of_ble_eq_true rfl) ?_
  refine mj_pop dX6_workValue_49 rfl ?_
  refine mj_aload_n dX6_workValue_50 3 rfl ?_
  refine t_getR 1 dX6_workValue_51 F_X6_28 qr_845_0 ?_
  refine t_getI dX6_workValue_54 F_X6_85 qf_1_8 ?_
  refine mj_iconst (v := 4) dX6_workValue_57 (by decide) ?_
  refine mj_icmp_eq 69 dX6_workValue_58 (by decide) (fun z => t_posK hk z (fun hk => ?_)) (fun z => t_negK hk z (fun hk => ?_))
  · refine mj_sublv [(0, .ref 845), (1, .int (s.1 334 2)), (2, .int (s.1 334 4)), (3, .int (s.1 353 9))] [3, 2, 1, 0] rfl ?_
    exact B_X6_workValue_69 _ _ _ _ _ hk
  · refine mj_aload_n dX6_workValue_61 3 rfl ?_
    refine t_getR 1 dX6_workValue_62 F_X6_28 qr_845_0 ?_
    refine mj_iconst (v := 2) dX6_workValue_65 (by decide) ?_
    refine t_bndK hk (fun r3 er3 hk => ?_)
    refine t_callVvE dX6_workValue_66 M_X2_fail (C_X2_fail _ _ _ er3) ML_X6_100 IM_X2_fail SE_X2_fail qc_1 rfl (As := [.int 2]) rfl rfl (Nat.le_of_ble_eq_true rfl) (Nat.le_of_ble_eq_true rfl) (Nat.le_of_ble_eq_true rfl) (Nat.le_of_ble_eq_true rfl) ?_
    refine mj_sublv [(0, .ref 845), (1, .int (s.1 334 2)), (2, .int (s.1 334 4)), (3, .int (s.1 353 9))] [3, 2, 1, 0] rfl ?_
    exact B_X6_workValue_69 _ _ _ _ _ hk

theorem dX12_value_0 : decode cX12_value 0 = .ok (.aload_n 0, 1) := by decide +kernel
theorem dX12_value_1 : decode cX12_value 1 = .ok (.getfield 121, 3) := by decide +kernel
theorem dX12_value_10 : decode cX12_value 10 = .ok (.getfield 19, 3) := by decide +kernel
theorem dX12_value_102 : decode cX12_value 102 = .ok (.aload_n 0, 1) := by decide +kernel
theorem dX12_value_103 : decode cX12_value 103 = .ok (.getfield 35, 3) := by decide +kernel
theorem dX12_value_106 : decode cX12_value 106 = .ok (.invokevirtual 159, 3) := by decide +kernel
theorem dX12_value_109 : decode cX12_value 109 = .ok (.invokevirtual 162, 3) := by decide +kernel
theorem dX12_value_112 : decode cX12_value 112 = .ok (.ireturn, 1) := by decide +kernel
theorem dX12_value_13 : decode cX12_value 13 = .ok (.getfield 107, 3) := by decide +kernel
theorem dX12_value_16 : decode cX12_value 16 = .ok (.bipush 40, 2) := by decide +kernel
theorem dX12_value_18 : decode cX12_value 18 = .ok (.if_icmp .lt 6, 3) := by decide +kernel
theorem dX12_value_21 : decode cX12_value 21 = .ok (.bipush (-3), 2) := by decide +kernel
theorem dX12_value_23 : decode cX12_value 23 = .ok (.ireturn, 1) := by decide +kernel
theorem dX12_value_24 : decode cX12_value 24 = .ok (.aload_n 0, 1) := by decide +kernel
theorem dX12_value_25 : decode cX12_value 25 = .ok (.getfield 66, 3) := by decide +kernel
theorem dX12_value_28 : decode cX12_value 28 = .ok (.invokevirtual 151, 3) := by decide +kernel
theorem dX12_value_31 : decode cX12_value 31 = .ok (.istore_n 1, 1) := by decide +kernel
theorem dX12_value_32 : decode cX12_value 32 = .ok (.aload_n 0, 1) := by decide +kernel
theorem dX12_value_33 : decode cX12_value 33 = .ok (.aload_n 0, 1) := by decide +kernel
theorem dX12_value_34 : decode cX12_value 34 = .ok (.getfield 10, 3) := by decide +kernel
theorem dX12_value_37 : decode cX12_value 37 = .ok (.getfield 116, 3) := by decide +kernel
theorem dX12_value_4 : decode cX12_value 4 = .ok (.ifCond .ne 5, 3) := by decide +kernel
theorem dX12_value_40 : decode cX12_value 40 = .ok (.putfield 119, 3) := by decide +kernel
theorem dX12_value_43 : decode cX12_value 43 = .ok (.aload_n 0, 1) := by decide +kernel
theorem dX12_value_44 : decode cX12_value 44 = .ok (.aload_n 0, 1) := by decide +kernel
theorem dX12_value_45 : decode cX12_value 45 = .ok (.getfield 119, 3) := by decide +kernel
theorem dX12_value_48 : decode cX12_value 48 = .ok (.ifCond .ne 7, 3) := by decide +kernel
theorem dX12_value_51 : decode cX12_value 51 = .ok (.iconst (-1), 1) := by decide +kernel
theorem dX12_value_52 : decode cX12_value 52 = .ok (.goto 10, 3) := by decide +kernel
theorem dX12_value_55 : decode cX12_value 55 = .ok (.aload_n 0, 1) := by decide +kernel
theorem dX12_value_56 : decode cX12_value 56 = .ok (.getfield 10, 3) := by decide +kernel
theorem dX12_value_59 : decode cX12_value 59 = .ok (.getfield 120, 3) := by decide +kernel
theorem dX12_value_62 : decode cX12_value 62 = .ok (.putfield 95, 3) := by decide +kernel
theorem dX12_value_65 : decode cX12_value 65 = .ok (.aload_n 0, 1) := by decide +kernel
theorem dX12_value_66 : decode cX12_value 66 = .ok (.getfield 119, 3) := by decide +kernel
theorem dX12_value_69 : decode cX12_value 69 = .ok (.ifCond .eq 11, 3) := by decide +kernel
theorem dX12_value_7 : decode cX12_value 7 = .ok (.iconst (-1), 1) := by decide +kernel
theorem dX12_value_72 : decode cX12_value 72 = .ok (.bipush (-10), 2) := by decide +kernel
theorem dX12_value_74 : decode cX12_value 74 = .ok (.aload_n 0, 1) := by decide +kernel
theorem dX12_value_75 : decode cX12_value 75 = .ok (.getfield 119, 3) := by decide +kernel
theorem dX12_value_78 : decode cX12_value 78 = .ok (.isub, 1) := by decide +kernel
theorem dX12_value_79 : decode cX12_value 79 = .ok (.ireturn, 1) := by decide +kernel
theorem dX12_value_8 : decode cX12_value 8 = .ok (.ireturn, 1) := by decide +kernel
theorem dX12_value_80 : decode cX12_value 80 = .ok (.iload_n 1, 1) := by decide +kernel
theorem dX12_value_81 : decode cX12_value 81 = .ok (.ifCond .eq 10, 3) := by decide +kernel
theorem dX12_value_84 : decode cX12_value 84 = .ok (.bipush (-20), 2) := by decide +kernel
theorem dX12_value_86 : decode cX12_value 86 = .ok (.iload_n 1, 1) := by decide +kernel
theorem dX12_value_87 : decode cX12_value 87 = .ok (.isub, 1) := by decide +kernel
theorem dX12_value_88 : decode cX12_value 88 = .ok (.goto 24, 3) := by decide +kernel
theorem dX12_value_9 : decode cX12_value 9 = .ok (.aload_n 0, 1) := by decide +kernel
theorem dX12_value_91 : decode cX12_value 91 = .ok (.aload_n 0, 1) := by decide +kernel
theorem dX12_value_92 : decode cX12_value 92 = .ok (.getfield 19, 3) := by decide +kernel
theorem dX12_value_95 : decode cX12_value 95 = .ok (.aload_n 0, 1) := by decide +kernel
theorem dX12_value_96 : decode cX12_value 96 = .ok (.getfield 35, 3) := by decide +kernel
theorem dX12_value_99 : decode cX12_value 99 = .ok (.getfield 155, 3) := by decide +kernel
noncomputable def k_X12_value_62 (l1 : Int32) (k0 : Int32) (s : t_S) : Option (Int32 × t_S) :=
 t_let (t_setI s 0 11 k0) (fun s1 =>
 if (s1.1 0 10) = (0 : Int32) then (if l1 = (0 : Int32) then ((f_X0_topAt s1).bind (fun r1 =>
 (f_X8_keep 338 r1 s1).bind (fun r2 =>
 some (r2.1, r2.2))))
 else (some (((-20 : Int32) - l1), s1)))
 else (some (((-10 : Int32) - (s1.1 0 10)), s1)))
set_option maxRecDepth 4000 in
set_option maxHeartbeats 1000000 in
theorem B_X12_value_62 {D : va_G} {cy : Nat → ClassId} {ad : Nat → Nat} {bs : Nat} {X : State → Heap → Prop} (l1 : Int32) (k0 : Int32) (s : t_S) (Q : Int32 × t_S → Prop) (hk : t_hk (k_X12_value_62 l1 k0 s) Q) : mj_G D cy ad bs X cX12_value 2 yX12_value.cls (some .int) yX12_value.name 407 0 0 1065 (t_P (fun v s' => ∃ x, v = some (.int x) ∧ Q ((x, s')))) 62 [(0, .ref 0), (1, .int l1)] [.int k0, .ref 0] (t_m s) 1065 0 0 := by
  refine t_putIK dX12_value_62 F_X12_95 qf_0_11 rfl (fun s1 ws1 => t_letE hk ws1 (fun hk => ?_))
  refine mj_aload_n dX12_value_65 0 rfl ?_
  refine t_getI dX12_value_66 F_X12_119 qf_0_10 ?_
  refine mj_if_eq 80 dX12_value_69 (by decide) (fun z => t_posK hk z (fun hk => ?_)) (fun z => t_negK hk z (fun hk => ?_))
  · refine mj_iload_n dX12_value_80 1 rfl ?_
    refine mj_if_eq 91 dX12_value_81 (by decide) (fun z => t_posK hk z (fun hk => ?_)) (fun z => t_negK hk z (fun hk => ?_))
    · refine mj_aload_n dX12_value_91 0 rfl ?_
      refine t_getR 12 dX12_value_92 F_X12_19 qr_0_1 ?_
      refine mj_aload_n dX12_value_95 0 rfl ?_
      refine t_getR 334 dX12_value_96 F_X12_35 qr_0_3 ?_
      refine t_getR 338 dX12_value_99 F_X12_155 qr_334_5 ?_
      refine mj_aload_n dX12_value_102 0 rfl ?_
      refine t_getR 334 dX12_value_103 F_X12_35 qr_0_3 ?_
      refine t_bndK hk (fun r1 er1 hk => ?_)
      refine t_callViP dX12_value_106 M_X0_topAt (C_X0_topAt _ _ er1) ML_X12_159 IM_X0_topAt SE_X0_topAt qc_334 rfl (As := []) rfl rfl (Nat.le_of_ble_eq_true rfl) (Nat.le_of_ble_eq_true rfl) (Nat.le_of_ble_eq_true rfl) (Nat.le_of_ble_eq_true rfl) ?_
      refine t_bndK hk (fun r2 er2 hk => ?_)
      refine t_callViE dX12_value_109 M_X8_keep (C_X8_keep _ _ _ _ er2) ML_X12_162 IM_X8_keep SE_X8_keep qc_12 rfl (As := [.ref 338, .int r1]) rfl rfl (Nat.le_of_ble_eq_true rfl) (Nat.le_of_ble_eq_true rfl) (Nat.le_of_ble_eq_true rfl) (Nat.le_of_ble_eq_true rfl) ?_
      exact t_somK hk (fun hf => t_iret dX12_value_112 rfl rfl ⟨_, rfl, hf⟩ (Nat.le_of_ble_eq_true rfl) (Nat.le_of_ble_eq_true rfl))
    · refine mj_bipush (v := (-20)) dX12_value_84 (by decide) ?_
      refine mj_iload_n dX12_value_86 1 rfl ?_
      refine mj_isub dX12_value_87 ?_
      refine mj_goto 112 dX12_value_88 (by decide) ?_
      exact t_somK hk (fun hf => t_iret dX12_value_112 rfl rfl ⟨_, rfl, hf⟩ (Nat.le_of_ble_eq_true rfl) (Nat.le_of_ble_eq_true rfl))
  · refine mj_bipush (v := (-10)) dX12_value_72 (by decide) ?_
    refine mj_aload_n dX12_value_74 0 rfl ?_
    refine t_getI dX12_value_75 F_X12_119 qf_0_10 ?_
    refine mj_isub dX12_value_78 ?_
    exact t_somK hk (fun hf => t_iret dX12_value_79 rfl rfl ⟨_, rfl, hf⟩ (Nat.le_of_ble_eq_true rfl) (Nat.le_of_ble_eq_true rfl))
noncomputable def f_X12_value (s : t_S) : Option (Int32 × t_S) :=
 if (s.1 0 12) = (0 : Int32) then (some ((-1 : Int32), s))
 else (if (s.1 12 2) < (40 : Int32) then ((f_X6_workValue s).bind (fun r1 =>
 t_let (t_setI r1.2 0 10 (r1.2.1 1 11)) (fun s1 =>
 if (s1.1 0 10) = (0 : Int32) then (k_X12_value_62 r1.1 (-1) s1)
 else (k_X12_value_62 r1.1 (s1.1 1 12) s1))))
 else (some ((-3 : Int32), s)))
set_option maxRecDepth 4000 in
set_option maxHeartbeats 1000000 in
theorem C_X12_value (s : t_S) (r : Int32 × t_S) (hr : f_X12_value s = some r) : t_C yX12_value cX12_value 2 (some .int) 407 [.ref 0] s (fun v s' => v = some (.int r.1) ∧ s' = r.2) := by
  refine t_C.imp (P := fun v s' => ∃ x, v = some (.int x) ∧ (fun q => q = r) ((x, s'))) (t_C.of (by decide +kernel) (Nat.le_of_ble_eq_true rfl) ?_) (fun v s' hp => by obtain ⟨x, rfl, rfl⟩ := hp; exact ⟨rfl, rfl⟩)
  intro D cy ad bs X
  have hk : t_hk (f_X12_value s) (fun q => q = r) := ⟨r, hr, rfl⟩
  show mj_G D cy ad bs X cX12_value 2 yX12_value.cls (some .int) yX12_value.name 407 0 0 1065 (t_P (fun v s' => ∃ x, v = some (.int x) ∧ (fun q => q = r) ((x, s')))) 0 [(0, .ref 0)] [] (t_m s) 1065 0 0
  refine mj_aload_n dX12_value_0 0 rfl ?_
  refine t_getI dX12_value_1 F_X12_121 qf_0_12 ?_
  refine mj_if_ne 9 dX12_value_4 (by decide) (fun z => t_negK hk z (fun hk => ?_)) (fun z => t_posK hk z (fun hk => ?_))
  · refine mj_aload_n dX12_value_9 0 rfl ?_
    refine t_getR 12 dX12_value_10 F_X12_19 qr_0_1 ?_
    refine t_getI dX12_value_13 F_X12_107 qf_12_2 ?_
    refine mj_bipush (v := 40) dX12_value_16 (by decide) ?_
    refine mj_icmp_lt 24 dX12_value_18 (by decide) (fun z => t_posK hk z (fun hk => ?_)) (fun z => t_negK hk z (fun hk => ?_))
    · refine mj_aload_n dX12_value_24 0 rfl ?_
      refine t_getR 845 dX12_value_25 F_X12_66 qr_0_6 ?_
      refine t_bndK hk (fun r1 er1 hk => ?_)
      refine t_callViE dX12_value_28 M_X6_workValue (C_X6_workValue _ _ er1) ML_X12_151 IM_X6_workValue SE_X6_workValue qc_845 rfl (As := []) rfl rfl (Nat.le_of_ble_eq_true rfl) (Nat.le_of_ble_eq_true rfl) (Nat.le_of_ble_eq_true rfl) (Nat.le_of_ble_eq_true rfl) ?_
      refine mj_istore_n 1 (lv2 := [(1, .int r1.1), (0, .ref 0)]) dX12_value_31 rfl (by decide) rfl ?_
      refine mj_aload_n dX12_value_32 1 rfl ?_
      refine mj_aload_n dX12_value_33 1 rfl ?_
      refine t_getR 1 dX12_value_34 F_X12_10 qr_0_0 ?_
      refine t_getI dX12_value_37 F_X12_116 qf_1_11 ?_
      refine t_putIK dX12_value_40 F_X12_119 qf_0_10 rfl (fun s1 ws1 => t_letE hk ws1 (fun hk => ?_))
      refine mj_aload_n dX12_value_43 1 rfl ?_
      refine mj_aload_n dX12_value_44 1 rfl ?_
      refine t_getI dX12_value_45 F_X12_119 qf_0_10 ?_
      refine mj_if_ne 55 dX12_value_48 (by decide) (fun z => t_negK hk z (fun hk => ?_)) (fun z => t_posK hk z (fun hk => ?_))
      · refine mj_aload_n dX12_value_55 1 rfl ?_
        refine t_getR 1 dX12_value_56 F_X12_10 qr_0_0 ?_
        refine t_getI dX12_value_59 F_X12_120 qf_1_12 ?_
        refine mj_sublv [(0, .ref 0), (1, .int r1.1)] [1, 0] rfl ?_
        exact B_X12_value_62 _ _ _ _ hk
      · refine mj_iconst (v := (-1)) dX12_value_51 (by decide) ?_
        refine mj_goto 62 dX12_value_52 (by decide) ?_
        refine mj_sublv [(0, .ref 0), (1, .int r1.1)] [1, 0] rfl ?_
        exact B_X12_value_62 _ _ _ _ hk
    · refine mj_bipush (v := (-3)) dX12_value_21 (by decide) ?_
      exact t_somK hk (fun hf => t_iret dX12_value_23 rfl rfl ⟨_, rfl, hf⟩ (Nat.le_of_ble_eq_true rfl) (Nat.le_of_ble_eq_true rfl))
  · refine mj_iconst (v := (-1)) dX12_value_7 (by decide) ?_
    exact t_somK hk (fun hf => t_iret dX12_value_8 rfl rfl ⟨_, rfl, hf⟩ (Nat.le_of_ble_eq_true rfl) (Nat.le_of_ble_eq_true rfl))

theorem dX7_slotOfPlace_0 : decode cX7_slotOfPlace 0 = .ok (.iload_n 2, 1) := by decide +kernel
theorem dX7_slotOfPlace_1 : decode cX7_slotOfPlace 1 = .ok (.ifCond .lt 25, 3) := by decide +kernel
theorem dX7_slotOfPlace_12 : decode cX7_slotOfPlace 12 = .ok (.aload_n 1, 1) := by decide +kernel
theorem dX7_slotOfPlace_13 : decode cX7_slotOfPlace 13 = .ok (.getfield 113, 3) := by decide +kernel
theorem dX7_slotOfPlace_16 : decode cX7_slotOfPlace 16 = .ok (.iaload, 1) := by decide +kernel
theorem dX7_slotOfPlace_17 : decode cX7_slotOfPlace 17 = .ok (.if_icmp .ge 9, 3) := by decide +kernel
theorem dX7_slotOfPlace_20 : decode cX7_slotOfPlace 20 = .ok (.aload_n 1, 1) := by decide +kernel
theorem dX7_slotOfPlace_21 : decode cX7_slotOfPlace 21 = .ok (.iload_n 2, 1) := by decide +kernel
theorem dX7_slotOfPlace_22 : decode cX7_slotOfPlace 22 = .ok (.invokevirtual 99, 3) := by decide +kernel
theorem dX7_slotOfPlace_25 : decode cX7_slotOfPlace 25 = .ok (.ireturn, 1) := by decide +kernel
theorem dX7_slotOfPlace_26 : decode cX7_slotOfPlace 26 = .ok (.iload_n 2, 1) := by decide +kernel
theorem dX7_slotOfPlace_27 : decode cX7_slotOfPlace 27 = .ok (.bipush 100, 2) := by decide +kernel
theorem dX7_slotOfPlace_29 : decode cX7_slotOfPlace 29 = .ok (.if_icmp .lt 10, 3) := by decide +kernel
theorem dX7_slotOfPlace_32 : decode cX7_slotOfPlace 32 = .ok (.aload_n 1, 1) := by decide +kernel
theorem dX7_slotOfPlace_33 : decode cX7_slotOfPlace 33 = .ok (.getfield 191, 3) := by decide +kernel
theorem dX7_slotOfPlace_36 : decode cX7_slotOfPlace 36 = .ok (.ifCond .ne 5, 3) := by decide +kernel
theorem dX7_slotOfPlace_39 : decode cX7_slotOfPlace 39 = .ok (.iconst (-1), 1) := by decide +kernel
theorem dX7_slotOfPlace_4 : decode cX7_slotOfPlace 4 = .ok (.iload_n 2, 1) := by decide +kernel
theorem dX7_slotOfPlace_40 : decode cX7_slotOfPlace 40 = .ok (.ireturn, 1) := by decide +kernel
theorem dX7_slotOfPlace_41 : decode cX7_slotOfPlace 41 = .ok (.aload_n 1, 1) := by decide +kernel
theorem dX7_slotOfPlace_42 : decode cX7_slotOfPlace 42 = .ok (.getfield 197, 3) := by decide +kernel
theorem dX7_slotOfPlace_45 : decode cX7_slotOfPlace 45 = .ok (.aload_n 1, 1) := by decide +kernel
theorem dX7_slotOfPlace_46 : decode cX7_slotOfPlace 46 = .ok (.getfield 191, 3) := by decide +kernel
theorem dX7_slotOfPlace_49 : decode cX7_slotOfPlace 49 = .ok (.iconst 1, 1) := by decide +kernel
theorem dX7_slotOfPlace_5 : decode cX7_slotOfPlace 5 = .ok (.aload_n 0, 1) := by decide +kernel
theorem dX7_slotOfPlace_50 : decode cX7_slotOfPlace 50 = .ok (.isub, 1) := by decide +kernel
theorem dX7_slotOfPlace_51 : decode cX7_slotOfPlace 51 = .ok (.iaload, 1) := by decide +kernel
theorem dX7_slotOfPlace_52 : decode cX7_slotOfPlace 52 = .ok (.istore_n 3, 1) := by decide +kernel
theorem dX7_slotOfPlace_53 : decode cX7_slotOfPlace 53 = .ok (.iload_n 2, 1) := by decide +kernel
theorem dX7_slotOfPlace_54 : decode cX7_slotOfPlace 54 = .ok (.bipush 100, 2) := by decide +kernel
theorem dX7_slotOfPlace_56 : decode cX7_slotOfPlace 56 = .ok (.isub, 1) := by decide +kernel
theorem dX7_slotOfPlace_57 : decode cX7_slotOfPlace 57 = .ok (.aload_n 0, 1) := by decide +kernel
theorem dX7_slotOfPlace_58 : decode cX7_slotOfPlace 58 = .ok (.getfield 31, 3) := by decide +kernel
theorem dX7_slotOfPlace_6 : decode cX7_slotOfPlace 6 = .ok (.getfield 31, 3) := by decide +kernel
theorem dX7_slotOfPlace_61 : decode cX7_slotOfPlace 61 = .ok (.getfield 200, 3) := by decide +kernel
theorem dX7_slotOfPlace_64 : decode cX7_slotOfPlace 64 = .ok (.iload_n 3, 1) := by decide +kernel
theorem dX7_slotOfPlace_65 : decode cX7_slotOfPlace 65 = .ok (.iaload, 1) := by decide +kernel
theorem dX7_slotOfPlace_66 : decode cX7_slotOfPlace 66 = .ok (.if_icmp .ge 15, 3) := by decide +kernel
theorem dX7_slotOfPlace_69 : decode cX7_slotOfPlace 69 = .ok (.aload_n 1, 1) := by decide +kernel
theorem dX7_slotOfPlace_70 : decode cX7_slotOfPlace 70 = .ok (.invokevirtual 158, 3) := by decide +kernel
theorem dX7_slotOfPlace_73 : decode cX7_slotOfPlace 73 = .ok (.iload_n 2, 1) := by decide +kernel
theorem dX7_slotOfPlace_74 : decode cX7_slotOfPlace 74 = .ok (.iadd, 1) := by decide +kernel
theorem dX7_slotOfPlace_75 : decode cX7_slotOfPlace 75 = .ok (.bipush 100, 2) := by decide +kernel
theorem dX7_slotOfPlace_77 : decode cX7_slotOfPlace 77 = .ok (.isub, 1) := by decide +kernel
theorem dX7_slotOfPlace_78 : decode cX7_slotOfPlace 78 = .ok (.goto 4, 3) := by decide +kernel
theorem dX7_slotOfPlace_81 : decode cX7_slotOfPlace 81 = .ok (.iconst (-1), 1) := by decide +kernel
theorem dX7_slotOfPlace_82 : decode cX7_slotOfPlace 82 = .ok (.ireturn, 1) := by decide +kernel
theorem dX7_slotOfPlace_9 : decode cX7_slotOfPlace 9 = .ok (.getfield 110, 3) := by decide +kernel
noncomputable def k_X7_slotOfPlace_26 (l1 : Nat) (l2 : Int32) (s : t_S) : Option (Int32) :=
 if l2 < (100 : Int32) then (some (-1 : Int32))
 else (if t_isP l1 = true then
  if (s.1 l1 6) = (0 : Int32) then (some (-1 : Int32))
 else (if t_ix ((s.1 l1 6) - (1 : Int32)) 8 = true then
  if t_ix (s.1 (l1 + 1) (((s.1 l1 6) - (1 : Int32)).toNatClampNeg)) 40 = true then
  if (s.1 440 ((s.1 (l1 + 1) (((s.1 l1 6) - (1 : Int32)).toNatClampNeg)).toNatClampNeg)) ≤ (l2 - (100 : Int32)) then (some (-1 : Int32))
 else ((f_X4_topSlot l1 s).bind (fun r4 =>
 some ((r4 + l2) - (100 : Int32))))
else none
else none)
else none)
set_option maxRecDepth 4000 in
set_option maxHeartbeats 1000000 in
theorem B_X7_slotOfPlace_26 {D : va_G} {cy : Nat → ClassId} {ad : Nat → Nat} {bs : Nat} {X : State → Heap → Prop} (l1 : Nat) (l2 : Int32) (s : t_S) (Q : Int32 → Prop) (hk : t_hk (k_X7_slotOfPlace_26 l1 l2 s) Q) : mj_G D cy ad bs X cX7_slotOfPlace 4 yX7_slotOfPlace.cls (some .int) yX7_slotOfPlace.name 2 0 0 1065 (t_P (fun v s' => s' = s ∧ ∃ x, v = some (.int x) ∧ Q (x))) 26 [(0, .ref 864), (1, .ref l1), (2, .int l2)] [] (t_m s) 1065 0 0 := by
  refine mj_iload_n dX7_slotOfPlace_26 2 rfl ?_
  refine mj_bipush (v := 100) dX7_slotOfPlace_27 (by decide) ?_
  refine mj_icmp_lt 39 dX7_slotOfPlace_29 (by decide) (fun z => t_posK hk z (fun hk => ?_)) (fun z => t_negK hk z (fun hk => ?_))
  · refine mj_iconst (v := (-1)) dX7_slotOfPlace_39 (by decide) ?_
    exact t_somK hk (fun hf => t_iret dX7_slotOfPlace_40 rfl rfl ⟨rfl, _, rfl, hf⟩ (Nat.le_of_ble_eq_true rfl) (Nat.le_of_ble_eq_true rfl))
  · refine mj_aload_n dX7_slotOfPlace_32 1 rfl ?_
    refine t_chkK hk (fun c0 hk => ?_)
    refine t_getI dX7_slotOfPlace_33 F_X7_191 (t_pf6 c0) ?_
    refine mj_if_ne 41 dX7_slotOfPlace_36 (by decide) (fun z => t_negK hk z (fun hk => ?_)) (fun z => t_posK hk z (fun hk => ?_))
    · refine mj_aload_n dX7_slotOfPlace_41 1 rfl ?_
      refine t_getR (l1 + 1) dX7_slotOfPlace_42 F_X7_197 (t_pr7 c0) ?_
      refine mj_aload_n dX7_slotOfPlace_45 1 rfl ?_
      refine t_getI dX7_slotOfPlace_46 F_X7_191 (t_pf6 c0) ?_
      refine mj_iconst (v := 1) dX7_slotOfPlace_49 (by decide) ?_
      refine mj_isub dX7_slotOfPlace_50 ?_
      refine t_chkK hk (fun c1 hk => ?_)
      refine t_iald dX7_slotOfPlace_51 (t_pa7 c0) (t_ixv c1) ?_
      refine mj_istore_n 3 (lv2 := [(3, .int (s.1 (l1 + 1) (((s.1 l1 6) - (1 : Int32)).toNatClampNeg))), (0, .ref 864), (1, .ref l1), (2, .int l2)]) dX7_slotOfPlace_52 rfl (by decide) rfl ?_
      refine mj_iload_n dX7_slotOfPlace_53 3 rfl ?_
      refine mj_bipush (v := 100) dX7_slotOfPlace_54 (by decide) ?_
      refine mj_isub dX7_slotOfPlace_56 ?_
      refine mj_aload_n dX7_slotOfPlace_57 1 rfl ?_
      refine t_getR 428 dX7_slotOfPlace_58 F_X7_31 qr_864_4 ?_
      refine t_getR 440 dX7_slotOfPlace_61 F_X7_200 qr_428_13 ?_
      refine mj_iload_n dX7_slotOfPlace_64 0 rfl ?_
      refine t_chkK hk (fun c2 hk => ?_)
      refine t_iald dX7_slotOfPlace_65 qa_440 (t_ixv c2) ?_
      refine mj_icmp_ge 81 dX7_slotOfPlace_66 (by decide) (fun z => t_posK hk z (fun hk => ?_)) (fun z => t_negK hk z (fun hk => ?_))
      · refine mj_iconst (v := (-1)) dX7_slotOfPlace_81 (by decide) ?_
        exact t_somK hk (fun hf => t_iret dX7_slotOfPlace_82 rfl rfl ⟨rfl, _, rfl, hf⟩ (Nat.le_of_ble_eq_true rfl) (Nat.le_of_ble_eq_true rfl))
      · refine mj_aload_n dX7_slotOfPlace_69 2 rfl ?_
        refine t_bndK hk (fun r4 er4 hk => ?_)
        refine t_callViP dX7_slotOfPlace_70 M_X4_topSlot (C_X4_topSlot _ _ _ er4) ML_X7_158 IM_X4_topSlot SE_X4_topSlot (t_pc c0) rfl (As := []) rfl rfl (Nat.le_of_ble_eq_true rfl) (Nat.le_of_ble_eq_true rfl) (Nat.le_of_ble_eq_true rfl) (Nat.le_of_ble_eq_true rfl) ?_
        refine mj_iload_n dX7_slotOfPlace_73 3 rfl ?_
        refine mj_iadd dX7_slotOfPlace_74 ?_
        refine mj_bipush (v := 100) dX7_slotOfPlace_75 (by decide) ?_
        refine mj_isub dX7_slotOfPlace_77 ?_
        refine mj_goto 82 dX7_slotOfPlace_78 (by decide) ?_
        exact t_somK hk (fun hf => t_iret dX7_slotOfPlace_82 rfl rfl ⟨rfl, _, rfl, hf⟩ (Nat.le_of_ble_eq_true rfl) (Nat.le_of_ble_eq_true rfl))
    · refine mj_iconst (v := (-1)) dX7_slotOfPlace_39 (by decide) ?_
      exact t_somK hk (fun hf => t_iret dX7_slotOfPlace_40 rfl rfl ⟨rfl, _, rfl, hf⟩ (Nat.le_of_ble_eq_true rfl) (Nat.le_of_ble_eq_true rfl))
noncomputable def f_X7_slotOfPlace (x1 : Nat) (x2 : Int32) (s : t_S) : Option (Int32) :=
 if x2 < (0 : Int32) then (k_X7_slotOfPlace_26 x1 x2 s)
 else (if t_isP x1 = true then
  if t_ix (s.1 x1 1) 8 = true then
  if (s.1 433 ((s.1 x1 1).toNatClampNeg)) ≤ x2 then (k_X7_slotOfPlace_26 x1 x2 s)
 else ((f_X4_varSlot x1 x2 s).bind (fun r3 =>
 some (r3)))
else none
else none)
set_option maxRecDepth 4000 in
set_option maxHeartbeats 1000000 in
theorem C_X7_slotOfPlace (x1 : Nat) (x2 : Int32) (s : t_S) (r : Int32) (hr : f_X7_slotOfPlace x1 x2 s = some r) : t_C yX7_slotOfPlace cX7_slotOfPlace 4 (some .int) 2 [.ref 864, .ref x1, .int x2] s (fun v s' => v = some (.int r) ∧ s' = s) := by
  refine t_C.imp (P := fun v s' => s' = s ∧ ∃ x, v = some (.int x) ∧ (fun q => q = r) (x)) (t_C.of (by decide +kernel) (Nat.le_of_ble_eq_true rfl) ?_) (fun v s' hp => by obtain ⟨rfl, x, rfl, rfl⟩ := hp; exact ⟨rfl, rfl⟩)
  intro D cy ad bs X
  have hk : t_hk (f_X7_slotOfPlace x1 x2 s) (fun q => q = r) := ⟨r, hr, rfl⟩
  show mj_G D cy ad bs X cX7_slotOfPlace 4 yX7_slotOfPlace.cls (some .int) yX7_slotOfPlace.name 2 0 0 1065 (t_P (fun v s' => s' = s ∧ ∃ x, v = some (.int x) ∧ (fun q => q = r) (x))) 0 [(0, .ref 864), (1, .ref x1), (2, .int x2)] [] (t_m s) 1065 0 0
  refine mj_iload_n dX7_slotOfPlace_0 2 rfl ?_
  refine mj_if_lt 26 dX7_slotOfPlace_1 (by decide) (fun z => t_posK hk z (fun hk => ?_)) (fun z => t_negK hk z (fun hk => ?_))
  · exact B_X7_slotOfPlace_26 _ _ _ _ hk
  · refine mj_iload_n dX7_slotOfPlace_4 2 rfl ?_
    refine mj_aload_n dX7_slotOfPlace_5 0 rfl ?_
    refine t_getR 428 dX7_slotOfPlace_6 F_X7_31 qr_864_4 ?_
    refine t_getR 433 dX7_slotOfPlace_9 F_X7_110 qr_428_5 ?_
    refine mj_aload_n dX7_slotOfPlace_12 1 rfl ?_
    refine t_chkK hk (fun c0 hk => ?_)
    refine t_getI dX7_slotOfPlace_13 F_X7_113 (t_pf1 c0) ?_
    refine t_chkK hk (fun c1 hk => ?_)
    refine t_iald dX7_slotOfPlace_16 qa_433 (t_ixv c1) ?_
    refine mj_icmp_ge 26 dX7_slotOfPlace_17 (by decide) (fun z => t_posK hk z (fun hk => ?_)) (fun z => t_negK hk z (fun hk => ?_))
    · exact B_X7_slotOfPlace_26 _ _ _ _ hk
    · refine mj_aload_n dX7_slotOfPlace_20 1 rfl ?_
      refine mj_iload_n dX7_slotOfPlace_21 2 rfl ?_
      refine t_bndK hk (fun r3 er3 hk => ?_)
      refine t_callViP dX7_slotOfPlace_22 M_X4_varSlot (C_X4_varSlot _ _ _ _ er3) ML_X7_99 IM_X4_varSlot SE_X4_varSlot (t_pc c0) rfl (As := [.int x2]) rfl rfl (Nat.le_of_ble_eq_true rfl) (Nat.le_of_ble_eq_true rfl) (Nat.le_of_ble_eq_true rfl) (Nat.le_of_ble_eq_true rfl) ?_
      exact t_somK hk (fun hf => t_iret dX7_slotOfPlace_25 rfl rfl ⟨rfl, _, rfl, hf⟩ (Nat.le_of_ble_eq_true rfl) (Nat.le_of_ble_eq_true rfl))

theorem dX12_variable_0 : decode cX12_variable 0 = .ok (.aload_n 0, 1) := by decide +kernel
theorem dX12_variable_1 : decode cX12_variable 1 = .ok (.iload_n 1, 1) := by decide +kernel
theorem dX12_variable_10 : decode cX12_variable 10 = .ok (.aload_n 0, 1) := by decide +kernel
theorem dX12_variable_11 : decode cX12_variable 11 = .ok (.getfield 84, 3) := by decide +kernel
theorem dX12_variable_14 : decode cX12_variable 14 = .ok (.aload_n 0, 1) := by decide +kernel
theorem dX12_variable_15 : decode cX12_variable 15 = .ok (.getfield 84, 3) := by decide +kernel
theorem dX12_variable_18 : decode cX12_variable 18 = .ok (.getfield 292, 3) := by decide +kernel
theorem dX12_variable_2 : decode cX12_variable 2 = .ok (.invokevirtual 271, 3) := by decide +kernel
theorem dX12_variable_21 : decode cX12_variable 21 = .ok (.iload_n 1, 1) := by decide +kernel
theorem dX12_variable_22 : decode cX12_variable 22 = .ok (.aaload, 1) := by decide +kernel
theorem dX12_variable_23 : decode cX12_variable 23 = .ok (.iload_n 2, 1) := by decide +kernel
theorem dX12_variable_24 : decode cX12_variable 24 = .ok (.invokevirtual 360, 3) := by decide +kernel
theorem dX12_variable_27 : decode cX12_variable 27 = .ok (.istore_n 3, 1) := by decide +kernel
theorem dX12_variable_28 : decode cX12_variable 28 = .ok (.iload_n 3, 1) := by decide +kernel
theorem dX12_variable_29 : decode cX12_variable 29 = .ok (.ifCond .lt 15, 3) := by decide +kernel
theorem dX12_variable_32 : decode cX12_variable 32 = .ok (.aload_n 0, 1) := by decide +kernel
theorem dX12_variable_33 : decode cX12_variable 33 = .ok (.getfield 19, 3) := by decide +kernel
theorem dX12_variable_36 : decode cX12_variable 36 = .ok (.getfield 364, 3) := by decide +kernel
theorem dX12_variable_39 : decode cX12_variable 39 = .ok (.iload_n 3, 1) := by decide +kernel
theorem dX12_variable_40 : decode cX12_variable 40 = .ok (.iaload, 1) := by decide +kernel
theorem dX12_variable_41 : decode cX12_variable 41 = .ok (.ifCond .ne 6, 3) := by decide +kernel
theorem dX12_variable_44 : decode cX12_variable 44 = .ok (.bipush (-2), 2) := by decide +kernel
theorem dX12_variable_46 : decode cX12_variable 46 = .ok (.ireturn, 1) := by decide +kernel
theorem dX12_variable_47 : decode cX12_variable 47 = .ok (.aload_n 0, 1) := by decide +kernel
theorem dX12_variable_48 : decode cX12_variable 48 = .ok (.getfield 19, 3) := by decide +kernel
theorem dX12_variable_5 : decode cX12_variable 5 = .ok (.ifCond .ne 5, 3) := by decide +kernel
theorem dX12_variable_51 : decode cX12_variable 51 = .ok (.aload_n 0, 1) := by decide +kernel
theorem dX12_variable_52 : decode cX12_variable 52 = .ok (.getfield 19, 3) := by decide +kernel
theorem dX12_variable_55 : decode cX12_variable 55 = .ok (.getfield 173, 3) := by decide +kernel
theorem dX12_variable_58 : decode cX12_variable 58 = .ok (.iload_n 3, 1) := by decide +kernel
theorem dX12_variable_59 : decode cX12_variable 59 = .ok (.bipush 120, 2) := by decide +kernel
theorem dX12_variable_61 : decode cX12_variable 61 = .ok (.imul, 1) := by decide +kernel
theorem dX12_variable_62 : decode cX12_variable 62 = .ok (.invokevirtual 162, 3) := by decide +kernel
theorem dX12_variable_65 : decode cX12_variable 65 = .ok (.ireturn, 1) := by decide +kernel
theorem dX12_variable_8 : decode cX12_variable 8 = .ok (.iconst (-1), 1) := by decide +kernel
theorem dX12_variable_9 : decode cX12_variable 9 = .ok (.ireturn, 1) := by decide +kernel
noncomputable def f_X12_variable (x1 : Int32) (x2 : Int32) (s : t_S) : Option (Int32 × t_S) :=
 if (f_X12_isPart x1 s) = (0 : Int32) then (some ((-1 : Int32), s))
 else (if t_ix x1 8 = true then
  (f_X7_slotOfPlace (866 + 10 * (x1.toNatClampNeg)) x2 s).bind (fun r3 =>
 if r3 < (0 : Int32) then (some ((-2 : Int32), s))
 else (if t_ix r3 1589 = true then
  if (s.1 14 (r3.toNatClampNeg)) = (0 : Int32) then (some ((-2 : Int32), s))
 else ((f_X8_keep 13 (r3 * (120 : Int32)) s).bind (fun r5 =>
 some (r5.1, r5.2)))
else none))
else none)
set_option maxRecDepth 4000 in
set_option maxHeartbeats 1000000 in
theorem C_X12_variable (x1 : Int32) (x2 : Int32) (s : t_S) (r : Int32 × t_S) (hr : f_X12_variable x1 x2 s = some r) : t_C yX12_variable cX12_variable 4 (some .int) 3 [.ref 0, .int x1, .int x2] s (fun v s' => v = some (.int r.1) ∧ s' = r.2) := by
  refine t_C.imp (P := fun v s' => ∃ x, v = some (.int x) ∧ (fun q => q = r) ((x, s'))) (t_C.of (by decide +kernel) (Nat.le_of_ble_eq_true rfl) ?_) (fun v s' hp => by obtain ⟨x, rfl, rfl⟩ := hp; exact ⟨rfl, rfl⟩)
  intro D cy ad bs X
  have hk : t_hk (f_X12_variable x1 x2 s) (fun q => q = r) := ⟨r, hr, rfl⟩
  show mj_G D cy ad bs X cX12_variable 4 yX12_variable.cls (some .int) yX12_variable.name 3 0 0 1065 (t_P (fun v s' => ∃ x, v = some (.int x) ∧ (fun q => q = r) ((x, s')))) 0 [(0, .ref 0), (1, .int x1), (2, .int x2)] [] (t_m s) 1065 0 0
  refine mj_aload_n dX12_variable_0 0 rfl ?_
  refine mj_iload_n dX12_variable_1 1 rfl ?_
  refine t_callViP dX12_variable_2 M_X12_isPart (C_X12_isPart _ _) ML_X12_271 IM_X12_isPart SE_X12_isPart qc_0 rfl (As := [.int x1]) rfl rfl (Nat.le_of_ble_eq_true rfl) (Nat.le_of_ble_eq_true rfl) (Nat.le_of_ble_eq_true rfl) (Nat.le_of_ble_eq_true rfl) ?_
  refine mj_if_ne 10 dX12_variable_5 (by decide) (fun z => t_negK hk z (fun hk => ?_)) (fun z => t_posK hk z (fun hk => ?_))
  · refine mj_aload_n dX12_variable_10 0 rfl ?_
    refine t_getR 864 dX12_variable_11 F_X12_84 qr_0_8 ?_
    refine mj_aload_n dX12_variable_14 0 rfl ?_
    refine t_getR 864 dX12_variable_15 F_X12_84 qr_0_8 ?_
    refine t_getR 865 dX12_variable_18 F_X12_292 qr_864_5 ?_
    refine mj_iload_n dX12_variable_21 1 rfl ?_
    refine t_chkK hk (fun c1 hk => ?_)
    refine t_aaldP dX12_variable_22 qq_865 (t_ixv c1) ?_
    refine mj_iload_n dX12_variable_23 2 rfl ?_
    refine t_bndK hk (fun r3 er3 hk => ?_)
    refine t_callViP dX12_variable_24 M_X7_slotOfPlace (C_X7_slotOfPlace _ _ _ _ er3) ML_X12_360 IM_X7_slotOfPlace SE_X7_slotOfPlace qc_864 rfl (As := [.ref (866 + 10 * (x1.toNatClampNeg)), .int x2]) rfl rfl (Nat.le_of_ble_eq_true rfl) (Nat.le_of_ble_eq_true rfl) (Nat.le_of_ble_eq_true rfl) (Nat.le_of_ble_eq_true rfl) ?_
    refine mj_istore_n 3 (lv2 := [(3, .int r3), (0, .ref 0), (1, .int x1), (2, .int x2)]) dX12_variable_27 rfl (by decide) rfl ?_
    refine mj_iload_n dX12_variable_28 0 rfl ?_
    refine mj_if_lt 44 dX12_variable_29 (by decide) (fun z => t_posK hk z (fun hk => ?_)) (fun z => t_negK hk z (fun hk => ?_))
    · refine mj_bipush (v := (-2)) dX12_variable_44 (by decide) ?_
      exact t_somK hk (fun hf => t_iret dX12_variable_46 rfl rfl ⟨_, rfl, hf⟩ (Nat.le_of_ble_eq_true rfl) (Nat.le_of_ble_eq_true rfl))
    · refine mj_aload_n dX12_variable_32 1 rfl ?_
      refine t_getR 12 dX12_variable_33 F_X12_19 qr_0_1 ?_
      refine t_getR 14 dX12_variable_36 F_X12_364 qr_12_1 ?_
      refine mj_iload_n dX12_variable_39 0 rfl ?_
      refine t_chkK hk (fun c3 hk => ?_)
      refine t_iald dX12_variable_40 qa_14 (t_ixv c3) ?_
      refine mj_if_ne 47 dX12_variable_41 (by decide) (fun z => t_negK hk z (fun hk => ?_)) (fun z => t_posK hk z (fun hk => ?_))
      · refine mj_aload_n dX12_variable_47 1 rfl ?_
        refine t_getR 12 dX12_variable_48 F_X12_19 qr_0_1 ?_
        refine mj_aload_n dX12_variable_51 1 rfl ?_
        refine t_getR 12 dX12_variable_52 F_X12_19 qr_0_1 ?_
        refine t_getR 13 dX12_variable_55 F_X12_173 qr_12_0 ?_
        refine mj_iload_n dX12_variable_58 0 rfl ?_
        refine mj_bipush (v := 120) dX12_variable_59 (by decide) ?_
        refine mj_imul dX12_variable_61 ?_
        refine t_bndK hk (fun r5 er5 hk => ?_)
        refine t_callViE dX12_variable_62 M_X8_keep (C_X8_keep _ _ _ _ er5) ML_X12_162 IM_X8_keep SE_X8_keep qc_12 rfl (As := [.ref 13, .int (r3 * (120 : Int32))]) rfl rfl (Nat.le_of_ble_eq_true rfl) (Nat.le_of_ble_eq_true rfl) (Nat.le_of_ble_eq_true rfl) (Nat.le_of_ble_eq_true rfl) ?_
        exact t_somK hk (fun hf => t_iret dX12_variable_65 rfl rfl ⟨_, rfl, hf⟩ (Nat.le_of_ble_eq_true rfl) (Nat.le_of_ble_eq_true rfl))
      · refine mj_bipush (v := (-2)) dX12_variable_44 (by decide) ?_
        exact t_somK hk (fun hf => t_iret dX12_variable_46 rfl rfl ⟨_, rfl, hf⟩ (Nat.le_of_ble_eq_true rfl) (Nat.le_of_ble_eq_true rfl))
  · refine mj_iconst (v := (-1)) dX12_variable_8 (by decide) ?_
    exact t_somK hk (fun hf => t_iret dX12_variable_9 rfl rfl ⟨_, rfl, hf⟩ (Nat.le_of_ble_eq_true rfl) (Nat.le_of_ble_eq_true rfl))

theorem dX12_why_0 : decode cX12_why 0 = .ok (.iload_n 1, 1) := by decide +kernel
theorem dX12_why_1 : decode cX12_why 1 = .ok (.ifCond .lt 14, 3) := by decide +kernel
theorem dX12_why_12 : decode cX12_why 12 = .ok (.if_icmp .lt 8, 3) := by decide +kernel
theorem dX12_why_15 : decode cX12_why 15 = .ok (.bipush (-2), 2) := by decide +kernel
theorem dX12_why_17 : decode cX12_why 17 = .ok (.goto 12, 3) := by decide +kernel
theorem dX12_why_20 : decode cX12_why 20 = .ok (.aload_n 0, 1) := by decide +kernel
theorem dX12_why_21 : decode cX12_why 21 = .ok (.getfield 44, 3) := by decide +kernel
theorem dX12_why_24 : decode cX12_why 24 = .ok (.getfield 245, 3) := by decide +kernel
theorem dX12_why_27 : decode cX12_why 27 = .ok (.iload_n 1, 1) := by decide +kernel
theorem dX12_why_28 : decode cX12_why 28 = .ok (.iaload, 1) := by decide +kernel
theorem dX12_why_29 : decode cX12_why 29 = .ok (.ireturn, 1) := by decide +kernel
theorem dX12_why_4 : decode cX12_why 4 = .ok (.iload_n 1, 1) := by decide +kernel
theorem dX12_why_5 : decode cX12_why 5 = .ok (.aload_n 0, 1) := by decide +kernel
theorem dX12_why_6 : decode cX12_why 6 = .ok (.getfield 44, 3) := by decide +kernel
theorem dX12_why_9 : decode cX12_why 9 = .ok (.getfield 242, 3) := by decide +kernel
noncomputable def k_X12_why_15 (s : t_S) : Option (Int32) :=
 some (-2 : Int32)
set_option maxRecDepth 4000 in
set_option maxHeartbeats 1000000 in
theorem B_X12_why_15 {D : va_G} {cy : Nat → ClassId} {ad : Nat → Nat} {bs : Nat} {X : State → Heap → Prop} (s : t_S) (Q : Int32 → Prop) (hk : t_hk (k_X12_why_15 s) Q) : mj_G D cy ad bs X cX12_why 2 yX12_why.cls (some .int) yX12_why.name 0 0 0 1065 (t_P (fun v s' => s' = s ∧ ∃ x, v = some (.int x) ∧ Q (x))) 15 [] [] (t_m s) 1065 0 0 := by
  refine mj_bipush (v := (-2)) dX12_why_15 (by decide) ?_
  refine mj_goto 29 dX12_why_17 (by decide) ?_
  exact t_somK hk (fun hf => t_iret dX12_why_29 rfl rfl ⟨rfl, _, rfl, hf⟩ (Nat.le_of_ble_eq_true rfl) (Nat.le_of_ble_eq_true rfl))
noncomputable def f_X12_why (x1 : Int32) (s : t_S) : Option (Int32) :=
 if x1 < (0 : Int32) then (k_X12_why_15 s)
 else (if x1 < (s.1 353 17) then (if t_ix x1 240 = true then
  some (s.1 425 (x1.toNatClampNeg))
else none)
 else (k_X12_why_15 s))
set_option maxRecDepth 4000 in
set_option maxHeartbeats 1000000 in
theorem C_X12_why (x1 : Int32) (s : t_S) (r : Int32) (hr : f_X12_why x1 s = some r) : t_C yX12_why cX12_why 2 (some .int) 0 [.ref 0, .int x1] s (fun v s' => v = some (.int r) ∧ s' = s) := by
  refine t_C.imp (P := fun v s' => s' = s ∧ ∃ x, v = some (.int x) ∧ (fun q => q = r) (x)) (t_C.of (by decide +kernel) (Nat.le_of_ble_eq_true rfl) ?_) (fun v s' hp => by obtain ⟨rfl, x, rfl, rfl⟩ := hp; exact ⟨rfl, rfl⟩)
  intro D cy ad bs X
  have hk : t_hk (f_X12_why x1 s) (fun q => q = r) := ⟨r, hr, rfl⟩
  show mj_G D cy ad bs X cX12_why 2 yX12_why.cls (some .int) yX12_why.name 0 0 0 1065 (t_P (fun v s' => s' = s ∧ ∃ x, v = some (.int x) ∧ (fun q => q = r) (x))) 0 [(0, .ref 0), (1, .int x1)] [] (t_m s) 1065 0 0
  refine mj_iload_n dX12_why_0 1 rfl ?_
  refine mj_if_lt 15 dX12_why_1 (by decide) (fun z => t_posK hk z (fun hk => ?_)) (fun z => t_negK hk z (fun hk => ?_))
  · refine mj_sublv [] [] rfl ?_
    exact B_X12_why_15 _ _ hk
  · refine mj_iload_n dX12_why_4 1 rfl ?_
    refine mj_aload_n dX12_why_5 0 rfl ?_
    refine t_getR 353 dX12_why_6 F_X12_44 qr_0_4 ?_
    refine t_getI dX12_why_9 F_X12_242 qf_353_17 ?_
    refine mj_icmp_lt 20 dX12_why_12 (by decide) (fun z => t_posK hk z (fun hk => ?_)) (fun z => t_negK hk z (fun hk => ?_))
    · refine mj_aload_n dX12_why_20 0 rfl ?_
      refine t_getR 353 dX12_why_21 F_X12_44 qr_0_4 ?_
      refine t_getR 425 dX12_why_24 F_X12_245 qr_353_16 ?_
      refine mj_iload_n dX12_why_27 1 rfl ?_
      refine t_chkK hk (fun c0 hk => ?_)
      refine t_iald dX12_why_28 qa_425 (t_ixv c0) ?_
      exact t_somK hk (fun hf => t_iret dX12_why_29 rfl rfl ⟨rfl, _, rfl, hf⟩ (Nat.le_of_ble_eq_true rfl) (Nat.le_of_ble_eq_true rfl))
    · refine mj_sublv [] [] rfl ?_
      exact B_X12_why_15 _ _ hk

theorem dX12_within_0 : decode cX12_within 0 = .ok (.aload_n 0, 1) := by decide +kernel
theorem dX12_within_1 : decode cX12_within 1 = .ok (.iload_n 1, 1) := by decide +kernel
theorem dX12_within_10 : decode cX12_within 10 = .ok (.invokevirtual 196, 3) := by decide +kernel
theorem dX12_within_13 : decode cX12_within 13 = .ok (.ifCond .ne 5, 3) := by decide +kernel
theorem dX12_within_16 : decode cX12_within 16 = .ok (.iconst (-1), 1) := by decide +kernel
theorem dX12_within_17 : decode cX12_within 17 = .ok (.ireturn, 1) := by decide +kernel
theorem dX12_within_18 : decode cX12_within 18 = .ok (.aload_n 0, 1) := by decide +kernel
theorem dX12_within_19 : decode cX12_within 19 = .ok (.getfield 26, 3) := by decide +kernel
theorem dX12_within_2 : decode cX12_within 2 = .ok (.invokevirtual 196, 3) := by decide +kernel
theorem dX12_within_22 : decode cX12_within 22 = .ok (.iload_n 1, 1) := by decide +kernel
theorem dX12_within_23 : decode cX12_within 23 = .ok (.iload_n 2, 1) := by decide +kernel
theorem dX12_within_24 : decode cX12_within 24 = .ok (.invokevirtual 207, 3) := by decide +kernel
theorem dX12_within_27 : decode cX12_within 27 = .ok (.ifCond .eq 7, 3) := by decide +kernel
theorem dX12_within_30 : decode cX12_within 30 = .ok (.iconst 1, 1) := by decide +kernel
theorem dX12_within_31 : decode cX12_within 31 = .ok (.goto 4, 3) := by decide +kernel
theorem dX12_within_34 : decode cX12_within 34 = .ok (.iconst 0, 1) := by decide +kernel
theorem dX12_within_35 : decode cX12_within 35 = .ok (.ireturn, 1) := by decide +kernel
theorem dX12_within_5 : decode cX12_within 5 = .ok (.ifCond .eq 11, 3) := by decide +kernel
theorem dX12_within_8 : decode cX12_within 8 = .ok (.aload_n 0, 1) := by decide +kernel
theorem dX12_within_9 : decode cX12_within 9 = .ok (.iload_n 2, 1) := by decide +kernel
noncomputable def f_X12_within (x1 : Int32) (x2 : Int32) (s : t_S) : Option (Int32 × t_S) :=
 if (f_X12_isType x1 s) = (0 : Int32) then (some ((-1 : Int32), s))
 else (if (f_X12_isType x2 s) = (0 : Int32) then (some ((-1 : Int32), s))
 else ((f_X11_inside x1 x2 s).bind (fun r3 =>
 if r3.1 = (0 : Int32) then (some ((0 : Int32), r3.2))
 else (some ((1 : Int32), r3.2)))))
set_option maxRecDepth 4000 in
set_option maxHeartbeats 1000000 in
theorem C_X12_within (x1 : Int32) (x2 : Int32) (s : t_S) (r : Int32 × t_S) (hr : f_X12_within x1 x2 s = some r) : t_C yX12_within cX12_within 3 (some .int) 5 [.ref 0, .int x1, .int x2] s (fun v s' => v = some (.int r.1) ∧ s' = r.2) := by
  refine t_C.imp (P := fun v s' => ∃ x, v = some (.int x) ∧ (fun q => q = r) ((x, s'))) (t_C.of (by decide +kernel) (Nat.le_of_ble_eq_true rfl) ?_) (fun v s' hp => by obtain ⟨x, rfl, rfl⟩ := hp; exact ⟨rfl, rfl⟩)
  intro D cy ad bs X
  have hk : t_hk (f_X12_within x1 x2 s) (fun q => q = r) := ⟨r, hr, rfl⟩
  show mj_G D cy ad bs X cX12_within 3 yX12_within.cls (some .int) yX12_within.name 5 0 0 1065 (t_P (fun v s' => ∃ x, v = some (.int x) ∧ (fun q => q = r) ((x, s')))) 0 [(0, .ref 0), (1, .int x1), (2, .int x2)] [] (t_m s) 1065 0 0
  refine mj_aload_n dX12_within_0 0 rfl ?_
  refine mj_iload_n dX12_within_1 1 rfl ?_
  refine t_callViP dX12_within_2 M_X12_isType (C_X12_isType _ _) ML_X12_196 IM_X12_isType SE_X12_isType qc_0 rfl (As := [.int x1]) rfl rfl (Nat.le_of_ble_eq_true rfl) (Nat.le_of_ble_eq_true rfl) (Nat.le_of_ble_eq_true rfl) (Nat.le_of_ble_eq_true rfl) ?_
  refine mj_if_eq 16 dX12_within_5 (by decide) (fun z => t_posK hk z (fun hk => ?_)) (fun z => t_negK hk z (fun hk => ?_))
  · refine mj_iconst (v := (-1)) dX12_within_16 (by decide) ?_
    exact t_somK hk (fun hf => t_iret dX12_within_17 rfl rfl ⟨_, rfl, hf⟩ (Nat.le_of_ble_eq_true rfl) (Nat.le_of_ble_eq_true rfl))
  · refine mj_aload_n dX12_within_8 0 rfl ?_
    refine mj_iload_n dX12_within_9 2 rfl ?_
    refine t_callViP dX12_within_10 M_X12_isType (C_X12_isType _ _) ML_X12_196 IM_X12_isType SE_X12_isType qc_0 rfl (As := [.int x2]) rfl rfl (Nat.le_of_ble_eq_true rfl) (Nat.le_of_ble_eq_true rfl) (Nat.le_of_ble_eq_true rfl) (Nat.le_of_ble_eq_true rfl) ?_
    refine mj_if_ne 18 dX12_within_13 (by decide) (fun z => t_negK hk z (fun hk => ?_)) (fun z => t_posK hk z (fun hk => ?_))
    · refine mj_aload_n dX12_within_18 0 rfl ?_
      refine t_getR 316 dX12_within_19 F_X12_26 qr_0_2 ?_
      refine mj_iload_n dX12_within_22 1 rfl ?_
      refine mj_iload_n dX12_within_23 2 rfl ?_
      refine t_bndK hk (fun r3 er3 hk => ?_)
      refine t_callViE dX12_within_24 M_X11_inside (C_X11_inside _ _ _ _ er3) ML_X12_207 IM_X11_inside SE_X11_inside qc_316 rfl (As := [.int x1, .int x2]) rfl rfl (Nat.le_of_ble_eq_true rfl) (Nat.le_of_ble_eq_true rfl) (Nat.le_of_ble_eq_true rfl) (Nat.le_of_ble_eq_true rfl) ?_
      refine mj_if_eq 34 dX12_within_27 (by decide) (fun z => t_posK hk z (fun hk => ?_)) (fun z => t_negK hk z (fun hk => ?_))
      · refine mj_iconst (v := 0) dX12_within_34 (by decide) ?_
        exact t_somK hk (fun hf => t_iret dX12_within_35 rfl rfl ⟨_, rfl, hf⟩ (Nat.le_of_ble_eq_true rfl) (Nat.le_of_ble_eq_true rfl))
      · refine mj_iconst (v := 1) dX12_within_30 (by decide) ?_
        refine mj_goto 35 dX12_within_31 (by decide) ?_
        exact t_somK hk (fun hf => t_iret dX12_within_35 rfl rfl ⟨_, rfl, hf⟩ (Nat.le_of_ble_eq_true rfl) (Nat.le_of_ble_eq_true rfl))
    · refine mj_iconst (v := (-1)) dX12_within_16 (by decide) ?_
      exact t_somK hk (fun hf => t_iret dX12_within_17 rfl rfl ⟨_, rfl, hf⟩ (Nat.le_of_ble_eq_true rfl) (Nat.le_of_ble_eq_true rfl))

theorem dX13_noValue_0 : decode cX13_noValue 0 = .ok (.iload_n 1, 1) := by decide +kernel
theorem dX13_noValue_1 : decode cX13_noValue 1 = .ok (.ifCond .lt 11, 3) := by decide +kernel
theorem dX13_noValue_12 : decode cX13_noValue 12 = .ok (.iconst 1, 1) := by decide +kernel
theorem dX13_noValue_13 : decode cX13_noValue 13 = .ok (.goto 4, 3) := by decide +kernel
theorem dX13_noValue_16 : decode cX13_noValue 16 = .ok (.iconst 0, 1) := by decide +kernel
theorem dX13_noValue_17 : decode cX13_noValue 17 = .ok (.ireturn, 1) := by decide +kernel
theorem dX13_noValue_4 : decode cX13_noValue 4 = .ok (.iload_n 1, 1) := by decide +kernel
theorem dX13_noValue_5 : decode cX13_noValue 5 = .ok (.aload_n 0, 1) := by decide +kernel
theorem dX13_noValue_6 : decode cX13_noValue 6 = .ok (.getfield 654, 3) := by decide +kernel
theorem dX13_noValue_9 : decode cX13_noValue 9 = .ok (.if_icmp .lt 7, 3) := by decide +kernel
noncomputable def k_X13_noValue_12 (s : t_S) : Int32 :=
 (1 : Int32)
set_option maxRecDepth 4000 in
set_option maxHeartbeats 1000000 in
theorem B_X13_noValue_12 {D : va_G} {cy : Nat → ClassId} {ad : Nat → Nat} {bs : Nat} {X : State → Heap → Prop} (s : t_S) (Q : Int32 → Prop) (hk : t_ht (k_X13_noValue_12 s) Q) : mj_G D cy ad bs X cX13_noValue 2 yX13_noValue.cls (some .boolean) yX13_noValue.name 0 0 0 1065 (t_P (fun v s' => s' = s ∧ ∃ x, v = some (.int x) ∧ Q (x))) 12 [] [] (t_m s) 1065 0 0 := by
  refine mj_iconst (v := 1) dX13_noValue_12 (by decide) ?_
  refine mj_goto 17 dX13_noValue_13 (by decide) ?_
  exact t_iret dX13_noValue_17 rfl (by decide) ⟨rfl, _, rfl, hk⟩ (Nat.le_of_ble_eq_true rfl) (Nat.le_of_ble_eq_true rfl)
noncomputable def f_X13_noValue (x1 : Int32) (s : t_S) : Int32 :=
 if x1 < (0 : Int32) then (k_X13_noValue_12 s)
 else (if x1 < (s.1 950 96) then ((0 : Int32))
 else (k_X13_noValue_12 s))
set_option maxRecDepth 4000 in
set_option maxHeartbeats 1000000 in
theorem C_X13_noValue (x1 : Int32) (s : t_S) : t_C yX13_noValue cX13_noValue 2 (some .boolean) 0 [.ref 950, .int x1] s (fun v s' => v = some (.int (f_X13_noValue x1 s)) ∧ s' = s) := by
  refine t_C.imp (P := fun v s' => s' = s ∧ ∃ x, v = some (.int x) ∧ (fun r => r = f_X13_noValue x1 s) (x)) (t_C.of (by decide +kernel) (Nat.le_of_ble_eq_true rfl) ?_) (fun v s' hp => by obtain ⟨rfl, x, rfl, rfl⟩ := hp; exact ⟨rfl, rfl⟩)
  intro D cy ad bs X
  have hk : t_ht (f_X13_noValue x1 s) (fun r => r = f_X13_noValue x1 s) := rfl
  show mj_G D cy ad bs X cX13_noValue 2 yX13_noValue.cls (some .boolean) yX13_noValue.name 0 0 0 1065 (t_P (fun v s' => s' = s ∧ ∃ x, v = some (.int x) ∧ (fun r => r = f_X13_noValue x1 s) (x))) 0 [(0, .ref 950), (1, .int x1)] [] (t_m s) 1065 0 0
  refine mj_iload_n dX13_noValue_0 1 rfl ?_
  refine mj_if_lt 12 dX13_noValue_1 (by decide) (fun z => t_posTK hk z (fun hk => ?_)) (fun z => t_negTK hk z (fun hk => ?_))
  · refine mj_sublv [] [] rfl ?_
    exact B_X13_noValue_12 _ _ hk
  · refine mj_iload_n dX13_noValue_4 1 rfl ?_
    refine mj_aload_n dX13_noValue_5 0 rfl ?_
    refine t_getI dX13_noValue_6 F_X13_654 qf_950_96 ?_
    refine mj_icmp_lt 16 dX13_noValue_9 (by decide) (fun z => t_posTK hk z (fun hk => ?_)) (fun z => t_negTK hk z (fun hk => ?_))
    · refine mj_iconst (v := 0) dX13_noValue_16 (by decide) ?_
      exact t_iret dX13_noValue_17 rfl (by decide) ⟨rfl, _, rfl, hk⟩ (Nat.le_of_ble_eq_true rfl) (Nat.le_of_ble_eq_true rfl)
    · refine mj_sublv [] [] rfl ?_
      exact B_X13_noValue_12 _ _ hk

theorem dX13_packs_0 : decode cX13_packs 0 = .ok (.lload_n 0, 1) := by decide +kernel
theorem dX13_packs_1 : decode cX13_packs 1 = .ok (.ldc2_w 697, 3) := by decide +kernel
theorem dX13_packs_4 : decode cX13_packs 4 = .ok (.ladd, 1) := by decide +kernel
theorem dX13_packs_5 : decode cX13_packs 5 = .ok (.l2i, 1) := by decide +kernel
theorem dX13_packs_6 : decode cX13_packs 6 = .ok (.bipush 8, 2) := by decide +kernel
theorem dX13_packs_8 : decode cX13_packs 8 = .ok (.idiv, 1) := by decide +kernel
theorem dX13_packs_9 : decode cX13_packs 9 = .ok (.ireturn, 1) := by decide +kernel
noncomputable def f_X13_packs (x1 : Int64) (s : t_S) : Option (Int32) :=
 some (((x1 + (7 : Int64)).toInt32) / (8 : Int32))
set_option maxRecDepth 4000 in
set_option maxHeartbeats 1000000 in
theorem C_X13_packs (x1 : Int64) (s : t_S) (r : Int32) (hr : f_X13_packs x1 s = some r) : t_C yX13_packs cX13_packs 2 (some .int) 0 [.long x1] s (fun v s' => v = some (.int r) ∧ s' = s) := by
  refine t_C.imp (P := fun v s' => s' = s ∧ ∃ x, v = some (.int x) ∧ (fun q => q = r) (x)) (t_C.of (by decide +kernel) (Nat.le_of_ble_eq_true rfl) ?_) (fun v s' hp => by obtain ⟨rfl, x, rfl, rfl⟩ := hp; exact ⟨rfl, rfl⟩)
  intro D cy ad bs X
  have hk : t_hk (f_X13_packs x1 s) (fun q => q = r) := ⟨r, hr, rfl⟩
  show mj_G D cy ad bs X cX13_packs 2 yX13_packs.cls (some .int) yX13_packs.name 0 0 0 1065 (t_P (fun v s' => s' = s ∧ ∃ x, v = some (.int x) ∧ (fun q => q = r) (x))) 0 [(0, .long x1)] [] (t_m s) 1065 0 0
  refine mj_lload_n dX13_packs_0 0 rfl ?_
  refine mj_ldc2 dX13_packs_1 K_X13_697 ?_
  refine mj_ladd dX13_packs_4 ?_
  refine mj_l2i (v := (x1 + (7 : Int64)).toInt32) dX13_packs_5 rfl ?_
  refine mj_bipush (v := 8) dX13_packs_6 (by decide) ?_
  refine mj_idiv dX13_packs_8 (by decide) ?_
  exact t_somK hk (fun hf => t_iret dX13_packs_9 rfl rfl ⟨rfl, _, rfl, hf⟩ (Nat.le_of_ble_eq_true rfl) (Nat.le_of_ble_eq_true rfl))

theorem dX13_weightOf_0 : decode cX13_weightOf 0 = .ok (.iload_n 1, 1) := by decide +kernel
theorem dX13_weightOf_1 : decode cX13_weightOf 1 = .ok (.istore_n 2, 1) := by decide +kernel
theorem dX13_weightOf_10 : decode cX13_weightOf 10 = .ok (.lcmp, 1) := by decide +kernel
theorem dX13_weightOf_100 : decode cX13_weightOf 100 = .ok (.iconst 1, 1) := by decide +kernel
theorem dX13_weightOf_101 : decode cX13_weightOf 101 = .ok (.iadd, 1) := by decide +kernel
theorem dX13_weightOf_102 : decode cX13_weightOf 102 = .ok (.laload, 1) := by decide +kernel
theorem dX13_weightOf_103 : decode cX13_weightOf 103 = .ok (.l2i, 1) := by decide +kernel
theorem dX13_weightOf_104 : decode cX13_weightOf 104 = .ok (.iadd, 1) := by decide +kernel
theorem dX13_weightOf_105 : decode cX13_weightOf 105 = .ok (.istore_n 2, 1) := by decide +kernel
theorem dX13_weightOf_106 : decode cX13_weightOf 106 = .ok (.goto 51, 3) := by decide +kernel
theorem dX13_weightOf_109 : decode cX13_weightOf 109 = .ok (.iload 6, 2) := by decide +kernel
theorem dX13_weightOf_11 : decode cX13_weightOf 11 = .ok (.ifCond .le 155, 3) := by decide +kernel
theorem dX13_weightOf_111 : decode cX13_weightOf 111 = .ok (.bipush 7, 2) := by decide +kernel
theorem dX13_weightOf_113 : decode cX13_weightOf 113 = .ok (.if_icmp .ne 16, 3) := by decide +kernel
theorem dX13_weightOf_116 : decode cX13_weightOf 116 = .ok (.lload 4, 2) := by decide +kernel
theorem dX13_weightOf_118 : decode cX13_weightOf 118 = .ok (.lconst 1, 1) := by decide +kernel
theorem dX13_weightOf_119 : decode cX13_weightOf 119 = .ok (.ladd, 1) := by decide +kernel
theorem dX13_weightOf_120 : decode cX13_weightOf 120 = .ok (.lstore 4, 2) := by decide +kernel
theorem dX13_weightOf_122 : decode cX13_weightOf 122 = .ok (.iload_n 2, 1) := by decide +kernel
theorem dX13_weightOf_123 : decode cX13_weightOf 123 = .ok (.iconst 2, 1) := by decide +kernel
theorem dX13_weightOf_124 : decode cX13_weightOf 124 = .ok (.iadd, 1) := by decide +kernel
theorem dX13_weightOf_125 : decode cX13_weightOf 125 = .ok (.istore_n 2, 1) := by decide +kernel
theorem dX13_weightOf_126 : decode cX13_weightOf 126 = .ok (.goto 31, 3) := by decide +kernel
theorem dX13_weightOf_129 : decode cX13_weightOf 129 = .ok (.iload 6, 2) := by decide +kernel
theorem dX13_weightOf_131 : decode cX13_weightOf 131 = .ok (.bipush 8, 2) := by decide +kernel
theorem dX13_weightOf_133 : decode cX13_weightOf 133 = .ok (.if_icmp .ne 20, 3) := by decide +kernel
theorem dX13_weightOf_136 : decode cX13_weightOf 136 = .ok (.lload 4, 2) := by decide +kernel
theorem dX13_weightOf_138 : decode cX13_weightOf 138 = .ok (.aload_n 0, 1) := by decide +kernel
theorem dX13_weightOf_139 : decode cX13_weightOf 139 = .ok (.iload_n 2, 1) := by decide +kernel
theorem dX13_weightOf_14 : decode cX13_weightOf 14 = .ok (.aload_n 0, 1) := by decide +kernel
theorem dX13_weightOf_140 : decode cX13_weightOf 140 = .ok (.iconst 1, 1) := by decide +kernel
theorem dX13_weightOf_141 : decode cX13_weightOf 141 = .ok (.iadd, 1) := by decide +kernel
theorem dX13_weightOf_142 : decode cX13_weightOf 142 = .ok (.laload, 1) := by decide +kernel
theorem dX13_weightOf_143 : decode cX13_weightOf 143 = .ok (.ladd, 1) := by decide +kernel
theorem dX13_weightOf_144 : decode cX13_weightOf 144 = .ok (.lstore 4, 2) := by decide +kernel
theorem dX13_weightOf_146 : decode cX13_weightOf 146 = .ok (.iload_n 2, 1) := by decide +kernel
theorem dX13_weightOf_147 : decode cX13_weightOf 147 = .ok (.iconst 2, 1) := by decide +kernel
theorem dX13_weightOf_148 : decode cX13_weightOf 148 = .ok (.iadd, 1) := by decide +kernel
theorem dX13_weightOf_149 : decode cX13_weightOf 149 = .ok (.istore_n 2, 1) := by decide +kernel
theorem dX13_weightOf_15 : decode cX13_weightOf 15 = .ok (.iload_n 2, 1) := by decide +kernel
theorem dX13_weightOf_150 : decode cX13_weightOf 150 = .ok (.goto 7, 3) := by decide +kernel
theorem dX13_weightOf_153 : decode cX13_weightOf 153 = .ok (.iload_n 2, 1) := by decide +kernel
theorem dX13_weightOf_154 : decode cX13_weightOf 154 = .ok (.iconst 2, 1) := by decide +kernel
theorem dX13_weightOf_155 : decode cX13_weightOf 155 = .ok (.iadd, 1) := by decide +kernel
theorem dX13_weightOf_156 : decode cX13_weightOf 156 = .ok (.istore_n 2, 1) := by decide +kernel
theorem dX13_weightOf_157 : decode cX13_weightOf 157 = .ok (.lload 4, 2) := by decide +kernel
theorem dX13_weightOf_159 : decode cX13_weightOf 159 = .ok (.lconst 1, 1) := by decide +kernel
theorem dX13_weightOf_16 : decode cX13_weightOf 16 = .ok (.laload, 1) := by decide +kernel
theorem dX13_weightOf_160 : decode cX13_weightOf 160 = .ok (.lsub, 1) := by decide +kernel
theorem dX13_weightOf_161 : decode cX13_weightOf 161 = .ok (.lstore 4, 2) := by decide +kernel
theorem dX13_weightOf_163 : decode cX13_weightOf 163 = .ok (.goto (-156), 3) := by decide +kernel
theorem dX13_weightOf_166 : decode cX13_weightOf 166 = .ok (.iload_n 3, 1) := by decide +kernel
theorem dX13_weightOf_167 : decode cX13_weightOf 167 = .ok (.ireturn, 1) := by decide +kernel
theorem dX13_weightOf_17 : decode cX13_weightOf 17 = .ok (.l2i, 1) := by decide +kernel
theorem dX13_weightOf_18 : decode cX13_weightOf 18 = .ok (.istore 6, 2) := by decide +kernel
theorem dX13_weightOf_2 : decode cX13_weightOf 2 = .ok (.iconst 0, 1) := by decide +kernel
theorem dX13_weightOf_20 : decode cX13_weightOf 20 = .ok (.iinc 3 1, 3) := by decide +kernel
theorem dX13_weightOf_23 : decode cX13_weightOf 23 = .ok (.iload 6, 2) := by decide +kernel
theorem dX13_weightOf_25 : decode cX13_weightOf 25 = .ok (.iconst 4, 1) := by decide +kernel
theorem dX13_weightOf_26 : decode cX13_weightOf 26 = .ok (.if_icmp .ne 10, 3) := by decide +kernel
theorem dX13_weightOf_29 : decode cX13_weightOf 29 = .ok (.iload_n 2, 1) := by decide +kernel
theorem dX13_weightOf_3 : decode cX13_weightOf 3 = .ok (.istore_n 3, 1) := by decide +kernel
theorem dX13_weightOf_30 : decode cX13_weightOf 30 = .ok (.iconst 1, 1) := by decide +kernel
theorem dX13_weightOf_31 : decode cX13_weightOf 31 = .ok (.iadd, 1) := by decide +kernel
theorem dX13_weightOf_32 : decode cX13_weightOf 32 = .ok (.istore_n 2, 1) := by decide +kernel
theorem dX13_weightOf_33 : decode cX13_weightOf 33 = .ok (.goto 124, 3) := by decide +kernel
theorem dX13_weightOf_36 : decode cX13_weightOf 36 = .ok (.iload 6, 2) := by decide +kernel
theorem dX13_weightOf_38 : decode cX13_weightOf 38 = .ok (.iconst 2, 1) := by decide +kernel
theorem dX13_weightOf_39 : decode cX13_weightOf 39 = .ok (.if_icmp .ne 30, 3) := by decide +kernel
theorem dX13_weightOf_4 : decode cX13_weightOf 4 = .ok (.lconst 1, 1) := by decide +kernel
theorem dX13_weightOf_42 : decode cX13_weightOf 42 = .ok (.iload_n 3, 1) := by decide +kernel
theorem dX13_weightOf_43 : decode cX13_weightOf 43 = .ok (.aload_n 0, 1) := by decide +kernel
theorem dX13_weightOf_44 : decode cX13_weightOf 44 = .ok (.iload_n 2, 1) := by decide +kernel
theorem dX13_weightOf_45 : decode cX13_weightOf 45 = .ok (.iconst 1, 1) := by decide +kernel
theorem dX13_weightOf_46 : decode cX13_weightOf 46 = .ok (.iadd, 1) := by decide +kernel
theorem dX13_weightOf_47 : decode cX13_weightOf 47 = .ok (.laload, 1) := by decide +kernel
theorem dX13_weightOf_48 : decode cX13_weightOf 48 = .ok (.invokestatic 845, 3) := by decide +kernel
theorem dX13_weightOf_5 : decode cX13_weightOf 5 = .ok (.lstore 4, 2) := by decide +kernel
theorem dX13_weightOf_51 : decode cX13_weightOf 51 = .ok (.iadd, 1) := by decide +kernel
theorem dX13_weightOf_52 : decode cX13_weightOf 52 = .ok (.istore_n 3, 1) := by decide +kernel
theorem dX13_weightOf_53 : decode cX13_weightOf 53 = .ok (.iload_n 2, 1) := by decide +kernel
theorem dX13_weightOf_54 : decode cX13_weightOf 54 = .ok (.iconst 2, 1) := by decide +kernel
theorem dX13_weightOf_55 : decode cX13_weightOf 55 = .ok (.iadd, 1) := by decide +kernel
theorem dX13_weightOf_56 : decode cX13_weightOf 56 = .ok (.aload_n 0, 1) := by decide +kernel
theorem dX13_weightOf_57 : decode cX13_weightOf 57 = .ok (.iload_n 2, 1) := by decide +kernel
theorem dX13_weightOf_58 : decode cX13_weightOf 58 = .ok (.iconst 1, 1) := by decide +kernel
theorem dX13_weightOf_59 : decode cX13_weightOf 59 = .ok (.iadd, 1) := by decide +kernel
theorem dX13_weightOf_60 : decode cX13_weightOf 60 = .ok (.laload, 1) := by decide +kernel
theorem dX13_weightOf_61 : decode cX13_weightOf 61 = .ok (.invokestatic 845, 3) := by decide +kernel
theorem dX13_weightOf_64 : decode cX13_weightOf 64 = .ok (.iadd, 1) := by decide +kernel
theorem dX13_weightOf_65 : decode cX13_weightOf 65 = .ok (.istore_n 2, 1) := by decide +kernel
theorem dX13_weightOf_66 : decode cX13_weightOf 66 = .ok (.goto 91, 3) := by decide +kernel
theorem dX13_weightOf_69 : decode cX13_weightOf 69 = .ok (.iload 6, 2) := by decide +kernel
theorem dX13_weightOf_7 : decode cX13_weightOf 7 = .ok (.lload 4, 2) := by decide +kernel
theorem dX13_weightOf_71 : decode cX13_weightOf 71 = .ok (.bipush 6, 2) := by decide +kernel
theorem dX13_weightOf_73 : decode cX13_weightOf 73 = .ok (.if_icmp .ne 36, 3) := by decide +kernel
theorem dX13_weightOf_76 : decode cX13_weightOf 76 = .ok (.iload_n 3, 1) := by decide +kernel
theorem dX13_weightOf_77 : decode cX13_weightOf 77 = .ok (.aload_n 0, 1) := by decide +kernel
theorem dX13_weightOf_78 : decode cX13_weightOf 78 = .ok (.iload_n 2, 1) := by decide +kernel
theorem dX13_weightOf_79 : decode cX13_weightOf 79 = .ok (.iconst 1, 1) := by decide +kernel
theorem dX13_weightOf_80 : decode cX13_weightOf 80 = .ok (.iadd, 1) := by decide +kernel
theorem dX13_weightOf_81 : decode cX13_weightOf 81 = .ok (.laload, 1) := by decide +kernel
theorem dX13_weightOf_82 : decode cX13_weightOf 82 = .ok (.l2i, 1) := by decide +kernel
theorem dX13_weightOf_83 : decode cX13_weightOf 83 = .ok (.iadd, 1) := by decide +kernel
theorem dX13_weightOf_84 : decode cX13_weightOf 84 = .ok (.istore_n 3, 1) := by decide +kernel
theorem dX13_weightOf_85 : decode cX13_weightOf 85 = .ok (.lload 4, 2) := by decide +kernel
theorem dX13_weightOf_87 : decode cX13_weightOf 87 = .ok (.aload_n 0, 1) := by decide +kernel
theorem dX13_weightOf_88 : decode cX13_weightOf 88 = .ok (.iload_n 2, 1) := by decide +kernel
theorem dX13_weightOf_89 : decode cX13_weightOf 89 = .ok (.iconst 1, 1) := by decide +kernel
theorem dX13_weightOf_9 : decode cX13_weightOf 9 = .ok (.lconst 0, 1) := by decide +kernel
theorem dX13_weightOf_90 : decode cX13_weightOf 90 = .ok (.iadd, 1) := by decide +kernel
theorem dX13_weightOf_91 : decode cX13_weightOf 91 = .ok (.laload, 1) := by decide +kernel
theorem dX13_weightOf_92 : decode cX13_weightOf 92 = .ok (.ladd, 1) := by decide +kernel
theorem dX13_weightOf_93 : decode cX13_weightOf 93 = .ok (.lstore 4, 2) := by decide +kernel
theorem dX13_weightOf_95 : decode cX13_weightOf 95 = .ok (.iload_n 2, 1) := by decide +kernel
theorem dX13_weightOf_96 : decode cX13_weightOf 96 = .ok (.iconst 2, 1) := by decide +kernel
theorem dX13_weightOf_97 : decode cX13_weightOf 97 = .ok (.iadd, 1) := by decide +kernel
theorem dX13_weightOf_98 : decode cX13_weightOf 98 = .ok (.aload_n 0, 1) := by decide +kernel
theorem dX13_weightOf_99 : decode cX13_weightOf 99 = .ok (.iload_n 2, 1) := by decide +kernel
noncomputable def k_X13_weightOf_157 (l0 : Nat) (l2 : Int32) (l3 : Int32) (l4 : Int64) (s : t_S) : Option ((Nat × Int32 × Int32 × Int64) ⊕ (Int32)) :=
 some (.inl (l0, l2, l3, (l4 - (1 : Int64))))
set_option maxRecDepth 4000 in
set_option maxHeartbeats 1000000 in
theorem B_X13_weightOf_157 {D : va_G} {cy : Nat → ClassId} {ad : Nat → Nat} {bs : Nat} {X : State → Heap → Prop} (l0 : Nat) (l2 : Int32) (l3 : Int32) (l4 : Int64) (s : t_S) (Q : (Nat × Int32 × Int32 × Int64) ⊕ (Int32) → Prop) (Hb7 : ∀ (y0 : Nat) (y1 : Int32) (y2 : Int32) (y3 : Int64), Q (.inl (y0, y1, y2, y3)) → mj_G D cy ad bs X cX13_weightOf 7 yX13_weightOf.cls (some .int) yX13_weightOf.name 1 0 0 1065 (t_P (fun v s' => s' = s ∧ ∃ x, v = some (.int x) ∧ Q (.inr (x)))) 7 [(0, .ref (y0)), (2, .int (y1)), (3, .int (y2)), (4, .long (y3))] [] (t_m s) 1065 0 0) (hk : t_hk (k_X13_weightOf_157 l0 l2 l3 l4 s) Q) : mj_G D cy ad bs X cX13_weightOf 7 yX13_weightOf.cls (some .int) yX13_weightOf.name 1 0 0 1065 (t_P (fun v s' => s' = s ∧ ∃ x, v = some (.int x) ∧ Q (.inr (x)))) 157 [(0, .ref l0), (2, .int l2), (3, .int l3), (4, .long l4)] [] (t_m s) 1065 0 0 := by
  refine mj_lload dX13_weightOf_157 3 rfl ?_
  refine mj_lconst (v := 1) dX13_weightOf_159 (by decide) ?_
  refine mj_lsub dX13_weightOf_160 ?_
  refine mj_lstore (lv2 := [(4, .long (l4 - (1 : Int64))), (0, .ref l0), (2, .int l2), (3, .int l3)]) dX13_weightOf_161 (by decide) rfl ?_
  refine mj_goto 7 dX13_weightOf_163 (by decide) ?_
  refine mj_sublv [(0, .ref l0), (2, .int l2), (3, .int l3), (4, .long (l4 - (1 : Int64)))] [1, 2, 3, 0] rfl ?_
  exact t_somK hk (fun hf => Hb7 l0 l2 l3 (l4 - (1 : Int64)) hf)
noncomputable def k_X13_weightOf_7 (l0 : Nat) (l2 : Int32) (l3 : Int32) (l4 : Int64) (s : t_S) : Option ((Nat × Int32 × Int32 × Int64) ⊕ (Int32)) :=
 if (lg_cmp l4 (0 : Int64)) ≤ (0 : Int32) then ((some (l3)).map Sum.inr)
 else (if t_oka l0 2 (t_ln l0) = true then
  if t_ix l2 (t_ln l0) = true then
  if ((s.2.1 l0 (l2.toNatClampNeg)).toInt32) = (4 : Int32) then (k_X13_weightOf_157 l0 (l2 + (1 : Int32)) (l3 + 1) l4 s)
 else (if ((s.2.1 l0 (l2.toNatClampNeg)).toInt32) = (2 : Int32) then (if t_ix (l2 + (1 : Int32)) (t_ln l0) = true then
  (f_X13_packs (s.2.1 l0 ((l2 + (1 : Int32)).toNatClampNeg)) s).bind (fun r6 =>
 (f_X13_packs (s.2.1 l0 ((l2 + (1 : Int32)).toNatClampNeg)) s).bind (fun r7 =>
 k_X13_weightOf_157 l0 ((l2 + (2 : Int32)) + r7) ((l3 + 1) + r6) l4 s))
else none)
 else (if ((s.2.1 l0 (l2.toNatClampNeg)).toInt32) = (6 : Int32) then (if t_ix (l2 + (1 : Int32)) (t_ln l0) = true then
  k_X13_weightOf_157 l0 ((l2 + (2 : Int32)) + ((s.2.1 l0 ((l2 + (1 : Int32)).toNatClampNeg)).toInt32)) ((l3 + 1) + ((s.2.1 l0 ((l2 + (1 : Int32)).toNatClampNeg)).toInt32)) (l4 + (s.2.1 l0 ((l2 + (1 : Int32)).toNatClampNeg))) s
else none)
 else (if ((s.2.1 l0 (l2.toNatClampNeg)).toInt32) = (7 : Int32) then (k_X13_weightOf_157 l0 (l2 + (2 : Int32)) (l3 + 1) (l4 + (1 : Int64)) s)
 else (if ((s.2.1 l0 (l2.toNatClampNeg)).toInt32) = (8 : Int32) then (if t_ix (l2 + (1 : Int32)) (t_ln l0) = true then
  k_X13_weightOf_157 l0 (l2 + (2 : Int32)) (l3 + 1) (l4 + (s.2.1 l0 ((l2 + (1 : Int32)).toNatClampNeg))) s
else none)
 else (k_X13_weightOf_157 l0 (l2 + (2 : Int32)) (l3 + 1) l4 s)))))
else none
else none)
set_option maxRecDepth 4000 in
set_option maxHeartbeats 1000000 in
theorem B_X13_weightOf_7 {D : va_G} {cy : Nat → ClassId} {ad : Nat → Nat} {bs : Nat} {X : State → Heap → Prop} (l0 : Nat) (l2 : Int32) (l3 : Int32) (l4 : Int64) (s : t_S) (Q : (Nat × Int32 × Int32 × Int64) ⊕ (Int32) → Prop) (Hb7 : ∀ (y0 : Nat) (y1 : Int32) (y2 : Int32) (y3 : Int64), Q (.inl (y0, y1, y2, y3)) → mj_G D cy ad bs X cX13_weightOf 7 yX13_weightOf.cls (some .int) yX13_weightOf.name 1 0 0 1065 (t_P (fun v s' => s' = s ∧ ∃ x, v = some (.int x) ∧ Q (.inr (x)))) 7 [(0, .ref (y0)), (2, .int (y1)), (3, .int (y2)), (4, .long (y3))] [] (t_m s) 1065 0 0) (hk : t_hk (k_X13_weightOf_7 l0 l2 l3 l4 s) Q) : mj_G D cy ad bs X cX13_weightOf 7 yX13_weightOf.cls (some .int) yX13_weightOf.name 1 0 0 1065 (t_P (fun v s' => s' = s ∧ ∃ x, v = some (.int x) ∧ Q (.inr (x)))) 7 [(0, .ref l0), (2, .int l2), (3, .int l3), (4, .long l4)] [] (t_m s) 1065 0 0 := by
  refine mj_lload dX13_weightOf_7 3 rfl ?_
  refine mj_lconst (v := 0) dX13_weightOf_9 (by decide) ?_
  refine mj_lcmp dX13_weightOf_10 ?_
  refine mj_if_le 166 dX13_weightOf_11 (by decide) (fun z => t_posK hk z (fun hk => ?_)) (fun z => t_negK hk z (fun hk => ?_))
  · refine t_mapK hk (fun hk => ?_)
    refine mj_iload_n dX13_weightOf_166 2 rfl ?_
    exact t_somK hk (fun hf => t_iret dX13_weightOf_167 rfl rfl ⟨rfl, _, rfl, hf⟩ (Nat.le_of_ble_eq_true rfl) (Nat.le_of_ble_eq_true rfl))
  · refine mj_aload_n dX13_weightOf_14 0 rfl ?_
    refine mj_iload_n dX13_weightOf_15 1 rfl ?_
    refine t_chkK hk (fun c0 hk => ?_)
    refine t_chkK hk (fun c1 hk => ?_)
    refine t_lald dX13_weightOf_16 c0 (t_ixv c1) ?_
    refine mj_l2i (v := (s.2.1 l0 (l2.toNatClampNeg)).toInt32) dX13_weightOf_17 rfl ?_
    refine mj_istore (lv2 := [(6, .int ((s.2.1 l0 (l2.toNatClampNeg)).toInt32)), (0, .ref l0), (2, .int l2), (3, .int l3), (4, .long l4)]) dX13_weightOf_18 (by decide) rfl ?_
    refine mj_iinc (k := 3) (v := (l3 + 1)) (lv2 := [(3, .int (l3 + 1)), (6, .int ((s.2.1 l0 (l2.toNatClampNeg)).toInt32)), (0, .ref l0), (2, .int l2), (4, .long l4)]) dX13_weightOf_20 rfl rfl (by decide) rfl ?_
    refine mj_iload dX13_weightOf_23 1 rfl ?_
    refine mj_iconst (v := 4) dX13_weightOf_25 (by decide) ?_
    refine mj_icmp_ne 36 dX13_weightOf_26 (by decide) (fun z => t_negK hk z (fun hk => ?_)) (fun z => t_posK hk z (fun hk => ?_))
    · refine mj_iload dX13_weightOf_36 1 rfl ?_
      refine mj_iconst (v := 2) dX13_weightOf_38 (by decide) ?_
      refine mj_icmp_ne 69 dX13_weightOf_39 (by decide) (fun z => t_negK hk z (fun hk => ?_)) (fun z => t_posK hk z (fun hk => ?_))
      · refine mj_iload dX13_weightOf_69 1 rfl ?_
        refine mj_bipush (v := 6) dX13_weightOf_71 (by decide) ?_
        refine mj_icmp_ne 109 dX13_weightOf_73 (by decide) (fun z => t_negK hk z (fun hk => ?_)) (fun z => t_posK hk z (fun hk => ?_))
        · refine mj_iload dX13_weightOf_109 1 rfl ?_
          refine mj_bipush (v := 7) dX13_weightOf_111 (by decide) ?_
          refine mj_icmp_ne 129 dX13_weightOf_113 (by decide) (fun z => t_negK hk z (fun hk => ?_)) (fun z => t_posK hk z (fun hk => ?_))
          · refine mj_iload dX13_weightOf_129 1 rfl ?_
            refine mj_bipush (v := 8) dX13_weightOf_131 (by decide) ?_
            refine mj_icmp_ne 153 dX13_weightOf_133 (by decide) (fun z => t_negK hk z (fun hk => ?_)) (fun z => t_posK hk z (fun hk => ?_))
            · refine mj_iload_n dX13_weightOf_153 3 rfl ?_
              refine mj_iconst (v := 2) dX13_weightOf_154 (by decide) ?_
              refine mj_iadd dX13_weightOf_155 ?_
              refine mj_istore_n 2 (lv2 := [(2, .int (l2 + (2 : Int32))), (3, .int (l3 + 1)), (6, .int ((s.2.1 l0 (l2.toNatClampNeg)).toInt32)), (0, .ref l0), (4, .long l4)]) dX13_weightOf_156 rfl (by decide) rfl ?_
              refine mj_sublv [(0, .ref l0), (2, .int (l2 + (2 : Int32))), (3, .int (l3 + 1)), (4, .long l4)] [3, 0, 1, 4] rfl ?_
              exact B_X13_weightOf_157 _ _ _ _ _ _ (fun y0 y1 y2 y3 hx => Hb7 y0 y1 y2 y3 hx) hk
            · refine mj_lload dX13_weightOf_136 4 rfl ?_
              refine mj_aload_n dX13_weightOf_138 2 rfl ?_
              refine mj_iload_n dX13_weightOf_139 3 rfl ?_
              refine mj_iconst (v := 1) dX13_weightOf_140 (by decide) ?_
              refine mj_iadd dX13_weightOf_141 ?_
              refine t_chkK hk (fun c2 hk => ?_)
              refine t_lald dX13_weightOf_142 c0 (t_ixv c2) ?_
              refine mj_ladd dX13_weightOf_143 ?_
              refine mj_lstore (lv2 := [(4, .long (l4 + (s.2.1 l0 ((l2 + (1 : Int32)).toNatClampNeg)))), (3, .int (l3 + 1)), (6, .int ((s.2.1 l0 (l2.toNatClampNeg)).toInt32)), (0, .ref l0), (2, .int l2)]) dX13_weightOf_144 (by decide) rfl ?_
              refine mj_iload_n dX13_weightOf_146 4 rfl ?_
              refine mj_iconst (v := 2) dX13_weightOf_147 (by decide) ?_
              refine mj_iadd dX13_weightOf_148 ?_
              refine mj_istore_n 2 (lv2 := [(2, .int (l2 + (2 : Int32))), (4, .long (l4 + (s.2.1 l0 ((l2 + (1 : Int32)).toNatClampNeg)))), (3, .int (l3 + 1)), (6, .int ((s.2.1 l0 (l2.toNatClampNeg)).toInt32)), (0, .ref l0)]) dX13_weightOf_149 rfl (by decide) rfl ?_
              refine mj_goto 157 dX13_weightOf_150 (by decide) ?_
              refine mj_sublv [(0, .ref l0), (2, .int (l2 + (2 : Int32))), (3, .int (l3 + 1)), (4, .long (l4 + (s.2.1 l0 ((l2 + (1 : Int32)).toNatClampNeg))))] [4, 0, 2, 1] rfl ?_
              exact B_X13_weightOf_157 _ _ _ _ _ _ (fun y0 y1 y2 y3 hx => Hb7 y0 y1 y2 y3 hx) hk
          · refine mj_lload dX13_weightOf_116 4 rfl ?_
            refine mj_lconst (v := 1) dX13_weightOf_118 (by decide) ?_
            refine mj_ladd dX13_weightOf_119 ?_
            refine mj_lstore (lv2 := [(4, .long (l4 + (1 : Int64))), (3, .int (l3 + 1)), (6, .int ((s.2.1 l0 (l2.toNatClampNeg)).toInt32)), (0, .ref l0), (2, .int l2)]) dX13_weightOf_120 (by decide) rfl ?_
            refine mj_iload_n dX13_weightOf_122 4 rfl ?_
            refine mj_iconst (v := 2) dX13_weightOf_123 (by decide) ?_
            refine mj_iadd dX13_weightOf_124 ?_
            refine mj_istore_n 2 (lv2 := [(2, .int (l2 + (2 : Int32))), (4, .long (l4 + (1 : Int64))), (3, .int (l3 + 1)), (6, .int ((s.2.1 l0 (l2.toNatClampNeg)).toInt32)), (0, .ref l0)]) dX13_weightOf_125 rfl (by decide) rfl ?_
            refine mj_goto 157 dX13_weightOf_126 (by decide) ?_
            refine mj_sublv [(0, .ref l0), (2, .int (l2 + (2 : Int32))), (3, .int (l3 + 1)), (4, .long (l4 + (1 : Int64)))] [4, 0, 2, 1] rfl ?_
            exact B_X13_weightOf_157 _ _ _ _ _ _ (fun y0 y1 y2 y3 hx => Hb7 y0 y1 y2 y3 hx) hk
        · refine mj_iload_n dX13_weightOf_76 0 rfl ?_
          refine mj_aload_n dX13_weightOf_77 2 rfl ?_
          refine mj_iload_n dX13_weightOf_78 3 rfl ?_
          refine mj_iconst (v := 1) dX13_weightOf_79 (by decide) ?_
          refine mj_iadd dX13_weightOf_80 ?_
          refine t_chkK hk (fun c3 hk => ?_)
          refine t_lald dX13_weightOf_81 c0 (t_ixv c3) ?_
          refine mj_l2i (v := (s.2.1 l0 ((l2 + (1 : Int32)).toNatClampNeg)).toInt32) dX13_weightOf_82 rfl ?_
          refine mj_iadd dX13_weightOf_83 ?_
          refine mj_istore_n 3 (lv2 := [(3, .int ((l3 + 1) + ((s.2.1 l0 ((l2 + (1 : Int32)).toNatClampNeg)).toInt32))), (6, .int ((s.2.1 l0 (l2.toNatClampNeg)).toInt32)), (0, .ref l0), (2, .int l2), (4, .long l4)]) dX13_weightOf_84 rfl (by decide) rfl ?_
          refine mj_lload dX13_weightOf_85 4 rfl ?_
          refine mj_aload_n dX13_weightOf_87 2 rfl ?_
          refine mj_iload_n dX13_weightOf_88 3 rfl ?_
          refine mj_iconst (v := 1) dX13_weightOf_89 (by decide) ?_
          refine mj_iadd dX13_weightOf_90 ?_
          refine t_lald dX13_weightOf_91 c0 (t_ixv c3) ?_
          refine mj_ladd dX13_weightOf_92 ?_
          refine mj_lstore (lv2 := [(4, .long (l4 + (s.2.1 l0 ((l2 + (1 : Int32)).toNatClampNeg)))), (3, .int ((l3 + 1) + ((s.2.1 l0 ((l2 + (1 : Int32)).toNatClampNeg)).toInt32))), (6, .int ((s.2.1 l0 (l2.toNatClampNeg)).toInt32)), (0, .ref l0), (2, .int l2)]) dX13_weightOf_93 (by decide) rfl ?_
          refine mj_iload_n dX13_weightOf_95 4 rfl ?_
          refine mj_iconst (v := 2) dX13_weightOf_96 (by decide) ?_
          refine mj_iadd dX13_weightOf_97 ?_
          refine mj_aload_n dX13_weightOf_98 3 rfl ?_
          refine mj_iload_n dX13_weightOf_99 4 rfl ?_
          refine mj_iconst (v := 1) dX13_weightOf_100 (by decide) ?_
          refine mj_iadd dX13_weightOf_101 ?_
          refine t_lald dX13_weightOf_102 c0 (t_ixv c3) ?_
          refine mj_l2i (v := (s.2.1 l0 ((l2 + (1 : Int32)).toNatClampNeg)).toInt32) dX13_weightOf_103 rfl ?_
          refine mj_iadd dX13_weightOf_104 ?_
          refine mj_istore_n 2 (lv2 := [(2, .int ((l2 + (2 : Int32)) + ((s.2.1 l0 ((l2 + (1 : Int32)).toNatClampNeg)).toInt32))), (4, .long (l4 + (s.2.1 l0 ((l2 + (1 : Int32)).toNatClampNeg)))), (3, .int ((l3 + 1) + ((s.2.1 l0 ((l2 + (1 : Int32)).toNatClampNeg)).toInt32))), (6, .int ((s.2.1 l0 (l2.toNatClampNeg)).toInt32)), (0, .ref l0)]) dX13_weightOf_105 rfl (by decide) rfl ?_
          refine mj_goto 157 dX13_weightOf_106 (by decide) ?_
          refine mj_sublv [(0, .ref l0), (2, .int ((l2 + (2 : Int32)) + ((s.2.1 l0 ((l2 + (1 : Int32)).toNatClampNeg)).toInt32))), (3, .int ((l3 + 1) + ((s.2.1 l0 ((l2 + (1 : Int32)).toNatClampNeg)).toInt32))), (4, .long (l4 + (s.2.1 l0 ((l2 + (1 : Int32)).toNatClampNeg))))] [4, 0, 2, 1] rfl ?_
          exact B_X13_weightOf_157 _ _ _ _ _ _ (fun y0 y1 y2 y3 hx => Hb7 y0 y1 y2 y3 hx) hk
      · refine mj_iload_n dX13_weightOf_42 0 rfl ?_
        refine mj_aload_n dX13_weightOf_43 2 rfl ?_
        refine mj_iload_n dX13_weightOf_44 3 rfl ?_
        refine mj_iconst (v := 1) dX13_weightOf_45 (by decide) ?_
        refine mj_iadd dX13_weightOf_46 ?_
        refine t_chkK hk (fun c4 hk => ?_)
        refine t_lald dX13_weightOf_47 c0 (t_ixv c4) ?_
        refine t_bndK hk (fun r6 er6 hk => ?_)
        refine t_callSiP dX13_weightOf_48 M_X13_packs (C_X13_packs _ _ _ er6) ML_X13_845 SM_X13_packs (As := [.long (s.2.1 l0 ((l2 + (1 : Int32)).toNatClampNeg))]) rfl rfl (Nat.le_of_ble_eq_true rfl) (Nat.le_of_ble_eq_true rfl) (Nat.le_of_ble_eq_true rfl) (Nat.le_of_ble_eq_true rfl) ?_
        refine mj_iadd dX13_weightOf_51 ?_
        refine mj_istore_n 3 (lv2 := [(3, .int ((l3 + 1) + r6)), (6, .int ((s.2.1 l0 (l2.toNatClampNeg)).toInt32)), (0, .ref l0), (2, .int l2), (4, .long l4)]) dX13_weightOf_52 rfl (by decide) rfl ?_
        refine mj_iload_n dX13_weightOf_53 3 rfl ?_
        refine mj_iconst (v := 2) dX13_weightOf_54 (by decide) ?_
        refine mj_iadd dX13_weightOf_55 ?_
        refine mj_aload_n dX13_weightOf_56 2 rfl ?_
        refine mj_iload_n dX13_weightOf_57 3 rfl ?_
        refine mj_iconst (v := 1) dX13_weightOf_58 (by decide) ?_
        refine mj_iadd dX13_weightOf_59 ?_
        refine t_lald dX13_weightOf_60 c0 (t_ixv c4) ?_
        refine t_bndK hk (fun r7 er7 hk => ?_)
        refine t_callSiP dX13_weightOf_61 M_X13_packs (C_X13_packs _ _ _ er7) ML_X13_845 SM_X13_packs (As := [.long (s.2.1 l0 ((l2 + (1 : Int32)).toNatClampNeg))]) rfl rfl (Nat.le_of_ble_eq_true rfl) (Nat.le_of_ble_eq_true rfl) (Nat.le_of_ble_eq_true rfl) (Nat.le_of_ble_eq_true rfl) ?_
        refine mj_iadd dX13_weightOf_64 ?_
        refine mj_istore_n 2 (lv2 := [(2, .int ((l2 + (2 : Int32)) + r7)), (3, .int ((l3 + 1) + r6)), (6, .int ((s.2.1 l0 (l2.toNatClampNeg)).toInt32)), (0, .ref l0), (4, .long l4)]) dX13_weightOf_65 rfl (by decide) rfl ?_
        refine mj_goto 157 dX13_weightOf_66 (by decide) ?_
        refine mj_sublv [(0, .ref l0), (2, .int ((l2 + (2 : Int32)) + r7)), (3, .int ((l3 + 1) + r6)), (4, .long l4)] [3, 0, 1, 4] rfl ?_
        exact B_X13_weightOf_157 _ _ _ _ _ _ (fun y0 y1 y2 y3 hx => Hb7 y0 y1 y2 y3 hx) hk
    · refine mj_iload_n dX13_weightOf_29 3 rfl ?_
      refine mj_iconst (v := 1) dX13_weightOf_30 (by decide) ?_
      refine mj_iadd dX13_weightOf_31 ?_
      refine mj_istore_n 2 (lv2 := [(2, .int (l2 + (1 : Int32))), (3, .int (l3 + 1)), (6, .int ((s.2.1 l0 (l2.toNatClampNeg)).toInt32)), (0, .ref l0), (4, .long l4)]) dX13_weightOf_32 rfl (by decide) rfl ?_
      refine mj_goto 157 dX13_weightOf_33 (by decide) ?_
      refine mj_sublv [(0, .ref l0), (2, .int (l2 + (1 : Int32))), (3, .int (l3 + 1)), (4, .long l4)] [3, 0, 1, 4] rfl ?_
      exact B_X13_weightOf_157 _ _ _ _ _ _ (fun y0 y1 y2 y3 hx => Hb7 y0 y1 y2 y3 hx) hk
noncomputable def b_X13_weightOf_7 (s : t_S) (x : Nat × Int32 × Int32 × Int64) : Option ((Nat × Int32 × Int32 × Int64) ⊕ (Int32)) := k_X13_weightOf_7 x.1 x.2.1 x.2.2.1 x.2.2.2 s
set_option maxRecDepth 4000 in
set_option maxHeartbeats 1000000 in
theorem LH_X13_weightOf_7 {D : va_G} {cy : Nat → ClassId} {ad : Nat → Nat} {bs : Nat} {X : State → Heap → Prop} (s : t_S) : ∀ (n : Nat) (y0 : Nat) (y1 : Int32) (y2 : Int32) (y3 : Int64) (Q : Int32 → Prop) (hk : t_hk (t_loop (b_X13_weightOf_7 s) n (y0, y1, y2, y3)) Q), mj_G D cy ad bs X cX13_weightOf 7 yX13_weightOf.cls (some .int) yX13_weightOf.name 1 0 0 1065 (t_P (fun v s' => s' = s ∧ ∃ x, v = some (.int x) ∧ Q (x))) 7 [(0, .ref (y0)), (2, .int (y1)), (3, .int (y2)), (4, .long (y3))] [] (t_m s) 1065 0 0 := by
  intro n
  induction n with
  | zero => intro y0 y1 y2 y3 Q hk; obtain ⟨r, hr, _⟩ := hk; cases hr
  | succ n ih =>
    intro y0 y1 y2 y3 Q hk
    exact B_X13_weightOf_7 y0 y1 y2 y3 s (fun y => t_lq (b_X13_weightOf_7 s) n Q y) (fun y0' y1' y2' y3' hy => ih y0' y1' y2' y3' Q hy) (t_lp hk)
noncomputable def f_X13_weightOf (x1 : Nat) (x2 : Int32) (s : t_S) : Option (Int32) :=
 t_loop (b_X13_weightOf_7 s) t_N (x1, x2, 0, 1)
set_option maxRecDepth 4000 in
set_option maxHeartbeats 1000000 in
theorem C_X13_weightOf (x1 : Nat) (x2 : Int32) (s : t_S) (r : Int32) (hr : f_X13_weightOf x1 x2 s = some r) : t_C yX13_weightOf cX13_weightOf 7 (some .int) 1 [.ref x1, .int x2] s (fun v s' => v = some (.int r) ∧ s' = s) := by
  refine t_C.imp (P := fun v s' => s' = s ∧ ∃ x, v = some (.int x) ∧ (fun q => q = r) (x)) (t_C.of (by decide +kernel) (Nat.le_of_ble_eq_true rfl) ?_) (fun v s' hp => by obtain ⟨rfl, x, rfl, rfl⟩ := hp; exact ⟨rfl, rfl⟩)
  intro D cy ad bs X
  have hk : t_hk (f_X13_weightOf x1 x2 s) (fun q => q = r) := ⟨r, hr, rfl⟩
  show mj_G D cy ad bs X cX13_weightOf 7 yX13_weightOf.cls (some .int) yX13_weightOf.name 1 0 0 1065 (t_P (fun v s' => s' = s ∧ ∃ x, v = some (.int x) ∧ (fun q => q = r) (x))) 0 [(0, .ref x1), (1, .int x2)] [] (t_m s) 1065 0 0
  refine mj_iload_n dX13_weightOf_0 1 rfl ?_
  refine mj_istore_n 2 (lv2 := [(2, .int x2), (0, .ref x1), (1, .int x2)]) dX13_weightOf_1 rfl (by decide) rfl ?_
  refine mj_iconst (v := 0) dX13_weightOf_2 (by decide) ?_
  refine mj_istore_n 3 (lv2 := [(3, .int 0), (2, .int x2), (0, .ref x1), (1, .int x2)]) dX13_weightOf_3 rfl (by decide) rfl ?_
  refine mj_lconst (v := 1) dX13_weightOf_4 (by decide) ?_
  refine mj_lstore (lv2 := [(4, .long 1), (3, .int 0), (2, .int x2), (0, .ref x1), (1, .int x2)]) dX13_weightOf_5 (by decide) rfl ?_
  refine mj_sublv [(0, .ref x1), (2, .int x2), (3, .int 0), (4, .long 1)] [3, 2, 1, 0] rfl ?_
  exact LH_X13_weightOf_7 _ _ x1 x2 0 1 _ hk

