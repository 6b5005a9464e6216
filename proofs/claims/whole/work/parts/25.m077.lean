/-! Methods as functions, 77: X13_call, X13_wrong, X13_checkCall, X13_isPort -/
theorem qf_950_88 : t_okf 950 13 88 0 = true := by decide +kernel
theorem qf_950_89 : t_okf 950 13 89 0 = true := by decide +kernel
theorem dX13_call_0 : decode cX13_call 0 = .ok (.aload_n 0, 1) := by decide +kernel
theorem dX13_call_1 : decode cX13_call 1 = .ok (.getfield 858, 3) := by decide +kernel
theorem dX13_call_100 : decode cX13_call 100 = .ok (.iload 5, 2) := by decide +kernel
theorem dX13_call_102 : decode cX13_call 102 = .ok (.invokevirtual 1333, 3) := by decide +kernel
theorem dX13_call_105 : decode cX13_call 105 = .ok (.return_, 1) := by decide +kernel
theorem dX13_call_11 : decode cX13_call 11 = .ok (.iload_n 3, 1) := by decide +kernel
theorem dX13_call_12 : decode cX13_call 12 = .ok (.iaload, 1) := by decide +kernel
theorem dX13_call_13 : decode cX13_call 13 = .ok (.invokevirtual 1439, 3) := by decide +kernel
theorem dX13_call_16 : decode cX13_call 16 = .ok (.istore 5, 2) := by decide +kernel
theorem dX13_call_18 : decode cX13_call 18 = .ok (.aload_n 0, 1) := by decide +kernel
theorem dX13_call_19 : decode cX13_call 19 = .ok (.getfield 842, 3) := by decide +kernel
theorem dX13_call_22 : decode cX13_call 22 = .ok (.ifCond .ne 20, 3) := by decide +kernel
theorem dX13_call_25 : decode cX13_call 25 = .ok (.aload_n 0, 1) := by decide +kernel
theorem dX13_call_26 : decode cX13_call 26 = .ok (.getfield 282, 3) := by decide +kernel
theorem dX13_call_29 : decode cX13_call 29 = .ok (.iload_n 1, 1) := by decide +kernel
theorem dX13_call_30 : decode cX13_call 30 = .ok (.iaload, 1) := by decide +kernel
theorem dX13_call_31 : decode cX13_call 31 = .ok (.bipush 8, 2) := by decide +kernel
theorem dX13_call_33 : decode cX13_call 33 = .ok (.if_icmp .ne 9, 3) := by decide +kernel
theorem dX13_call_36 : decode cX13_call 36 = .ok (.aload_n 0, 1) := by decide +kernel
theorem dX13_call_37 : decode cX13_call 37 = .ok (.bipush 7, 2) := by decide +kernel
theorem dX13_call_39 : decode cX13_call 39 = .ok (.invokevirtual 866, 3) := by decide +kernel
theorem dX13_call_4 : decode cX13_call 4 = .ok (.istore 4, 2) := by decide +kernel
theorem dX13_call_42 : decode cX13_call 42 = .ok (.aload_n 0, 1) := by decide +kernel
theorem dX13_call_43 : decode cX13_call 43 = .ok (.getfield 842, 3) := by decide +kernel
theorem dX13_call_46 : decode cX13_call 46 = .ok (.ifCond .ne 59, 3) := by decide +kernel
theorem dX13_call_49 : decode cX13_call 49 = .ok (.aload_n 0, 1) := by decide +kernel
theorem dX13_call_50 : decode cX13_call 50 = .ok (.iload_n 1, 1) := by decide +kernel
theorem dX13_call_51 : decode cX13_call 51 = .ok (.iload_n 2, 1) := by decide +kernel
theorem dX13_call_52 : decode cX13_call 52 = .ok (.iload_n 3, 1) := by decide +kernel
theorem dX13_call_53 : decode cX13_call 53 = .ok (.invokevirtual 1371, 3) := by decide +kernel
theorem dX13_call_56 : decode cX13_call 56 = .ok (.aload_n 0, 1) := by decide +kernel
theorem dX13_call_57 : decode cX13_call 57 = .ok (.iload_n 1, 1) := by decide +kernel
theorem dX13_call_58 : decode cX13_call 58 = .ok (.aload_n 0, 1) := by decide +kernel
theorem dX13_call_59 : decode cX13_call 59 = .ok (.iload_n 3, 1) := by decide +kernel
theorem dX13_call_6 : decode cX13_call 6 = .ok (.aload_n 0, 1) := by decide +kernel
theorem dX13_call_60 : decode cX13_call 60 = .ok (.invokevirtual 1442, 3) := by decide +kernel
theorem dX13_call_63 : decode cX13_call 63 = .ok (.aload_n 0, 1) := by decide +kernel
theorem dX13_call_64 : decode cX13_call 64 = .ok (.getfield 141, 3) := by decide +kernel
theorem dX13_call_67 : decode cX13_call 67 = .ok (.iload_n 3, 1) := by decide +kernel
theorem dX13_call_68 : decode cX13_call 68 = .ok (.iaload, 1) := by decide +kernel
theorem dX13_call_69 : decode cX13_call 69 = .ok (.ifCond .ge 7, 3) := by decide +kernel
theorem dX13_call_7 : decode cX13_call 7 = .ok (.aload_n 0, 1) := by decide +kernel
theorem dX13_call_72 : decode cX13_call 72 = .ok (.iconst (-1), 1) := by decide +kernel
theorem dX13_call_73 : decode cX13_call 73 = .ok (.goto 25, 3) := by decide +kernel
theorem dX13_call_76 : decode cX13_call 76 = .ok (.aload_n 0, 1) := by decide +kernel
theorem dX13_call_77 : decode cX13_call 77 = .ok (.aload_n 0, 1) := by decide +kernel
theorem dX13_call_78 : decode cX13_call 78 = .ok (.getfield 141, 3) := by decide +kernel
theorem dX13_call_8 : decode cX13_call 8 = .ok (.getfield 147, 3) := by decide +kernel
theorem dX13_call_81 : decode cX13_call 81 = .ok (.iload_n 3, 1) := by decide +kernel
theorem dX13_call_82 : decode cX13_call 82 = .ok (.iaload, 1) := by decide +kernel
theorem dX13_call_83 : decode cX13_call 83 = .ok (.aload_n 0, 1) := by decide +kernel
theorem dX13_call_84 : decode cX13_call 84 = .ok (.getfield 165, 3) := by decide +kernel
theorem dX13_call_87 : decode cX13_call 87 = .ok (.iload_n 3, 1) := by decide +kernel
theorem dX13_call_88 : decode cX13_call 88 = .ok (.iaload, 1) := by decide +kernel
theorem dX13_call_89 : decode cX13_call 89 = .ok (.aload_n 0, 1) := by decide +kernel
theorem dX13_call_90 : decode cX13_call 90 = .ok (.getfield 168, 3) := by decide +kernel
theorem dX13_call_93 : decode cX13_call 93 = .ok (.iload_n 3, 1) := by decide +kernel
theorem dX13_call_94 : decode cX13_call 94 = .ok (.iaload, 1) := by decide +kernel
theorem dX13_call_95 : decode cX13_call 95 = .ok (.invokevirtual 1445, 3) := by decide +kernel
theorem dX13_call_98 : decode cX13_call 98 = .ok (.iload 4, 2) := by decide +kernel
noncomputable def k_X13_call_98 (l4 : Int32) (l5 : Int32) (k0 : Int32) (k1 : Int32) (k2 : Int32) (s : t_S) : Option (t_S) :=
 (f_X13_newFrame k2 k1 k0 l4 l5 s).bind (fun r1 =>
 some (r1))
set_option maxRecDepth 4000 in
set_option maxHeartbeats 1000000 in
theorem B_X13_call_98 {D : va_G} {cy : Nat → ClassId} {ad : Nat → Nat} {bs : Nat} {X : State → Heap → Prop} (l4 : Int32) (l5 : Int32) (k0 : Int32) (k1 : Int32) (k2 : Int32) (s : t_S) (Q : t_S → Prop) (hk : t_hk (k_X13_call_98 l4 l5 k0 k1 k2 s) Q) : mj_G D cy ad bs X cX13_call 6 yX13_call.cls none yX13_call.name 1785 0 0 1065 (t_P (fun v s' => v = none ∧ Q (s'))) 98 [(4, .int l4), (5, .int l5)] [.int k0, .int k1, .int k2, .ref 950] (t_m s) 1065 0 0 := by
  refine mj_iload dX13_call_98 0 rfl ?_
  refine mj_iload dX13_call_100 1 rfl ?_
  refine t_bndK hk (fun r1 er1 hk => ?_)
  refine t_callVvE dX13_call_102 M_X13_newFrame (C_X13_newFrame _ _ _ _ _ _ _ er1) ML_X13_1333 IM_X13_newFrame SE_X13_newFrame qc_950 rfl (As := [.int k2, .int k1, .int k0, .int l4, .int l5]) rfl rfl (Nat.le_of_ble_eq_true rfl) (Nat.le_of_ble_eq_true rfl) (Nat.le_of_ble_eq_true rfl) (Nat.le_of_ble_eq_true rfl) ?_
  exact t_somK hk (fun hf => t_vret dX13_call_105 rfl ⟨rfl, hf⟩ (Nat.le_of_ble_eq_true rfl) (Nat.le_of_ble_eq_true rfl))
noncomputable def k_X13_call_42 (l1 : Int32) (l2 : Int32) (l3 : Int32) (l4 : Int32) (l5 : Int32) (s : t_S) : Option (t_S) :=
 if (s.1 950 97) = (0 : Int32) then ((f_X13_goOn l1 l2 l3 s).bind (fun r1 =>
 (f_X13_funOf l3 r1).bind (fun r2 =>
 if t_ix l3 401 = true then
  if (0 : Int32) ≤ (r1.1 993 (l3.toNatClampNeg)) then ((f_X13_varPlace (r1.1 993 (l3.toNatClampNeg)) (r1.1 1001 (l3.toNatClampNeg)) (r1.1 1002 (l3.toNatClampNeg)) r1).bind (fun r4 =>
 k_X13_call_98 l4 l5 r4 r2 l1 r1))
 else (k_X13_call_98 l4 l5 (-1) r2 l1 r1)
else none)))
 else (some (s))
set_option maxRecDepth 4000 in
set_option maxHeartbeats 1000000 in
theorem B_X13_call_42 {D : va_G} {cy : Nat → ClassId} {ad : Nat → Nat} {bs : Nat} {X : State → Heap → Prop} (l1 : Int32) (l2 : Int32) (l3 : Int32) (l4 : Int32) (l5 : Int32) (s : t_S) (Q : t_S → Prop) (hk : t_hk (k_X13_call_42 l1 l2 l3 l4 l5 s) Q) : mj_G D cy ad bs X cX13_call 6 yX13_call.cls none yX13_call.name 1785 0 0 1065 (t_P (fun v s' => v = none ∧ Q (s'))) 42 [(0, .ref 950), (1, .int l1), (2, .int l2), (3, .int l3), (4, .int l4), (5, .int l5)] [] (t_m s) 1065 0 0 := by
  refine mj_aload_n dX13_call_42 0 rfl ?_
  refine t_getI dX13_call_43 F_X13_842 qf_950_97 ?_
  refine mj_if_ne 105 dX13_call_46 (by decide) (fun z => t_negK hk z (fun hk => ?_)) (fun z => t_posK hk z (fun hk => ?_))
  · exact t_somK hk (fun hf => t_vret dX13_call_105 rfl ⟨rfl, hf⟩ (Nat.le_of_ble_eq_true rfl) (Nat.le_of_ble_eq_true rfl))
  · refine mj_aload_n dX13_call_49 0 rfl ?_
    refine mj_iload_n dX13_call_50 1 rfl ?_
    refine mj_iload_n dX13_call_51 2 rfl ?_
    refine mj_iload_n dX13_call_52 3 rfl ?_
    refine t_bndK hk (fun r1 er1 hk => ?_)
    refine t_callVvE dX13_call_53 M_X13_goOn (C_X13_goOn _ _ _ _ _ er1) ML_X13_1371 IM_X13_goOn SE_X13_goOn qc_950 rfl (As := [.int l1, .int l2, .int l3]) rfl rfl (Nat.le_of_ble_eq_true rfl) (Nat.le_of_ble_eq_true rfl) (Nat.le_of_ble_eq_true rfl) (Nat.le_of_ble_eq_true rfl) ?_
    refine mj_aload_n dX13_call_56 0 rfl ?_
    refine mj_iload_n dX13_call_57 1 rfl ?_
    refine mj_aload_n dX13_call_58 0 rfl ?_
    refine mj_iload_n dX13_call_59 3 rfl ?_
    refine t_bndK hk (fun r2 er2 hk => ?_)
    refine t_callViP dX13_call_60 M_X13_funOf (C_X13_funOf _ _ _ er2) ML_X13_1442 IM_X13_funOf SE_X13_funOf qc_950 rfl (As := [.int l3]) rfl rfl (Nat.le_of_ble_eq_true rfl) (Nat.le_of_ble_eq_true rfl) (Nat.le_of_ble_eq_true rfl) (Nat.le_of_ble_eq_true rfl) ?_
    refine mj_aload_n dX13_call_63 0 rfl ?_
    refine t_getR 993 dX13_call_64 F_X13_141 qr_950_71 ?_
    refine mj_iload_n dX13_call_67 3 rfl ?_
    refine t_chkK hk (fun c2 hk => ?_)
    refine t_iald dX13_call_68 qa_993 (t_ixv c2) ?_
    refine mj_if_ge 76 dX13_call_69 (by decide) (fun z => t_posK hk z (fun hk => ?_)) (fun z => t_negK hk z (fun hk => ?_))
    · refine mj_aload_n dX13_call_76 0 rfl ?_
      refine mj_aload_n dX13_call_77 0 rfl ?_
      refine t_getR 993 dX13_call_78 F_X13_141 qr_950_71 ?_
      refine mj_iload_n dX13_call_81 3 rfl ?_
      refine t_iald dX13_call_82 qa_993 (t_ixv c2) ?_
      refine mj_aload_n dX13_call_83 0 rfl ?_
      refine t_getR 1001 dX13_call_84 F_X13_165 qr_950_79 ?_
      refine mj_iload_n dX13_call_87 3 rfl ?_
      refine t_iald dX13_call_88 qa_1001 (t_ixv c2) ?_
      refine mj_aload_n dX13_call_89 0 rfl ?_
      refine t_getR 1002 dX13_call_90 F_X13_168 qr_950_80 ?_
      refine mj_iload_n dX13_call_93 3 rfl ?_
      refine t_iald dX13_call_94 qa_1002 (t_ixv c2) ?_
      refine t_bndK hk (fun r4 er4 hk => ?_)
      refine t_callViP dX13_call_95 M_X13_varPlace (C_X13_varPlace _ _ _ _ _ er4) ML_X13_1445 IM_X13_varPlace SE_X13_varPlace qc_950 rfl (As := [.int (r1.1 993 (l3.toNatClampNeg)), .int (r1.1 1001 (l3.toNatClampNeg)), .int (r1.1 1002 (l3.toNatClampNeg))]) rfl rfl (Nat.le_of_ble_eq_true rfl) (Nat.le_of_ble_eq_true rfl) (Nat.le_of_ble_eq_true rfl) (Nat.le_of_ble_eq_true rfl) ?_
      refine mj_sublv [(4, .int l4), (5, .int l5)] [4, 5] rfl ?_
      exact B_X13_call_98 _ _ _ _ _ _ _ hk
    · refine mj_iconst (v := (-1)) dX13_call_72 (by decide) ?_
      refine mj_goto 98 dX13_call_73 (by decide) ?_
      refine mj_sublv [(4, .int l4), (5, .int l5)] [4, 5] rfl ?_
      exact B_X13_call_98 _ _ _ _ _ _ _ hk
noncomputable def f_X13_call (x1 : Int32) (x2 : Int32) (x3 : Int32) (s : t_S) : Option (t_S) :=
 if t_ix x3 401 = true then
  (f_X13_workAll (s.1 995 (x3.toNatClampNeg)) s).bind (fun r2 =>
 if (r2.2.1 950 97) = (0 : Int32) then (if t_ix x1 8 = true then
  if (r2.2.1 1038 (x1.toNatClampNeg)) = (8 : Int32) then ((f_X13_error (7 : Int32) r2.2).bind (fun r4 =>
 k_X13_call_42 x1 x2 x3 (s.1 950 98) r2.1 r4))
 else (k_X13_call_42 x1 x2 x3 (s.1 950 98) r2.1 r2.2)
else none)
 else (k_X13_call_42 x1 x2 x3 (s.1 950 98) r2.1 r2.2))
else none
set_option maxRecDepth 4000 in
set_option maxHeartbeats 1000000 in
theorem C_X13_call (x1 : Int32) (x2 : Int32) (x3 : Int32) (s : t_S) (r : t_S) (hr : f_X13_call x1 x2 x3 s = some r) : t_C yX13_call cX13_call 6 none 1785 [.ref 950, .int x1, .int x2, .int x3] s (fun v s' => v = none ∧ s' = r) := by
  refine t_C.imp (P := fun v s' => v = none ∧ (fun q => q = r) (s')) (t_C.of (by decide +kernel) (Nat.le_of_ble_eq_true rfl) ?_) (fun v s' hp => hp)
  intro D cy ad bs X
  have hk : t_hk (f_X13_call x1 x2 x3 s) (fun q => q = r) := ⟨r, hr, rfl⟩
  show mj_G D cy ad bs X cX13_call 6 yX13_call.cls none yX13_call.name 1785 0 0 1065 (t_P (fun v s' => v = none ∧ (fun q => q = r) (s'))) 0 [(0, .ref 950), (1, .int x1), (2, .int x2), (3, .int x3)] [] (t_m s) 1065 0 0
  refine mj_aload_n dX13_call_0 0 rfl ?_
  refine t_getI dX13_call_1 F_X13_858 qf_950_98 ?_
  refine mj_istore (lv2 := [(4, .int (s.1 950 98)), (0, .ref 950), (1, .int x1), (2, .int x2), (3, .int x3)]) dX13_call_4 (by decide) rfl ?_
  refine mj_aload_n dX13_call_6 1 rfl ?_
  refine mj_aload_n dX13_call_7 1 rfl ?_
  refine t_getR 995 dX13_call_8 F_X13_147 qr_950_73 ?_
  refine mj_iload_n dX13_call_11 4 rfl ?_
  refine t_chkK hk (fun c0 hk => ?_)
  refine t_iald dX13_call_12 qa_995 (t_ixv c0) ?_
  refine t_bndK hk (fun r2 er2 hk => ?_)
  refine t_callViE dX13_call_13 M_X13_workAll (C_X13_workAll _ _ _ er2) ML_X13_1439 IM_X13_workAll SE_X13_workAll qc_950 rfl (As := [.int (s.1 995 (x3.toNatClampNeg))]) rfl rfl (Nat.le_of_ble_eq_true rfl) (Nat.le_of_ble_eq_true rfl) (Nat.le_of_ble_eq_true rfl) (Nat.le_of_ble_eq_true rfl) ?_
  refine mj_istore (lv2 := [(5, .int r2.1), (4, .int (s.1 950 98)), (0, .ref 950), (1, .int x1), (2, .int x2), (3, .int x3)]) dX13_call_16 (by decide) rfl ?_
  refine mj_aload_n dX13_call_18 2 rfl ?_
  refine t_getI dX13_call_19 F_X13_842 qf_950_97 ?_
  refine mj_if_ne 42 dX13_call_22 (by decide) (fun z => t_negK hk z (fun hk => ?_)) (fun z => t_posK hk z (fun hk => ?_))
  · refine mj_sublv [(0, .ref 950), (1, .int x1), (2, .int x2), (3, .int x3), (4, .int (s.1 950 98)), (5, .int r2.1)] [2, 3, 4, 5, 1, 0] rfl ?_
    exact B_X13_call_42 _ _ _ _ _ _ _ hk
  · refine mj_aload_n dX13_call_25 2 rfl ?_
    refine t_getR 1038 dX13_call_26 F_X13_282 qr_950_153 ?_
    refine mj_iload_n dX13_call_29 3 rfl ?_
    refine t_chkK hk (fun c2 hk => ?_)
    refine t_iald dX13_call_30 qa_1038 (t_ixv c2) ?_
    refine mj_bipush (v := 8) dX13_call_31 (by decide) ?_
    refine mj_icmp_ne 42 dX13_call_33 (by decide) (fun z => t_negK hk z (fun hk => ?_)) (fun z => t_posK hk z (fun hk => ?_))
    · refine mj_sublv [(0, .ref 950), (1, .int x1), (2, .int x2), (3, .int x3), (4, .int (s.1 950 98)), (5, .int r2.1)] [2, 3, 4, 5, 1, 0] rfl ?_
      exact B_X13_call_42 _ _ _ _ _ _ _ hk
    · refine mj_aload_n dX13_call_36 2 rfl ?_
      refine mj_bipush (v := 7) dX13_call_37 (by decide) ?_
      refine t_bndK hk (fun r4 er4 hk => ?_)
      refine t_callVvE dX13_call_39 M_X13_error (C_X13_error _ _ _ er4) ML_X13_866 IM_X13_error SE_X13_error qc_950 rfl (As := [.int 7]) rfl rfl (Nat.le_of_ble_eq_true rfl) (Nat.le_of_ble_eq_true rfl) (Nat.le_of_ble_eq_true rfl) (Nat.le_of_ble_eq_true rfl) ?_
      refine mj_sublv [(0, .ref 950), (1, .int x1), (2, .int x2), (3, .int x3), (4, .int (s.1 950 98)), (5, .int r2.1)] [2, 3, 4, 5, 1, 0] rfl ?_
      exact B_X13_call_42 _ _ _ _ _ _ _ hk

theorem dX13_wrong_0 : decode cX13_wrong 0 = .ok (.aload_n 0, 1) := by decide +kernel
theorem dX13_wrong_1 : decode cX13_wrong 1 = .ok (.getfield 779, 3) := by decide +kernel
theorem dX13_wrong_12 : decode cX13_wrong 12 = .ok (.if_icmp .lt 19, 3) := by decide +kernel
theorem dX13_wrong_15 : decode cX13_wrong 15 = .ok (.iload_n 2, 1) := by decide +kernel
theorem dX13_wrong_16 : decode cX13_wrong 16 = .ok (.aload_n 0, 1) := by decide +kernel
theorem dX13_wrong_17 : decode cX13_wrong 17 = .ok (.getfield 782, 3) := by decide +kernel
theorem dX13_wrong_20 : decode cX13_wrong 20 = .ok (.if_icmp .ne 21, 3) := by decide +kernel
theorem dX13_wrong_23 : decode cX13_wrong 23 = .ok (.iload_n 1, 1) := by decide +kernel
theorem dX13_wrong_24 : decode cX13_wrong 24 = .ok (.aload_n 0, 1) := by decide +kernel
theorem dX13_wrong_25 : decode cX13_wrong 25 = .ok (.getfield 779, 3) := by decide +kernel
theorem dX13_wrong_28 : decode cX13_wrong 28 = .ok (.if_icmp .ge 13, 3) := by decide +kernel
theorem dX13_wrong_31 : decode cX13_wrong 31 = .ok (.aload_n 0, 1) := by decide +kernel
theorem dX13_wrong_32 : decode cX13_wrong 32 = .ok (.iload_n 1, 1) := by decide +kernel
theorem dX13_wrong_33 : decode cX13_wrong 33 = .ok (.putfield 779, 3) := by decide +kernel
theorem dX13_wrong_36 : decode cX13_wrong 36 = .ok (.aload_n 0, 1) := by decide +kernel
theorem dX13_wrong_37 : decode cX13_wrong 37 = .ok (.iload_n 2, 1) := by decide +kernel
theorem dX13_wrong_38 : decode cX13_wrong 38 = .ok (.putfield 782, 3) := by decide +kernel
theorem dX13_wrong_4 : decode cX13_wrong 4 = .ok (.ifCond .eq 27, 3) := by decide +kernel
theorem dX13_wrong_41 : decode cX13_wrong 41 = .ok (.return_, 1) := by decide +kernel
theorem dX13_wrong_7 : decode cX13_wrong 7 = .ok (.iload_n 2, 1) := by decide +kernel
theorem dX13_wrong_8 : decode cX13_wrong 8 = .ok (.aload_n 0, 1) := by decide +kernel
theorem dX13_wrong_9 : decode cX13_wrong 9 = .ok (.getfield 782, 3) := by decide +kernel
noncomputable def k_X13_wrong_31 (l1 : Int32) (l2 : Int32) (s : t_S) : Option (t_S) :=
 t_let (t_setI s 950 88 l1) (fun s1 =>
 t_let (t_setI s1 950 89 l2) (fun s2 =>
 some (s2)))
set_option maxRecDepth 4000 in
set_option maxHeartbeats 1000000 in
theorem B_X13_wrong_31 {D : va_G} {cy : Nat → ClassId} {ad : Nat → Nat} {bs : Nat} {X : State → Heap → Prop} (l1 : Int32) (l2 : Int32) (s : t_S) (Q : t_S → Prop) (hk : t_hk (k_X13_wrong_31 l1 l2 s) Q) : mj_G D cy ad bs X cX13_wrong 3 yX13_wrong.cls none yX13_wrong.name 0 0 0 1065 (t_P (fun v s' => v = none ∧ Q (s'))) 31 [(0, .ref 950), (1, .int l1), (2, .int l2)] [] (t_m s) 1065 0 0 := by
  refine mj_aload_n dX13_wrong_31 0 rfl ?_
  refine mj_iload_n dX13_wrong_32 1 rfl ?_
  refine t_putIK dX13_wrong_33 F_X13_779 qf_950_88 rfl (fun s1 ws1 => t_letE hk ws1 (fun hk => ?_))
  refine mj_aload_n dX13_wrong_36 0 rfl ?_
  refine mj_iload_n dX13_wrong_37 2 rfl ?_
  refine t_putIK dX13_wrong_38 F_X13_782 qf_950_89 rfl (fun s2 ws2 => t_letE hk ws2 (fun hk => ?_))
  exact t_somK hk (fun hf => t_vret dX13_wrong_41 rfl ⟨rfl, hf⟩ (Nat.le_of_ble_eq_true rfl) (Nat.le_of_ble_eq_true rfl))
noncomputable def f_X13_wrong (x1 : Int32) (x2 : Int32) (s : t_S) : Option (t_S) :=
 if (s.1 950 88) = (0 : Int32) then (k_X13_wrong_31 x1 x2 s)
 else (if x2 < (s.1 950 89) then (k_X13_wrong_31 x1 x2 s)
 else (if x2 = (s.1 950 89) then (if (s.1 950 88) ≤ x1 then (some (s))
 else (k_X13_wrong_31 x1 x2 s))
 else (some (s))))
set_option maxRecDepth 4000 in
set_option maxHeartbeats 1000000 in
theorem C_X13_wrong (x1 : Int32) (x2 : Int32) (s : t_S) (r : t_S) (hr : f_X13_wrong x1 x2 s = some r) : t_C yX13_wrong cX13_wrong 3 none 0 [.ref 950, .int x1, .int x2] s (fun v s' => v = none ∧ s' = r) := by
  refine t_C.imp (P := fun v s' => v = none ∧ (fun q => q = r) (s')) (t_C.of (by decide +kernel) (Nat.le_of_ble_eq_true rfl) ?_) (fun v s' hp => hp)
  intro D cy ad bs X
  have hk : t_hk (f_X13_wrong x1 x2 s) (fun q => q = r) := ⟨r, hr, rfl⟩
  show mj_G D cy ad bs X cX13_wrong 3 yX13_wrong.cls none yX13_wrong.name 0 0 0 1065 (t_P (fun v s' => v = none ∧ (fun q => q = r) (s'))) 0 [(0, .ref 950), (1, .int x1), (2, .int x2)] [] (t_m s) 1065 0 0
  refine mj_aload_n dX13_wrong_0 0 rfl ?_
  refine t_getI dX13_wrong_1 F_X13_779 qf_950_88 ?_
  refine mj_if_eq 31 dX13_wrong_4 (by decide) (fun z => t_posK hk z (fun hk => ?_)) (fun z => t_negK hk z (fun hk => ?_))
  · exact B_X13_wrong_31 _ _ _ _ hk
  · refine mj_iload_n dX13_wrong_7 2 rfl ?_
    refine mj_aload_n dX13_wrong_8 0 rfl ?_
    refine t_getI dX13_wrong_9 F_X13_782 qf_950_89 ?_
    refine mj_icmp_lt 31 dX13_wrong_12 (by decide) (fun z => t_posK hk z (fun hk => ?_)) (fun z => t_negK hk z (fun hk => ?_))
    · exact B_X13_wrong_31 _ _ _ _ hk
    · refine mj_iload_n dX13_wrong_15 2 rfl ?_
      refine mj_aload_n dX13_wrong_16 0 rfl ?_
      refine t_getI dX13_wrong_17 F_X13_782 qf_950_89 ?_
      refine mj_icmp_ne 41 dX13_wrong_20 (by decide) (fun z => t_negK hk z (fun hk => ?_)) (fun z => t_posK hk z (fun hk => ?_))
      · exact t_somK hk (fun hf => t_vret dX13_wrong_41 rfl ⟨rfl, hf⟩ (Nat.le_of_ble_eq_true rfl) (Nat.le_of_ble_eq_true rfl))
      · refine mj_iload_n dX13_wrong_23 1 rfl ?_
        refine mj_aload_n dX13_wrong_24 0 rfl ?_
        refine t_getI dX13_wrong_25 F_X13_779 qf_950_88 ?_
        refine mj_icmp_ge 41 dX13_wrong_28 (by decide) (fun z => t_posK hk z (fun hk => ?_)) (fun z => t_negK hk z (fun hk => ?_))
        · exact t_somK hk (fun hf => t_vret dX13_wrong_41 rfl ⟨rfl, hf⟩ (Nat.le_of_ble_eq_true rfl) (Nat.le_of_ble_eq_true rfl))
        · exact B_X13_wrong_31 _ _ _ _ hk

theorem dX13_checkCall_0 : decode cX13_checkCall 0 = .ok (.aload_n 0, 1) := by decide +kernel
theorem dX13_checkCall_1 : decode cX13_checkCall 1 = .ok (.aload_n 0, 1) := by decide +kernel
theorem dX13_checkCall_10 : decode cX13_checkCall 10 = .ok (.aload_n 0, 1) := by decide +kernel
theorem dX13_checkCall_100 : decode cX13_checkCall 100 = .ok (.iload_n 2, 1) := by decide +kernel
theorem dX13_checkCall_101 : decode cX13_checkCall 101 = .ok (.if_icmp .ne 7, 3) := by decide +kernel
theorem dX13_checkCall_104 : decode cX13_checkCall 104 = .ok (.iconst 1, 1) := by decide +kernel
theorem dX13_checkCall_105 : decode cX13_checkCall 105 = .ok (.goto 4, 3) := by decide +kernel
theorem dX13_checkCall_108 : decode cX13_checkCall 108 = .ok (.iconst 0, 1) := by decide +kernel
theorem dX13_checkCall_109 : decode cX13_checkCall 109 = .ok (.istore 5, 2) := by decide +kernel
theorem dX13_checkCall_11 : decode cX13_checkCall 11 = .ok (.getfield 135, 3) := by decide +kernel
theorem dX13_checkCall_111 : decode cX13_checkCall 111 = .ok (.iload 5, 2) := by decide +kernel
theorem dX13_checkCall_113 : decode cX13_checkCall 113 = .ok (.ifCond .ne 17, 3) := by decide +kernel
theorem dX13_checkCall_116 : decode cX13_checkCall 116 = .ok (.aload_n 0, 1) := by decide +kernel
theorem dX13_checkCall_117 : decode cX13_checkCall 117 = .ok (.iconst 4, 1) := by decide +kernel
theorem dX13_checkCall_118 : decode cX13_checkCall 118 = .ok (.aload_n 0, 1) := by decide +kernel
theorem dX13_checkCall_119 : decode cX13_checkCall 119 = .ok (.getfield 138, 3) := by decide +kernel
theorem dX13_checkCall_122 : decode cX13_checkCall 122 = .ok (.iload_n 1, 1) := by decide +kernel
theorem dX13_checkCall_123 : decode cX13_checkCall 123 = .ok (.iaload, 1) := by decide +kernel
theorem dX13_checkCall_124 : decode cX13_checkCall 124 = .ok (.invokevirtual 795, 3) := by decide +kernel
theorem dX13_checkCall_127 : decode cX13_checkCall 127 = .ok (.goto 34, 3) := by decide +kernel
theorem dX13_checkCall_130 : decode cX13_checkCall 130 = .ok (.aload_n 0, 1) := by decide +kernel
theorem dX13_checkCall_131 : decode cX13_checkCall 131 = .ok (.aload_n 0, 1) := by decide +kernel
theorem dX13_checkCall_132 : decode cX13_checkCall 132 = .ok (.getfield 147, 3) := by decide +kernel
theorem dX13_checkCall_135 : decode cX13_checkCall 135 = .ok (.iload_n 1, 1) := by decide +kernel
theorem dX13_checkCall_136 : decode cX13_checkCall 136 = .ok (.iaload, 1) := by decide +kernel
theorem dX13_checkCall_137 : decode cX13_checkCall 137 = .ok (.invokevirtual 830, 3) := by decide +kernel
theorem dX13_checkCall_14 : decode cX13_checkCall 14 = .ok (.iload_n 1, 1) := by decide +kernel
theorem dX13_checkCall_140 : decode cX13_checkCall 140 = .ok (.aload_n 0, 1) := by decide +kernel
theorem dX13_checkCall_141 : decode cX13_checkCall 141 = .ok (.getfield 117, 3) := by decide +kernel
theorem dX13_checkCall_144 : decode cX13_checkCall 144 = .ok (.iload_n 3, 1) := by decide +kernel
theorem dX13_checkCall_145 : decode cX13_checkCall 145 = .ok (.iaload, 1) := by decide +kernel
theorem dX13_checkCall_146 : decode cX13_checkCall 146 = .ok (.if_icmp .eq 15, 3) := by decide +kernel
theorem dX13_checkCall_149 : decode cX13_checkCall 149 = .ok (.aload_n 0, 1) := by decide +kernel
theorem dX13_checkCall_15 : decode cX13_checkCall 15 = .ok (.iaload, 1) := by decide +kernel
theorem dX13_checkCall_150 : decode cX13_checkCall 150 = .ok (.bipush 6, 2) := by decide +kernel
theorem dX13_checkCall_152 : decode cX13_checkCall 152 = .ok (.aload_n 0, 1) := by decide +kernel
theorem dX13_checkCall_153 : decode cX13_checkCall 153 = .ok (.getfield 138, 3) := by decide +kernel
theorem dX13_checkCall_156 : decode cX13_checkCall 156 = .ok (.iload_n 1, 1) := by decide +kernel
theorem dX13_checkCall_157 : decode cX13_checkCall 157 = .ok (.iaload, 1) := by decide +kernel
theorem dX13_checkCall_158 : decode cX13_checkCall 158 = .ok (.invokevirtual 795, 3) := by decide +kernel
theorem dX13_checkCall_16 : decode cX13_checkCall 16 = .ok (.invokevirtual 788, 3) := by decide +kernel
theorem dX13_checkCall_161 : decode cX13_checkCall 161 = .ok (.return_, 1) := by decide +kernel
theorem dX13_checkCall_19 : decode cX13_checkCall 19 = .ok (.istore_n 3, 1) := by decide +kernel
theorem dX13_checkCall_2 : decode cX13_checkCall 2 = .ok (.getfield 102, 3) := by decide +kernel
theorem dX13_checkCall_20 : decode cX13_checkCall 20 = .ok (.aload_n 0, 1) := by decide +kernel
theorem dX13_checkCall_21 : decode cX13_checkCall 21 = .ok (.getfield 126, 3) := by decide +kernel
theorem dX13_checkCall_24 : decode cX13_checkCall 24 = .ok (.iload_n 1, 1) := by decide +kernel
theorem dX13_checkCall_25 : decode cX13_checkCall 25 = .ok (.iaload, 1) := by decide +kernel
theorem dX13_checkCall_26 : decode cX13_checkCall 26 = .ok (.bipush 6, 2) := by decide +kernel
theorem dX13_checkCall_28 : decode cX13_checkCall 28 = .ok (.if_icmp .eq 14, 3) := by decide +kernel
theorem dX13_checkCall_31 : decode cX13_checkCall 31 = .ok (.aload_n 0, 1) := by decide +kernel
theorem dX13_checkCall_32 : decode cX13_checkCall 32 = .ok (.getfield 126, 3) := by decide +kernel
theorem dX13_checkCall_35 : decode cX13_checkCall 35 = .ok (.iload_n 1, 1) := by decide +kernel
theorem dX13_checkCall_36 : decode cX13_checkCall 36 = .ok (.iaload, 1) := by decide +kernel
theorem dX13_checkCall_37 : decode cX13_checkCall 37 = .ok (.bipush 15, 2) := by decide +kernel
theorem dX13_checkCall_39 : decode cX13_checkCall 39 = .ok (.if_icmp .ne 7, 3) := by decide +kernel
theorem dX13_checkCall_42 : decode cX13_checkCall 42 = .ok (.iconst 3, 1) := by decide +kernel
theorem dX13_checkCall_43 : decode cX13_checkCall 43 = .ok (.goto 4, 3) := by decide +kernel
theorem dX13_checkCall_46 : decode cX13_checkCall 46 = .ok (.iconst 4, 1) := by decide +kernel
theorem dX13_checkCall_47 : decode cX13_checkCall 47 = .ok (.istore 4, 2) := by decide +kernel
theorem dX13_checkCall_49 : decode cX13_checkCall 49 = .ok (.iload_n 3, 1) := by decide +kernel
theorem dX13_checkCall_5 : decode cX13_checkCall 5 = .ok (.iconst 0, 1) := by decide +kernel
theorem dX13_checkCall_50 : decode cX13_checkCall 50 = .ok (.ifCond .lt 18, 3) := by decide +kernel
theorem dX13_checkCall_53 : decode cX13_checkCall 53 = .ok (.aload_n 0, 1) := by decide +kernel
theorem dX13_checkCall_54 : decode cX13_checkCall 54 = .ok (.getfield 105, 3) := by decide +kernel
theorem dX13_checkCall_57 : decode cX13_checkCall 57 = .ok (.iload_n 3, 1) := by decide +kernel
theorem dX13_checkCall_58 : decode cX13_checkCall 58 = .ok (.iaload, 1) := by decide +kernel
theorem dX13_checkCall_59 : decode cX13_checkCall 59 = .ok (.iload 4, 2) := by decide +kernel
theorem dX13_checkCall_6 : decode cX13_checkCall 6 = .ok (.aload_n 0, 1) := by decide +kernel
theorem dX13_checkCall_61 : decode cX13_checkCall 61 = .ok (.if_icmp .ne 7, 3) := by decide +kernel
theorem dX13_checkCall_64 : decode cX13_checkCall 64 = .ok (.iconst 1, 1) := by decide +kernel
theorem dX13_checkCall_65 : decode cX13_checkCall 65 = .ok (.goto 4, 3) := by decide +kernel
theorem dX13_checkCall_68 : decode cX13_checkCall 68 = .ok (.iconst 0, 1) := by decide +kernel
theorem dX13_checkCall_69 : decode cX13_checkCall 69 = .ok (.istore 5, 2) := by decide +kernel
theorem dX13_checkCall_7 : decode cX13_checkCall 7 = .ok (.getfield 633, 3) := by decide +kernel
theorem dX13_checkCall_71 : decode cX13_checkCall 71 = .ok (.iload 5, 2) := by decide +kernel
theorem dX13_checkCall_73 : decode cX13_checkCall 73 = .ok (.ifCond .eq 38, 3) := by decide +kernel
theorem dX13_checkCall_76 : decode cX13_checkCall 76 = .ok (.aload_n 0, 1) := by decide +kernel
theorem dX13_checkCall_77 : decode cX13_checkCall 77 = .ok (.getfield 126, 3) := by decide +kernel
theorem dX13_checkCall_80 : decode cX13_checkCall 80 = .ok (.iload_n 1, 1) := by decide +kernel
theorem dX13_checkCall_81 : decode cX13_checkCall 81 = .ok (.iaload, 1) := by decide +kernel
theorem dX13_checkCall_82 : decode cX13_checkCall 82 = .ok (.bipush 15, 2) := by decide +kernel
theorem dX13_checkCall_84 : decode cX13_checkCall 84 = .ok (.if_icmp .eq 27, 3) := by decide +kernel
theorem dX13_checkCall_87 : decode cX13_checkCall 87 = .ok (.iload_n 2, 1) := by decide +kernel
theorem dX13_checkCall_88 : decode cX13_checkCall 88 = .ok (.ifCond .lt 20, 3) := by decide +kernel
theorem dX13_checkCall_91 : decode cX13_checkCall 91 = .ok (.aload_n 0, 1) := by decide +kernel
theorem dX13_checkCall_92 : decode cX13_checkCall 92 = .ok (.sipush 2000, 3) := by decide +kernel
theorem dX13_checkCall_95 : decode cX13_checkCall 95 = .ok (.iload_n 3, 1) := by decide +kernel
theorem dX13_checkCall_96 : decode cX13_checkCall 96 = .ok (.iadd, 1) := by decide +kernel
theorem dX13_checkCall_97 : decode cX13_checkCall 97 = .ok (.invokevirtual 792, 3) := by decide +kernel
noncomputable def k_X13_checkCall_111 (l1 : Int32) (l3 : Int32) (l5 : Int32) (s : t_S) : Option (t_S) :=
 if l5 = (0 : Int32) then (if t_ix l1 401 = true then
  (f_X13_wrong (4 : Int32) (s.1 992 (l1.toNatClampNeg)) s).bind (fun r6 =>
 some (r6))
else none)
 else (if t_ix l1 401 = true then
  (f_X13_partCount (s.1 995 (l1.toNatClampNeg)) s).bind (fun r2 =>
 if t_ix l3 40 = true then
  if r2 = (s.1 985 (l3.toNatClampNeg)) then (some (s))
 else ((f_X13_wrong (6 : Int32) (s.1 992 (l1.toNatClampNeg)) s).bind (fun r4 =>
 some (r4)))
else none)
else none)
set_option maxRecDepth 4000 in
set_option maxHeartbeats 1000000 in
theorem B_X13_checkCall_111 {D : va_G} {cy : Nat → ClassId} {ad : Nat → Nat} {bs : Nat} {X : State → Heap → Prop} (l1 : Int32) (l3 : Int32) (l5 : Int32) (s : t_S) (Q : t_S → Prop) (hk : t_hk (k_X13_checkCall_111 l1 l3 l5 s) Q) : mj_G D cy ad bs X cX13_checkCall 6 yX13_checkCall.cls none yX13_checkCall.name 2 0 0 1065 (t_P (fun v s' => v = none ∧ Q (s'))) 111 [(0, .ref 950), (1, .int l1), (3, .int l3), (5, .int l5)] [] (t_m s) 1065 0 0 := by
  refine mj_iload dX13_checkCall_111 3 rfl ?_
  refine mj_if_ne 130 dX13_checkCall_113 (by decide) (fun z => t_negK hk z (fun hk => ?_)) (fun z => t_posK hk z (fun hk => ?_))
  · refine mj_aload_n dX13_checkCall_130 0 rfl ?_
    refine mj_aload_n dX13_checkCall_131 0 rfl ?_
    refine t_getR 995 dX13_checkCall_132 F_X13_147 qr_950_73 ?_
    refine mj_iload_n dX13_checkCall_135 1 rfl ?_
    refine t_chkK hk (fun c0 hk => ?_)
    refine t_iald dX13_checkCall_136 qa_995 (t_ixv c0) ?_
    refine t_bndK hk (fun r2 er2 hk => ?_)
    refine t_callViP dX13_checkCall_137 M_X13_partCount (C_X13_partCount _ _ _ er2) ML_X13_830 IM_X13_partCount SE_X13_partCount qc_950 rfl (As := [.int (s.1 995 (l1.toNatClampNeg))]) rfl rfl (Nat.le_of_ble_eq_true rfl) (Nat.le_of_ble_eq_true rfl) (Nat.le_of_ble_eq_true rfl) (Nat.le_of_ble_eq_true rfl) ?_
    refine mj_aload_n dX13_checkCall_140 0 rfl ?_
    refine t_getR 985 dX13_checkCall_141 F_X13_117 qr_950_61 ?_
    refine mj_iload_n dX13_checkCall_144 2 rfl ?_
    refine t_chkK hk (fun c2 hk => ?_)
    refine t_iald dX13_checkCall_145 qa_985 (t_ixv c2) ?_
    refine mj_icmp_eq 161 dX13_checkCall_146 (by decide) (fun z => t_posK hk z (fun hk => ?_)) (fun z => t_negK hk z (fun hk => ?_))
    · exact t_somK hk (fun hf => t_vret dX13_checkCall_161 rfl ⟨rfl, hf⟩ (Nat.le_of_ble_eq_true rfl) (Nat.le_of_ble_eq_true rfl))
    · refine mj_aload_n dX13_checkCall_149 0 rfl ?_
      refine mj_bipush (v := 6) dX13_checkCall_150 (by decide) ?_
      refine mj_aload_n dX13_checkCall_152 0 rfl ?_
      refine t_getR 992 dX13_checkCall_153 F_X13_138 qr_950_70 ?_
      refine mj_iload_n dX13_checkCall_156 1 rfl ?_
      refine t_iald dX13_checkCall_157 qa_992 (t_ixv c0) ?_
      refine t_bndK hk (fun r4 er4 hk => ?_)
      refine t_callVvE dX13_checkCall_158 M_X13_wrong (C_X13_wrong _ _ _ _ er4) ML_X13_795 IM_X13_wrong SE_X13_wrong qc_950 rfl (As := [.int 6, .int (s.1 992 (l1.toNatClampNeg))]) rfl rfl (Nat.le_of_ble_eq_true rfl) (Nat.le_of_ble_eq_true rfl) (Nat.le_of_ble_eq_true rfl) (Nat.le_of_ble_eq_true rfl) ?_
      exact t_somK hk (fun hf => t_vret dX13_checkCall_161 rfl ⟨rfl, hf⟩ (Nat.le_of_ble_eq_true rfl) (Nat.le_of_ble_eq_true rfl))
  · refine mj_aload_n dX13_checkCall_116 0 rfl ?_
    refine mj_iconst (v := 4) dX13_checkCall_117 (by decide) ?_
    refine mj_aload_n dX13_checkCall_118 0 rfl ?_
    refine t_getR 992 dX13_checkCall_119 F_X13_138 qr_950_70 ?_
    refine mj_iload_n dX13_checkCall_122 1 rfl ?_
    refine t_chkK hk (fun c4 hk => ?_)
    refine t_iald dX13_checkCall_123 qa_992 (t_ixv c4) ?_
    refine t_bndK hk (fun r6 er6 hk => ?_)
    refine t_callVvE dX13_checkCall_124 M_X13_wrong (C_X13_wrong _ _ _ _ er6) ML_X13_795 IM_X13_wrong SE_X13_wrong qc_950 rfl (As := [.int 4, .int (s.1 992 (l1.toNatClampNeg))]) rfl rfl (Nat.le_of_ble_eq_true rfl) (Nat.le_of_ble_eq_true rfl) (Nat.le_of_ble_eq_true rfl) (Nat.le_of_ble_eq_true rfl) ?_
    refine mj_goto 161 dX13_checkCall_127 (by decide) ?_
    exact t_somK hk (fun hf => t_vret dX13_checkCall_161 rfl ⟨rfl, hf⟩ (Nat.le_of_ble_eq_true rfl) (Nat.le_of_ble_eq_true rfl))
noncomputable def k_X13_checkCall_109 (l1 : Int32) (l3 : Int32) (k0 : Int32) (s : t_S) : Option (t_S) :=
 k_X13_checkCall_111 l1 l3 k0 s
set_option maxRecDepth 4000 in
set_option maxHeartbeats 1000000 in
theorem B_X13_checkCall_109 {D : va_G} {cy : Nat → ClassId} {ad : Nat → Nat} {bs : Nat} {X : State → Heap → Prop} (l1 : Int32) (l3 : Int32) (k0 : Int32) (s : t_S) (Q : t_S → Prop) (hk : t_hk (k_X13_checkCall_109 l1 l3 k0 s) Q) : mj_G D cy ad bs X cX13_checkCall 6 yX13_checkCall.cls none yX13_checkCall.name 2 0 0 1065 (t_P (fun v s' => v = none ∧ Q (s'))) 109 [(0, .ref 950), (1, .int l1), (3, .int l3)] [.int k0] (t_m s) 1065 0 0 := by
  refine mj_istore (lv2 := [(5, .int k0), (0, .ref 950), (1, .int l1), (3, .int l3)]) dX13_checkCall_109 (by decide) rfl ?_
  refine mj_sublv [(0, .ref 950), (1, .int l1), (3, .int l3), (5, .int k0)] [1, 2, 3, 0] rfl ?_
  exact B_X13_checkCall_111 _ _ _ _ _ hk
noncomputable def k_X13_checkCall_108 (l1 : Int32) (l3 : Int32) (s : t_S) : Option (t_S) :=
 k_X13_checkCall_109 l1 l3 0 s
set_option maxRecDepth 4000 in
set_option maxHeartbeats 1000000 in
theorem B_X13_checkCall_108 {D : va_G} {cy : Nat → ClassId} {ad : Nat → Nat} {bs : Nat} {X : State → Heap → Prop} (l1 : Int32) (l3 : Int32) (s : t_S) (Q : t_S → Prop) (hk : t_hk (k_X13_checkCall_108 l1 l3 s) Q) : mj_G D cy ad bs X cX13_checkCall 6 yX13_checkCall.cls none yX13_checkCall.name 2 0 0 1065 (t_P (fun v s' => v = none ∧ Q (s'))) 108 [(0, .ref 950), (1, .int l1), (3, .int l3)] [] (t_m s) 1065 0 0 := by
  refine mj_iconst (v := 0) dX13_checkCall_108 (by decide) ?_
  exact B_X13_checkCall_109 _ _ _ _ _ hk
noncomputable def k_X13_checkCall_69 (l1 : Int32) (l2 : Int32) (l3 : Int32) (k0 : Int32) (s : t_S) : Option (t_S) :=
 if k0 = (0 : Int32) then (k_X13_checkCall_111 l1 l3 k0 s)
 else (if t_ix l1 401 = true then
  if (s.1 988 (l1.toNatClampNeg)) = (15 : Int32) then (k_X13_checkCall_111 l1 l3 k0 s)
 else (if l2 < (0 : Int32) then (k_X13_checkCall_108 l1 l3 s)
 else ((f_X13_componentOf ((2000 : Int32) + l3) s).bind (fun r2 =>
 if r2 = l2 then (k_X13_checkCall_109 l1 l3 1 s)
 else (k_X13_checkCall_108 l1 l3 s))))
else none)
set_option maxRecDepth 4000 in
set_option maxHeartbeats 1000000 in
theorem B_X13_checkCall_69 {D : va_G} {cy : Nat → ClassId} {ad : Nat → Nat} {bs : Nat} {X : State → Heap → Prop} (l1 : Int32) (l2 : Int32) (l3 : Int32) (k0 : Int32) (s : t_S) (Q : t_S → Prop) (hk : t_hk (k_X13_checkCall_69 l1 l2 l3 k0 s) Q) : mj_G D cy ad bs X cX13_checkCall 6 yX13_checkCall.cls none yX13_checkCall.name 2 0 0 1065 (t_P (fun v s' => v = none ∧ Q (s'))) 69 [(0, .ref 950), (1, .int l1), (2, .int l2), (3, .int l3)] [.int k0] (t_m s) 1065 0 0 := by
  refine mj_istore (lv2 := [(5, .int k0), (0, .ref 950), (1, .int l1), (2, .int l2), (3, .int l3)]) dX13_checkCall_69 (by decide) rfl ?_
  refine mj_iload dX13_checkCall_71 0 rfl ?_
  refine mj_if_eq 111 dX13_checkCall_73 (by decide) (fun z => t_posK hk z (fun hk => ?_)) (fun z => t_negK hk z (fun hk => ?_))
  · refine mj_sublv [(0, .ref 950), (1, .int l1), (3, .int l3), (5, .int k0)] [1, 2, 4, 0] rfl ?_
    exact B_X13_checkCall_111 _ _ _ _ _ hk
  · refine mj_aload_n dX13_checkCall_76 1 rfl ?_
    refine t_getR 988 dX13_checkCall_77 F_X13_126 qr_950_66 ?_
    refine mj_iload_n dX13_checkCall_80 2 rfl ?_
    refine t_chkK hk (fun c0 hk => ?_)
    refine t_iald dX13_checkCall_81 qa_988 (t_ixv c0) ?_
    refine mj_bipush (v := 15) dX13_checkCall_82 (by decide) ?_
    refine mj_icmp_eq 111 dX13_checkCall_84 (by decide) (fun z => t_posK hk z (fun hk => ?_)) (fun z => t_negK hk z (fun hk => ?_))
    · refine mj_sublv [(0, .ref 950), (1, .int l1), (3, .int l3), (5, .int k0)] [1, 2, 4, 0] rfl ?_
      exact B_X13_checkCall_111 _ _ _ _ _ hk
    · refine mj_iload_n dX13_checkCall_87 3 rfl ?_
      refine mj_if_lt 108 dX13_checkCall_88 (by decide) (fun z => t_posK hk z (fun hk => ?_)) (fun z => t_negK hk z (fun hk => ?_))
      · refine mj_sublv [(0, .ref 950), (1, .int l1), (3, .int l3)] [1, 2, 4] rfl ?_
        exact B_X13_checkCall_108 _ _ _ _ hk
      · refine mj_aload_n dX13_checkCall_91 1 rfl ?_
        refine mj_sipush (v := 2000) dX13_checkCall_92 (by decide) ?_
        refine mj_iload_n dX13_checkCall_95 4 rfl ?_
        refine mj_iadd dX13_checkCall_96 ?_
        refine t_bndK hk (fun r2 er2 hk => ?_)
        refine t_callViP dX13_checkCall_97 M_X13_componentOf (C_X13_componentOf _ _ _ er2) ML_X13_792 IM_X13_componentOf SE_X13_componentOf qc_950 rfl (As := [.int ((2000 : Int32) + l3)]) rfl rfl (Nat.le_of_ble_eq_true rfl) (Nat.le_of_ble_eq_true rfl) (Nat.le_of_ble_eq_true rfl) (Nat.le_of_ble_eq_true rfl) ?_
        refine mj_iload_n dX13_checkCall_100 3 rfl ?_
        refine mj_icmp_ne 108 dX13_checkCall_101 (by decide) (fun z => t_negK hk z (fun hk => ?_)) (fun z => t_posK hk z (fun hk => ?_))
        · refine mj_sublv [(0, .ref 950), (1, .int l1), (3, .int l3)] [1, 2, 4] rfl ?_
          exact B_X13_checkCall_108 _ _ _ _ hk
        · refine mj_iconst (v := 1) dX13_checkCall_104 (by decide) ?_
          refine mj_goto 109 dX13_checkCall_105 (by decide) ?_
          refine mj_sublv [(0, .ref 950), (1, .int l1), (3, .int l3)] [1, 2, 4] rfl ?_
          exact B_X13_checkCall_109 _ _ _ _ _ hk
noncomputable def k_X13_checkCall_68 (l1 : Int32) (l2 : Int32) (l3 : Int32) (s : t_S) : Option (t_S) :=
 k_X13_checkCall_69 l1 l2 l3 0 s
set_option maxRecDepth 4000 in
set_option maxHeartbeats 1000000 in
theorem B_X13_checkCall_68 {D : va_G} {cy : Nat → ClassId} {ad : Nat → Nat} {bs : Nat} {X : State → Heap → Prop} (l1 : Int32) (l2 : Int32) (l3 : Int32) (s : t_S) (Q : t_S → Prop) (hk : t_hk (k_X13_checkCall_68 l1 l2 l3 s) Q) : mj_G D cy ad bs X cX13_checkCall 6 yX13_checkCall.cls none yX13_checkCall.name 2 0 0 1065 (t_P (fun v s' => v = none ∧ Q (s'))) 68 [(0, .ref 950), (1, .int l1), (2, .int l2), (3, .int l3)] [] (t_m s) 1065 0 0 := by
  refine mj_iconst (v := 0) dX13_checkCall_68 (by decide) ?_
  exact B_X13_checkCall_69 _ _ _ _ _ _ hk
noncomputable def k_X13_checkCall_47 (l1 : Int32) (l2 : Int32) (l3 : Int32) (k0 : Int32) (s : t_S) : Option (t_S) :=
 if l3 < (0 : Int32) then (k_X13_checkCall_68 l1 l2 l3 s)
 else (if t_ix l3 40 = true then
  if (s.1 981 (l3.toNatClampNeg)) = k0 then (k_X13_checkCall_69 l1 l2 l3 1 s)
 else (k_X13_checkCall_68 l1 l2 l3 s)
else none)
set_option maxRecDepth 4000 in
set_option maxHeartbeats 1000000 in
theorem B_X13_checkCall_47 {D : va_G} {cy : Nat → ClassId} {ad : Nat → Nat} {bs : Nat} {X : State → Heap → Prop} (l1 : Int32) (l2 : Int32) (l3 : Int32) (k0 : Int32) (s : t_S) (Q : t_S → Prop) (hk : t_hk (k_X13_checkCall_47 l1 l2 l3 k0 s) Q) : mj_G D cy ad bs X cX13_checkCall 6 yX13_checkCall.cls none yX13_checkCall.name 2 0 0 1065 (t_P (fun v s' => v = none ∧ Q (s'))) 47 [(0, .ref 950), (1, .int l1), (2, .int l2), (3, .int l3)] [.int k0] (t_m s) 1065 0 0 := by
  refine mj_istore (lv2 := [(4, .int k0), (0, .ref 950), (1, .int l1), (2, .int l2), (3, .int l3)]) dX13_checkCall_47 (by decide) rfl ?_
  refine mj_iload_n dX13_checkCall_49 4 rfl ?_
  refine mj_if_lt 68 dX13_checkCall_50 (by decide) (fun z => t_posK hk z (fun hk => ?_)) (fun z => t_negK hk z (fun hk => ?_))
  · refine mj_sublv [(0, .ref 950), (1, .int l1), (2, .int l2), (3, .int l3)] [1, 2, 3, 4] rfl ?_
    exact B_X13_checkCall_68 _ _ _ _ _ hk
  · refine mj_aload_n dX13_checkCall_53 1 rfl ?_
    refine t_getR 981 dX13_checkCall_54 F_X13_105 qr_950_57 ?_
    refine mj_iload_n dX13_checkCall_57 4 rfl ?_
    refine t_chkK hk (fun c0 hk => ?_)
    refine t_iald dX13_checkCall_58 qa_981 (t_ixv c0) ?_
    refine mj_iload dX13_checkCall_59 0 rfl ?_
    refine mj_icmp_ne 68 dX13_checkCall_61 (by decide) (fun z => t_negK hk z (fun hk => ?_)) (fun z => t_posK hk z (fun hk => ?_))
    · refine mj_sublv [(0, .ref 950), (1, .int l1), (2, .int l2), (3, .int l3)] [1, 2, 3, 4] rfl ?_
      exact B_X13_checkCall_68 _ _ _ _ _ hk
    · refine mj_iconst (v := 1) dX13_checkCall_64 (by decide) ?_
      refine mj_goto 69 dX13_checkCall_65 (by decide) ?_
      refine mj_sublv [(0, .ref 950), (1, .int l1), (2, .int l2), (3, .int l3)] [1, 2, 3, 4] rfl ?_
      exact B_X13_checkCall_69 _ _ _ _ _ _ hk
noncomputable def k_X13_checkCall_42 (l1 : Int32) (l2 : Int32) (l3 : Int32) (s : t_S) : Option (t_S) :=
 k_X13_checkCall_47 l1 l2 l3 3 s
set_option maxRecDepth 4000 in
set_option maxHeartbeats 1000000 in
theorem B_X13_checkCall_42 {D : va_G} {cy : Nat → ClassId} {ad : Nat → Nat} {bs : Nat} {X : State → Heap → Prop} (l1 : Int32) (l2 : Int32) (l3 : Int32) (s : t_S) (Q : t_S → Prop) (hk : t_hk (k_X13_checkCall_42 l1 l2 l3 s) Q) : mj_G D cy ad bs X cX13_checkCall 6 yX13_checkCall.cls none yX13_checkCall.name 2 0 0 1065 (t_P (fun v s' => v = none ∧ Q (s'))) 42 [(0, .ref 950), (1, .int l1), (2, .int l2), (3, .int l3)] [] (t_m s) 1065 0 0 := by
  refine mj_iconst (v := 3) dX13_checkCall_42 (by decide) ?_
  refine mj_goto 47 dX13_checkCall_43 (by decide) ?_
  exact B_X13_checkCall_47 _ _ _ _ _ _ hk
noncomputable def f_X13_checkCall (x1 : Int32) (x2 : Int32) (s : t_S) : Option (t_S) :=
 if t_ix x1 401 = true then
  (f_X13_find 980 (0 : Int32) (s.1 950 64) (s.1 991 (x1.toNatClampNeg)) s).bind (fun r2 =>
 if (s.1 988 (x1.toNatClampNeg)) = (6 : Int32) then (k_X13_checkCall_42 x1 x2 r2 s)
 else (if (s.1 988 (x1.toNatClampNeg)) = (15 : Int32) then (k_X13_checkCall_42 x1 x2 r2 s)
 else (k_X13_checkCall_47 x1 x2 r2 4 s)))
else none
set_option maxRecDepth 4000 in
set_option maxHeartbeats 1000000 in
theorem C_X13_checkCall (x1 : Int32) (x2 : Int32) (s : t_S) (r : t_S) (hr : f_X13_checkCall x1 x2 s = some r) : t_C yX13_checkCall cX13_checkCall 6 none 2 [.ref 950, .int x1, .int x2] s (fun v s' => v = none ∧ s' = r) := by
  refine t_C.imp (P := fun v s' => v = none ∧ (fun q => q = r) (s')) (t_C.of (by decide +kernel) (Nat.le_of_ble_eq_true rfl) ?_) (fun v s' hp => hp)
  intro D cy ad bs X
  have hk : t_hk (f_X13_checkCall x1 x2 s) (fun q => q = r) := ⟨r, hr, rfl⟩
  show mj_G D cy ad bs X cX13_checkCall 6 yX13_checkCall.cls none yX13_checkCall.name 2 0 0 1065 (t_P (fun v s' => v = none ∧ (fun q => q = r) (s'))) 0 [(0, .ref 950), (1, .int x1), (2, .int x2)] [] (t_m s) 1065 0 0
  refine mj_aload_n dX13_checkCall_0 0 rfl ?_
  refine mj_aload_n dX13_checkCall_1 0 rfl ?_
  refine t_getR 980 dX13_checkCall_2 F_X13_102 qr_950_56 ?_
  refine mj_iconst (v := 0) dX13_checkCall_5 (by decide) ?_
  refine mj_aload_n dX13_checkCall_6 0 rfl ?_
  refine t_getI dX13_checkCall_7 F_X13_633 qf_950_64 ?_
  refine mj_aload_n dX13_checkCall_10 0 rfl ?_
  refine t_getR 991 dX13_checkCall_11 F_X13_135 qr_950_69 ?_
  refine mj_iload_n dX13_checkCall_14 1 rfl ?_
  refine t_chkK hk (fun c0 hk => ?_)
  refine t_iald dX13_checkCall_15 qa_991 (t_ixv c0) ?_
  refine t_bndK hk (fun r2 er2 hk => ?_)
  refine t_callViP dX13_checkCall_16 M_X13_find (C_X13_find _ _ _ _ _ _ er2) ML_X13_788 IM_X13_find SE_X13_find qc_950 rfl (As := [.ref 980, .int 0, .int (s.1 950 64), .int (s.1 991 (x1.toNatClampNeg))]) rfl rfl (Nat.le_of_ble_eq_true rfl) (Nat.le_of_ble_eq_true rfl) (Nat.le_of_ble_eq_true rfl) (Nat.le_of_ble_eq_true rfl) ?_
  refine mj_istore_n 3 (lv2 := [(3, .int r2), (0, .ref 950), (1, .int x1), (2, .int x2)]) dX13_checkCall_19 rfl (by decide) rfl ?_
  refine mj_aload_n dX13_checkCall_20 1 rfl ?_
  refine t_getR 988 dX13_checkCall_21 F_X13_126 qr_950_66 ?_
  refine mj_iload_n dX13_checkCall_24 2 rfl ?_
  refine t_iald dX13_checkCall_25 qa_988 (t_ixv c0) ?_
  refine mj_bipush (v := 6) dX13_checkCall_26 (by decide) ?_
  refine mj_icmp_eq 42 dX13_checkCall_28 (by decide) (fun z => t_posK hk z (fun hk => ?_)) (fun z => t_negK hk z (fun hk => ?_))
  · refine mj_sublv [(0, .ref 950), (1, .int x1), (2, .int x2), (3, .int r2)] [1, 2, 3, 0] rfl ?_
    exact B_X13_checkCall_42 _ _ _ _ _ hk
  · refine mj_aload_n dX13_checkCall_31 1 rfl ?_
    refine t_getR 988 dX13_checkCall_32 F_X13_126 qr_950_66 ?_
    refine mj_iload_n dX13_checkCall_35 2 rfl ?_
    refine t_iald dX13_checkCall_36 qa_988 (t_ixv c0) ?_
    refine mj_bipush (v := 15) dX13_checkCall_37 (by decide) ?_
    refine mj_icmp_ne 46 dX13_checkCall_39 (by decide) (fun z => t_negK hk z (fun hk => ?_)) (fun z => t_posK hk z (fun hk => ?_))
    · refine mj_iconst (v := 4) dX13_checkCall_46 (by decide) ?_
      refine mj_sublv [(0, .ref 950), (1, .int x1), (2, .int x2), (3, .int r2)] [1, 2, 3, 0] rfl ?_
      exact B_X13_checkCall_47 _ _ _ _ _ _ hk
    · refine mj_sublv [(0, .ref 950), (1, .int x1), (2, .int x2), (3, .int r2)] [1, 2, 3, 0] rfl ?_
      exact B_X13_checkCall_42 _ _ _ _ _ hk

theorem dX13_isPort_0 : decode cX13_isPort 0 = .ok (.iconst 0, 1) := by decide +kernel
theorem dX13_isPort_1 : decode cX13_isPort 1 = .ok (.istore_n 2, 1) := by decide +kernel
theorem dX13_isPort_12 : decode cX13_isPort 12 = .ok (.iload_n 2, 1) := by decide +kernel
theorem dX13_isPort_13 : decode cX13_isPort 13 = .ok (.ifCond .ne 25, 3) := by decide +kernel
theorem dX13_isPort_16 : decode cX13_isPort 16 = .ok (.aload_n 0, 1) := by decide +kernel
theorem dX13_isPort_17 : decode cX13_isPort 17 = .ok (.aload_n 0, 1) := by decide +kernel
theorem dX13_isPort_18 : decode cX13_isPort 18 = .ok (.getfield 75, 3) := by decide +kernel
theorem dX13_isPort_2 : decode cX13_isPort 2 = .ok (.iconst 0, 1) := by decide +kernel
theorem dX13_isPort_21 : decode cX13_isPort 21 = .ok (.bipush 6, 2) := by decide +kernel
theorem dX13_isPort_23 : decode cX13_isPort 23 = .ok (.iload_n 3, 1) := by decide +kernel
theorem dX13_isPort_24 : decode cX13_isPort 24 = .ok (.imul, 1) := by decide +kernel
theorem dX13_isPort_25 : decode cX13_isPort 25 = .ok (.aload_n 0, 1) := by decide +kernel
theorem dX13_isPort_26 : decode cX13_isPort 26 = .ok (.getfield 78, 3) := by decide +kernel
theorem dX13_isPort_29 : decode cX13_isPort 29 = .ok (.iload_n 3, 1) := by decide +kernel
theorem dX13_isPort_3 : decode cX13_isPort 3 = .ok (.istore_n 3, 1) := by decide +kernel
theorem dX13_isPort_30 : decode cX13_isPort 30 = .ok (.iaload, 1) := by decide +kernel
theorem dX13_isPort_31 : decode cX13_isPort 31 = .ok (.iload_n 1, 1) := by decide +kernel
theorem dX13_isPort_32 : decode cX13_isPort 32 = .ok (.invokevirtual 788, 3) := by decide +kernel
theorem dX13_isPort_35 : decode cX13_isPort 35 = .ok (.ifCond .lt 7, 3) := by decide +kernel
theorem dX13_isPort_38 : decode cX13_isPort 38 = .ok (.iconst 1, 1) := by decide +kernel
theorem dX13_isPort_39 : decode cX13_isPort 39 = .ok (.goto 4, 3) := by decide +kernel
theorem dX13_isPort_4 : decode cX13_isPort 4 = .ok (.iload_n 3, 1) := by decide +kernel
theorem dX13_isPort_42 : decode cX13_isPort 42 = .ok (.iconst 0, 1) := by decide +kernel
theorem dX13_isPort_43 : decode cX13_isPort 43 = .ok (.istore_n 2, 1) := by decide +kernel
theorem dX13_isPort_44 : decode cX13_isPort 44 = .ok (.iinc 3 1, 3) := by decide +kernel
theorem dX13_isPort_47 : decode cX13_isPort 47 = .ok (.goto (-43), 3) := by decide +kernel
theorem dX13_isPort_5 : decode cX13_isPort 5 = .ok (.aload_n 0, 1) := by decide +kernel
theorem dX13_isPort_50 : decode cX13_isPort 50 = .ok (.iload_n 2, 1) := by decide +kernel
theorem dX13_isPort_51 : decode cX13_isPort 51 = .ok (.ireturn, 1) := by decide +kernel
theorem dX13_isPort_6 : decode cX13_isPort 6 = .ok (.getfield 630, 3) := by decide +kernel
theorem dX13_isPort_9 : decode cX13_isPort 9 = .ok (.if_icmp .ge 41, 3) := by decide +kernel
noncomputable def k_X13_isPort_43 (l1 : Int32) (l3 : Int32) (k0 : Int32) (s : t_S) : Option ((Int32 × Int32 × Int32) ⊕ (Int32)) :=
 some (.inl (l1, k0, (l3 + 1)))
set_option maxRecDepth 4000 in
set_option maxHeartbeats 1000000 in
theorem B_X13_isPort_43 {D : va_G} {cy : Nat → ClassId} {ad : Nat → Nat} {bs : Nat} {X : State → Heap → Prop} (l1 : Int32) (l3 : Int32) (k0 : Int32) (s : t_S) (Q : (Int32 × Int32 × Int32) ⊕ (Int32) → Prop) (Hb4 : ∀ (y0 : Int32) (y1 : Int32) (y2 : Int32), Q (.inl (y0, y1, y2)) → mj_G D cy ad bs X cX13_isPort 4 yX13_isPort.cls (some .boolean) yX13_isPort.name 1 0 0 1065 (t_P (fun v s' => s' = s ∧ ∃ x, v = some (.int x) ∧ Q (.inr (x)))) 4 [(0, .ref 950), (1, .int (y0)), (2, .int (y1)), (3, .int (y2))] [] (t_m s) 1065 0 0) (hk : t_hk (k_X13_isPort_43 l1 l3 k0 s) Q) : mj_G D cy ad bs X cX13_isPort 4 yX13_isPort.cls (some .boolean) yX13_isPort.name 1 0 0 1065 (t_P (fun v s' => s' = s ∧ ∃ x, v = some (.int x) ∧ Q (.inr (x)))) 43 [(0, .ref 950), (1, .int l1), (3, .int l3)] [.int k0] (t_m s) 1065 0 0 := by
  refine mj_istore_n 2 (lv2 := [(2, .int k0), (0, .ref 950), (1, .int l1), (3, .int l3)]) dX13_isPort_43 rfl (by decide) rfl ?_
  refine mj_iinc (k := 3) (v := (l3 + 1)) (lv2 := [(3, .int (l3 + 1)), (2, .int k0), (0, .ref 950), (1, .int l1)]) dX13_isPort_44 rfl rfl (by decide) rfl ?_
  refine mj_goto 4 dX13_isPort_47 (by decide) ?_
  refine mj_sublv [(0, .ref 950), (1, .int l1), (2, .int k0), (3, .int (l3 + 1))] [2, 3, 1, 0] rfl ?_
  exact t_somK hk (fun hf => Hb4 l1 k0 (l3 + 1) hf)
noncomputable def k_X13_isPort_38 (l1 : Int32) (l3 : Int32) (s : t_S) : Option ((Int32 × Int32 × Int32) ⊕ (Int32)) :=
 k_X13_isPort_43 l1 l3 1 s
set_option maxRecDepth 4000 in
set_option maxHeartbeats 1000000 in
theorem B_X13_isPort_38 {D : va_G} {cy : Nat → ClassId} {ad : Nat → Nat} {bs : Nat} {X : State → Heap → Prop} (l1 : Int32) (l3 : Int32) (s : t_S) (Q : (Int32 × Int32 × Int32) ⊕ (Int32) → Prop) (Hb4 : ∀ (y0 : Int32) (y1 : Int32) (y2 : Int32), Q (.inl (y0, y1, y2)) → mj_G D cy ad bs X cX13_isPort 4 yX13_isPort.cls (some .boolean) yX13_isPort.name 1 0 0 1065 (t_P (fun v s' => s' = s ∧ ∃ x, v = some (.int x) ∧ Q (.inr (x)))) 4 [(0, .ref 950), (1, .int (y0)), (2, .int (y1)), (3, .int (y2))] [] (t_m s) 1065 0 0) (hk : t_hk (k_X13_isPort_38 l1 l3 s) Q) : mj_G D cy ad bs X cX13_isPort 4 yX13_isPort.cls (some .boolean) yX13_isPort.name 1 0 0 1065 (t_P (fun v s' => s' = s ∧ ∃ x, v = some (.int x) ∧ Q (.inr (x)))) 38 [(0, .ref 950), (1, .int l1), (3, .int l3)] [] (t_m s) 1065 0 0 := by
  refine mj_iconst (v := 1) dX13_isPort_38 (by decide) ?_
  refine mj_goto 43 dX13_isPort_39 (by decide) ?_
  exact B_X13_isPort_43 _ _ _ _ _ (fun y0 y1 y2 hx => Hb4 y0 y1 y2 hx) hk
noncomputable def k_X13_isPort_4 (l1 : Int32) (l2 : Int32) (l3 : Int32) (s : t_S) : Option ((Int32 × Int32 × Int32) ⊕ (Int32)) :=
 if (s.1 950 55) ≤ l3 then ((if l2 = 0 ∨ l2 = 1 then
  some (l2)
else none).map Sum.inr)
 else (if l2 = (0 : Int32) then (if t_ix l3 8 = true then
  (f_X13_find 971 ((6 : Int32) * l3) (s.1 972 (l3.toNatClampNeg)) l1 s).bind (fun r3 =>
 if r3 < (0 : Int32) then (k_X13_isPort_43 l1 l3 0 s)
 else (k_X13_isPort_38 l1 l3 s))
else none)
 else (k_X13_isPort_38 l1 l3 s))
set_option maxRecDepth 4000 in
set_option maxHeartbeats 1000000 in
theorem B_X13_isPort_4 {D : va_G} {cy : Nat → ClassId} {ad : Nat → Nat} {bs : Nat} {X : State → Heap → Prop} (l1 : Int32) (l2 : Int32) (l3 : Int32) (s : t_S) (Q : (Int32 × Int32 × Int32) ⊕ (Int32) → Prop) (Hb4 : ∀ (y0 : Int32) (y1 : Int32) (y2 : Int32), Q (.inl (y0, y1, y2)) → mj_G D cy ad bs X cX13_isPort 4 yX13_isPort.cls (some .boolean) yX13_isPort.name 1 0 0 1065 (t_P (fun v s' => s' = s ∧ ∃ x, v = some (.int x) ∧ Q (.inr (x)))) 4 [(0, .ref 950), (1, .int (y0)), (2, .int (y1)), (3, .int (y2))] [] (t_m s) 1065 0 0) (hk : t_hk (k_X13_isPort_4 l1 l2 l3 s) Q) : mj_G D cy ad bs X cX13_isPort 4 yX13_isPort.cls (some .boolean) yX13_isPort.name 1 0 0 1065 (t_P (fun v s' => s' = s ∧ ∃ x, v = some (.int x) ∧ Q (.inr (x)))) 4 [(0, .ref 950), (1, .int l1), (2, .int l2), (3, .int l3)] [] (t_m s) 1065 0 0 := by
  refine mj_iload_n dX13_isPort_4 3 rfl ?_
  refine mj_aload_n dX13_isPort_5 0 rfl ?_
  refine t_getI dX13_isPort_6 F_X13_630 qf_950_55 ?_
  refine mj_icmp_ge 50 dX13_isPort_9 (by decide) (fun z => t_posK hk z (fun hk => ?_)) (fun z => t_negK hk z (fun hk => ?_))
  · refine t_mapK hk (fun hk => ?_)
    refine mj_iload_n dX13_isPort_50 2 rfl ?_
    refine t_chkK hk (fun c0 hk => ?_)
    exact t_somK hk (fun hf => t_iret dX13_isPort_51 rfl (t_zfit c0) ⟨rfl, _, rfl, hf⟩ (Nat.le_of_ble_eq_true rfl) (Nat.le_of_ble_eq_true rfl))
  · refine mj_iload_n dX13_isPort_12 2 rfl ?_
    refine mj_if_ne 38 dX13_isPort_13 (by decide) (fun z => t_negK hk z (fun hk => ?_)) (fun z => t_posK hk z (fun hk => ?_))
    · refine mj_sublv [(0, .ref 950), (1, .int l1), (3, .int l3)] [0, 1, 3] rfl ?_
      exact B_X13_isPort_38 _ _ _ _ (fun y0 y1 y2 hx => Hb4 y0 y1 y2 hx) hk
    · refine mj_aload_n dX13_isPort_16 0 rfl ?_
      refine mj_aload_n dX13_isPort_17 0 rfl ?_
      refine t_getR 971 dX13_isPort_18 F_X13_75 qr_950_46 ?_
      refine mj_bipush (v := 6) dX13_isPort_21 (by decide) ?_
      refine mj_iload_n dX13_isPort_23 3 rfl ?_
      refine mj_imul dX13_isPort_24 ?_
      refine mj_aload_n dX13_isPort_25 0 rfl ?_
      refine t_getR 972 dX13_isPort_26 F_X13_78 qr_950_47 ?_
      refine mj_iload_n dX13_isPort_29 3 rfl ?_
      refine t_chkK hk (fun c1 hk => ?_)
      refine t_iald dX13_isPort_30 qa_972 (t_ixv c1) ?_
      refine mj_iload_n dX13_isPort_31 1 rfl ?_
      refine t_bndK hk (fun r3 er3 hk => ?_)
      refine t_callViP dX13_isPort_32 M_X13_find (C_X13_find _ _ _ _ _ _ er3) ML_X13_788 IM_X13_find SE_X13_find qc_950 rfl (As := [.ref 971, .int ((6 : Int32) * l3), .int (s.1 972 (l3.toNatClampNeg)), .int l1]) rfl rfl (Nat.le_of_ble_eq_true rfl) (Nat.le_of_ble_eq_true rfl) (Nat.le_of_ble_eq_true rfl) (Nat.le_of_ble_eq_true rfl) ?_
      refine mj_if_lt 42 dX13_isPort_35 (by decide) (fun z => t_posK hk z (fun hk => ?_)) (fun z => t_negK hk z (fun hk => ?_))
      · refine mj_iconst (v := 0) dX13_isPort_42 (by decide) ?_
        refine mj_sublv [(0, .ref 950), (1, .int l1), (3, .int l3)] [0, 1, 3] rfl ?_
        exact B_X13_isPort_43 _ _ _ _ _ (fun y0 y1 y2 hx => Hb4 y0 y1 y2 hx) hk
      · refine mj_sublv [(0, .ref 950), (1, .int l1), (3, .int l3)] [0, 1, 3] rfl ?_
        exact B_X13_isPort_38 _ _ _ _ (fun y0 y1 y2 hx => Hb4 y0 y1 y2 hx) hk
noncomputable def b_X13_isPort_4 (s : t_S) (x : Int32 × Int32 × Int32) : Option ((Int32 × Int32 × Int32) ⊕ (Int32)) := k_X13_isPort_4 x.1 x.2.1 x.2.2 s
set_option maxRecDepth 4000 in
set_option maxHeartbeats 1000000 in
theorem LH_X13_isPort_4 {D : va_G} {cy : Nat → ClassId} {ad : Nat → Nat} {bs : Nat} {X : State → Heap → Prop} (s : t_S) : ∀ (n : Nat) (y0 : Int32) (y1 : Int32) (y2 : Int32) (Q : Int32 → Prop) (hk : t_hk (t_loop (b_X13_isPort_4 s) n (y0, y1, y2)) Q), mj_G D cy ad bs X cX13_isPort 4 yX13_isPort.cls (some .boolean) yX13_isPort.name 1 0 0 1065 (t_P (fun v s' => s' = s ∧ ∃ x, v = some (.int x) ∧ Q (x))) 4 [(0, .ref 950), (1, .int (y0)), (2, .int (y1)), (3, .int (y2))] [] (t_m s) 1065 0 0 := by
  intro n
  induction n with
  | zero => intro y0 y1 y2 Q hk; obtain ⟨r, hr, _⟩ := hk; cases hr
  | succ n ih =>
    intro y0 y1 y2 Q hk
    exact B_X13_isPort_4 y0 y1 y2 s (fun y => t_lq (b_X13_isPort_4 s) n Q y) (fun y0' y1' y2' hy => ih y0' y1' y2' Q hy) (t_lp (b := b_X13_isPort_4 s) (n := n) (x := (y0, y1, y2)) hk)
noncomputable def f_X13_isPort (x1 : Int32) (s : t_S) : Option (Int32) :=
 t_loop (b_X13_isPort_4 s) t_N (x1, 0, 0)
set_option maxRecDepth 4000 in
set_option maxHeartbeats 1000000 in
theorem C_X13_isPort (x1 : Int32) (s : t_S) (r : Int32) (hr : f_X13_isPort x1 s = some r) : t_C yX13_isPort cX13_isPort 4 (some .boolean) 1 [.ref 950, .int x1] s (fun v s' => v = some (.int r) ∧ s' = s) := by
  refine t_C.imp (P := fun v s' => s' = s ∧ ∃ x, v = some (.int x) ∧ (fun q => q = r) (x)) (t_C.of (by decide +kernel) (Nat.le_of_ble_eq_true rfl) ?_) (fun v s' hp => by obtain ⟨rfl, x, rfl, rfl⟩ := hp; exact ⟨rfl, rfl⟩)
  intro D cy ad bs X
  have hk : t_hk (f_X13_isPort x1 s) (fun q => q = r) := ⟨r, hr, rfl⟩
  show mj_G D cy ad bs X cX13_isPort 4 yX13_isPort.cls (some .boolean) yX13_isPort.name 1 0 0 1065 (t_P (fun v s' => s' = s ∧ ∃ x, v = some (.int x) ∧ (fun q => q = r) (x))) 0 [(0, .ref 950), (1, .int x1)] [] (t_m s) 1065 0 0
  refine mj_iconst (v := 0) dX13_isPort_0 (by decide) ?_
  refine mj_istore_n 2 (lv2 := [(2, .int 0), (0, .ref 950), (1, .int x1)]) dX13_isPort_1 rfl (by decide) rfl ?_
  refine mj_iconst (v := 0) dX13_isPort_2 (by decide) ?_
  refine mj_istore_n 3 (lv2 := [(3, .int 0), (2, .int 0), (0, .ref 950), (1, .int x1)]) dX13_isPort_3 rfl (by decide) rfl ?_
  refine mj_sublv [(0, .ref 950), (1, .int x1), (2, .int 0), (3, .int 0)] [2, 3, 1, 0] rfl ?_
  exact LH_X13_isPort_4 _ _ x1 0 0 _ hk

