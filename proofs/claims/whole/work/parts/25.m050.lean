/-! Methods as functions, 50: X13_element, X13_fieldOf, X13_push, X13_dot, X13_pushMade, X13_pushNumber, X13_pushTruth, X13_putMade -/
theorem qa_1036 : t_oka 1036 1 8 = true := by decide +kernel
theorem qr_950_151 : t_okr 950 13 151 1036 = true := by decide +kernel
theorem dX13_element_0 : decode cX13_element 0 = .ok (.aload_n 0, 1) := by decide +kernel
theorem dX13_element_1 : decode cX13_element 1 = .ok (.invokevirtual 948, 3) := by decide +kernel
theorem dX13_element_10 : decode cX13_element 10 = .ok (.aload_n 0, 1) := by decide +kernel
theorem dX13_element_100 : decode cX13_element 100 = .ok (.aload_n 0, 1) := by decide +kernel
theorem dX13_element_101 : decode cX13_element 101 = .ok (.iload_n 3, 1) := by decide +kernel
theorem dX13_element_102 : decode cX13_element 102 = .ok (.invokevirtual 953, 3) := by decide +kernel
theorem dX13_element_105 : decode cX13_element 105 = .ok (.return_, 1) := by decide +kernel
theorem dX13_element_11 : decode cX13_element 11 = .ok (.getfield 182, 3) := by decide +kernel
theorem dX13_element_14 : decode cX13_element 14 = .ok (.iload_n 1, 1) := by decide +kernel
theorem dX13_element_15 : decode cX13_element 15 = .ok (.laload, 1) := by decide +kernel
theorem dX13_element_16 : decode cX13_element 16 = .ok (.ldc2_w 951, 3) := by decide +kernel
theorem dX13_element_19 : decode cX13_element 19 = .ok (.lcmp, 1) := by decide +kernel
theorem dX13_element_20 : decode cX13_element 20 = .ok (.ifCond .ne 14, 3) := by decide +kernel
theorem dX13_element_23 : decode cX13_element 23 = .ok (.aload_n 0, 1) := by decide +kernel
theorem dX13_element_24 : decode cX13_element 24 = .ok (.getfield 182, 3) := by decide +kernel
theorem dX13_element_27 : decode cX13_element 27 = .ok (.iload_n 2, 1) := by decide +kernel
theorem dX13_element_28 : decode cX13_element 28 = .ok (.laload, 1) := by decide +kernel
theorem dX13_element_29 : decode cX13_element 29 = .ok (.lconst 0, 1) := by decide +kernel
theorem dX13_element_30 : decode cX13_element 30 = .ok (.lcmp, 1) := by decide +kernel
theorem dX13_element_31 : decode cX13_element 31 = .ok (.ifCond .eq 11, 3) := by decide +kernel
theorem dX13_element_34 : decode cX13_element 34 = .ok (.aload_n 0, 1) := by decide +kernel
theorem dX13_element_35 : decode cX13_element 35 = .ok (.iconst 1, 1) := by decide +kernel
theorem dX13_element_36 : decode cX13_element 36 = .ok (.invokevirtual 866, 3) := by decide +kernel
theorem dX13_element_39 : decode cX13_element 39 = .ok (.goto 66, 3) := by decide +kernel
theorem dX13_element_4 : decode cX13_element 4 = .ok (.istore_n 1, 1) := by decide +kernel
theorem dX13_element_42 : decode cX13_element 42 = .ok (.aload_n 0, 1) := by decide +kernel
theorem dX13_element_43 : decode cX13_element 43 = .ok (.getfield 182, 3) := by decide +kernel
theorem dX13_element_46 : decode cX13_element 46 = .ok (.iload_n 2, 1) := by decide +kernel
theorem dX13_element_47 : decode cX13_element 47 = .ok (.iconst 1, 1) := by decide +kernel
theorem dX13_element_48 : decode cX13_element 48 = .ok (.iadd, 1) := by decide +kernel
theorem dX13_element_49 : decode cX13_element 49 = .ok (.laload, 1) := by decide +kernel
theorem dX13_element_5 : decode cX13_element 5 = .ok (.aload_n 0, 1) := by decide +kernel
theorem dX13_element_50 : decode cX13_element 50 = .ok (.lconst 0, 1) := by decide +kernel
theorem dX13_element_51 : decode cX13_element 51 = .ok (.aload_n 0, 1) := by decide +kernel
theorem dX13_element_52 : decode cX13_element 52 = .ok (.getfield 182, 3) := by decide +kernel
theorem dX13_element_55 : decode cX13_element 55 = .ok (.iload_n 1, 1) := by decide +kernel
theorem dX13_element_56 : decode cX13_element 56 = .ok (.iconst 1, 1) := by decide +kernel
theorem dX13_element_57 : decode cX13_element 57 = .ok (.iadd, 1) := by decide +kernel
theorem dX13_element_58 : decode cX13_element 58 = .ok (.laload, 1) := by decide +kernel
theorem dX13_element_59 : decode cX13_element 59 = .ok (.lconst 1, 1) := by decide +kernel
theorem dX13_element_6 : decode cX13_element 6 = .ok (.invokevirtual 941, 3) := by decide +kernel
theorem dX13_element_60 : decode cX13_element 60 = .ok (.lsub, 1) := by decide +kernel
theorem dX13_element_61 : decode cX13_element 61 = .ok (.invokestatic 371, 3) := by decide +kernel
theorem dX13_element_64 : decode cX13_element 64 = .ok (.ifCond .ne 11, 3) := by decide +kernel
theorem dX13_element_67 : decode cX13_element 67 = .ok (.aload_n 0, 1) := by decide +kernel
theorem dX13_element_68 : decode cX13_element 68 = .ok (.iconst 2, 1) := by decide +kernel
theorem dX13_element_69 : decode cX13_element 69 = .ok (.invokevirtual 866, 3) := by decide +kernel
theorem dX13_element_72 : decode cX13_element 72 = .ok (.goto 33, 3) := by decide +kernel
theorem dX13_element_75 : decode cX13_element 75 = .ok (.aload_n 0, 1) := by decide +kernel
theorem dX13_element_76 : decode cX13_element 76 = .ok (.iload_n 1, 1) := by decide +kernel
theorem dX13_element_77 : decode cX13_element 77 = .ok (.aload_n 0, 1) := by decide +kernel
theorem dX13_element_78 : decode cX13_element 78 = .ok (.getfield 182, 3) := by decide +kernel
theorem dX13_element_81 : decode cX13_element 81 = .ok (.iload_n 2, 1) := by decide +kernel
theorem dX13_element_82 : decode cX13_element 82 = .ok (.iconst 1, 1) := by decide +kernel
theorem dX13_element_83 : decode cX13_element 83 = .ok (.iadd, 1) := by decide +kernel
theorem dX13_element_84 : decode cX13_element 84 = .ok (.laload, 1) := by decide +kernel
theorem dX13_element_85 : decode cX13_element 85 = .ok (.l2i, 1) := by decide +kernel
theorem dX13_element_86 : decode cX13_element 86 = .ok (.invokevirtual 855, 3) := by decide +kernel
theorem dX13_element_89 : decode cX13_element 89 = .ok (.istore_n 3, 1) := by decide +kernel
theorem dX13_element_9 : decode cX13_element 9 = .ok (.istore_n 2, 1) := by decide +kernel
theorem dX13_element_90 : decode cX13_element 90 = .ok (.aload_n 0, 1) := by decide +kernel
theorem dX13_element_91 : decode cX13_element 91 = .ok (.aload_n 0, 1) := by decide +kernel
theorem dX13_element_92 : decode cX13_element 92 = .ok (.getfield 858, 3) := by decide +kernel
theorem dX13_element_95 : decode cX13_element 95 = .ok (.iconst 2, 1) := by decide +kernel
theorem dX13_element_96 : decode cX13_element 96 = .ok (.isub, 1) := by decide +kernel
theorem dX13_element_97 : decode cX13_element 97 = .ok (.putfield 858, 3) := by decide +kernel
noncomputable def k_X13_element_34 (s : t_S) : Option (t_S) :=
 (f_X13_error (1 : Int32) s).bind (fun r1 =>
 some (r1))
set_option maxRecDepth 4000 in
set_option maxHeartbeats 1000000 in
theorem B_X13_element_34 {D : va_G} {cy : Nat → ClassId} {ad : Nat → Nat} {bs : Nat} {X : State → Heap → Prop} (s : t_S) (Q : t_S → Prop) (hk : t_hk (k_X13_element_34 s) Q) : mj_G D cy ad bs X cX13_element 4 yX13_element.cls none yX13_element.name 3 0 0 1065 (t_P (fun v s' => v = none ∧ Q (s'))) 34 [(0, .ref 950)] [] (t_m s) 1065 0 0 := by
  refine mj_aload_n dX13_element_34 0 rfl ?_
  refine mj_iconst (v := 1) dX13_element_35 (by decide) ?_
  refine t_bndK hk (fun r1 er1 hk => ?_)
  refine t_callVvE dX13_element_36 M_X13_error (C_X13_error _ _ _ er1) ML_X13_866 IM_X13_error SE_X13_error qc_950 rfl (As := [.int 1]) rfl rfl (Nat.le_of_ble_eq_true rfl) (Nat.le_of_ble_eq_true rfl) (Nat.le_of_ble_eq_true rfl) (Nat.le_of_ble_eq_true rfl) ?_
  refine mj_goto 105 dX13_element_39 (by decide) ?_
  exact t_somK hk (fun hf => t_vret dX13_element_105 rfl ⟨rfl, hf⟩ (Nat.le_of_ble_eq_true rfl) (Nat.le_of_ble_eq_true rfl))
noncomputable def f_X13_element (s : t_S) : Option (t_S) :=
 if t_ix (f_X13_under s) 626600 = true then
  if (lg_cmp (s.2.1 1006 ((f_X13_under s).toNatClampNeg)) (8 : Int64)) = (0 : Int32) then (if t_ix (f_X13_top s) 626600 = true then
  if (lg_cmp (s.2.1 1006 ((f_X13_top s).toNatClampNeg)) (0 : Int64)) = (0 : Int32) then (if t_ix ((f_X13_top s) + (1 : Int32)) 626600 = true then
  if t_ix ((f_X13_under s) + (1 : Int32)) 626600 = true then
  if (f_X13_in (s.2.1 1006 (((f_X13_top s) + (1 : Int32)).toNatClampNeg)) (0 : Int64) ((s.2.1 1006 (((f_X13_under s) + (1 : Int32)).toNatClampNeg)) - (1 : Int64)) s) = (0 : Int32) then ((f_X13_error (2 : Int32) s).bind (fun r10 =>
 some (r10)))
 else ((f_X13_partOf (f_X13_under s) ((s.2.1 1006 (((f_X13_top s) + (1 : Int32)).toNatClampNeg)).toInt32) s).bind (fun r8 =>
 t_let (t_setI s 950 98 ((s.1 950 98) - (2 : Int32))) (fun s1 =>
 (f_X13_moveTo r8 s1).bind (fun r9 =>
 some (r9)))))
else none
else none)
 else (k_X13_element_34 s)
else none)
 else (k_X13_element_34 s)
else none
set_option maxRecDepth 4000 in
set_option maxHeartbeats 1000000 in
theorem C_X13_element (s : t_S) (r : t_S) (hr : f_X13_element s = some r) : t_C yX13_element cX13_element 4 none 3 [.ref 950] s (fun v s' => v = none ∧ s' = r) := by
  refine t_C.imp (P := fun v s' => v = none ∧ (fun q => q = r) (s')) (t_C.of (by decide +kernel) (Nat.le_of_ble_eq_true rfl) ?_) (fun v s' hp => hp)
  intro D cy ad bs X
  have hk : t_hk (f_X13_element s) (fun q => q = r) := ⟨r, hr, rfl⟩
  show mj_G D cy ad bs X cX13_element 4 yX13_element.cls none yX13_element.name 3 0 0 1065 (t_P (fun v s' => v = none ∧ (fun q => q = r) (s'))) 0 [(0, .ref 950)] [] (t_m s) 1065 0 0
  refine mj_aload_n dX13_element_0 0 rfl ?_
  refine t_callViP dX13_element_1 M_X13_under (C_X13_under _) ML_X13_948 IM_X13_under SE_X13_under qc_950 rfl (As := []) rfl rfl (Nat.le_of_ble_eq_true rfl) (Nat.le_of_ble_eq_true rfl) (Nat.le_of_ble_eq_true rfl) (Nat.le_of_ble_eq_true rfl) ?_
  refine mj_istore_n 1 (lv2 := [(1, .int (f_X13_under s)), (0, .ref 950)]) dX13_element_4 rfl (by decide) rfl ?_
  refine mj_aload_n dX13_element_5 1 rfl ?_
  refine t_callViP dX13_element_6 M_X13_top (C_X13_top _) ML_X13_941 IM_X13_top SE_X13_top qc_950 rfl (As := []) rfl rfl (Nat.le_of_ble_eq_true rfl) (Nat.le_of_ble_eq_true rfl) (Nat.le_of_ble_eq_true rfl) (Nat.le_of_ble_eq_true rfl) ?_
  refine mj_istore_n 2 (lv2 := [(2, .int (f_X13_top s)), (1, .int (f_X13_under s)), (0, .ref 950)]) dX13_element_9 rfl (by decide) rfl ?_
  refine mj_aload_n dX13_element_10 2 rfl ?_
  refine t_getR 1006 dX13_element_11 F_X13_182 qr_950_95 ?_
  refine mj_iload_n dX13_element_14 1 rfl ?_
  refine t_chkK hk (fun c2 hk => ?_)
  refine t_lald dX13_element_15 qa_1006 (t_ixv c2) ?_
  refine mj_ldc2 dX13_element_16 K_X13_951 ?_
  refine mj_lcmp dX13_element_19 ?_
  refine mj_if_ne 34 dX13_element_20 (by decide) (fun z => t_negK hk z (fun hk => ?_)) (fun z => t_posK hk z (fun hk => ?_))
  · refine mj_sublv [(0, .ref 950)] [2] rfl ?_
    exact B_X13_element_34 _ _ hk
  · refine mj_aload_n dX13_element_23 2 rfl ?_
    refine t_getR 1006 dX13_element_24 F_X13_182 qr_950_95 ?_
    refine mj_iload_n dX13_element_27 0 rfl ?_
    refine t_chkK hk (fun c3 hk => ?_)
    refine t_lald dX13_element_28 qa_1006 (t_ixv c3) ?_
    refine mj_lconst (v := 0) dX13_element_29 (by decide) ?_
    refine mj_lcmp dX13_element_30 ?_
    refine mj_if_eq 42 dX13_element_31 (by decide) (fun z => t_posK hk z (fun hk => ?_)) (fun z => t_negK hk z (fun hk => ?_))
    · refine mj_aload_n dX13_element_42 2 rfl ?_
      refine t_getR 1006 dX13_element_43 F_X13_182 qr_950_95 ?_
      refine mj_iload_n dX13_element_46 0 rfl ?_
      refine mj_iconst (v := 1) dX13_element_47 (by decide) ?_
      refine mj_iadd dX13_element_48 ?_
      refine t_chkK hk (fun c4 hk => ?_)
      refine t_lald dX13_element_49 qa_1006 (t_ixv c4) ?_
      refine mj_lconst (v := 0) dX13_element_50 (by decide) ?_
      refine mj_aload_n dX13_element_51 2 rfl ?_
      refine t_getR 1006 dX13_element_52 F_X13_182 qr_950_95 ?_
      refine mj_iload_n dX13_element_55 1 rfl ?_
      refine mj_iconst (v := 1) dX13_element_56 (by decide) ?_
      refine mj_iadd dX13_element_57 ?_
      refine t_chkK hk (fun c5 hk => ?_)
      refine t_lald dX13_element_58 qa_1006 (t_ixv c5) ?_
      refine mj_lconst (v := 1) dX13_element_59 (by decide) ?_
      refine mj_lsub dX13_element_60 ?_
      refine t_callSiP dX13_element_61 M_X13_in (C_X13_in _ _ _ _) ML_X13_371 SM_X13_in (As := [.long (s.2.1 1006 (((f_X13_top s) + (1 : Int32)).toNatClampNeg)), .long 0, .long ((s.2.1 1006 (((f_X13_under s) + (1 : Int32)).toNatClampNeg)) - (1 : Int64))]) rfl rfl (Nat.le_of_ble_eq_true rfl) (Nat.le_of_ble_eq_true rfl) (Nat.le_of_ble_eq_true rfl) (Nat.le_of_ble_eq_true rfl) ?_
      refine mj_if_ne 75 dX13_element_64 (by decide) (fun z => t_negK hk z (fun hk => ?_)) (fun z => t_posK hk z (fun hk => ?_))
      · refine mj_aload_n dX13_element_75 2 rfl ?_
        refine mj_iload_n dX13_element_76 1 rfl ?_
        refine mj_aload_n dX13_element_77 2 rfl ?_
        refine t_getR 1006 dX13_element_78 F_X13_182 qr_950_95 ?_
        refine mj_iload_n dX13_element_81 0 rfl ?_
        refine mj_iconst (v := 1) dX13_element_82 (by decide) ?_
        refine mj_iadd dX13_element_83 ?_
        refine t_lald dX13_element_84 qa_1006 (t_ixv c4) ?_
        refine mj_l2i (v := (s.2.1 1006 (((f_X13_top s) + (1 : Int32)).toNatClampNeg)).toInt32) dX13_element_85 rfl ?_
        refine t_bndK hk (fun r8 er8 hk => ?_)
        refine t_callViP dX13_element_86 M_X13_partOf (C_X13_partOf _ _ _ _ er8) ML_X13_855 IM_X13_partOf SE_X13_partOf qc_950 rfl (As := [.int (f_X13_under s), .int ((s.2.1 1006 (((f_X13_top s) + (1 : Int32)).toNatClampNeg)).toInt32)]) rfl rfl (Nat.le_of_ble_eq_true rfl) (Nat.le_of_ble_eq_true rfl) (Nat.le_of_ble_eq_true rfl) (Nat.le_of_ble_eq_true rfl) ?_
        refine mj_istore_n 3 (lv2 := [(3, .int r8), (2, .int (f_X13_top s)), (1, .int (f_X13_under s)), (0, .ref 950)]) dX13_element_89 rfl (by decide) rfl ?_
        refine mj_aload_n dX13_element_90 3 rfl ?_
        refine mj_aload_n dX13_element_91 3 rfl ?_
        refine t_getI dX13_element_92 F_X13_858 qf_950_98 ?_
        refine mj_iconst (v := 2) dX13_element_95 (by decide) ?_
        refine mj_isub dX13_element_96 ?_
        refine t_putIK dX13_element_97 F_X13_858 qf_950_98 rfl (fun s1 ws1 => t_letE hk ws1 (fun hk => ?_))
        refine mj_aload_n dX13_element_100 3 rfl ?_
        refine mj_iload_n dX13_element_101 0 rfl ?_
        refine t_bndK hk (fun r9 er9 hk => ?_)
        refine t_callVvE dX13_element_102 M_X13_moveTo (C_X13_moveTo _ _ _ er9) ML_X13_953 IM_X13_moveTo SE_X13_moveTo qc_950 rfl (As := [.int r8]) rfl rfl (Nat.le_of_ble_eq_true rfl) (Nat.le_of_ble_eq_true rfl) (Nat.le_of_ble_eq_true rfl) (Nat.le_of_ble_eq_true rfl) ?_
        exact t_somK hk (fun hf => t_vret dX13_element_105 rfl ⟨rfl, hf⟩ (Nat.le_of_ble_eq_true rfl) (Nat.le_of_ble_eq_true rfl))
      · refine mj_aload_n dX13_element_67 2 rfl ?_
        refine mj_iconst (v := 2) dX13_element_68 (by decide) ?_
        refine t_bndK hk (fun r10 er10 hk => ?_)
        refine t_callVvE dX13_element_69 M_X13_error (C_X13_error _ _ _ er10) ML_X13_866 IM_X13_error SE_X13_error qc_950 rfl (As := [.int 2]) rfl rfl (Nat.le_of_ble_eq_true rfl) (Nat.le_of_ble_eq_true rfl) (Nat.le_of_ble_eq_true rfl) (Nat.le_of_ble_eq_true rfl) ?_
        refine mj_goto 105 dX13_element_72 (by decide) ?_
        exact t_somK hk (fun hf => t_vret dX13_element_105 rfl ⟨rfl, hf⟩ (Nat.le_of_ble_eq_true rfl) (Nat.le_of_ble_eq_true rfl))
    · refine mj_sublv [(0, .ref 950)] [2] rfl ?_
      exact B_X13_element_34 _ _ hk

theorem dX13_fieldOf_0 : decode cX13_fieldOf 0 = .ok (.iconst 0, 1) := by decide +kernel
theorem dX13_fieldOf_1 : decode cX13_fieldOf 1 = .ok (.istore 4, 2) := by decide +kernel
theorem dX13_fieldOf_10 : decode cX13_fieldOf 10 = .ok (.iconst 1, 1) := by decide +kernel
theorem dX13_fieldOf_11 : decode cX13_fieldOf 11 = .ok (.iadd, 1) := by decide +kernel
theorem dX13_fieldOf_12 : decode cX13_fieldOf 12 = .ok (.laload, 1) := by decide +kernel
theorem dX13_fieldOf_13 : decode cX13_fieldOf 13 = .ok (.l2i, 1) := by decide +kernel
theorem dX13_fieldOf_14 : decode cX13_fieldOf 14 = .ok (.if_icmp .ge 33, 3) := by decide +kernel
theorem dX13_fieldOf_17 : decode cX13_fieldOf 17 = .ok (.aload_n 0, 1) := by decide +kernel
theorem dX13_fieldOf_18 : decode cX13_fieldOf 18 = .ok (.getfield 182, 3) := by decide +kernel
theorem dX13_fieldOf_21 : decode cX13_fieldOf 21 = .ok (.iload_n 1, 1) := by decide +kernel
theorem dX13_fieldOf_22 : decode cX13_fieldOf 22 = .ok (.iconst 2, 1) := by decide +kernel
theorem dX13_fieldOf_23 : decode cX13_fieldOf 23 = .ok (.iadd, 1) := by decide +kernel
theorem dX13_fieldOf_24 : decode cX13_fieldOf 24 = .ok (.iload 4, 2) := by decide +kernel
theorem dX13_fieldOf_26 : decode cX13_fieldOf 26 = .ok (.iadd, 1) := by decide +kernel
theorem dX13_fieldOf_27 : decode cX13_fieldOf 27 = .ok (.laload, 1) := by decide +kernel
theorem dX13_fieldOf_28 : decode cX13_fieldOf 28 = .ok (.lload_n 2, 1) := by decide +kernel
theorem dX13_fieldOf_29 : decode cX13_fieldOf 29 = .ok (.lcmp, 1) := by decide +kernel
theorem dX13_fieldOf_3 : decode cX13_fieldOf 3 = .ok (.iload 4, 2) := by decide +kernel
theorem dX13_fieldOf_30 : decode cX13_fieldOf 30 = .ok (.ifCond .ne 11, 3) := by decide +kernel
theorem dX13_fieldOf_33 : decode cX13_fieldOf 33 = .ok (.aload_n 0, 1) := by decide +kernel
theorem dX13_fieldOf_34 : decode cX13_fieldOf 34 = .ok (.iload_n 1, 1) := by decide +kernel
theorem dX13_fieldOf_35 : decode cX13_fieldOf 35 = .ok (.iload 4, 2) := by decide +kernel
theorem dX13_fieldOf_37 : decode cX13_fieldOf 37 = .ok (.invokevirtual 855, 3) := by decide +kernel
theorem dX13_fieldOf_40 : decode cX13_fieldOf 40 = .ok (.ireturn, 1) := by decide +kernel
theorem dX13_fieldOf_41 : decode cX13_fieldOf 41 = .ok (.iinc 4 1, 3) := by decide +kernel
theorem dX13_fieldOf_44 : decode cX13_fieldOf 44 = .ok (.goto (-41), 3) := by decide +kernel
theorem dX13_fieldOf_47 : decode cX13_fieldOf 47 = .ok (.iconst (-1), 1) := by decide +kernel
theorem dX13_fieldOf_48 : decode cX13_fieldOf 48 = .ok (.ireturn, 1) := by decide +kernel
theorem dX13_fieldOf_5 : decode cX13_fieldOf 5 = .ok (.aload_n 0, 1) := by decide +kernel
theorem dX13_fieldOf_6 : decode cX13_fieldOf 6 = .ok (.getfield 182, 3) := by decide +kernel
theorem dX13_fieldOf_9 : decode cX13_fieldOf 9 = .ok (.iload_n 1, 1) := by decide +kernel
noncomputable def k_X13_fieldOf_3 (l1 : Int32) (l2 : Int64) (l4 : Int32) (s : t_S) : Option ((Int32 × Int64 × Int32) ⊕ (Int32)) :=
 if t_ix (l1 + (1 : Int32)) 626600 = true then
  if ((s.2.1 1006 ((l1 + (1 : Int32)).toNatClampNeg)).toInt32) ≤ l4 then ((some (-1 : Int32)).map Sum.inr)
 else (if t_ix ((l1 + (2 : Int32)) + l4) 626600 = true then
  if (lg_cmp (s.2.1 1006 (((l1 + (2 : Int32)) + l4).toNatClampNeg)) l2) = (0 : Int32) then (((f_X13_partOf l1 l4 s).bind (fun r3 =>
 some (r3))).map Sum.inr)
 else (some (.inl (l1, l2, (l4 + 1))))
else none)
else none
set_option maxRecDepth 4000 in
set_option maxHeartbeats 1000000 in
theorem B_X13_fieldOf_3 {D : va_G} {cy : Nat → ClassId} {ad : Nat → Nat} {bs : Nat} {X : State → Heap → Prop} (l1 : Int32) (l2 : Int64) (l4 : Int32) (s : t_S) (Q : (Int32 × Int64 × Int32) ⊕ (Int32) → Prop) (Hb3 : ∀ (y0 : Int32) (y1 : Int64) (y2 : Int32), Q (.inl (y0, y1, y2)) → mj_G D cy ad bs X cX13_fieldOf 5 yX13_fieldOf.cls (some .int) yX13_fieldOf.name 3 0 0 1065 (t_P (fun v s' => s' = s ∧ ∃ x, v = some (.int x) ∧ Q (.inr (x)))) 3 [(0, .ref 950), (1, .int (y0)), (2, .long (y1)), (4, .int (y2))] [] (t_m s) 1065 0 0) (hk : t_hk (k_X13_fieldOf_3 l1 l2 l4 s) Q) : mj_G D cy ad bs X cX13_fieldOf 5 yX13_fieldOf.cls (some .int) yX13_fieldOf.name 3 0 0 1065 (t_P (fun v s' => s' = s ∧ ∃ x, v = some (.int x) ∧ Q (.inr (x)))) 3 [(0, .ref 950), (1, .int l1), (2, .long l2), (4, .int l4)] [] (t_m s) 1065 0 0 := by
  refine mj_iload dX13_fieldOf_3 3 rfl ?_
  refine mj_aload_n dX13_fieldOf_5 0 rfl ?_
  refine t_getR 1006 dX13_fieldOf_6 F_X13_182 qr_950_95 ?_
  refine mj_iload_n dX13_fieldOf_9 1 rfl ?_
  refine mj_iconst (v := 1) dX13_fieldOf_10 (by decide) ?_
  refine mj_iadd dX13_fieldOf_11 ?_
  refine t_chkK hk (fun c0 hk => ?_)
  refine t_lald dX13_fieldOf_12 qa_1006 (t_ixv c0) ?_
  refine mj_l2i (v := (s.2.1 1006 ((l1 + (1 : Int32)).toNatClampNeg)).toInt32) dX13_fieldOf_13 rfl ?_
  refine mj_icmp_ge 47 dX13_fieldOf_14 (by decide) (fun z => t_posK hk z (fun hk => ?_)) (fun z => t_negK hk z (fun hk => ?_))
  · refine t_mapK hk (fun hk => ?_)
    refine mj_iconst (v := (-1)) dX13_fieldOf_47 (by decide) ?_
    exact t_somK hk (fun hf => t_iret dX13_fieldOf_48 rfl rfl ⟨rfl, _, rfl, hf⟩ (Nat.le_of_ble_eq_true rfl) (Nat.le_of_ble_eq_true rfl))
  · refine mj_aload_n dX13_fieldOf_17 0 rfl ?_
    refine t_getR 1006 dX13_fieldOf_18 F_X13_182 qr_950_95 ?_
    refine mj_iload_n dX13_fieldOf_21 1 rfl ?_
    refine mj_iconst (v := 2) dX13_fieldOf_22 (by decide) ?_
    refine mj_iadd dX13_fieldOf_23 ?_
    refine mj_iload dX13_fieldOf_24 3 rfl ?_
    refine mj_iadd dX13_fieldOf_26 ?_
    refine t_chkK hk (fun c1 hk => ?_)
    refine t_lald dX13_fieldOf_27 qa_1006 (t_ixv c1) ?_
    refine mj_lload_n dX13_fieldOf_28 2 rfl ?_
    refine mj_lcmp dX13_fieldOf_29 ?_
    refine mj_if_ne 41 dX13_fieldOf_30 (by decide) (fun z => t_negK hk z (fun hk => ?_)) (fun z => t_posK hk z (fun hk => ?_))
    · refine mj_iinc (k := 3) (v := (l4 + 1)) (lv2 := [(4, .int (l4 + 1)), (0, .ref 950), (1, .int l1), (2, .long l2)]) dX13_fieldOf_41 rfl rfl (by decide) rfl ?_
      refine mj_goto 3 dX13_fieldOf_44 (by decide) ?_
      refine mj_sublv [(0, .ref 950), (1, .int l1), (2, .long l2), (4, .int (l4 + 1))] [1, 2, 3, 0] rfl ?_
      exact t_somK hk (fun hf => Hb3 l1 l2 (l4 + 1) hf)
    · refine t_mapK hk (fun hk => ?_)
      refine mj_aload_n dX13_fieldOf_33 0 rfl ?_
      refine mj_iload_n dX13_fieldOf_34 1 rfl ?_
      refine mj_iload dX13_fieldOf_35 3 rfl ?_
      refine t_bndK hk (fun r3 er3 hk => ?_)
      refine t_callViP dX13_fieldOf_37 M_X13_partOf (C_X13_partOf _ _ _ _ er3) ML_X13_855 IM_X13_partOf SE_X13_partOf qc_950 rfl (As := [.int l1, .int l4]) rfl rfl (Nat.le_of_ble_eq_true rfl) (Nat.le_of_ble_eq_true rfl) (Nat.le_of_ble_eq_true rfl) (Nat.le_of_ble_eq_true rfl) ?_
      exact t_somK hk (fun hf => t_iret dX13_fieldOf_40 rfl rfl ⟨rfl, _, rfl, hf⟩ (Nat.le_of_ble_eq_true rfl) (Nat.le_of_ble_eq_true rfl))
noncomputable def b_X13_fieldOf_3 (s : t_S) (x : Int32 × Int64 × Int32) : Option ((Int32 × Int64 × Int32) ⊕ (Int32)) := k_X13_fieldOf_3 x.1 x.2.1 x.2.2 s
set_option maxRecDepth 4000 in
set_option maxHeartbeats 1000000 in
theorem LH_X13_fieldOf_3 {D : va_G} {cy : Nat → ClassId} {ad : Nat → Nat} {bs : Nat} {X : State → Heap → Prop} (s : t_S) : ∀ (n : Nat) (y0 : Int32) (y1 : Int64) (y2 : Int32) (Q : Int32 → Prop) (hk : t_hk (t_loop (b_X13_fieldOf_3 s) n (y0, y1, y2)) Q), mj_G D cy ad bs X cX13_fieldOf 5 yX13_fieldOf.cls (some .int) yX13_fieldOf.name 3 0 0 1065 (t_P (fun v s' => s' = s ∧ ∃ x, v = some (.int x) ∧ Q (x))) 3 [(0, .ref 950), (1, .int (y0)), (2, .long (y1)), (4, .int (y2))] [] (t_m s) 1065 0 0 := by
  intro n
  induction n with
  | zero => intro y0 y1 y2 Q hk; obtain ⟨r, hr, _⟩ := hk; cases hr
  | succ n ih =>
    intro y0 y1 y2 Q hk
    exact B_X13_fieldOf_3 y0 y1 y2 s (fun y => t_lq (b_X13_fieldOf_3 s) n Q y) (fun y0' y1' y2' hy => ih y0' y1' y2' Q hy) (t_lp hk)
noncomputable def f_X13_fieldOf (x1 : Int32) (x2 : Int64) (s : t_S) : Option (Int32) :=
 t_loop (b_X13_fieldOf_3 s) t_N (x1, x2, 0)
set_option maxRecDepth 4000 in
set_option maxHeartbeats 1000000 in
theorem C_X13_fieldOf (x1 : Int32) (x2 : Int64) (s : t_S) (r : Int32) (hr : f_X13_fieldOf x1 x2 s = some r) : t_C yX13_fieldOf cX13_fieldOf 5 (some .int) 3 [.ref 950, .int x1, .long x2] s (fun v s' => v = some (.int r) ∧ s' = s) := by
  refine t_C.imp (P := fun v s' => s' = s ∧ ∃ x, v = some (.int x) ∧ (fun q => q = r) (x)) (t_C.of (by decide +kernel) (Nat.le_of_ble_eq_true rfl) ?_) (fun v s' hp => by obtain ⟨rfl, x, rfl, rfl⟩ := hp; exact ⟨rfl, rfl⟩)
  intro D cy ad bs X
  have hk : t_hk (f_X13_fieldOf x1 x2 s) (fun q => q = r) := ⟨r, hr, rfl⟩
  show mj_G D cy ad bs X cX13_fieldOf 5 yX13_fieldOf.cls (some .int) yX13_fieldOf.name 3 0 0 1065 (t_P (fun v s' => s' = s ∧ ∃ x, v = some (.int x) ∧ (fun q => q = r) (x))) 0 [(0, .ref 950), (1, .int x1), (2, .long x2)] [] (t_m s) 1065 0 0
  refine mj_iconst (v := 0) dX13_fieldOf_0 (by decide) ?_
  refine mj_istore (lv2 := [(4, .int 0), (0, .ref 950), (1, .int x1), (2, .long x2)]) dX13_fieldOf_1 (by decide) rfl ?_
  refine mj_sublv [(0, .ref 950), (1, .int x1), (2, .long x2), (4, .int 0)] [1, 2, 3, 0] rfl ?_
  exact LH_X13_fieldOf_3 _ _ x1 x2 0 _ hk

theorem dX13_push_0 : decode cX13_push 0 = .ok (.sipush 260, 3) := by decide +kernel
theorem dX13_push_10 : decode cX13_push 10 = .ok (.imul, 1) := by decide +kernel
theorem dX13_push_11 : decode cX13_push 11 = .ok (.istore 4, 2) := by decide +kernel
theorem dX13_push_13 : decode cX13_push 13 = .ok (.aload_n 0, 1) := by decide +kernel
theorem dX13_push_14 : decode cX13_push 14 = .ok (.dup, 1) := by decide +kernel
theorem dX13_push_15 : decode cX13_push 15 = .ok (.getfield 858, 3) := by decide +kernel
theorem dX13_push_18 : decode cX13_push 18 = .ok (.iconst 1, 1) := by decide +kernel
theorem dX13_push_19 : decode cX13_push 19 = .ok (.iadd, 1) := by decide +kernel
theorem dX13_push_20 : decode cX13_push 20 = .ok (.putfield 858, 3) := by decide +kernel
theorem dX13_push_23 : decode cX13_push 23 = .ok (.aload_n 0, 1) := by decide +kernel
theorem dX13_push_24 : decode cX13_push 24 = .ok (.getfield 182, 3) := by decide +kernel
theorem dX13_push_27 : decode cX13_push 27 = .ok (.iload 4, 2) := by decide +kernel
theorem dX13_push_29 : decode cX13_push 29 = .ok (.iload_n 1, 1) := by decide +kernel
theorem dX13_push_3 : decode cX13_push 3 = .ok (.bipush 40, 2) := by decide +kernel
theorem dX13_push_30 : decode cX13_push 30 = .ok (.i2l, 1) := by decide +kernel
theorem dX13_push_31 : decode cX13_push 31 = .ok (.lastore, 1) := by decide +kernel
theorem dX13_push_32 : decode cX13_push 32 = .ok (.aload_n 0, 1) := by decide +kernel
theorem dX13_push_33 : decode cX13_push 33 = .ok (.getfield 182, 3) := by decide +kernel
theorem dX13_push_36 : decode cX13_push 36 = .ok (.iload 4, 2) := by decide +kernel
theorem dX13_push_38 : decode cX13_push 38 = .ok (.iconst 1, 1) := by decide +kernel
theorem dX13_push_39 : decode cX13_push 39 = .ok (.iadd, 1) := by decide +kernel
theorem dX13_push_40 : decode cX13_push 40 = .ok (.lload_n 2, 1) := by decide +kernel
theorem dX13_push_41 : decode cX13_push 41 = .ok (.lastore, 1) := by decide +kernel
theorem dX13_push_42 : decode cX13_push 42 = .ok (.iload 4, 2) := by decide +kernel
theorem dX13_push_44 : decode cX13_push 44 = .ok (.ireturn, 1) := by decide +kernel
theorem dX13_push_5 : decode cX13_push 5 = .ok (.aload_n 0, 1) := by decide +kernel
theorem dX13_push_6 : decode cX13_push 6 = .ok (.getfield 858, 3) := by decide +kernel
theorem dX13_push_9 : decode cX13_push 9 = .ok (.iadd, 1) := by decide +kernel
noncomputable def f_X13_push (x1 : Int32) (x2 : Int64) (s : t_S) : Option (Int32 × t_S) :=
 t_let (t_setI s 950 98 ((s.1 950 98) + (1 : Int32))) (fun s1 =>
 if t_ix ((260 : Int32) * ((40 : Int32) + (s.1 950 98))) 626600 = true then
  t_let (t_setJ s1 1006 (((260 : Int32) * ((40 : Int32) + (s.1 950 98))).toNatClampNeg) x1.toInt64) (fun s2 =>
 if t_ix (((260 : Int32) * ((40 : Int32) + (s.1 950 98))) + (1 : Int32)) 626600 = true then
  t_let (t_setJ s2 1006 ((((260 : Int32) * ((40 : Int32) + (s.1 950 98))) + (1 : Int32)).toNatClampNeg) x2) (fun s3 =>
 some (((260 : Int32) * ((40 : Int32) + (s.1 950 98))), s3))
else none)
else none)
set_option maxRecDepth 4000 in
set_option maxHeartbeats 1000000 in
theorem C_X13_push (x1 : Int32) (x2 : Int64) (s : t_S) (r : Int32 × t_S) (hr : f_X13_push x1 x2 s = some r) : t_C yX13_push cX13_push 5 (some .int) 0 [.ref 950, .int x1, .long x2] s (fun v s' => v = some (.int r.1) ∧ s' = r.2) := by
  refine t_C.imp (P := fun v s' => ∃ x, v = some (.int x) ∧ (fun q => q = r) ((x, s'))) (t_C.of (by decide +kernel) (Nat.le_of_ble_eq_true rfl) ?_) (fun v s' hp => by obtain ⟨x, rfl, rfl⟩ := hp; exact ⟨rfl, rfl⟩)
  intro D cy ad bs X
  have hk : t_hk (f_X13_push x1 x2 s) (fun q => q = r) := ⟨r, hr, rfl⟩
  show mj_G D cy ad bs X cX13_push 5 yX13_push.cls (some .int) yX13_push.name 0 0 0 1065 (t_P (fun v s' => ∃ x, v = some (.int x) ∧ (fun q => q = r) ((x, s')))) 0 [(0, .ref 950), (1, .int x1), (2, .long x2)] [] (t_m s) 1065 0 0
  refine mj_sipush (v := 260) dX13_push_0 (by decide) ?_
  refine mj_bipush (v := 40) dX13_push_3 (by decide) ?_
  refine mj_aload_n dX13_push_5 0 rfl ?_
  refine t_getI dX13_push_6 F_X13_858 qf_950_98 ?_
  refine mj_iadd dX13_push_9 ?_
  refine mj_imul dX13_push_10 ?_
  refine mj_istore (lv2 := [(4, .int ((260 : Int32) * ((40 : Int32) + (s.1 950 98)))), (0, .ref 950), (1, .int x1), (2, .long x2)]) dX13_push_11 (by decide) rfl ?_
  refine mj_aload_n dX13_push_13 1 rfl ?_
  refine mj_dup dX13_push_14 rfl ?_
  refine t_getI dX13_push_15 F_X13_858 qf_950_98 ?_
  refine mj_iconst (v := 1) dX13_push_18 (by decide) ?_
  refine mj_iadd dX13_push_19 ?_
  refine t_putIK dX13_push_20 F_X13_858 qf_950_98 rfl (fun s1 ws1 => t_letE hk ws1 (fun hk => ?_))
  refine mj_aload_n dX13_push_23 1 rfl ?_
  refine t_getR 1006 dX13_push_24 F_X13_182 qr_950_95 ?_
  refine mj_iload dX13_push_27 0 rfl ?_
  refine mj_iload_n dX13_push_29 2 rfl ?_
  refine mj_i2l (v := x1.toInt64) dX13_push_30 rfl ?_
  refine t_chkK hk (fun c0 hk => ?_)
  refine t_lastK dX13_push_31 qa_1006 (t_ixv c0) (fun s2 ws2 => t_letE hk ws2 (fun hk => ?_))
  refine mj_aload_n dX13_push_32 1 rfl ?_
  refine t_getR 1006 dX13_push_33 F_X13_182 qr_950_95 ?_
  refine mj_iload dX13_push_36 0 rfl ?_
  refine mj_iconst (v := 1) dX13_push_38 (by decide) ?_
  refine mj_iadd dX13_push_39 ?_
  refine mj_lload_n dX13_push_40 3 rfl ?_
  refine t_chkK hk (fun c1 hk => ?_)
  refine t_lastK dX13_push_41 qa_1006 (t_ixv c1) (fun s3 ws3 => t_letE hk ws3 (fun hk => ?_))
  refine mj_iload dX13_push_42 0 rfl ?_
  exact t_somK hk (fun hf => t_iret dX13_push_44 rfl rfl ⟨_, rfl, hf⟩ (Nat.le_of_ble_eq_true rfl) (Nat.le_of_ble_eq_true rfl))

theorem dX13_dot_0 : decode cX13_dot 0 = .ok (.iload_n 3, 1) := by decide +kernel
theorem dX13_dot_1 : decode cX13_dot 1 = .ok (.bipush 6, 2) := by decide +kernel
theorem dX13_dot_12 : decode cX13_dot 12 = .ok (.iload_n 1, 1) := by decide +kernel
theorem dX13_dot_13 : decode cX13_dot 13 = .ok (.laload, 1) := by decide +kernel
theorem dX13_dot_14 : decode cX13_dot 14 = .ok (.invokevirtual 966, 3) := by decide +kernel
theorem dX13_dot_17 : decode cX13_dot 17 = .ok (.goto 34, 3) := by decide +kernel
theorem dX13_dot_20 : decode cX13_dot 20 = .ok (.iload_n 3, 1) := by decide +kernel
theorem dX13_dot_21 : decode cX13_dot 21 = .ok (.bipush 7, 2) := by decide +kernel
theorem dX13_dot_23 : decode cX13_dot 23 = .ok (.if_icmp .ne 27, 3) := by decide +kernel
theorem dX13_dot_26 : decode cX13_dot 26 = .ok (.aload_n 0, 1) := by decide +kernel
theorem dX13_dot_27 : decode cX13_dot 27 = .ok (.getfield 182, 3) := by decide +kernel
theorem dX13_dot_3 : decode cX13_dot 3 = .ok (.if_icmp .ne 17, 3) := by decide +kernel
theorem dX13_dot_30 : decode cX13_dot 30 = .ok (.iload_n 2, 1) := by decide +kernel
theorem dX13_dot_31 : decode cX13_dot 31 = .ok (.iconst 1, 1) := by decide +kernel
theorem dX13_dot_32 : decode cX13_dot 32 = .ok (.iadd, 1) := by decide +kernel
theorem dX13_dot_33 : decode cX13_dot 33 = .ok (.laload, 1) := by decide +kernel
theorem dX13_dot_34 : decode cX13_dot 34 = .ok (.aload_n 0, 1) := by decide +kernel
theorem dX13_dot_35 : decode cX13_dot 35 = .ok (.getfield 32, 3) := by decide +kernel
theorem dX13_dot_38 : decode cX13_dot 38 = .ok (.iload_n 1, 1) := by decide +kernel
theorem dX13_dot_39 : decode cX13_dot 39 = .ok (.laload, 1) := by decide +kernel
theorem dX13_dot_40 : decode cX13_dot 40 = .ok (.lcmp, 1) := by decide +kernel
theorem dX13_dot_41 : decode cX13_dot 41 = .ok (.ifCond .ne 9, 3) := by decide +kernel
theorem dX13_dot_44 : decode cX13_dot 44 = .ok (.iload_n 2, 1) := by decide +kernel
theorem dX13_dot_45 : decode cX13_dot 45 = .ok (.iconst 2, 1) := by decide +kernel
theorem dX13_dot_46 : decode cX13_dot 46 = .ok (.iadd, 1) := by decide +kernel
theorem dX13_dot_47 : decode cX13_dot 47 = .ok (.goto 4, 3) := by decide +kernel
theorem dX13_dot_50 : decode cX13_dot 50 = .ok (.iconst (-1), 1) := by decide +kernel
theorem dX13_dot_51 : decode cX13_dot 51 = .ok (.istore 4, 2) := by decide +kernel
theorem dX13_dot_53 : decode cX13_dot 53 = .ok (.iload_n 3, 1) := by decide +kernel
theorem dX13_dot_54 : decode cX13_dot 54 = .ok (.bipush 6, 2) := by decide +kernel
theorem dX13_dot_56 : decode cX13_dot 56 = .ok (.if_icmp .eq 17, 3) := by decide +kernel
theorem dX13_dot_59 : decode cX13_dot 59 = .ok (.iload_n 3, 1) := by decide +kernel
theorem dX13_dot_6 : decode cX13_dot 6 = .ok (.aload_n 0, 1) := by decide +kernel
theorem dX13_dot_60 : decode cX13_dot 60 = .ok (.bipush 7, 2) := by decide +kernel
theorem dX13_dot_62 : decode cX13_dot 62 = .ok (.if_icmp .eq 11, 3) := by decide +kernel
theorem dX13_dot_65 : decode cX13_dot 65 = .ok (.aload_n 0, 1) := by decide +kernel
theorem dX13_dot_66 : decode cX13_dot 66 = .ok (.iconst 1, 1) := by decide +kernel
theorem dX13_dot_67 : decode cX13_dot 67 = .ok (.invokevirtual 866, 3) := by decide +kernel
theorem dX13_dot_7 : decode cX13_dot 7 = .ok (.iload_n 2, 1) := by decide +kernel
theorem dX13_dot_70 : decode cX13_dot 70 = .ok (.goto 25, 3) := by decide +kernel
theorem dX13_dot_73 : decode cX13_dot 73 = .ok (.iload 4, 2) := by decide +kernel
theorem dX13_dot_75 : decode cX13_dot 75 = .ok (.ifCond .ge 14, 3) := by decide +kernel
theorem dX13_dot_78 : decode cX13_dot 78 = .ok (.aload_n 0, 1) := by decide +kernel
theorem dX13_dot_79 : decode cX13_dot 79 = .ok (.iconst 4, 1) := by decide +kernel
theorem dX13_dot_8 : decode cX13_dot 8 = .ok (.aload_n 0, 1) := by decide +kernel
theorem dX13_dot_80 : decode cX13_dot 80 = .ok (.lconst 0, 1) := by decide +kernel
theorem dX13_dot_81 : decode cX13_dot 81 = .ok (.invokevirtual 869, 3) := by decide +kernel
theorem dX13_dot_84 : decode cX13_dot 84 = .ok (.istore 5, 2) := by decide +kernel
theorem dX13_dot_86 : decode cX13_dot 86 = .ok (.goto 9, 3) := by decide +kernel
theorem dX13_dot_89 : decode cX13_dot 89 = .ok (.aload_n 0, 1) := by decide +kernel
theorem dX13_dot_9 : decode cX13_dot 9 = .ok (.getfield 32, 3) := by decide +kernel
theorem dX13_dot_90 : decode cX13_dot 90 = .ok (.iload 4, 2) := by decide +kernel
theorem dX13_dot_92 : decode cX13_dot 92 = .ok (.invokevirtual 953, 3) := by decide +kernel
theorem dX13_dot_95 : decode cX13_dot 95 = .ok (.return_, 1) := by decide +kernel
noncomputable def k_X13_dot_73 (l4 : Int32) (s : t_S) : Option (t_S) :=
 if (0 : Int32) ≤ l4 then ((f_X13_moveTo l4 s).bind (fun r1 =>
 some (r1)))
 else ((f_X13_push (4 : Int32) (0 : Int64) s).bind (fun r2 =>
 some (r2.2)))
set_option maxRecDepth 4000 in
set_option maxHeartbeats 1000000 in
theorem B_X13_dot_73 {D : va_G} {cy : Nat → ClassId} {ad : Nat → Nat} {bs : Nat} {X : State → Heap → Prop} (l4 : Int32) (s : t_S) (Q : t_S → Prop) (hk : t_hk (k_X13_dot_73 l4 s) Q) : mj_G D cy ad bs X cX13_dot 6 yX13_dot.cls none yX13_dot.name 4 0 0 1065 (t_P (fun v s' => v = none ∧ Q (s'))) 73 [(0, .ref 950), (4, .int l4)] [] (t_m s) 1065 0 0 := by
  refine mj_iload dX13_dot_73 1 rfl ?_
  refine mj_if_ge 89 dX13_dot_75 (by decide) (fun z => t_posK hk z (fun hk => ?_)) (fun z => t_negK hk z (fun hk => ?_))
  · refine mj_aload_n dX13_dot_89 0 rfl ?_
    refine mj_iload dX13_dot_90 1 rfl ?_
    refine t_bndK hk (fun r1 er1 hk => ?_)
    refine t_callVvE dX13_dot_92 M_X13_moveTo (C_X13_moveTo _ _ _ er1) ML_X13_953 IM_X13_moveTo SE_X13_moveTo qc_950 rfl (As := [.int l4]) rfl rfl (Nat.le_of_ble_eq_true rfl) (Nat.le_of_ble_eq_true rfl) (Nat.le_of_ble_eq_true rfl) (Nat.le_of_ble_eq_true rfl) ?_
    exact t_somK hk (fun hf => t_vret dX13_dot_95 rfl ⟨rfl, hf⟩ (Nat.le_of_ble_eq_true rfl) (Nat.le_of_ble_eq_true rfl))
  · refine mj_aload_n dX13_dot_78 0 rfl ?_
    refine mj_iconst (v := 4) dX13_dot_79 (by decide) ?_
    refine mj_lconst (v := 0) dX13_dot_80 (by decide) ?_
    refine t_bndK hk (fun r2 er2 hk => ?_)
    refine t_callViE dX13_dot_81 M_X13_push (C_X13_push _ _ _ _ er2) ML_X13_869 IM_X13_push SE_X13_push qc_950 rfl (As := [.int 4, .long 0]) rfl rfl (Nat.le_of_ble_eq_true rfl) (Nat.le_of_ble_eq_true rfl) (Nat.le_of_ble_eq_true rfl) (Nat.le_of_ble_eq_true rfl) ?_
    refine mj_istore (lv2 := [(5, .int r2.1), (0, .ref 950), (4, .int l4)]) dX13_dot_84 (by decide) rfl ?_
    refine mj_goto 95 dX13_dot_86 (by decide) ?_
    exact t_somK hk (fun hf => t_vret dX13_dot_95 rfl ⟨rfl, hf⟩ (Nat.le_of_ble_eq_true rfl) (Nat.le_of_ble_eq_true rfl))
noncomputable def k_X13_dot_51 (l3 : Int32) (k0 : Int32) (s : t_S) : Option (t_S) :=
 if l3 = (6 : Int32) then (k_X13_dot_73 k0 s)
 else (if l3 = (7 : Int32) then (k_X13_dot_73 k0 s)
 else ((f_X13_error (1 : Int32) s).bind (fun r1 =>
 some (r1))))
set_option maxRecDepth 4000 in
set_option maxHeartbeats 1000000 in
theorem B_X13_dot_51 {D : va_G} {cy : Nat → ClassId} {ad : Nat → Nat} {bs : Nat} {X : State → Heap → Prop} (l3 : Int32) (k0 : Int32) (s : t_S) (Q : t_S → Prop) (hk : t_hk (k_X13_dot_51 l3 k0 s) Q) : mj_G D cy ad bs X cX13_dot 6 yX13_dot.cls none yX13_dot.name 4 0 0 1065 (t_P (fun v s' => v = none ∧ Q (s'))) 51 [(0, .ref 950), (3, .int l3)] [.int k0] (t_m s) 1065 0 0 := by
  refine mj_istore (lv2 := [(4, .int k0), (0, .ref 950), (3, .int l3)]) dX13_dot_51 (by decide) rfl ?_
  refine mj_iload_n dX13_dot_53 2 rfl ?_
  refine mj_bipush (v := 6) dX13_dot_54 (by decide) ?_
  refine mj_icmp_eq 73 dX13_dot_56 (by decide) (fun z => t_posK hk z (fun hk => ?_)) (fun z => t_negK hk z (fun hk => ?_))
  · refine mj_sublv [(0, .ref 950), (4, .int k0)] [1, 0] rfl ?_
    exact B_X13_dot_73 _ _ _ hk
  · refine mj_iload_n dX13_dot_59 2 rfl ?_
    refine mj_bipush (v := 7) dX13_dot_60 (by decide) ?_
    refine mj_icmp_eq 73 dX13_dot_62 (by decide) (fun z => t_posK hk z (fun hk => ?_)) (fun z => t_negK hk z (fun hk => ?_))
    · refine mj_sublv [(0, .ref 950), (4, .int k0)] [1, 0] rfl ?_
      exact B_X13_dot_73 _ _ _ hk
    · refine mj_aload_n dX13_dot_65 1 rfl ?_
      refine mj_iconst (v := 1) dX13_dot_66 (by decide) ?_
      refine t_bndK hk (fun r1 er1 hk => ?_)
      refine t_callVvE dX13_dot_67 M_X13_error (C_X13_error _ _ _ er1) ML_X13_866 IM_X13_error SE_X13_error qc_950 rfl (As := [.int 1]) rfl rfl (Nat.le_of_ble_eq_true rfl) (Nat.le_of_ble_eq_true rfl) (Nat.le_of_ble_eq_true rfl) (Nat.le_of_ble_eq_true rfl) ?_
      refine mj_goto 95 dX13_dot_70 (by decide) ?_
      exact t_somK hk (fun hf => t_vret dX13_dot_95 rfl ⟨rfl, hf⟩ (Nat.le_of_ble_eq_true rfl) (Nat.le_of_ble_eq_true rfl))
noncomputable def k_X13_dot_50 (l3 : Int32) (s : t_S) : Option (t_S) :=
 k_X13_dot_51 l3 (-1) s
set_option maxRecDepth 4000 in
set_option maxHeartbeats 1000000 in
theorem B_X13_dot_50 {D : va_G} {cy : Nat → ClassId} {ad : Nat → Nat} {bs : Nat} {X : State → Heap → Prop} (l3 : Int32) (s : t_S) (Q : t_S → Prop) (hk : t_hk (k_X13_dot_50 l3 s) Q) : mj_G D cy ad bs X cX13_dot 6 yX13_dot.cls none yX13_dot.name 4 0 0 1065 (t_P (fun v s' => v = none ∧ Q (s'))) 50 [(0, .ref 950), (3, .int l3)] [] (t_m s) 1065 0 0 := by
  refine mj_iconst (v := (-1)) dX13_dot_50 (by decide) ?_
  exact B_X13_dot_51 _ _ _ _ hk
noncomputable def f_X13_dot (x1 : Int32) (x2 : Int32) (x3 : Int32) (s : t_S) : Option (t_S) :=
 if x3 = (6 : Int32) then (if t_ix x1 13000 = true then
  (f_X13_fieldOf x2 (s.2.1 957 (x1.toNatClampNeg)) s).bind (fun r4 =>
 k_X13_dot_51 x3 r4 s)
else none)
 else (if x3 = (7 : Int32) then (if t_ix (x2 + (1 : Int32)) 626600 = true then
  if t_ix x1 13000 = true then
  if (lg_cmp (s.2.1 1006 ((x2 + (1 : Int32)).toNatClampNeg)) (s.2.1 957 (x1.toNatClampNeg))) = (0 : Int32) then (k_X13_dot_51 x3 (x2 + (2 : Int32)) s)
 else (k_X13_dot_50 x3 s)
else none
else none)
 else (k_X13_dot_50 x3 s))
set_option maxRecDepth 4000 in
set_option maxHeartbeats 1000000 in
theorem C_X13_dot (x1 : Int32) (x2 : Int32) (x3 : Int32) (s : t_S) (r : t_S) (hr : f_X13_dot x1 x2 x3 s = some r) : t_C yX13_dot cX13_dot 6 none 4 [.ref 950, .int x1, .int x2, .int x3] s (fun v s' => v = none ∧ s' = r) := by
  refine t_C.imp (P := fun v s' => v = none ∧ (fun q => q = r) (s')) (t_C.of (by decide +kernel) (Nat.le_of_ble_eq_true rfl) ?_) (fun v s' hp => hp)
  intro D cy ad bs X
  have hk : t_hk (f_X13_dot x1 x2 x3 s) (fun q => q = r) := ⟨r, hr, rfl⟩
  show mj_G D cy ad bs X cX13_dot 6 yX13_dot.cls none yX13_dot.name 4 0 0 1065 (t_P (fun v s' => v = none ∧ (fun q => q = r) (s'))) 0 [(0, .ref 950), (1, .int x1), (2, .int x2), (3, .int x3)] [] (t_m s) 1065 0 0
  refine mj_iload_n dX13_dot_0 3 rfl ?_
  refine mj_bipush (v := 6) dX13_dot_1 (by decide) ?_
  refine mj_icmp_ne 20 dX13_dot_3 (by decide) (fun z => t_negK hk z (fun hk => ?_)) (fun z => t_posK hk z (fun hk => ?_))
  · refine mj_iload_n dX13_dot_20 3 rfl ?_
    refine mj_bipush (v := 7) dX13_dot_21 (by decide) ?_
    refine mj_icmp_ne 50 dX13_dot_23 (by decide) (fun z => t_negK hk z (fun hk => ?_)) (fun z => t_posK hk z (fun hk => ?_))
    · refine mj_sublv [(0, .ref 950), (3, .int x3)] [0, 3] rfl ?_
      exact B_X13_dot_50 _ _ _ hk
    · refine mj_aload_n dX13_dot_26 0 rfl ?_
      refine t_getR 1006 dX13_dot_27 F_X13_182 qr_950_95 ?_
      refine mj_iload_n dX13_dot_30 2 rfl ?_
      refine mj_iconst (v := 1) dX13_dot_31 (by decide) ?_
      refine mj_iadd dX13_dot_32 ?_
      refine t_chkK hk (fun c0 hk => ?_)
      refine t_lald dX13_dot_33 qa_1006 (t_ixv c0) ?_
      refine mj_aload_n dX13_dot_34 0 rfl ?_
      refine t_getR 957 dX13_dot_35 F_X13_32 qr_950_19 ?_
      refine mj_iload_n dX13_dot_38 1 rfl ?_
      refine t_chkK hk (fun c1 hk => ?_)
      refine t_lald dX13_dot_39 qa_957 (t_ixv c1) ?_
      refine mj_lcmp dX13_dot_40 ?_
      refine mj_if_ne 50 dX13_dot_41 (by decide) (fun z => t_negK hk z (fun hk => ?_)) (fun z => t_posK hk z (fun hk => ?_))
      · refine mj_sublv [(0, .ref 950), (3, .int x3)] [0, 3] rfl ?_
        exact B_X13_dot_50 _ _ _ hk
      · refine mj_iload_n dX13_dot_44 2 rfl ?_
        refine mj_iconst (v := 2) dX13_dot_45 (by decide) ?_
        refine mj_iadd dX13_dot_46 ?_
        refine mj_goto 51 dX13_dot_47 (by decide) ?_
        refine mj_sublv [(0, .ref 950), (3, .int x3)] [0, 3] rfl ?_
        exact B_X13_dot_51 _ _ _ _ hk
  · refine mj_aload_n dX13_dot_6 0 rfl ?_
    refine mj_iload_n dX13_dot_7 2 rfl ?_
    refine mj_aload_n dX13_dot_8 0 rfl ?_
    refine t_getR 957 dX13_dot_9 F_X13_32 qr_950_19 ?_
    refine mj_iload_n dX13_dot_12 1 rfl ?_
    refine t_chkK hk (fun c2 hk => ?_)
    refine t_lald dX13_dot_13 qa_957 (t_ixv c2) ?_
    refine t_bndK hk (fun r4 er4 hk => ?_)
    refine t_callViP dX13_dot_14 M_X13_fieldOf (C_X13_fieldOf _ _ _ _ er4) ML_X13_966 IM_X13_fieldOf SE_X13_fieldOf qc_950 rfl (As := [.int x2, .long (s.2.1 957 (x1.toNatClampNeg))]) rfl rfl (Nat.le_of_ble_eq_true rfl) (Nat.le_of_ble_eq_true rfl) (Nat.le_of_ble_eq_true rfl) (Nat.le_of_ble_eq_true rfl) ?_
    refine mj_goto 51 dX13_dot_17 (by decide) ?_
    refine mj_sublv [(0, .ref 950), (3, .int x3)] [0, 3] rfl ?_
    exact B_X13_dot_51 _ _ _ _ hk

theorem dX13_pushMade_0 : decode cX13_pushMade 0 = .ok (.aload_n 0, 1) := by decide +kernel
theorem dX13_pushMade_1 : decode cX13_pushMade 1 = .ok (.getfield 185, 3) := by decide +kernel
theorem dX13_pushMade_10 : decode cX13_pushMade 10 = .ok (.if_icmp .le 9, 3) := by decide +kernel
theorem dX13_pushMade_13 : decode cX13_pushMade 13 = .ok (.aload_n 0, 1) := by decide +kernel
theorem dX13_pushMade_14 : decode cX13_pushMade 14 = .ok (.iconst 3, 1) := by decide +kernel
theorem dX13_pushMade_15 : decode cX13_pushMade 15 = .ok (.invokevirtual 866, 3) := by decide +kernel
theorem dX13_pushMade_18 : decode cX13_pushMade 18 = .ok (.return_, 1) := by decide +kernel
theorem dX13_pushMade_19 : decode cX13_pushMade 19 = .ok (.aload_n 0, 1) := by decide +kernel
theorem dX13_pushMade_20 : decode cX13_pushMade 20 = .ok (.getfield 185, 3) := by decide +kernel
theorem dX13_pushMade_23 : decode cX13_pushMade 23 = .ok (.iconst 0, 1) := by decide +kernel
theorem dX13_pushMade_24 : decode cX13_pushMade 24 = .ok (.invokestatic 849, 3) := by decide +kernel
theorem dX13_pushMade_27 : decode cX13_pushMade 27 = .ok (.istore_n 1, 1) := by decide +kernel
theorem dX13_pushMade_28 : decode cX13_pushMade 28 = .ok (.iconst 0, 1) := by decide +kernel
theorem dX13_pushMade_29 : decode cX13_pushMade 29 = .ok (.istore_n 2, 1) := by decide +kernel
theorem dX13_pushMade_30 : decode cX13_pushMade 30 = .ok (.iload_n 2, 1) := by decide +kernel
theorem dX13_pushMade_31 : decode cX13_pushMade 31 = .ok (.iload_n 1, 1) := by decide +kernel
theorem dX13_pushMade_32 : decode cX13_pushMade 32 = .ok (.if_icmp .ge 33, 3) := by decide +kernel
theorem dX13_pushMade_35 : decode cX13_pushMade 35 = .ok (.aload_n 0, 1) := by decide +kernel
theorem dX13_pushMade_36 : decode cX13_pushMade 36 = .ok (.getfield 182, 3) := by decide +kernel
theorem dX13_pushMade_39 : decode cX13_pushMade 39 = .ok (.sipush 260, 3) := by decide +kernel
theorem dX13_pushMade_4 : decode cX13_pushMade 4 = .ok (.iconst 0, 1) := by decide +kernel
theorem dX13_pushMade_42 : decode cX13_pushMade 42 = .ok (.bipush 40, 2) := by decide +kernel
theorem dX13_pushMade_44 : decode cX13_pushMade 44 = .ok (.aload_n 0, 1) := by decide +kernel
theorem dX13_pushMade_45 : decode cX13_pushMade 45 = .ok (.getfield 858, 3) := by decide +kernel
theorem dX13_pushMade_48 : decode cX13_pushMade 48 = .ok (.iadd, 1) := by decide +kernel
theorem dX13_pushMade_49 : decode cX13_pushMade 49 = .ok (.imul, 1) := by decide +kernel
theorem dX13_pushMade_5 : decode cX13_pushMade 5 = .ok (.invokestatic 875, 3) := by decide +kernel
theorem dX13_pushMade_50 : decode cX13_pushMade 50 = .ok (.iload_n 2, 1) := by decide +kernel
theorem dX13_pushMade_51 : decode cX13_pushMade 51 = .ok (.iadd, 1) := by decide +kernel
theorem dX13_pushMade_52 : decode cX13_pushMade 52 = .ok (.aload_n 0, 1) := by decide +kernel
theorem dX13_pushMade_53 : decode cX13_pushMade 53 = .ok (.getfield 185, 3) := by decide +kernel
theorem dX13_pushMade_56 : decode cX13_pushMade 56 = .ok (.iload_n 2, 1) := by decide +kernel
theorem dX13_pushMade_57 : decode cX13_pushMade 57 = .ok (.laload, 1) := by decide +kernel
theorem dX13_pushMade_58 : decode cX13_pushMade 58 = .ok (.lastore, 1) := by decide +kernel
theorem dX13_pushMade_59 : decode cX13_pushMade 59 = .ok (.iinc 2 1, 3) := by decide +kernel
theorem dX13_pushMade_62 : decode cX13_pushMade 62 = .ok (.goto (-32), 3) := by decide +kernel
theorem dX13_pushMade_65 : decode cX13_pushMade 65 = .ok (.aload_n 0, 1) := by decide +kernel
theorem dX13_pushMade_66 : decode cX13_pushMade 66 = .ok (.dup, 1) := by decide +kernel
theorem dX13_pushMade_67 : decode cX13_pushMade 67 = .ok (.getfield 858, 3) := by decide +kernel
theorem dX13_pushMade_70 : decode cX13_pushMade 70 = .ok (.iconst 1, 1) := by decide +kernel
theorem dX13_pushMade_71 : decode cX13_pushMade 71 = .ok (.iadd, 1) := by decide +kernel
theorem dX13_pushMade_72 : decode cX13_pushMade 72 = .ok (.putfield 858, 3) := by decide +kernel
theorem dX13_pushMade_75 : decode cX13_pushMade 75 = .ok (.return_, 1) := by decide +kernel
theorem dX13_pushMade_8 : decode cX13_pushMade 8 = .ok (.bipush 120, 2) := by decide +kernel
noncomputable def k_X13_pushMade_30 (l1 : Int32) (l2 : Int32) (s : t_S) : Option ((Int32 × Int32 × t_S) ⊕ (t_S)) :=
 if l1 ≤ l2 then ((t_let (t_setI s 950 98 ((s.1 950 98) + (1 : Int32))) (fun s1 =>
 some (s1))).map Sum.inr)
 else (if t_ix l2 8600 = true then
  if t_ix (((260 : Int32) * ((40 : Int32) + (s.1 950 98))) + l2) 626600 = true then
  t_let (t_setJ s 1006 ((((260 : Int32) * ((40 : Int32) + (s.1 950 98))) + l2).toNatClampNeg) (s.2.1 1007 (l2.toNatClampNeg))) (fun s2 =>
 some (.inl (l1, (l2 + 1), s2)))
else none
else none)
set_option maxRecDepth 4000 in
set_option maxHeartbeats 1000000 in
theorem B_X13_pushMade_30 {D : va_G} {cy : Nat → ClassId} {ad : Nat → Nat} {bs : Nat} {X : State → Heap → Prop} (l1 : Int32) (l2 : Int32) (s : t_S) (Q : (Int32 × Int32 × t_S) ⊕ (t_S) → Prop) (Hb30 : ∀ (y0 : Int32) (y1 : Int32) (y2 : t_S), Q (.inl (y0, y1, y2)) → mj_G D cy ad bs X cX13_pushMade 3 yX13_pushMade.cls none yX13_pushMade.name 2 0 0 1065 (t_P (fun v s' => v = none ∧ Q (.inr (s')))) 30 [(0, .ref 950), (1, .int (y0)), (2, .int (y1))] [] (t_m y2) 1065 0 0) (hk : t_hk (k_X13_pushMade_30 l1 l2 s) Q) : mj_G D cy ad bs X cX13_pushMade 3 yX13_pushMade.cls none yX13_pushMade.name 2 0 0 1065 (t_P (fun v s' => v = none ∧ Q (.inr (s')))) 30 [(0, .ref 950), (1, .int l1), (2, .int l2)] [] (t_m s) 1065 0 0 := by
  refine mj_iload_n dX13_pushMade_30 2 rfl ?_
  refine mj_iload_n dX13_pushMade_31 1 rfl ?_
  refine mj_icmp_ge 65 dX13_pushMade_32 (by decide) (fun z => t_posK hk z (fun hk => ?_)) (fun z => t_negK hk z (fun hk => ?_))
  · refine t_mapK hk (fun hk => ?_)
    refine mj_aload_n dX13_pushMade_65 0 rfl ?_
    refine mj_dup dX13_pushMade_66 rfl ?_
    refine t_getI dX13_pushMade_67 F_X13_858 qf_950_98 ?_
    refine mj_iconst (v := 1) dX13_pushMade_70 (by decide) ?_
    refine mj_iadd dX13_pushMade_71 ?_
    refine t_putIK dX13_pushMade_72 F_X13_858 qf_950_98 rfl (fun s1 ws1 => t_letE hk ws1 (fun hk => ?_))
    exact t_somK hk (fun hf => t_vret dX13_pushMade_75 rfl ⟨rfl, hf⟩ (Nat.le_of_ble_eq_true rfl) (Nat.le_of_ble_eq_true rfl))
  · refine mj_aload_n dX13_pushMade_35 0 rfl ?_
    refine t_getR 1006 dX13_pushMade_36 F_X13_182 qr_950_95 ?_
    refine mj_sipush (v := 260) dX13_pushMade_39 (by decide) ?_
    refine mj_bipush (v := 40) dX13_pushMade_42 (by decide) ?_
    refine mj_aload_n dX13_pushMade_44 0 rfl ?_
    refine t_getI dX13_pushMade_45 F_X13_858 qf_950_98 ?_
    refine mj_iadd dX13_pushMade_48 ?_
    refine mj_imul dX13_pushMade_49 ?_
    refine mj_iload_n dX13_pushMade_50 2 rfl ?_
    refine mj_iadd dX13_pushMade_51 ?_
    refine mj_aload_n dX13_pushMade_52 0 rfl ?_
    refine t_getR 1007 dX13_pushMade_53 F_X13_185 qr_950_99 ?_
    refine mj_iload_n dX13_pushMade_56 2 rfl ?_
    refine t_chkK hk (fun c0 hk => ?_)
    refine t_lald dX13_pushMade_57 qa_1007 (t_ixv c0) ?_
    refine t_chkK hk (fun c1 hk => ?_)
    refine t_lastK dX13_pushMade_58 qa_1006 (t_ixv c1) (fun s2 ws2 => t_letE hk ws2 (fun hk => ?_))
    refine mj_iinc (k := 2) (v := (l2 + 1)) (lv2 := [(2, .int (l2 + 1)), (0, .ref 950), (1, .int l1)]) dX13_pushMade_59 rfl rfl (by decide) rfl ?_
    refine mj_goto 30 dX13_pushMade_62 (by decide) ?_
    refine mj_sublv [(0, .ref 950), (1, .int l1), (2, .int (l2 + 1))] [1, 2, 0] rfl ?_
    exact t_somK hk (fun hf => Hb30 l1 (l2 + 1) s2 hf)
noncomputable def b_X13_pushMade_30 (x : Int32 × Int32 × t_S) : Option ((Int32 × Int32 × t_S) ⊕ (t_S)) := k_X13_pushMade_30 x.1 x.2.1 x.2.2
set_option maxRecDepth 4000 in
set_option maxHeartbeats 1000000 in
theorem LH_X13_pushMade_30 {D : va_G} {cy : Nat → ClassId} {ad : Nat → Nat} {bs : Nat} {X : State → Heap → Prop} : ∀ (n : Nat) (y0 : Int32) (y1 : Int32) (y2 : t_S) (Q : t_S → Prop) (hk : t_hk (t_loop (b_X13_pushMade_30) n (y0, y1, y2)) Q), mj_G D cy ad bs X cX13_pushMade 3 yX13_pushMade.cls none yX13_pushMade.name 2 0 0 1065 (t_P (fun v s' => v = none ∧ Q (s'))) 30 [(0, .ref 950), (1, .int (y0)), (2, .int (y1))] [] (t_m y2) 1065 0 0 := by
  intro n
  induction n with
  | zero => intro y0 y1 y2 Q hk; obtain ⟨r, hr, _⟩ := hk; cases hr
  | succ n ih =>
    intro y0 y1 y2 Q hk
    exact B_X13_pushMade_30 y0 y1 y2 (fun y => t_lq (b_X13_pushMade_30) n Q y) (fun y0' y1' y2' hy => ih y0' y1' y2' Q hy) (t_lp hk)
noncomputable def f_X13_pushMade (s : t_S) : Option (t_S) :=
 (f_X13_weightOf 1007 (0 : Int32) s).bind (fun r1 =>
 if r1 ≤ (120 : Int32) then ((f_X13_endOf 1007 (0 : Int32) s).bind (fun r2 =>
 t_loop (b_X13_pushMade_30) t_N (r2, 0, s)))
 else ((f_X13_error (3 : Int32) s).bind (fun r3 =>
 some (r3))))
set_option maxRecDepth 4000 in
set_option maxHeartbeats 1000000 in
theorem C_X13_pushMade (s : t_S) (r : t_S) (hr : f_X13_pushMade s = some r) : t_C yX13_pushMade cX13_pushMade 3 none 2 [.ref 950] s (fun v s' => v = none ∧ s' = r) := by
  refine t_C.imp (P := fun v s' => v = none ∧ (fun q => q = r) (s')) (t_C.of (by decide +kernel) (Nat.le_of_ble_eq_true rfl) ?_) (fun v s' hp => hp)
  intro D cy ad bs X
  have hk : t_hk (f_X13_pushMade s) (fun q => q = r) := ⟨r, hr, rfl⟩
  show mj_G D cy ad bs X cX13_pushMade 3 yX13_pushMade.cls none yX13_pushMade.name 2 0 0 1065 (t_P (fun v s' => v = none ∧ (fun q => q = r) (s'))) 0 [(0, .ref 950)] [] (t_m s) 1065 0 0
  refine mj_aload_n dX13_pushMade_0 0 rfl ?_
  refine t_getR 1007 dX13_pushMade_1 F_X13_185 qr_950_99 ?_
  refine mj_iconst (v := 0) dX13_pushMade_4 (by decide) ?_
  refine t_bndK hk (fun r1 er1 hk => ?_)
  refine t_callSiP dX13_pushMade_5 M_X13_weightOf (C_X13_weightOf _ _ _ _ er1) ML_X13_875 SM_X13_weightOf (As := [.ref 1007, .int 0]) rfl rfl (Nat.le_of_ble_eq_true rfl) (Nat.le_of_ble_eq_true rfl) (Nat.le_of_ble_eq_true rfl) (Nat.le_of_ble_eq_true rfl) ?_
  refine mj_bipush (v := 120) dX13_pushMade_8 (by decide) ?_
  refine mj_icmp_le 19 dX13_pushMade_10 (by decide) (fun z => t_posK hk z (fun hk => ?_)) (fun z => t_negK hk z (fun hk => ?_))
  · refine mj_aload_n dX13_pushMade_19 0 rfl ?_
    refine t_getR 1007 dX13_pushMade_20 F_X13_185 qr_950_99 ?_
    refine mj_iconst (v := 0) dX13_pushMade_23 (by decide) ?_
    refine t_bndK hk (fun r2 er2 hk => ?_)
    refine t_callSiP dX13_pushMade_24 M_X13_endOf (C_X13_endOf _ _ _ _ er2) ML_X13_849 SM_X13_endOf (As := [.ref 1007, .int 0]) rfl rfl (Nat.le_of_ble_eq_true rfl) (Nat.le_of_ble_eq_true rfl) (Nat.le_of_ble_eq_true rfl) (Nat.le_of_ble_eq_true rfl) ?_
    refine mj_istore_n 1 (lv2 := [(1, .int r2), (0, .ref 950)]) dX13_pushMade_27 rfl (by decide) rfl ?_
    refine mj_iconst (v := 0) dX13_pushMade_28 (by decide) ?_
    refine mj_istore_n 2 (lv2 := [(2, .int 0), (1, .int r2), (0, .ref 950)]) dX13_pushMade_29 rfl (by decide) rfl ?_
    refine mj_sublv [(0, .ref 950), (1, .int r2), (2, .int 0)] [2, 1, 0] rfl ?_
    exact LH_X13_pushMade_30 _ r2 0 s _ hk
  · refine mj_aload_n dX13_pushMade_13 0 rfl ?_
    refine mj_iconst (v := 3) dX13_pushMade_14 (by decide) ?_
    refine t_bndK hk (fun r3 er3 hk => ?_)
    refine t_callVvE dX13_pushMade_15 M_X13_error (C_X13_error _ _ _ er3) ML_X13_866 IM_X13_error SE_X13_error qc_950 rfl (As := [.int 3]) rfl rfl (Nat.le_of_ble_eq_true rfl) (Nat.le_of_ble_eq_true rfl) (Nat.le_of_ble_eq_true rfl) (Nat.le_of_ble_eq_true rfl) ?_
    exact t_somK hk (fun hf => t_vret dX13_pushMade_18 rfl ⟨rfl, hf⟩ (Nat.le_of_ble_eq_true rfl) (Nat.le_of_ble_eq_true rfl))

theorem dX13_pushNumber_0 : decode cX13_pushNumber 0 = .ok (.lload_n 1, 1) := by decide +kernel
theorem dX13_pushNumber_1 : decode cX13_pushNumber 1 = .ok (.ldc2_w 522, 3) := by decide +kernel
theorem dX13_pushNumber_10 : decode cX13_pushNumber 10 = .ok (.ifCond .ne 8, 3) := by decide +kernel
theorem dX13_pushNumber_13 : decode cX13_pushNumber 13 = .ok (.aload_n 0, 1) := by decide +kernel
theorem dX13_pushNumber_14 : decode cX13_pushNumber 14 = .ok (.iconst 3, 1) := by decide +kernel
theorem dX13_pushNumber_15 : decode cX13_pushNumber 15 = .ok (.invokevirtual 866, 3) := by decide +kernel
theorem dX13_pushNumber_18 : decode cX13_pushNumber 18 = .ok (.aload_n 0, 1) := by decide +kernel
theorem dX13_pushNumber_19 : decode cX13_pushNumber 19 = .ok (.iconst 0, 1) := by decide +kernel
theorem dX13_pushNumber_20 : decode cX13_pushNumber 20 = .ok (.lload_n 1, 1) := by decide +kernel
theorem dX13_pushNumber_21 : decode cX13_pushNumber 21 = .ok (.invokevirtual 869, 3) := by decide +kernel
theorem dX13_pushNumber_24 : decode cX13_pushNumber 24 = .ok (.istore_n 3, 1) := by decide +kernel
theorem dX13_pushNumber_25 : decode cX13_pushNumber 25 = .ok (.return_, 1) := by decide +kernel
theorem dX13_pushNumber_4 : decode cX13_pushNumber 4 = .ok (.ldc2_w 864, 3) := by decide +kernel
theorem dX13_pushNumber_7 : decode cX13_pushNumber 7 = .ok (.invokestatic 371, 3) := by decide +kernel
noncomputable def k_X13_pushNumber_18 (l1 : Int64) (s : t_S) : Option (t_S) :=
 (f_X13_push (0 : Int32) l1 s).bind (fun r1 =>
 some (r1.2))
set_option maxRecDepth 4000 in
set_option maxHeartbeats 1000000 in
theorem B_X13_pushNumber_18 {D : va_G} {cy : Nat → ClassId} {ad : Nat → Nat} {bs : Nat} {X : State → Heap → Prop} (l1 : Int64) (s : t_S) (Q : t_S → Prop) (hk : t_hk (k_X13_pushNumber_18 l1 s) Q) : mj_G D cy ad bs X cX13_pushNumber 4 yX13_pushNumber.cls none yX13_pushNumber.name 1 0 0 1065 (t_P (fun v s' => v = none ∧ Q (s'))) 18 [(0, .ref 950), (1, .long l1)] [] (t_m s) 1065 0 0 := by
  refine mj_aload_n dX13_pushNumber_18 0 rfl ?_
  refine mj_iconst (v := 0) dX13_pushNumber_19 (by decide) ?_
  refine mj_lload_n dX13_pushNumber_20 1 rfl ?_
  refine t_bndK hk (fun r1 er1 hk => ?_)
  refine t_callViE dX13_pushNumber_21 M_X13_push (C_X13_push _ _ _ _ er1) ML_X13_869 IM_X13_push SE_X13_push qc_950 rfl (As := [.int 0, .long l1]) rfl rfl (Nat.le_of_ble_eq_true rfl) (Nat.le_of_ble_eq_true rfl) (Nat.le_of_ble_eq_true rfl) (Nat.le_of_ble_eq_true rfl) ?_
  refine mj_istore_n 3 (lv2 := [(3, .int r1.1), (0, .ref 950), (1, .long l1)]) dX13_pushNumber_24 rfl (by decide) rfl ?_
  exact t_somK hk (fun hf => t_vret dX13_pushNumber_25 rfl ⟨rfl, hf⟩ (Nat.le_of_ble_eq_true rfl) (Nat.le_of_ble_eq_true rfl))
noncomputable def f_X13_pushNumber (x1 : Int64) (s : t_S) : Option (t_S) :=
 if (f_X13_in x1 (-1000000000000000 : Int64) (1000000000000000 : Int64) s) = (0 : Int32) then ((f_X13_error (3 : Int32) s).bind (fun r2 =>
 k_X13_pushNumber_18 x1 r2))
 else (k_X13_pushNumber_18 x1 s)
set_option maxRecDepth 4000 in
set_option maxHeartbeats 1000000 in
theorem C_X13_pushNumber (x1 : Int64) (s : t_S) (r : t_S) (hr : f_X13_pushNumber x1 s = some r) : t_C yX13_pushNumber cX13_pushNumber 4 none 1 [.ref 950, .long x1] s (fun v s' => v = none ∧ s' = r) := by
  refine t_C.imp (P := fun v s' => v = none ∧ (fun q => q = r) (s')) (t_C.of (by decide +kernel) (Nat.le_of_ble_eq_true rfl) ?_) (fun v s' hp => hp)
  intro D cy ad bs X
  have hk : t_hk (f_X13_pushNumber x1 s) (fun q => q = r) := ⟨r, hr, rfl⟩
  show mj_G D cy ad bs X cX13_pushNumber 4 yX13_pushNumber.cls none yX13_pushNumber.name 1 0 0 1065 (t_P (fun v s' => v = none ∧ (fun q => q = r) (s'))) 0 [(0, .ref 950), (1, .long x1)] [] (t_m s) 1065 0 0
  refine mj_lload_n dX13_pushNumber_0 1 rfl ?_
  refine mj_ldc2 dX13_pushNumber_1 K_X13_522 ?_
  refine mj_ldc2 dX13_pushNumber_4 K_X13_864 ?_
  refine t_callSiP dX13_pushNumber_7 M_X13_in (C_X13_in _ _ _ _) ML_X13_371 SM_X13_in (As := [.long x1, .long (-1000000000000000), .long 1000000000000000]) rfl rfl (Nat.le_of_ble_eq_true rfl) (Nat.le_of_ble_eq_true rfl) (Nat.le_of_ble_eq_true rfl) (Nat.le_of_ble_eq_true rfl) ?_
  refine mj_if_ne 18 dX13_pushNumber_10 (by decide) (fun z => t_negK hk z (fun hk => ?_)) (fun z => t_posK hk z (fun hk => ?_))
  · exact B_X13_pushNumber_18 _ _ _ hk
  · refine mj_aload_n dX13_pushNumber_13 0 rfl ?_
    refine mj_iconst (v := 3) dX13_pushNumber_14 (by decide) ?_
    refine t_bndK hk (fun r2 er2 hk => ?_)
    refine t_callVvE dX13_pushNumber_15 M_X13_error (C_X13_error _ _ _ er2) ML_X13_866 IM_X13_error SE_X13_error qc_950 rfl (As := [.int 3]) rfl rfl (Nat.le_of_ble_eq_true rfl) (Nat.le_of_ble_eq_true rfl) (Nat.le_of_ble_eq_true rfl) (Nat.le_of_ble_eq_true rfl) ?_
    exact B_X13_pushNumber_18 _ _ _ hk

theorem dX13_pushTruth_0 : decode cX13_pushTruth 0 = .ok (.aload_n 0, 1) := by decide +kernel
theorem dX13_pushTruth_1 : decode cX13_pushTruth 1 = .ok (.iconst 1, 1) := by decide +kernel
theorem dX13_pushTruth_10 : decode cX13_pushTruth 10 = .ok (.lconst 0, 1) := by decide +kernel
theorem dX13_pushTruth_11 : decode cX13_pushTruth 11 = .ok (.invokevirtual 869, 3) := by decide +kernel
theorem dX13_pushTruth_14 : decode cX13_pushTruth 14 = .ok (.istore_n 2, 1) := by decide +kernel
theorem dX13_pushTruth_15 : decode cX13_pushTruth 15 = .ok (.return_, 1) := by decide +kernel
theorem dX13_pushTruth_2 : decode cX13_pushTruth 2 = .ok (.iload_n 1, 1) := by decide +kernel
theorem dX13_pushTruth_3 : decode cX13_pushTruth 3 = .ok (.ifCond .eq 7, 3) := by decide +kernel
theorem dX13_pushTruth_6 : decode cX13_pushTruth 6 = .ok (.lconst 1, 1) := by decide +kernel
theorem dX13_pushTruth_7 : decode cX13_pushTruth 7 = .ok (.goto 4, 3) := by decide +kernel
noncomputable def k_X13_pushTruth_11 (k0 : Int64) (k1 : Int32) (s : t_S) : Option (t_S) :=
 (f_X13_push k1 k0 s).bind (fun r1 =>
 some (r1.2))
set_option maxRecDepth 4000 in
set_option maxHeartbeats 1000000 in
theorem B_X13_pushTruth_11 {D : va_G} {cy : Nat → ClassId} {ad : Nat → Nat} {bs : Nat} {X : State → Heap → Prop} (k0 : Int64) (k1 : Int32) (s : t_S) (Q : t_S → Prop) (hk : t_hk (k_X13_pushTruth_11 k0 k1 s) Q) : mj_G D cy ad bs X cX13_pushTruth 3 yX13_pushTruth.cls none yX13_pushTruth.name 1 0 0 1065 (t_P (fun v s' => v = none ∧ Q (s'))) 11 [] [.long k0, .int k1, .ref 950] (t_m s) 1065 0 0 := by
  refine t_bndK hk (fun r1 er1 hk => ?_)
  refine t_callViE dX13_pushTruth_11 M_X13_push (C_X13_push _ _ _ _ er1) ML_X13_869 IM_X13_push SE_X13_push qc_950 rfl (As := [.int k1, .long k0]) rfl rfl (Nat.le_of_ble_eq_true rfl) (Nat.le_of_ble_eq_true rfl) (Nat.le_of_ble_eq_true rfl) (Nat.le_of_ble_eq_true rfl) ?_
  refine mj_istore_n 2 (lv2 := [(2, .int r1.1)]) dX13_pushTruth_14 rfl (by decide) rfl ?_
  exact t_somK hk (fun hf => t_vret dX13_pushTruth_15 rfl ⟨rfl, hf⟩ (Nat.le_of_ble_eq_true rfl) (Nat.le_of_ble_eq_true rfl))
noncomputable def f_X13_pushTruth (x1 : Int32) (s : t_S) : Option (t_S) :=
 if x1 = (0 : Int32) then (k_X13_pushTruth_11 0 1 s)
 else (k_X13_pushTruth_11 1 1 s)
set_option maxRecDepth 4000 in
set_option maxHeartbeats 1000000 in
theorem C_X13_pushTruth (x1 : Int32) (s : t_S) (r : t_S) (hr : f_X13_pushTruth x1 s = some r) : t_C yX13_pushTruth cX13_pushTruth 3 none 1 [.ref 950, .int x1] s (fun v s' => v = none ∧ s' = r) := by
  refine t_C.imp (P := fun v s' => v = none ∧ (fun q => q = r) (s')) (t_C.of (by decide +kernel) (Nat.le_of_ble_eq_true rfl) ?_) (fun v s' hp => hp)
  intro D cy ad bs X
  have hk : t_hk (f_X13_pushTruth x1 s) (fun q => q = r) := ⟨r, hr, rfl⟩
  show mj_G D cy ad bs X cX13_pushTruth 3 yX13_pushTruth.cls none yX13_pushTruth.name 1 0 0 1065 (t_P (fun v s' => v = none ∧ (fun q => q = r) (s'))) 0 [(0, .ref 950), (1, .int x1)] [] (t_m s) 1065 0 0
  refine mj_aload_n dX13_pushTruth_0 0 rfl ?_
  refine mj_iconst (v := 1) dX13_pushTruth_1 (by decide) ?_
  refine mj_iload_n dX13_pushTruth_2 1 rfl ?_
  refine mj_if_eq 10 dX13_pushTruth_3 (by decide) (fun z => t_posK hk z (fun hk => ?_)) (fun z => t_negK hk z (fun hk => ?_))
  · refine mj_lconst (v := 0) dX13_pushTruth_10 (by decide) ?_
    refine mj_sublv [] [] rfl ?_
    exact B_X13_pushTruth_11 _ _ _ _ hk
  · refine mj_lconst (v := 1) dX13_pushTruth_6 (by decide) ?_
    refine mj_goto 11 dX13_pushTruth_7 (by decide) ?_
    refine mj_sublv [] [] rfl ?_
    exact B_X13_pushTruth_11 _ _ _ _ hk

theorem dX13_putMade_0 : decode cX13_putMade 0 = .ok (.aload_n 0, 1) := by decide +kernel
theorem dX13_putMade_1 : decode cX13_putMade 1 = .ok (.getfield 182, 3) := by decide +kernel
theorem dX13_putMade_10 : decode cX13_putMade 10 = .ok (.istore_n 3, 1) := by decide +kernel
theorem dX13_putMade_11 : decode cX13_putMade 11 = .ok (.iconst 0, 1) := by decide +kernel
theorem dX13_putMade_12 : decode cX13_putMade 12 = .ok (.istore 4, 2) := by decide +kernel
theorem dX13_putMade_14 : decode cX13_putMade 14 = .ok (.iload 4, 2) := by decide +kernel
theorem dX13_putMade_16 : decode cX13_putMade 16 = .ok (.iload_n 3, 1) := by decide +kernel
theorem dX13_putMade_17 : decode cX13_putMade 17 = .ok (.if_icmp .ge 27, 3) := by decide +kernel
theorem dX13_putMade_20 : decode cX13_putMade 20 = .ok (.aload_n 0, 1) := by decide +kernel
theorem dX13_putMade_21 : decode cX13_putMade 21 = .ok (.getfield 185, 3) := by decide +kernel
theorem dX13_putMade_24 : decode cX13_putMade 24 = .ok (.iload_n 1, 1) := by decide +kernel
theorem dX13_putMade_25 : decode cX13_putMade 25 = .ok (.iload 4, 2) := by decide +kernel
theorem dX13_putMade_27 : decode cX13_putMade 27 = .ok (.iadd, 1) := by decide +kernel
theorem dX13_putMade_28 : decode cX13_putMade 28 = .ok (.aload_n 0, 1) := by decide +kernel
theorem dX13_putMade_29 : decode cX13_putMade 29 = .ok (.getfield 182, 3) := by decide +kernel
theorem dX13_putMade_32 : decode cX13_putMade 32 = .ok (.iload_n 2, 1) := by decide +kernel
theorem dX13_putMade_33 : decode cX13_putMade 33 = .ok (.iload 4, 2) := by decide +kernel
theorem dX13_putMade_35 : decode cX13_putMade 35 = .ok (.iadd, 1) := by decide +kernel
theorem dX13_putMade_36 : decode cX13_putMade 36 = .ok (.laload, 1) := by decide +kernel
theorem dX13_putMade_37 : decode cX13_putMade 37 = .ok (.lastore, 1) := by decide +kernel
theorem dX13_putMade_38 : decode cX13_putMade 38 = .ok (.iinc 4 1, 3) := by decide +kernel
theorem dX13_putMade_4 : decode cX13_putMade 4 = .ok (.iload_n 2, 1) := by decide +kernel
theorem dX13_putMade_41 : decode cX13_putMade 41 = .ok (.goto (-27), 3) := by decide +kernel
theorem dX13_putMade_44 : decode cX13_putMade 44 = .ok (.iload_n 1, 1) := by decide +kernel
theorem dX13_putMade_45 : decode cX13_putMade 45 = .ok (.iload_n 3, 1) := by decide +kernel
theorem dX13_putMade_46 : decode cX13_putMade 46 = .ok (.iadd, 1) := by decide +kernel
theorem dX13_putMade_47 : decode cX13_putMade 47 = .ok (.ireturn, 1) := by decide +kernel
theorem dX13_putMade_5 : decode cX13_putMade 5 = .ok (.invokestatic 849, 3) := by decide +kernel
theorem dX13_putMade_8 : decode cX13_putMade 8 = .ok (.iload_n 2, 1) := by decide +kernel
theorem dX13_putMade_9 : decode cX13_putMade 9 = .ok (.isub, 1) := by decide +kernel
noncomputable def k_X13_putMade_14 (l1 : Int32) (l2 : Int32) (l3 : Int32) (l4 : Int32) (s : t_S) : Option ((Int32 × Int32 × Int32 × Int32 × t_S) ⊕ (Int32 × t_S)) :=
 if l3 ≤ l4 then ((some ((l1 + l3), s)).map Sum.inr)
 else (if t_ix (l2 + l4) 626600 = true then
  if t_ix (l1 + l4) 8600 = true then
  t_let (t_setJ s 1007 ((l1 + l4).toNatClampNeg) (s.2.1 1006 ((l2 + l4).toNatClampNeg))) (fun s1 =>
 some (.inl (l1, l2, l3, (l4 + 1), s1)))
else none
else none)
set_option maxRecDepth 4000 in
set_option maxHeartbeats 1000000 in
theorem B_X13_putMade_14 {D : va_G} {cy : Nat → ClassId} {ad : Nat → Nat} {bs : Nat} {X : State → Heap → Prop} (l1 : Int32) (l2 : Int32) (l3 : Int32) (l4 : Int32) (s : t_S) (Q : (Int32 × Int32 × Int32 × Int32 × t_S) ⊕ (Int32 × t_S) → Prop) (Hb14 : ∀ (y0 : Int32) (y1 : Int32) (y2 : Int32) (y3 : Int32) (y4 : t_S), Q (.inl (y0, y1, y2, y3, y4)) → mj_G D cy ad bs X cX13_putMade 5 yX13_putMade.cls (some .int) yX13_putMade.name 2 0 0 1065 (t_P (fun v s' => ∃ x, v = some (.int x) ∧ Q (.inr ((x, s'))))) 14 [(0, .ref 950), (1, .int (y0)), (2, .int (y1)), (3, .int (y2)), (4, .int (y3))] [] (t_m y4) 1065 0 0) (hk : t_hk (k_X13_putMade_14 l1 l2 l3 l4 s) Q) : mj_G D cy ad bs X cX13_putMade 5 yX13_putMade.cls (some .int) yX13_putMade.name 2 0 0 1065 (t_P (fun v s' => ∃ x, v = some (.int x) ∧ Q (.inr ((x, s'))))) 14 [(0, .ref 950), (1, .int l1), (2, .int l2), (3, .int l3), (4, .int l4)] [] (t_m s) 1065 0 0 := by
  refine mj_iload dX13_putMade_14 4 rfl ?_
  refine mj_iload_n dX13_putMade_16 3 rfl ?_
  refine mj_icmp_ge 44 dX13_putMade_17 (by decide) (fun z => t_posK hk z (fun hk => ?_)) (fun z => t_negK hk z (fun hk => ?_))
  · refine t_mapK hk (fun hk => ?_)
    refine mj_iload_n dX13_putMade_44 1 rfl ?_
    refine mj_iload_n dX13_putMade_45 3 rfl ?_
    refine mj_iadd dX13_putMade_46 ?_
    exact t_somK hk (fun hf => t_iret dX13_putMade_47 rfl rfl ⟨_, rfl, hf⟩ (Nat.le_of_ble_eq_true rfl) (Nat.le_of_ble_eq_true rfl))
  · refine mj_aload_n dX13_putMade_20 0 rfl ?_
    refine t_getR 1007 dX13_putMade_21 F_X13_185 qr_950_99 ?_
    refine mj_iload_n dX13_putMade_24 1 rfl ?_
    refine mj_iload dX13_putMade_25 4 rfl ?_
    refine mj_iadd dX13_putMade_27 ?_
    refine mj_aload_n dX13_putMade_28 0 rfl ?_
    refine t_getR 1006 dX13_putMade_29 F_X13_182 qr_950_95 ?_
    refine mj_iload_n dX13_putMade_32 2 rfl ?_
    refine mj_iload dX13_putMade_33 4 rfl ?_
    refine mj_iadd dX13_putMade_35 ?_
    refine t_chkK hk (fun c0 hk => ?_)
    refine t_lald dX13_putMade_36 qa_1006 (t_ixv c0) ?_
    refine t_chkK hk (fun c1 hk => ?_)
    refine t_lastK dX13_putMade_37 qa_1007 (t_ixv c1) (fun s1 ws1 => t_letE hk ws1 (fun hk => ?_))
    refine mj_iinc (k := 4) (v := (l4 + 1)) (lv2 := [(4, .int (l4 + 1)), (0, .ref 950), (1, .int l1), (2, .int l2), (3, .int l3)]) dX13_putMade_38 rfl rfl (by decide) rfl ?_
    refine mj_goto 14 dX13_putMade_41 (by decide) ?_
    refine mj_sublv [(0, .ref 950), (1, .int l1), (2, .int l2), (3, .int l3), (4, .int (l4 + 1))] [1, 2, 3, 4, 0] rfl ?_
    exact t_somK hk (fun hf => Hb14 l1 l2 l3 (l4 + 1) s1 hf)
noncomputable def b_X13_putMade_14 (x : Int32 × Int32 × Int32 × Int32 × t_S) : Option ((Int32 × Int32 × Int32 × Int32 × t_S) ⊕ (Int32 × t_S)) := k_X13_putMade_14 x.1 x.2.1 x.2.2.1 x.2.2.2.1 x.2.2.2.2
set_option maxRecDepth 4000 in
set_option maxHeartbeats 1000000 in
theorem LH_X13_putMade_14 {D : va_G} {cy : Nat → ClassId} {ad : Nat → Nat} {bs : Nat} {X : State → Heap → Prop} : ∀ (n : Nat) (y0 : Int32) (y1 : Int32) (y2 : Int32) (y3 : Int32) (y4 : t_S) (Q : Int32 × t_S → Prop) (hk : t_hk (t_loop (b_X13_putMade_14) n (y0, y1, y2, y3, y4)) Q), mj_G D cy ad bs X cX13_putMade 5 yX13_putMade.cls (some .int) yX13_putMade.name 2 0 0 1065 (t_P (fun v s' => ∃ x, v = some (.int x) ∧ Q ((x, s')))) 14 [(0, .ref 950), (1, .int (y0)), (2, .int (y1)), (3, .int (y2)), (4, .int (y3))] [] (t_m y4) 1065 0 0 := by
  intro n
  induction n with
  | zero => intro y0 y1 y2 y3 y4 Q hk; obtain ⟨r, hr, _⟩ := hk; cases hr
  | succ n ih =>
    intro y0 y1 y2 y3 y4 Q hk
    exact B_X13_putMade_14 y0 y1 y2 y3 y4 (fun y => t_lq (b_X13_putMade_14) n Q y) (fun y0' y1' y2' y3' y4' hy => ih y0' y1' y2' y3' y4' Q hy) (t_lp hk)
noncomputable def f_X13_putMade (x1 : Int32) (x2 : Int32) (s : t_S) : Option (Int32 × t_S) :=
 (f_X13_endOf 1006 x2 s).bind (fun r1 =>
 t_loop (b_X13_putMade_14) t_N (x1, x2, (r1 - x2), 0, s))
set_option maxRecDepth 4000 in
set_option maxHeartbeats 1000000 in
theorem C_X13_putMade (x1 : Int32) (x2 : Int32) (s : t_S) (r : Int32 × t_S) (hr : f_X13_putMade x1 x2 s = some r) : t_C yX13_putMade cX13_putMade 5 (some .int) 2 [.ref 950, .int x1, .int x2] s (fun v s' => v = some (.int r.1) ∧ s' = r.2) := by
  refine t_C.imp (P := fun v s' => ∃ x, v = some (.int x) ∧ (fun q => q = r) ((x, s'))) (t_C.of (by decide +kernel) (Nat.le_of_ble_eq_true rfl) ?_) (fun v s' hp => by obtain ⟨x, rfl, rfl⟩ := hp; exact ⟨rfl, rfl⟩)
  intro D cy ad bs X
  have hk : t_hk (f_X13_putMade x1 x2 s) (fun q => q = r) := ⟨r, hr, rfl⟩
  show mj_G D cy ad bs X cX13_putMade 5 yX13_putMade.cls (some .int) yX13_putMade.name 2 0 0 1065 (t_P (fun v s' => ∃ x, v = some (.int x) ∧ (fun q => q = r) ((x, s')))) 0 [(0, .ref 950), (1, .int x1), (2, .int x2)] [] (t_m s) 1065 0 0
  refine mj_aload_n dX13_putMade_0 0 rfl ?_
  refine t_getR 1006 dX13_putMade_1 F_X13_182 qr_950_95 ?_
  refine mj_iload_n dX13_putMade_4 2 rfl ?_
  refine t_bndK hk (fun r1 er1 hk => ?_)
  refine t_callSiP dX13_putMade_5 M_X13_endOf (C_X13_endOf _ _ _ _ er1) ML_X13_849 SM_X13_endOf (As := [.ref 1006, .int x2]) rfl rfl (Nat.le_of_ble_eq_true rfl) (Nat.le_of_ble_eq_true rfl) (Nat.le_of_ble_eq_true rfl) (Nat.le_of_ble_eq_true rfl) ?_
  refine mj_iload_n dX13_putMade_8 2 rfl ?_
  refine mj_isub dX13_putMade_9 ?_
  refine mj_istore_n 3 (lv2 := [(3, .int (r1 - x2)), (0, .ref 950), (1, .int x1), (2, .int x2)]) dX13_putMade_10 rfl (by decide) rfl ?_
  refine mj_iconst (v := 0) dX13_putMade_11 (by decide) ?_
  refine mj_istore (lv2 := [(4, .int 0), (3, .int (r1 - x2)), (0, .ref 950), (1, .int x1), (2, .int x2)]) dX13_putMade_12 (by decide) rfl ?_
  refine mj_sublv [(0, .ref 950), (1, .int x1), (2, .int x2), (3, .int (r1 - x2)), (4, .int 0)] [2, 3, 4, 1, 0] rfl ?_
  exact LH_X13_putMade_14 _ x1 x2 (r1 - x2) 0 s _ hk

