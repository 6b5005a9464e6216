/-! Methods as functions, 22: X12_met, X2_fail, X2_forget, X5_clear, X3_late, X3_put, X3_toldAs, X3_settleCall, X5_find, X5_portOf, X5_timerOf, X5_varOf -/
theorem qa_10 : t_oka 10 1 8000 = true := by decide +kernel
theorem qa_11 : t_oka 11 1 16384 = true := by decide +kernel
theorem qa_431 : t_oka 431 1 8 = true := by decide +kernel
theorem qa_439 : t_oka 439 1 40 = true := by decide +kernel
theorem qa_6 : t_oka 6 1 8000 = true := by decide +kernel
theorem qa_7 : t_oka 7 3 8000 = true := by decide +kernel
theorem qc_428 : t_okc 428 5 = true := by decide +kernel
theorem qc_846 : t_okc 846 3 = true := by decide +kernel
theorem qf_1_11 : t_okf 1 2 11 0 = true := by decide +kernel
theorem qf_1_12 : t_okf 1 2 12 0 = true := by decide +kernel
theorem qf_1_13 : t_okf 1 2 13 0 = true := by decide +kernel
theorem qf_1_8 : t_okf 1 2 8 0 = true := by decide +kernel
theorem qf_1_9 : t_okf 1 2 9 0 = true := by decide +kernel
theorem qf_846_7 : t_okf 846 3 7 0 = true := by decide +kernel
theorem qf_846_8 : t_okf 846 3 8 0 = true := by decide +kernel
theorem qq_847 : t_okq 847 5 6 848 1 = true := by decide +kernel
theorem qr_1_14 : t_okr 1 2 14 6 = true := by decide +kernel
theorem qr_1_15 : t_okr 1 2 15 7 = true := by decide +kernel
theorem qr_1_18 : t_okr 1 2 18 10 = true := by decide +kernel
theorem qr_1_19 : t_okr 1 2 19 11 = true := by decide +kernel
theorem qr_428_12 : t_okr 428 5 12 439 = true := by decide +kernel
theorem qr_428_2 : t_okr 428 5 2 430 = true := by decide +kernel
theorem qr_428_3 : t_okr 428 5 3 431 = true := by decide +kernel
theorem qr_428_4 : t_okr 428 5 4 432 = true := by decide +kernel
theorem qr_428_6 : t_okr 428 5 6 434 = true := by decide +kernel
theorem qr_846_0 : t_okr 846 3 0 1 = true := by decide +kernel
theorem qr_846_3 : t_okr 846 3 3 334 = true := by decide +kernel
theorem qr_846_4 : t_okr 846 3 4 428 = true := by decide +kernel
theorem qr_846_5 : t_okr 846 3 5 847 = true := by decide +kernel
theorem dX12_met_0 : decode cX12_met 0 = .ok (.aload_n 0, 1) := by decide +kernel
theorem dX12_met_1 : decode cX12_met 1 = .ok (.getfield 121, 3) := by decide +kernel
theorem dX12_met_100 : decode cX12_met 100 = .ok (.iconst 0, 1) := by decide +kernel
theorem dX12_met_101 : decode cX12_met 101 = .ok (.ireturn, 1) := by decide +kernel
theorem dX12_met_11 : decode cX12_met 11 = .ok (.iload_n 1, 1) := by decide +kernel
theorem dX12_met_12 : decode cX12_met 12 = .ok (.aload_n 0, 1) := by decide +kernel
theorem dX12_met_13 : decode cX12_met 13 = .ok (.getfield 44, 3) := by decide +kernel
theorem dX12_met_16 : decode cX12_met 16 = .ok (.getfield 135, 3) := by decide +kernel
theorem dX12_met_19 : decode cX12_met 19 = .ok (.if_icmp .ge 11, 3) := by decide +kernel
theorem dX12_met_22 : decode cX12_met 22 = .ok (.aload_n 0, 1) := by decide +kernel
theorem dX12_met_23 : decode cX12_met 23 = .ok (.iload_n 2, 1) := by decide +kernel
theorem dX12_met_24 : decode cX12_met 24 = .ok (.invokevirtual 169, 3) := by decide +kernel
theorem dX12_met_27 : decode cX12_met 27 = .ok (.ifCond .ne 5, 3) := by decide +kernel
theorem dX12_met_30 : decode cX12_met 30 = .ok (.iconst (-1), 1) := by decide +kernel
theorem dX12_met_31 : decode cX12_met 31 = .ok (.ireturn, 1) := by decide +kernel
theorem dX12_met_32 : decode cX12_met 32 = .ok (.aload_n 0, 1) := by decide +kernel
theorem dX12_met_33 : decode cX12_met 33 = .ok (.getfield 44, 3) := by decide +kernel
theorem dX12_met_36 : decode cX12_met 36 = .ok (.getfield 230, 3) := by decide +kernel
theorem dX12_met_39 : decode cX12_met 39 = .ok (.iload_n 1, 1) := by decide +kernel
theorem dX12_met_4 : decode cX12_met 4 = .ok (.ifCond .eq 26, 3) := by decide +kernel
theorem dX12_met_40 : decode cX12_met 40 = .ok (.aaload, 1) := by decide +kernel
theorem dX12_met_41 : decode cX12_met 41 = .ok (.iconst 5, 1) := by decide +kernel
theorem dX12_met_42 : decode cX12_met 42 = .ok (.iaload, 1) := by decide +kernel
theorem dX12_met_43 : decode cX12_met 43 = .ok (.istore_n 3, 1) := by decide +kernel
theorem dX12_met_44 : decode cX12_met 44 = .ok (.iload_n 3, 1) := by decide +kernel
theorem dX12_met_45 : decode cX12_met 45 = .ok (.ifCond .eq 8, 3) := by decide +kernel
theorem dX12_met_48 : decode cX12_met 48 = .ok (.bipush (-20), 2) := by decide +kernel
theorem dX12_met_50 : decode cX12_met 50 = .ok (.iload_n 3, 1) := by decide +kernel
theorem dX12_met_51 : decode cX12_met 51 = .ok (.isub, 1) := by decide +kernel
theorem dX12_met_52 : decode cX12_met 52 = .ok (.ireturn, 1) := by decide +kernel
theorem dX12_met_53 : decode cX12_met 53 = .ok (.aload_n 0, 1) := by decide +kernel
theorem dX12_met_54 : decode cX12_met 54 = .ok (.getfield 44, 3) := by decide +kernel
theorem dX12_met_57 : decode cX12_met 57 = .ok (.getfield 230, 3) := by decide +kernel
theorem dX12_met_60 : decode cX12_met 60 = .ok (.iload_n 1, 1) := by decide +kernel
theorem dX12_met_61 : decode cX12_met 61 = .ok (.aaload, 1) := by decide +kernel
theorem dX12_met_62 : decode cX12_met 62 = .ok (.iconst 0, 1) := by decide +kernel
theorem dX12_met_63 : decode cX12_met 63 = .ok (.iaload, 1) := by decide +kernel
theorem dX12_met_64 : decode cX12_met 64 = .ok (.istore 4, 2) := by decide +kernel
theorem dX12_met_66 : decode cX12_met 66 = .ok (.aload_n 0, 1) := by decide +kernel
theorem dX12_met_67 : decode cX12_met 67 = .ok (.getfield 44, 3) := by decide +kernel
theorem dX12_met_7 : decode cX12_met 7 = .ok (.iload_n 1, 1) := by decide +kernel
theorem dX12_met_70 : decode cX12_met 70 = .ok (.iload 4, 2) := by decide +kernel
theorem dX12_met_72 : decode cX12_met 72 = .ok (.aload_n 0, 1) := by decide +kernel
theorem dX12_met_73 : decode cX12_met 73 = .ok (.getfield 19, 3) := by decide +kernel
theorem dX12_met_76 : decode cX12_met 76 = .ok (.getfield 173, 3) := by decide +kernel
theorem dX12_met_79 : decode cX12_met 79 = .ok (.iload_n 2, 1) := by decide +kernel
theorem dX12_met_8 : decode cX12_met 8 = .ok (.ifCond .lt 22, 3) := by decide +kernel
theorem dX12_met_80 : decode cX12_met 80 = .ok (.invokestatic 176, 3) := by decide +kernel
theorem dX12_met_83 : decode cX12_met 83 = .ok (.invokevirtual 234, 3) := by decide +kernel
theorem dX12_met_86 : decode cX12_met 86 = .ok (.ifCond .eq 5, 3) := by decide +kernel
theorem dX12_met_89 : decode cX12_met 89 = .ok (.iconst 1, 1) := by decide +kernel
theorem dX12_met_90 : decode cX12_met 90 = .ok (.ireturn, 1) := by decide +kernel
theorem dX12_met_91 : decode cX12_met 91 = .ok (.aload_n 0, 1) := by decide +kernel
theorem dX12_met_92 : decode cX12_met 92 = .ok (.getfield 44, 3) := by decide +kernel
theorem dX12_met_95 : decode cX12_met 95 = .ok (.iload 4, 2) := by decide +kernel
theorem dX12_met_97 : decode cX12_met 97 = .ok (.invokevirtual 238, 3) := by decide +kernel
noncomputable def f_X12_met (x1 : Int32) (x2 : Int32) (s : t_S) : Option (Int32 × t_S) :=
 if (s.1 0 12) = (0 : Int32) then (some ((-1 : Int32), s))
 else (if x1 < (0 : Int32) then (some ((-1 : Int32), s))
 else (if (s.1 353 11) ≤ x1 then (some ((-1 : Int32), s))
 else (if (f_X12_isKept x2 s) = (0 : Int32) then (some ((-1 : Int32), s))
 else (if t_ix x1 60 = true then
  if (s.1 (364 + 1 * (x1.toNatClampNeg)) ((5 : Int32).toNatClampNeg)) = (0 : Int32) then ((f_X10_meets (s.1 (364 + 1 * (x1.toNatClampNeg)) ((0 : Int32).toNatClampNeg)) 13 (f_X12_keptAt x2 s) s).bind (fun r4 =>
 if r4.1 = (0 : Int32) then ((f_X10_explain (s.1 (364 + 1 * (x1.toNatClampNeg)) ((0 : Int32).toNatClampNeg)) r4.2).bind (fun r5 =>
 some ((0 : Int32), r5)))
 else (some ((1 : Int32), r4.2))))
 else (some (((-20 : Int32) - (s.1 (364 + 1 * (x1.toNatClampNeg)) ((5 : Int32).toNatClampNeg))), s))
else none))))
set_option maxRecDepth 4000 in
set_option maxHeartbeats 1000000 in
theorem C_X12_met (x1 : Int32) (x2 : Int32) (s : t_S) (r : Int32 × t_S) (hr : f_X12_met x1 x2 s = some r) : t_C yX12_met cX12_met 5 (some .int) 405 [.ref 0, .int x1, .int x2] s (fun v s' => v = some (.int r.1) ∧ s' = r.2) := by
  refine t_C.imp (P := fun v s' => ∃ x, v = some (.int x) ∧ (fun q => q = r) ((x, s'))) (t_C.of (by decide +kernel) (Nat.le_of_ble_eq_true rfl) ?_) (fun v s' hp => by obtain ⟨x, rfl, rfl⟩ := hp; exact ⟨rfl, rfl⟩)
  intro D cy ad bs X
  have hk : t_hk (f_X12_met x1 x2 s) (fun q => q = r) := ⟨r, hr, rfl⟩
  show mj_G D cy ad bs X cX12_met 5 yX12_met.cls (some .int) yX12_met.name 405 0 0 1065 (t_P (fun v s' => ∃ x, v = some (.int x) ∧ (fun q => q = r) ((x, s')))) 0 [(0, .ref 0), (1, .int x1), (2, .int x2)] [] (t_m s) 1065 0 0
  refine mj_aload_n dX12_met_0 0 rfl ?_
  refine t_getI dX12_met_1 F_X12_121 qf_0_12 ?_
  refine mj_if_eq 30 dX12_met_4 (by decide) (fun z => t_posK hk z (fun hk => ?_)) (fun z => t_negK hk z (fun hk => ?_))
  · refine mj_iconst (v := (-1)) dX12_met_30 (by decide) ?_
    exact t_somK hk (fun hf => t_iret dX12_met_31 rfl rfl ⟨_, rfl, hf⟩ (Nat.le_of_ble_eq_true rfl) (Nat.le_of_ble_eq_true rfl))
  · refine mj_iload_n dX12_met_7 1 rfl ?_
    refine mj_if_lt 30 dX12_met_8 (by decide) (fun z => t_posK hk z (fun hk => ?_)) (fun z => t_negK hk z (fun hk => ?_))
    · refine mj_iconst (v := (-1)) dX12_met_30 (by decide) ?_
      exact t_somK hk (fun hf => t_iret dX12_met_31 rfl rfl ⟨_, rfl, hf⟩ (Nat.le_of_ble_eq_true rfl) (Nat.le_of_ble_eq_true rfl))
    · refine mj_iload_n dX12_met_11 1 rfl ?_
      refine mj_aload_n dX12_met_12 0 rfl ?_
      refine t_getR 353 dX12_met_13 F_X12_44 qr_0_4 ?_
      refine t_getI dX12_met_16 F_X12_135 qf_353_11 ?_
      refine mj_icmp_ge 30 dX12_met_19 (by decide) (fun z => t_posK hk z (fun hk => ?_)) (fun z => t_negK hk z (fun hk => ?_))
      · refine mj_iconst (v := (-1)) dX12_met_30 (by decide) ?_
        exact t_somK hk (fun hf => t_iret dX12_met_31 rfl rfl ⟨_, rfl, hf⟩ (Nat.le_of_ble_eq_true rfl) (Nat.le_of_ble_eq_true rfl))
      · refine mj_aload_n dX12_met_22 0 rfl ?_
        refine mj_iload_n dX12_met_23 2 rfl ?_
        refine t_callViP dX12_met_24 M_X12_isKept (C_X12_isKept _ _) ML_X12_169 IM_X12_isKept SE_X12_isKept qc_0 rfl (As := [.int x2]) rfl rfl (Nat.le_of_ble_eq_true rfl) (Nat.le_of_ble_eq_true rfl) (Nat.le_of_ble_eq_true rfl) (Nat.le_of_ble_eq_true rfl) ?_
        refine mj_if_ne 32 dX12_met_27 (by decide) (fun z => t_negK hk z (fun hk => ?_)) (fun z => t_posK hk z (fun hk => ?_))
        · refine mj_aload_n dX12_met_32 0 rfl ?_
          refine t_getR 353 dX12_met_33 F_X12_44 qr_0_4 ?_
          refine t_getR 363 dX12_met_36 F_X12_230 qr_353_10 ?_
          refine mj_iload_n dX12_met_39 1 rfl ?_
          refine t_chkK hk (fun c1 hk => ?_)
          refine t_aaldI dX12_met_40 qq_363 (t_ixv c1) ?_
          refine mj_iconst (v := 5) dX12_met_41 (by decide) ?_
          refine t_iald dX12_met_42 (t_row364 (t_ixn c1)) (by unfold vp_in; decide) ?_
          refine mj_istore_n 3 (lv2 := [(3, .int (s.1 (364 + 1 * (x1.toNatClampNeg)) ((5 : Int32).toNatClampNeg))), (0, .ref 0), (1, .int x1), (2, .int x2)]) dX12_met_43 rfl (by decide) rfl ?_
          refine mj_iload_n dX12_met_44 0 rfl ?_
          refine mj_if_eq 53 dX12_met_45 (by decide) (fun z => t_posK hk z (fun hk => ?_)) (fun z => t_negK hk z (fun hk => ?_))
          · refine mj_aload_n dX12_met_53 1 rfl ?_
            refine t_getR 353 dX12_met_54 F_X12_44 qr_0_4 ?_
            refine t_getR 363 dX12_met_57 F_X12_230 qr_353_10 ?_
            refine mj_iload_n dX12_met_60 2 rfl ?_
            refine t_aaldI dX12_met_61 qq_363 (t_ixv c1) ?_
            refine mj_iconst (v := 0) dX12_met_62 (by decide) ?_
            refine t_iald dX12_met_63 (t_row364 (t_ixn c1)) (by unfold vp_in; decide) ?_
            refine mj_istore (lv2 := [(4, .int (s.1 (364 + 1 * (x1.toNatClampNeg)) ((0 : Int32).toNatClampNeg))), (3, .int (s.1 (364 + 1 * (x1.toNatClampNeg)) ((5 : Int32).toNatClampNeg))), (0, .ref 0), (1, .int x1), (2, .int x2)]) dX12_met_64 (by decide) rfl ?_
            refine mj_aload_n dX12_met_66 2 rfl ?_
            refine t_getR 353 dX12_met_67 F_X12_44 qr_0_4 ?_
            refine mj_iload dX12_met_70 0 rfl ?_
            refine mj_aload_n dX12_met_72 2 rfl ?_
            refine t_getR 12 dX12_met_73 F_X12_19 qr_0_1 ?_
            refine t_getR 13 dX12_met_76 F_X12_173 qr_12_0 ?_
            refine mj_iload_n dX12_met_79 4 rfl ?_
            refine t_callSiP dX12_met_80 M_X12_keptAt (C_X12_keptAt _ _) ML_X12_176 SM_X12_keptAt (As := [.int x2]) rfl rfl (Nat.le_of_ble_eq_true rfl) (Nat.le_of_ble_eq_true rfl) (Nat.le_of_ble_eq_true rfl) (Nat.le_of_ble_eq_true rfl) ?_
            refine t_bndK hk (fun r4 er4 hk => ?_)
            refine t_callViE dX12_met_83 M_X10_meets (C_X10_meets _ _ _ _ _ er4) ML_X12_234 IM_X10_meets SE_X10_meets qc_353 rfl (As := [.int (s.1 (364 + 1 * (x1.toNatClampNeg)) ((0 : Int32).toNatClampNeg)), .ref 13, .int (f_X12_keptAt x2 s)]) rfl rfl (Nat.le_of_ble_eq_true rfl) (Nat.le_of_ble_eq_true rfl) (Nat.le_of_ble_eq_true rfl) (Nat.le_of_ble_eq_true rfl) ?_
            refine mj_if_eq 91 dX12_met_86 (by decide) (fun z => t_posK hk z (fun hk => ?_)) (fun z => t_negK hk z (fun hk => ?_))
            · refine mj_aload_n dX12_met_91 2 rfl ?_
              refine t_getR 353 dX12_met_92 F_X12_44 qr_0_4 ?_
              refine mj_iload dX12_met_95 0 rfl ?_
              refine t_bndK hk (fun r5 er5 hk => ?_)
              refine t_callVvE dX12_met_97 M_X10_explain (C_X10_explain _ _ _ er5) ML_X12_238 IM_X10_explain SE_X10_explain qc_353 rfl (As := [.int (s.1 (364 + 1 * (x1.toNatClampNeg)) ((0 : Int32).toNatClampNeg))]) rfl rfl (Nat.le_of_ble_eq_true rfl) (Nat.le_of_ble_eq_true rfl) (Nat.le_of_ble_eq_true rfl) (Nat.le_of_ble_eq_true rfl) ?_
              refine mj_iconst (v := 0) dX12_met_100 (by decide) ?_
              exact t_somK hk (fun hf => t_iret dX12_met_101 rfl rfl ⟨_, rfl, hf⟩ (Nat.le_of_ble_eq_true rfl) (Nat.le_of_ble_eq_true rfl))
            · refine mj_iconst (v := 1) dX12_met_89 (by decide) ?_
              exact t_somK hk (fun hf => t_iret dX12_met_90 rfl rfl ⟨_, rfl, hf⟩ (Nat.le_of_ble_eq_true rfl) (Nat.le_of_ble_eq_true rfl))
          · refine mj_bipush (v := (-20)) dX12_met_48 (by decide) ?_
            refine mj_iload_n dX12_met_50 0 rfl ?_
            refine mj_isub dX12_met_51 ?_
            exact t_somK hk (fun hf => t_iret dX12_met_52 rfl rfl ⟨_, rfl, hf⟩ (Nat.le_of_ble_eq_true rfl) (Nat.le_of_ble_eq_true rfl))
        · refine mj_iconst (v := (-1)) dX12_met_30 (by decide) ?_
          exact t_somK hk (fun hf => t_iret dX12_met_31 rfl rfl ⟨_, rfl, hf⟩ (Nat.le_of_ble_eq_true rfl) (Nat.le_of_ble_eq_true rfl))

theorem dX2_fail_0 : decode cX2_fail 0 = .ok (.aload_n 0, 1) := by decide +kernel
theorem dX2_fail_1 : decode cX2_fail 1 = .ok (.getfield 103, 3) := by decide +kernel
theorem dX2_fail_10 : decode cX2_fail 10 = .ok (.putfield 103, 3) := by decide +kernel
theorem dX2_fail_13 : decode cX2_fail 13 = .ok (.aload_n 0, 1) := by decide +kernel
theorem dX2_fail_14 : decode cX2_fail 14 = .ok (.aload_n 0, 1) := by decide +kernel
theorem dX2_fail_15 : decode cX2_fail 15 = .ok (.getfield 112, 3) := by decide +kernel
theorem dX2_fail_18 : decode cX2_fail 18 = .ok (.putfield 106, 3) := by decide +kernel
theorem dX2_fail_21 : decode cX2_fail 21 = .ok (.aload_n 0, 1) := by decide +kernel
theorem dX2_fail_22 : decode cX2_fail 22 = .ok (.iconst 5, 1) := by decide +kernel
theorem dX2_fail_23 : decode cX2_fail 23 = .ok (.putfield 74, 3) := by decide +kernel
theorem dX2_fail_26 : decode cX2_fail 26 = .ok (.return_, 1) := by decide +kernel
theorem dX2_fail_4 : decode cX2_fail 4 = .ok (.ifCond .eq 4, 3) := by decide +kernel
theorem dX2_fail_7 : decode cX2_fail 7 = .ok (.return_, 1) := by decide +kernel
theorem dX2_fail_8 : decode cX2_fail 8 = .ok (.aload_n 0, 1) := by decide +kernel
theorem dX2_fail_9 : decode cX2_fail 9 = .ok (.iload_n 1, 1) := by decide +kernel
noncomputable def f_X2_fail (x1 : Int32) (s : t_S) : Option (t_S) :=
 if (s.1 1 11) = (0 : Int32) then (t_let (t_setI s 1 11 x1) (fun s1 =>
 t_let (t_setI s1 1 12 (s1.1 1 9)) (fun s2 =>
 t_let (t_setI s2 1 8 (5 : Int32)) (fun s3 =>
 some (s3)))))
 else (some (s))
set_option maxRecDepth 4000 in
set_option maxHeartbeats 1000000 in
theorem C_X2_fail (x1 : Int32) (s : t_S) (r : t_S) (hr : f_X2_fail x1 s = some r) : t_C yX2_fail cX2_fail 2 none 0 [.ref 1, .int x1] s (fun v s' => v = none ∧ s' = r) := by
  refine t_C.imp (P := fun v s' => v = none ∧ (fun q => q = r) (s')) (t_C.of (by decide +kernel) (Nat.le_of_ble_eq_true rfl) ?_) (fun v s' hp => hp)
  intro D cy ad bs X
  have hk : t_hk (f_X2_fail x1 s) (fun q => q = r) := ⟨r, hr, rfl⟩
  show mj_G D cy ad bs X cX2_fail 2 yX2_fail.cls none yX2_fail.name 0 0 0 1065 (t_P (fun v s' => v = none ∧ (fun q => q = r) (s'))) 0 [(0, .ref 1), (1, .int x1)] [] (t_m s) 1065 0 0
  refine mj_aload_n dX2_fail_0 0 rfl ?_
  refine t_getI dX2_fail_1 F_X2_103 qf_1_11 ?_
  refine mj_if_eq 8 dX2_fail_4 (by decide) (fun z => t_posK hk z (fun hk => ?_)) (fun z => t_negK hk z (fun hk => ?_))
  · refine mj_aload_n dX2_fail_8 0 rfl ?_
    refine mj_iload_n dX2_fail_9 1 rfl ?_
    refine t_putIK dX2_fail_10 F_X2_103 qf_1_11 rfl (fun s1 ws1 => t_letE hk ws1 (fun hk => ?_))
    refine mj_aload_n dX2_fail_13 0 rfl ?_
    refine mj_aload_n dX2_fail_14 0 rfl ?_
    refine t_getI dX2_fail_15 F_X2_112 qf_1_9 ?_
    refine t_putIK dX2_fail_18 F_X2_106 qf_1_12 rfl (fun s2 ws2 => t_letE hk ws2 (fun hk => ?_))
    refine mj_aload_n dX2_fail_21 0 rfl ?_
    refine mj_iconst (v := 5) dX2_fail_22 (by decide) ?_
    refine t_putIK dX2_fail_23 F_X2_74 qf_1_8 rfl (fun s3 ws3 => t_letE hk ws3 (fun hk => ?_))
    exact t_somK hk (fun hf => t_vret dX2_fail_26 rfl ⟨rfl, hf⟩ (Nat.le_of_ble_eq_true rfl) (Nat.le_of_ble_eq_true rfl))
  · exact t_somK hk (fun hf => t_vret dX2_fail_7 rfl ⟨rfl, hf⟩ (Nat.le_of_ble_eq_true rfl) (Nat.le_of_ble_eq_true rfl))

theorem dX2_forget_0 : decode cX2_forget 0 = .ok (.aload_n 0, 1) := by decide +kernel
theorem dX2_forget_1 : decode cX2_forget 1 = .ok (.getfield 68, 3) := by decide +kernel
theorem dX2_forget_12 : decode cX2_forget 12 = .ok (.ifCond .le 31, 3) := by decide +kernel
theorem dX2_forget_15 : decode cX2_forget 15 = .ok (.aload_n 0, 1) := by decide +kernel
theorem dX2_forget_16 : decode cX2_forget 16 = .ok (.dup, 1) := by decide +kernel
theorem dX2_forget_17 : decode cX2_forget 17 = .ok (.getfield 68, 3) := by decide +kernel
theorem dX2_forget_20 : decode cX2_forget 20 = .ok (.iconst 1, 1) := by decide +kernel
theorem dX2_forget_21 : decode cX2_forget 21 = .ok (.isub, 1) := by decide +kernel
theorem dX2_forget_22 : decode cX2_forget 22 = .ok (.putfield 68, 3) := by decide +kernel
theorem dX2_forget_25 : decode cX2_forget 25 = .ok (.aload_n 0, 1) := by decide +kernel
theorem dX2_forget_26 : decode cX2_forget 26 = .ok (.getfield 42, 3) := by decide +kernel
theorem dX2_forget_29 : decode cX2_forget 29 = .ok (.aload_n 0, 1) := by decide +kernel
theorem dX2_forget_30 : decode cX2_forget 30 = .ok (.getfield 39, 3) := by decide +kernel
theorem dX2_forget_33 : decode cX2_forget 33 = .ok (.aload_n 0, 1) := by decide +kernel
theorem dX2_forget_34 : decode cX2_forget 34 = .ok (.getfield 68, 3) := by decide +kernel
theorem dX2_forget_37 : decode cX2_forget 37 = .ok (.iaload, 1) := by decide +kernel
theorem dX2_forget_38 : decode cX2_forget 38 = .ok (.iconst 0, 1) := by decide +kernel
theorem dX2_forget_39 : decode cX2_forget 39 = .ok (.iastore, 1) := by decide +kernel
theorem dX2_forget_4 : decode cX2_forget 4 = .ok (.iload_n 1, 1) := by decide +kernel
theorem dX2_forget_40 : decode cX2_forget 40 = .ok (.goto (-40), 3) := by decide +kernel
theorem dX2_forget_43 : decode cX2_forget 43 = .ok (.return_, 1) := by decide +kernel
theorem dX2_forget_5 : decode cX2_forget 5 = .ok (.if_icmp .le 38, 3) := by decide +kernel
theorem dX2_forget_8 : decode cX2_forget 8 = .ok (.aload_n 0, 1) := by decide +kernel
theorem dX2_forget_9 : decode cX2_forget 9 = .ok (.getfield 68, 3) := by decide +kernel
noncomputable def k_X2_forget_0 (l1 : Int32) (s : t_S) : Option ((Int32 × t_S) ⊕ (t_S)) :=
 if (s.1 1 13) ≤ l1 then ((some (s)).map Sum.inr)
 else (if (s.1 1 13) ≤ (0 : Int32) then ((some (s)).map Sum.inr)
 else (t_let (t_setI s 1 13 ((s.1 1 13) - (1 : Int32))) (fun s1 =>
 if t_ix (s1.1 1 13) 8000 = true then
  if t_ix (s1.1 10 ((s1.1 1 13).toNatClampNeg)) 16384 = true then
  t_let (t_setI s1 11 ((s1.1 10 ((s1.1 1 13).toNatClampNeg)).toNatClampNeg) (0 : Int32)) (fun s2 =>
 some (.inl (l1, s2)))
else none
else none)))
set_option maxRecDepth 4000 in
set_option maxHeartbeats 1000000 in
theorem B_X2_forget_0 {D : va_G} {cy : Nat → ClassId} {ad : Nat → Nat} {bs : Nat} {X : State → Heap → Prop} (l1 : Int32) (s : t_S) (Q : (Int32 × t_S) ⊕ (t_S) → Prop) (Hb0 : ∀ (y0 : Int32) (y1 : t_S), Q (.inl (y0, y1)) → mj_G D cy ad bs X cX2_forget 2 yX2_forget.cls none yX2_forget.name 0 0 0 1065 (t_P (fun v s' => v = none ∧ Q (.inr (s')))) 0 [(0, .ref 1), (1, .int (y0))] [] (t_m y1) 1065 0 0) (hk : t_hk (k_X2_forget_0 l1 s) Q) : mj_G D cy ad bs X cX2_forget 2 yX2_forget.cls none yX2_forget.name 0 0 0 1065 (t_P (fun v s' => v = none ∧ Q (.inr (s')))) 0 [(0, .ref 1), (1, .int l1)] [] (t_m s) 1065 0 0 := by
  refine mj_aload_n dX2_forget_0 0 rfl ?_
  refine t_getI dX2_forget_1 F_X2_68 qf_1_13 ?_
  refine mj_iload_n dX2_forget_4 1 rfl ?_
  refine mj_icmp_le 43 dX2_forget_5 (by decide) (fun z => t_posK hk z (fun hk => ?_)) (fun z => t_negK hk z (fun hk => ?_))
  · refine t_mapK hk (fun hk => ?_)
    exact t_somK hk (fun hf => t_vret dX2_forget_43 rfl ⟨rfl, hf⟩ (Nat.le_of_ble_eq_true rfl) (Nat.le_of_ble_eq_true rfl))
  · refine mj_aload_n dX2_forget_8 0 rfl ?_
    refine t_getI dX2_forget_9 F_X2_68 qf_1_13 ?_
    refine mj_if_le 43 dX2_forget_12 (by decide) (fun z => t_posK hk z (fun hk => ?_)) (fun z => t_negK hk z (fun hk => ?_))
    · refine t_mapK hk (fun hk => ?_)
      exact t_somK hk (fun hf => t_vret dX2_forget_43 rfl ⟨rfl, hf⟩ (Nat.le_of_ble_eq_true rfl) (Nat.le_of_ble_eq_true rfl))
    · refine mj_aload_n dX2_forget_15 0 rfl ?_
      refine mj_dup dX2_forget_16 rfl ?_
      refine t_getI dX2_forget_17 F_X2_68 qf_1_13 ?_
      refine mj_iconst (v := 1) dX2_forget_20 (by decide) ?_
      refine mj_isub dX2_forget_21 ?_
      refine t_putIK dX2_forget_22 F_X2_68 qf_1_13 rfl (fun s1 ws1 => t_letE hk ws1 (fun hk => ?_))
      refine mj_aload_n dX2_forget_25 0 rfl ?_
      refine t_getR 11 dX2_forget_26 F_X2_42 qr_1_19 ?_
      refine mj_aload_n dX2_forget_29 0 rfl ?_
      refine t_getR 10 dX2_forget_30 F_X2_39 qr_1_18 ?_
      refine mj_aload_n dX2_forget_33 0 rfl ?_
      refine t_getI dX2_forget_34 F_X2_68 qf_1_13 ?_
      refine t_chkK hk (fun c0 hk => ?_)
      refine t_iald dX2_forget_37 qa_10 (t_ixv c0) ?_
      refine mj_iconst (v := 0) dX2_forget_38 (by decide) ?_
      refine t_chkK hk (fun c1 hk => ?_)
      refine t_iastK dX2_forget_39 qa_11 (t_ixv c1) (fun s2 ws2 => t_letE hk ws2 (fun hk => ?_))
      refine mj_goto 0 dX2_forget_40 (by decide) ?_
      exact t_somK hk (fun hf => Hb0 l1 s2 hf)
noncomputable def b_X2_forget_0 (x : Int32 × t_S) : Option ((Int32 × t_S) ⊕ (t_S)) := k_X2_forget_0 x.1 x.2
set_option maxRecDepth 4000 in
set_option maxHeartbeats 1000000 in
theorem LH_X2_forget_0 {D : va_G} {cy : Nat → ClassId} {ad : Nat → Nat} {bs : Nat} {X : State → Heap → Prop} : ∀ (n : Nat) (y0 : Int32) (y1 : t_S) (Q : t_S → Prop) (hk : t_hk (t_loop (b_X2_forget_0) n (y0, y1)) Q), mj_G D cy ad bs X cX2_forget 2 yX2_forget.cls none yX2_forget.name 0 0 0 1065 (t_P (fun v s' => v = none ∧ Q (s'))) 0 [(0, .ref 1), (1, .int (y0))] [] (t_m y1) 1065 0 0 := by
  intro n
  induction n with
  | zero => intro y0 y1 Q hk; obtain ⟨r, hr, _⟩ := hk; cases hr
  | succ n ih =>
    intro y0 y1 Q hk
    exact B_X2_forget_0 y0 y1 (fun y => t_lq (b_X2_forget_0) n Q y) (fun y0' y1' hy => ih y0' y1' Q hy) (t_lp hk)
noncomputable def f_X2_forget (x1 : Int32) (s : t_S) : Option (t_S) :=
 t_loop (b_X2_forget_0) t_N (x1, s)
set_option maxRecDepth 4000 in
set_option maxHeartbeats 1000000 in
theorem C_X2_forget (x1 : Int32) (s : t_S) (r : t_S) (hr : f_X2_forget x1 s = some r) : t_C yX2_forget cX2_forget 2 none 0 [.ref 1, .int x1] s (fun v s' => v = none ∧ s' = r) := by
  refine t_C.imp (P := fun v s' => v = none ∧ (fun q => q = r) (s')) (t_C.of (by decide +kernel) (Nat.le_of_ble_eq_true rfl) ?_) (fun v s' hp => hp)
  intro D cy ad bs X
  have hk : t_hk (f_X2_forget x1 s) (fun q => q = r) := ⟨r, hr, rfl⟩
  show mj_G D cy ad bs X cX2_forget 2 yX2_forget.cls none yX2_forget.name 0 0 0 1065 (t_P (fun v s' => v = none ∧ (fun q => q = r) (s'))) 0 [(0, .ref 1), (1, .int x1)] [] (t_m s) 1065 0 0
  exact LH_X2_forget_0 _ x1 s _ hk

theorem dX5_clear_0 : decode cX5_clear 0 = .ok (.aload_n 0, 1) := by decide +kernel
theorem dX5_clear_1 : decode cX5_clear 1 = .ok (.iconst 0, 1) := by decide +kernel
theorem dX5_clear_10 : decode cX5_clear 10 = .ok (.aload_n 0, 1) := by decide +kernel
theorem dX5_clear_11 : decode cX5_clear 11 = .ok (.iconst 0, 1) := by decide +kernel
theorem dX5_clear_12 : decode cX5_clear 12 = .ok (.putfield 67, 3) := by decide +kernel
theorem dX5_clear_15 : decode cX5_clear 15 = .ok (.return_, 1) := by decide +kernel
theorem dX5_clear_2 : decode cX5_clear 2 = .ok (.putfield 60, 3) := by decide +kernel
theorem dX5_clear_5 : decode cX5_clear 5 = .ok (.aload_n 0, 1) := by decide +kernel
theorem dX5_clear_6 : decode cX5_clear 6 = .ok (.iconst 0, 1) := by decide +kernel
theorem dX5_clear_7 : decode cX5_clear 7 = .ok (.putfield 64, 3) := by decide +kernel
noncomputable def f_X5_clear (s : t_S) : Option (t_S) :=
 t_let (t_setI s 428 0 (0 : Int32)) (fun s1 =>
 t_let (t_setI s1 428 9 (0 : Int32)) (fun s2 =>
 t_let (t_setI s2 428 18 (0 : Int32)) (fun s3 =>
 some (s3))))
set_option maxRecDepth 4000 in
set_option maxHeartbeats 1000000 in
theorem C_X5_clear (s : t_S) (r : t_S) (hr : f_X5_clear s = some r) : t_C yX5_clear cX5_clear 1 none 0 [.ref 428] s (fun v s' => v = none ∧ s' = r) := by
  refine t_C.imp (P := fun v s' => v = none ∧ (fun q => q = r) (s')) (t_C.of (by decide +kernel) (Nat.le_of_ble_eq_true rfl) ?_) (fun v s' hp => hp)
  intro D cy ad bs X
  have hk : t_hk (f_X5_clear s) (fun q => q = r) := ⟨r, hr, rfl⟩
  show mj_G D cy ad bs X cX5_clear 1 yX5_clear.cls none yX5_clear.name 0 0 0 1065 (t_P (fun v s' => v = none ∧ (fun q => q = r) (s'))) 0 [(0, .ref 428)] [] (t_m s) 1065 0 0
  refine mj_aload_n dX5_clear_0 0 rfl ?_
  refine mj_iconst (v := 0) dX5_clear_1 (by decide) ?_
  refine t_putIK dX5_clear_2 F_X5_60 qf_428_0 rfl (fun s1 ws1 => t_letE hk ws1 (fun hk => ?_))
  refine mj_aload_n dX5_clear_5 0 rfl ?_
  refine mj_iconst (v := 0) dX5_clear_6 (by decide) ?_
  refine t_putIK dX5_clear_7 F_X5_64 qf_428_9 rfl (fun s2 ws2 => t_letE hk ws2 (fun hk => ?_))
  refine mj_aload_n dX5_clear_10 0 rfl ?_
  refine mj_iconst (v := 0) dX5_clear_11 (by decide) ?_
  refine t_putIK dX5_clear_12 F_X5_67 qf_428_18 rfl (fun s3 ws3 => t_letE hk ws3 (fun hk => ?_))
  exact t_somK hk (fun hf => t_vret dX5_clear_15 rfl ⟨rfl, hf⟩ (Nat.le_of_ble_eq_true rfl) (Nat.le_of_ble_eq_true rfl))

theorem dX3_late_0 : decode cX3_late 0 = .ok (.aload_n 0, 1) := by decide +kernel
theorem dX3_late_1 : decode cX3_late 1 = .ok (.getfield 38, 3) := by decide +kernel
theorem dX3_late_12 : decode cX3_late 12 = .ok (.if_icmp .lt 19, 3) := by decide +kernel
theorem dX3_late_15 : decode cX3_late 15 = .ok (.iload_n 2, 1) := by decide +kernel
theorem dX3_late_16 : decode cX3_late 16 = .ok (.aload_n 0, 1) := by decide +kernel
theorem dX3_late_17 : decode cX3_late 17 = .ok (.getfield 41, 3) := by decide +kernel
theorem dX3_late_20 : decode cX3_late 20 = .ok (.if_icmp .ne 21, 3) := by decide +kernel
theorem dX3_late_23 : decode cX3_late 23 = .ok (.iload_n 1, 1) := by decide +kernel
theorem dX3_late_24 : decode cX3_late 24 = .ok (.aload_n 0, 1) := by decide +kernel
theorem dX3_late_25 : decode cX3_late 25 = .ok (.getfield 38, 3) := by decide +kernel
theorem dX3_late_28 : decode cX3_late 28 = .ok (.if_icmp .ge 13, 3) := by decide +kernel
theorem dX3_late_31 : decode cX3_late 31 = .ok (.aload_n 0, 1) := by decide +kernel
theorem dX3_late_32 : decode cX3_late 32 = .ok (.iload_n 1, 1) := by decide +kernel
theorem dX3_late_33 : decode cX3_late 33 = .ok (.putfield 38, 3) := by decide +kernel
theorem dX3_late_36 : decode cX3_late 36 = .ok (.aload_n 0, 1) := by decide +kernel
theorem dX3_late_37 : decode cX3_late 37 = .ok (.iload_n 2, 1) := by decide +kernel
theorem dX3_late_38 : decode cX3_late 38 = .ok (.putfield 41, 3) := by decide +kernel
theorem dX3_late_4 : decode cX3_late 4 = .ok (.ifCond .eq 27, 3) := by decide +kernel
theorem dX3_late_41 : decode cX3_late 41 = .ok (.return_, 1) := by decide +kernel
theorem dX3_late_7 : decode cX3_late 7 = .ok (.iload_n 2, 1) := by decide +kernel
theorem dX3_late_8 : decode cX3_late 8 = .ok (.aload_n 0, 1) := by decide +kernel
theorem dX3_late_9 : decode cX3_late 9 = .ok (.getfield 41, 3) := by decide +kernel
noncomputable def k_X3_late_31 (l1 : Int32) (l2 : Int32) (s : t_S) : Option (t_S) :=
 t_let (t_setI s 846 7 l1) (fun s1 =>
 t_let (t_setI s1 846 8 l2) (fun s2 =>
 some (s2)))
set_option maxRecDepth 4000 in
set_option maxHeartbeats 1000000 in
theorem B_X3_late_31 {D : va_G} {cy : Nat → ClassId} {ad : Nat → Nat} {bs : Nat} {X : State → Heap → Prop} (l1 : Int32) (l2 : Int32) (s : t_S) (Q : t_S → Prop) (hk : t_hk (k_X3_late_31 l1 l2 s) Q) : mj_G D cy ad bs X cX3_late 3 yX3_late.cls none yX3_late.name 0 0 0 1065 (t_P (fun v s' => v = none ∧ Q (s'))) 31 [(0, .ref 846), (1, .int l1), (2, .int l2)] [] (t_m s) 1065 0 0 := by
  refine mj_aload_n dX3_late_31 0 rfl ?_
  refine mj_iload_n dX3_late_32 1 rfl ?_
  refine t_putIK dX3_late_33 F_X3_38 qf_846_7 rfl (fun s1 ws1 => t_letE hk ws1 (fun hk => ?_))
  refine mj_aload_n dX3_late_36 0 rfl ?_
  refine mj_iload_n dX3_late_37 2 rfl ?_
  refine t_putIK dX3_late_38 F_X3_41 qf_846_8 rfl (fun s2 ws2 => t_letE hk ws2 (fun hk => ?_))
  exact t_somK hk (fun hf => t_vret dX3_late_41 rfl ⟨rfl, hf⟩ (Nat.le_of_ble_eq_true rfl) (Nat.le_of_ble_eq_true rfl))
noncomputable def f_X3_late (x1 : Int32) (x2 : Int32) (s : t_S) : Option (t_S) :=
 if (s.1 846 7) = (0 : Int32) then (k_X3_late_31 x1 x2 s)
 else (if x2 < (s.1 846 8) then (k_X3_late_31 x1 x2 s)
 else (if x2 = (s.1 846 8) then (if (s.1 846 7) ≤ x1 then (some (s))
 else (k_X3_late_31 x1 x2 s))
 else (some (s))))
set_option maxRecDepth 4000 in
set_option maxHeartbeats 1000000 in
theorem C_X3_late (x1 : Int32) (x2 : Int32) (s : t_S) (r : t_S) (hr : f_X3_late x1 x2 s = some r) : t_C yX3_late cX3_late 3 none 0 [.ref 846, .int x1, .int x2] s (fun v s' => v = none ∧ s' = r) := by
  refine t_C.imp (P := fun v s' => v = none ∧ (fun q => q = r) (s')) (t_C.of (by decide +kernel) (Nat.le_of_ble_eq_true rfl) ?_) (fun v s' hp => hp)
  intro D cy ad bs X
  have hk : t_hk (f_X3_late x1 x2 s) (fun q => q = r) := ⟨r, hr, rfl⟩
  show mj_G D cy ad bs X cX3_late 3 yX3_late.cls none yX3_late.name 0 0 0 1065 (t_P (fun v s' => v = none ∧ (fun q => q = r) (s'))) 0 [(0, .ref 846), (1, .int x1), (2, .int x2)] [] (t_m s) 1065 0 0
  refine mj_aload_n dX3_late_0 0 rfl ?_
  refine t_getI dX3_late_1 F_X3_38 qf_846_7 ?_
  refine mj_if_eq 31 dX3_late_4 (by decide) (fun z => t_posK hk z (fun hk => ?_)) (fun z => t_negK hk z (fun hk => ?_))
  · exact B_X3_late_31 _ _ _ _ hk
  · refine mj_iload_n dX3_late_7 2 rfl ?_
    refine mj_aload_n dX3_late_8 0 rfl ?_
    refine t_getI dX3_late_9 F_X3_41 qf_846_8 ?_
    refine mj_icmp_lt 31 dX3_late_12 (by decide) (fun z => t_posK hk z (fun hk => ?_)) (fun z => t_negK hk z (fun hk => ?_))
    · exact B_X3_late_31 _ _ _ _ hk
    · refine mj_iload_n dX3_late_15 2 rfl ?_
      refine mj_aload_n dX3_late_16 0 rfl ?_
      refine t_getI dX3_late_17 F_X3_41 qf_846_8 ?_
      refine mj_icmp_ne 41 dX3_late_20 (by decide) (fun z => t_negK hk z (fun hk => ?_)) (fun z => t_posK hk z (fun hk => ?_))
      · exact t_somK hk (fun hf => t_vret dX3_late_41 rfl ⟨rfl, hf⟩ (Nat.le_of_ble_eq_true rfl) (Nat.le_of_ble_eq_true rfl))
      · refine mj_iload_n dX3_late_23 1 rfl ?_
        refine mj_aload_n dX3_late_24 0 rfl ?_
        refine t_getI dX3_late_25 F_X3_38 qf_846_7 ?_
        refine mj_icmp_ge 41 dX3_late_28 (by decide) (fun z => t_posK hk z (fun hk => ?_)) (fun z => t_negK hk z (fun hk => ?_))
        · exact t_somK hk (fun hf => t_vret dX3_late_41 rfl ⟨rfl, hf⟩ (Nat.le_of_ble_eq_true rfl) (Nat.le_of_ble_eq_true rfl))
        · exact B_X3_late_31 _ _ _ _ hk

theorem dX3_put_0 : decode cX3_put 0 = .ok (.aload_n 0, 1) := by decide +kernel
theorem dX3_put_1 : decode cX3_put 1 = .ok (.getfield 30, 3) := by decide +kernel
theorem dX3_put_10 : decode cX3_put 10 = .ok (.iload_n 3, 1) := by decide +kernel
theorem dX3_put_11 : decode cX3_put 11 = .ok (.iastore, 1) := by decide +kernel
theorem dX3_put_12 : decode cX3_put 12 = .ok (.iload_n 3, 1) := by decide +kernel
theorem dX3_put_13 : decode cX3_put 13 = .ok (.ifCond .lt 7, 3) := by decide +kernel
theorem dX3_put_16 : decode cX3_put 16 = .ok (.iconst 1, 1) := by decide +kernel
theorem dX3_put_17 : decode cX3_put 17 = .ok (.goto 4, 3) := by decide +kernel
theorem dX3_put_20 : decode cX3_put 20 = .ok (.iconst 0, 1) := by decide +kernel
theorem dX3_put_21 : decode cX3_put 21 = .ok (.ireturn, 1) := by decide +kernel
theorem dX3_put_4 : decode cX3_put 4 = .ok (.getfield 118, 3) := by decide +kernel
theorem dX3_put_7 : decode cX3_put 7 = .ok (.iload_n 1, 1) := by decide +kernel
theorem dX3_put_8 : decode cX3_put 8 = .ok (.aaload, 1) := by decide +kernel
theorem dX3_put_9 : decode cX3_put 9 = .ok (.iload_n 2, 1) := by decide +kernel
noncomputable def f_X3_put (x1 : Int32) (x2 : Int32) (x3 : Int32) (s : t_S) : Option (Int32 × t_S) :=
 if t_ix x1 400 = true then
  if t_ix x2 12 = true then
  t_let (t_setI s (445 + 1 * (x1.toNatClampNeg)) (x2.toNatClampNeg) x3) (fun s1 =>
 if x3 < (0 : Int32) then (some ((0 : Int32), s1))
 else (some ((1 : Int32), s1)))
else none
else none
set_option maxRecDepth 4000 in
set_option maxHeartbeats 1000000 in
theorem C_X3_put (x1 : Int32) (x2 : Int32) (x3 : Int32) (s : t_S) (r : Int32 × t_S) (hr : f_X3_put x1 x2 x3 s = some r) : t_C yX3_put cX3_put 4 (some .boolean) 0 [.ref 846, .int x1, .int x2, .int x3] s (fun v s' => v = some (.int r.1) ∧ s' = r.2) := by
  refine t_C.imp (P := fun v s' => ∃ x, v = some (.int x) ∧ (fun q => q = r) ((x, s'))) (t_C.of (by decide +kernel) (Nat.le_of_ble_eq_true rfl) ?_) (fun v s' hp => by obtain ⟨x, rfl, rfl⟩ := hp; exact ⟨rfl, rfl⟩)
  intro D cy ad bs X
  have hk : t_hk (f_X3_put x1 x2 x3 s) (fun q => q = r) := ⟨r, hr, rfl⟩
  show mj_G D cy ad bs X cX3_put 4 yX3_put.cls (some .boolean) yX3_put.name 0 0 0 1065 (t_P (fun v s' => ∃ x, v = some (.int x) ∧ (fun q => q = r) ((x, s')))) 0 [(0, .ref 846), (1, .int x1), (2, .int x2), (3, .int x3)] [] (t_m s) 1065 0 0
  refine mj_aload_n dX3_put_0 0 rfl ?_
  refine t_getR 428 dX3_put_1 F_X3_30 qr_846_4 ?_
  refine t_getR 444 dX3_put_4 F_X3_118 qr_428_17 ?_
  refine mj_iload_n dX3_put_7 1 rfl ?_
  refine t_chkK hk (fun c0 hk => ?_)
  refine t_aaldI dX3_put_8 qq_444 (t_ixv c0) ?_
  refine mj_iload_n dX3_put_9 2 rfl ?_
  refine mj_iload_n dX3_put_10 3 rfl ?_
  refine t_chkK hk (fun c1 hk => ?_)
  refine t_iastK dX3_put_11 (t_row445 (t_ixn c0)) (t_ixv c1) (fun s1 ws1 => t_letE hk ws1 (fun hk => ?_))
  refine mj_iload_n dX3_put_12 3 rfl ?_
  refine mj_if_lt 20 dX3_put_13 (by decide) (fun z => t_posK hk z (fun hk => ?_)) (fun z => t_negK hk z (fun hk => ?_))
  · refine mj_iconst (v := 0) dX3_put_20 (by decide) ?_
    exact t_somK hk (fun hf => t_iret dX3_put_21 rfl (by decide) ⟨_, rfl, hf⟩ (Nat.le_of_ble_eq_true rfl) (Nat.le_of_ble_eq_true rfl))
  · refine mj_iconst (v := 1) dX3_put_16 (by decide) ?_
    refine mj_goto 21 dX3_put_17 (by decide) ?_
    exact t_somK hk (fun hf => t_iret dX3_put_21 rfl (by decide) ⟨_, rfl, hf⟩ (Nat.le_of_ble_eq_true rfl) (Nat.le_of_ble_eq_true rfl))

theorem dX3_toldAs_0 : decode cX3_toldAs 0 = .ok (.aload_n 0, 1) := by decide +kernel
theorem dX3_toldAs_1 : decode cX3_toldAs 1 = .ok (.getfield 14, 3) := by decide +kernel
theorem dX3_toldAs_10 : decode cX3_toldAs 10 = .ok (.isub, 1) := by decide +kernel
theorem dX3_toldAs_11 : decode cX3_toldAs 11 = .ok (.bipush 100, 2) := by decide +kernel
theorem dX3_toldAs_13 : decode cX3_toldAs 13 = .ok (.iload_n 2, 1) := by decide +kernel
theorem dX3_toldAs_14 : decode cX3_toldAs 14 = .ok (.imul, 1) := by decide +kernel
theorem dX3_toldAs_15 : decode cX3_toldAs 15 = .ok (.isub, 1) := by decide +kernel
theorem dX3_toldAs_16 : decode cX3_toldAs 16 = .ok (.istore_n 3, 1) := by decide +kernel
theorem dX3_toldAs_17 : decode cX3_toldAs 17 = .ok (.iload_n 3, 1) := by decide +kernel
theorem dX3_toldAs_18 : decode cX3_toldAs 18 = .ok (.ifCond .lt 13, 3) := by decide +kernel
theorem dX3_toldAs_21 : decode cX3_toldAs 21 = .ok (.iload_n 3, 1) := by decide +kernel
theorem dX3_toldAs_22 : decode cX3_toldAs 22 = .ok (.bipush 100, 2) := by decide +kernel
theorem dX3_toldAs_24 : decode cX3_toldAs 24 = .ok (.if_icmp .ge 7, 3) := by decide +kernel
theorem dX3_toldAs_27 : decode cX3_toldAs 27 = .ok (.iload_n 3, 1) := by decide +kernel
theorem dX3_toldAs_28 : decode cX3_toldAs 28 = .ok (.goto 4, 3) := by decide +kernel
theorem dX3_toldAs_31 : decode cX3_toldAs 31 = .ok (.iconst (-1), 1) := by decide +kernel
theorem dX3_toldAs_32 : decode cX3_toldAs 32 = .ok (.ireturn, 1) := by decide +kernel
theorem dX3_toldAs_4 : decode cX3_toldAs 4 = .ok (.getfield 77, 3) := by decide +kernel
theorem dX3_toldAs_7 : decode cX3_toldAs 7 = .ok (.iload_n 1, 1) := by decide +kernel
theorem dX3_toldAs_8 : decode cX3_toldAs 8 = .ok (.iaload, 1) := by decide +kernel
theorem dX3_toldAs_9 : decode cX3_toldAs 9 = .ok (.iconst 1, 1) := by decide +kernel
noncomputable def f_X3_toldAs (x1 : Int32) (x2 : Int32) (s : t_S) : Option (Int32) :=
 if t_ix x1 8000 = true then
  if (((s.1 6 (x1.toNatClampNeg)) - (1 : Int32)) - ((100 : Int32) * x2)) < (0 : Int32) then (some (-1 : Int32))
 else (if (100 : Int32) ≤ (((s.1 6 (x1.toNatClampNeg)) - (1 : Int32)) - ((100 : Int32) * x2)) then (some (-1 : Int32))
 else (some (((s.1 6 (x1.toNatClampNeg)) - (1 : Int32)) - ((100 : Int32) * x2))))
else none
set_option maxRecDepth 4000 in
set_option maxHeartbeats 1000000 in
theorem C_X3_toldAs (x1 : Int32) (x2 : Int32) (s : t_S) (r : Int32) (hr : f_X3_toldAs x1 x2 s = some r) : t_C yX3_toldAs cX3_toldAs 4 (some .int) 0 [.ref 846, .int x1, .int x2] s (fun v s' => v = some (.int r) ∧ s' = s) := by
  refine t_C.imp (P := fun v s' => s' = s ∧ ∃ x, v = some (.int x) ∧ (fun q => q = r) (x)) (t_C.of (by decide +kernel) (Nat.le_of_ble_eq_true rfl) ?_) (fun v s' hp => by obtain ⟨rfl, x, rfl, rfl⟩ := hp; exact ⟨rfl, rfl⟩)
  intro D cy ad bs X
  have hk : t_hk (f_X3_toldAs x1 x2 s) (fun q => q = r) := ⟨r, hr, rfl⟩
  show mj_G D cy ad bs X cX3_toldAs 4 yX3_toldAs.cls (some .int) yX3_toldAs.name 0 0 0 1065 (t_P (fun v s' => s' = s ∧ ∃ x, v = some (.int x) ∧ (fun q => q = r) (x))) 0 [(0, .ref 846), (1, .int x1), (2, .int x2)] [] (t_m s) 1065 0 0
  refine mj_aload_n dX3_toldAs_0 0 rfl ?_
  refine t_getR 1 dX3_toldAs_1 F_X3_14 qr_846_0 ?_
  refine t_getR 6 dX3_toldAs_4 F_X3_77 qr_1_14 ?_
  refine mj_iload_n dX3_toldAs_7 1 rfl ?_
  refine t_chkK hk (fun c0 hk => ?_)
  refine t_iald dX3_toldAs_8 qa_6 (t_ixv c0) ?_
  refine mj_iconst (v := 1) dX3_toldAs_9 (by decide) ?_
  refine mj_isub dX3_toldAs_10 ?_
  refine mj_bipush (v := 100) dX3_toldAs_11 (by decide) ?_
  refine mj_iload_n dX3_toldAs_13 2 rfl ?_
  refine mj_imul dX3_toldAs_14 ?_
  refine mj_isub dX3_toldAs_15 ?_
  refine mj_istore_n 3 (lv2 := [(3, .int (((s.1 6 (x1.toNatClampNeg)) - (1 : Int32)) - ((100 : Int32) * x2))), (0, .ref 846), (1, .int x1), (2, .int x2)]) dX3_toldAs_16 rfl (by decide) rfl ?_
  refine mj_iload_n dX3_toldAs_17 0 rfl ?_
  refine mj_if_lt 31 dX3_toldAs_18 (by decide) (fun z => t_posK hk z (fun hk => ?_)) (fun z => t_negK hk z (fun hk => ?_))
  · refine mj_iconst (v := (-1)) dX3_toldAs_31 (by decide) ?_
    exact t_somK hk (fun hf => t_iret dX3_toldAs_32 rfl rfl ⟨rfl, _, rfl, hf⟩ (Nat.le_of_ble_eq_true rfl) (Nat.le_of_ble_eq_true rfl))
  · refine mj_iload_n dX3_toldAs_21 0 rfl ?_
    refine mj_bipush (v := 100) dX3_toldAs_22 (by decide) ?_
    refine mj_icmp_ge 31 dX3_toldAs_24 (by decide) (fun z => t_posK hk z (fun hk => ?_)) (fun z => t_negK hk z (fun hk => ?_))
    · refine mj_iconst (v := (-1)) dX3_toldAs_31 (by decide) ?_
      exact t_somK hk (fun hf => t_iret dX3_toldAs_32 rfl rfl ⟨rfl, _, rfl, hf⟩ (Nat.le_of_ble_eq_true rfl) (Nat.le_of_ble_eq_true rfl))
    · refine mj_iload_n dX3_toldAs_27 0 rfl ?_
      refine mj_goto 32 dX3_toldAs_28 (by decide) ?_
      exact t_somK hk (fun hf => t_iret dX3_toldAs_32 rfl rfl ⟨rfl, _, rfl, hf⟩ (Nat.le_of_ble_eq_true rfl) (Nat.le_of_ble_eq_true rfl))

theorem dX3_settleCall_0 : decode cX3_settleCall 0 = .ok (.aload_n 0, 1) := by decide +kernel
theorem dX3_settleCall_1 : decode cX3_settleCall 1 = .ok (.aload_n 0, 1) := by decide +kernel
theorem dX3_settleCall_10 : decode cX3_settleCall 10 = .ok (.invokevirtual 87, 3) := by decide +kernel
theorem dX3_settleCall_100 : decode cX3_settleCall 100 = .ok (.getfield 11, 3) := by decide +kernel
theorem dX3_settleCall_103 : decode cX3_settleCall 103 = .ok (.iconst 5, 1) := by decide +kernel
theorem dX3_settleCall_104 : decode cX3_settleCall 104 = .ok (.aaload, 1) := by decide +kernel
theorem dX3_settleCall_105 : decode cX3_settleCall 105 = .ok (.iload_n 1, 1) := by decide +kernel
theorem dX3_settleCall_106 : decode cX3_settleCall 106 = .ok (.iaload, 1) := by decide +kernel
theorem dX3_settleCall_107 : decode cX3_settleCall 107 = .ok (.if_icmp .eq 17, 3) := by decide +kernel
theorem dX3_settleCall_110 : decode cX3_settleCall 110 = .ok (.aload_n 0, 1) := by decide +kernel
theorem dX3_settleCall_111 : decode cX3_settleCall 111 = .ok (.bipush 6, 2) := by decide +kernel
theorem dX3_settleCall_113 : decode cX3_settleCall 113 = .ok (.aload_n 0, 1) := by decide +kernel
theorem dX3_settleCall_114 : decode cX3_settleCall 114 = .ok (.getfield 11, 3) := by decide +kernel
theorem dX3_settleCall_117 : decode cX3_settleCall 117 = .ok (.iconst 0, 1) := by decide +kernel
theorem dX3_settleCall_118 : decode cX3_settleCall 118 = .ok (.aaload, 1) := by decide +kernel
theorem dX3_settleCall_119 : decode cX3_settleCall 119 = .ok (.iload_n 1, 1) := by decide +kernel
theorem dX3_settleCall_120 : decode cX3_settleCall 120 = .ok (.iaload, 1) := by decide +kernel
theorem dX3_settleCall_121 : decode cX3_settleCall 121 = .ok (.invokevirtual 52, 3) := by decide +kernel
theorem dX3_settleCall_124 : decode cX3_settleCall 124 = .ok (.aload_n 0, 1) := by decide +kernel
theorem dX3_settleCall_125 : decode cX3_settleCall 125 = .ok (.aload_n 0, 1) := by decide +kernel
theorem dX3_settleCall_126 : decode cX3_settleCall 126 = .ok (.getfield 11, 3) := by decide +kernel
theorem dX3_settleCall_129 : decode cX3_settleCall 129 = .ok (.iconst 4, 1) := by decide +kernel
theorem dX3_settleCall_13 : decode cX3_settleCall 13 = .ok (.istore_n 2, 1) := by decide +kernel
theorem dX3_settleCall_130 : decode cX3_settleCall 130 = .ok (.aaload, 1) := by decide +kernel
theorem dX3_settleCall_131 : decode cX3_settleCall 131 = .ok (.iload_n 1, 1) := by decide +kernel
theorem dX3_settleCall_132 : decode cX3_settleCall 132 = .ok (.iaload, 1) := by decide +kernel
theorem dX3_settleCall_133 : decode cX3_settleCall 133 = .ok (.bipush 6, 2) := by decide +kernel
theorem dX3_settleCall_135 : decode cX3_settleCall 135 = .ok (.iload_n 2, 1) := by decide +kernel
theorem dX3_settleCall_136 : decode cX3_settleCall 136 = .ok (.invokevirtual 100, 3) := by decide +kernel
theorem dX3_settleCall_139 : decode cX3_settleCall 139 = .ok (.ireturn, 1) := by decide +kernel
theorem dX3_settleCall_14 : decode cX3_settleCall 14 = .ok (.aload_n 0, 1) := by decide +kernel
theorem dX3_settleCall_15 : decode cX3_settleCall 15 = .ok (.getfield 11, 3) := by decide +kernel
theorem dX3_settleCall_18 : decode cX3_settleCall 18 = .ok (.iconst 1, 1) := by decide +kernel
theorem dX3_settleCall_19 : decode cX3_settleCall 19 = .ok (.aaload, 1) := by decide +kernel
theorem dX3_settleCall_2 : decode cX3_settleCall 2 = .ok (.getfield 11, 3) := by decide +kernel
theorem dX3_settleCall_20 : decode cX3_settleCall 20 = .ok (.iload_n 1, 1) := by decide +kernel
theorem dX3_settleCall_21 : decode cX3_settleCall 21 = .ok (.iaload, 1) := by decide +kernel
theorem dX3_settleCall_22 : decode cX3_settleCall 22 = .ok (.istore_n 3, 1) := by decide +kernel
theorem dX3_settleCall_23 : decode cX3_settleCall 23 = .ok (.iload_n 2, 1) := by decide +kernel
theorem dX3_settleCall_24 : decode cX3_settleCall 24 = .ok (.ifCond .ge 5, 3) := by decide +kernel
theorem dX3_settleCall_27 : decode cX3_settleCall 27 = .ok (.iconst 0, 1) := by decide +kernel
theorem dX3_settleCall_28 : decode cX3_settleCall 28 = .ok (.ireturn, 1) := by decide +kernel
theorem dX3_settleCall_29 : decode cX3_settleCall 29 = .ok (.aload_n 0, 1) := by decide +kernel
theorem dX3_settleCall_30 : decode cX3_settleCall 30 = .ok (.getfield 30, 3) := by decide +kernel
theorem dX3_settleCall_33 : decode cX3_settleCall 33 = .ok (.getfield 148, 3) := by decide +kernel
theorem dX3_settleCall_36 : decode cX3_settleCall 36 = .ok (.iload_n 2, 1) := by decide +kernel
theorem dX3_settleCall_37 : decode cX3_settleCall 37 = .ok (.iaload, 1) := by decide +kernel
theorem dX3_settleCall_38 : decode cX3_settleCall 38 = .ok (.iload_n 3, 1) := by decide +kernel
theorem dX3_settleCall_39 : decode cX3_settleCall 39 = .ok (.bipush 10, 2) := by decide +kernel
theorem dX3_settleCall_41 : decode cX3_settleCall 41 = .ok (.if_icmp .ne 7, 3) := by decide +kernel
theorem dX3_settleCall_44 : decode cX3_settleCall 44 = .ok (.iconst 1, 1) := by decide +kernel
theorem dX3_settleCall_45 : decode cX3_settleCall 45 = .ok (.goto 4, 3) := by decide +kernel
theorem dX3_settleCall_48 : decode cX3_settleCall 48 = .ok (.iconst 0, 1) := by decide +kernel
theorem dX3_settleCall_49 : decode cX3_settleCall 49 = .ok (.if_icmp .eq 5, 3) := by decide +kernel
theorem dX3_settleCall_5 : decode cX3_settleCall 5 = .ok (.iconst 2, 1) := by decide +kernel
theorem dX3_settleCall_52 : decode cX3_settleCall 52 = .ok (.iconst 0, 1) := by decide +kernel
theorem dX3_settleCall_53 : decode cX3_settleCall 53 = .ok (.ireturn, 1) := by decide +kernel
theorem dX3_settleCall_54 : decode cX3_settleCall 54 = .ok (.iload_n 3, 1) := by decide +kernel
theorem dX3_settleCall_55 : decode cX3_settleCall 55 = .ok (.bipush 11, 2) := by decide +kernel
theorem dX3_settleCall_57 : decode cX3_settleCall 57 = .ok (.if_icmp .eq 33, 3) := by decide +kernel
theorem dX3_settleCall_6 : decode cX3_settleCall 6 = .ok (.aaload, 1) := by decide +kernel
theorem dX3_settleCall_60 : decode cX3_settleCall 60 = .ok (.aload_n 0, 1) := by decide +kernel
theorem dX3_settleCall_61 : decode cX3_settleCall 61 = .ok (.getfield 30, 3) := by decide +kernel
theorem dX3_settleCall_64 : decode cX3_settleCall 64 = .ok (.getfield 82, 3) := by decide +kernel
theorem dX3_settleCall_67 : decode cX3_settleCall 67 = .ok (.iload_n 2, 1) := by decide +kernel
theorem dX3_settleCall_68 : decode cX3_settleCall 68 = .ok (.iaload, 1) := by decide +kernel
theorem dX3_settleCall_69 : decode cX3_settleCall 69 = .ok (.aload_n 0, 1) := by decide +kernel
theorem dX3_settleCall_7 : decode cX3_settleCall 7 = .ok (.iload_n 1, 1) := by decide +kernel
theorem dX3_settleCall_70 : decode cX3_settleCall 70 = .ok (.getfield 30, 3) := by decide +kernel
theorem dX3_settleCall_73 : decode cX3_settleCall 73 = .ok (.getfield 82, 3) := by decide +kernel
theorem dX3_settleCall_76 : decode cX3_settleCall 76 = .ok (.aload_n 0, 1) := by decide +kernel
theorem dX3_settleCall_77 : decode cX3_settleCall 77 = .ok (.getfield 11, 3) := by decide +kernel
theorem dX3_settleCall_8 : decode cX3_settleCall 8 = .ok (.iaload, 1) := by decide +kernel
theorem dX3_settleCall_80 : decode cX3_settleCall 80 = .ok (.iconst 3, 1) := by decide +kernel
theorem dX3_settleCall_81 : decode cX3_settleCall 81 = .ok (.aaload, 1) := by decide +kernel
theorem dX3_settleCall_82 : decode cX3_settleCall 82 = .ok (.iload_n 1, 1) := by decide +kernel
theorem dX3_settleCall_83 : decode cX3_settleCall 83 = .ok (.iaload, 1) := by decide +kernel
theorem dX3_settleCall_84 : decode cX3_settleCall 84 = .ok (.iaload, 1) := by decide +kernel
theorem dX3_settleCall_85 : decode cX3_settleCall 85 = .ok (.if_icmp .eq 5, 3) := by decide +kernel
theorem dX3_settleCall_88 : decode cX3_settleCall 88 = .ok (.iconst 0, 1) := by decide +kernel
theorem dX3_settleCall_89 : decode cX3_settleCall 89 = .ok (.ireturn, 1) := by decide +kernel
theorem dX3_settleCall_9 : decode cX3_settleCall 9 = .ok (.iconst 3, 1) := by decide +kernel
theorem dX3_settleCall_90 : decode cX3_settleCall 90 = .ok (.aload_n 0, 1) := by decide +kernel
theorem dX3_settleCall_91 : decode cX3_settleCall 91 = .ok (.getfield 30, 3) := by decide +kernel
theorem dX3_settleCall_94 : decode cX3_settleCall 94 = .ok (.getfield 151, 3) := by decide +kernel
theorem dX3_settleCall_97 : decode cX3_settleCall 97 = .ok (.iload_n 2, 1) := by decide +kernel
theorem dX3_settleCall_98 : decode cX3_settleCall 98 = .ok (.iaload, 1) := by decide +kernel
theorem dX3_settleCall_99 : decode cX3_settleCall 99 = .ok (.aload_n 0, 1) := by decide +kernel
noncomputable def k_X3_settleCall_124 (l1 : Int32) (l2 : Int32) (s : t_S) : Option (Int32 × t_S) :=
 if t_ix l1 6002 = true then
  (f_X3_put (s.1 (848 + 1 * ((4 : Int32).toNatClampNeg)) (l1.toNatClampNeg)) (6 : Int32) l2 s).bind (fun r2 =>
 if r2.1 = 0 ∨ r2.1 = 1 then
  some (r2.1, r2.2)
else none)
else none
set_option maxRecDepth 4000 in
set_option maxHeartbeats 1000000 in
theorem B_X3_settleCall_124 {D : va_G} {cy : Nat → ClassId} {ad : Nat → Nat} {bs : Nat} {X : State → Heap → Prop} (l1 : Int32) (l2 : Int32) (s : t_S) (Q : Int32 × t_S → Prop) (hk : t_hk (k_X3_settleCall_124 l1 l2 s) Q) : mj_G D cy ad bs X cX3_settleCall 4 yX3_settleCall.cls (some .boolean) yX3_settleCall.name 1 0 0 1065 (t_P (fun v s' => ∃ x, v = some (.int x) ∧ Q ((x, s')))) 124 [(0, .ref 846), (1, .int l1), (2, .int l2)] [] (t_m s) 1065 0 0 := by
  refine mj_aload_n dX3_settleCall_124 0 rfl ?_
  refine mj_aload_n dX3_settleCall_125 0 rfl ?_
  refine t_getR 847 dX3_settleCall_126 F_X3_11 qr_846_5 ?_
  refine mj_iconst (v := 4) dX3_settleCall_129 (by decide) ?_
  refine t_aaldI dX3_settleCall_130 qq_847 (by unfold vp_in; decide) ?_
  refine mj_iload_n dX3_settleCall_131 1 rfl ?_
  refine t_chkK hk (fun c0 hk => ?_)
  refine t_iald dX3_settleCall_132 (t_row848 (by decide)) (t_ixv c0) ?_
  refine mj_bipush (v := 6) dX3_settleCall_133 (by decide) ?_
  refine mj_iload_n dX3_settleCall_135 2 rfl ?_
  refine t_bndK hk (fun r2 er2 hk => ?_)
  refine t_callViE dX3_settleCall_136 M_X3_put (C_X3_put _ _ _ _ _ er2) ML_X3_100 IM_X3_put SE_X3_put qc_846 rfl (As := [.int (s.1 (848 + 1 * ((4 : Int32).toNatClampNeg)) (l1.toNatClampNeg)), .int 6, .int l2]) rfl rfl (Nat.le_of_ble_eq_true rfl) (Nat.le_of_ble_eq_true rfl) (Nat.le_of_ble_eq_true rfl) (Nat.le_of_ble_eq_true rfl) ?_
  refine t_chkK hk (fun c2 hk => ?_)
  exact t_somK hk (fun hf => t_iret dX3_settleCall_139 rfl (t_zfit c2) ⟨_, rfl, hf⟩ (Nat.le_of_ble_eq_true rfl) (Nat.le_of_ble_eq_true rfl))
noncomputable def k_X3_settleCall_90 (l1 : Int32) (l2 : Int32) (s : t_S) : Option (Int32 × t_S) :=
 if t_ix l2 40 = true then
  if t_ix l1 6002 = true then
  if (s.1 439 (l2.toNatClampNeg)) = (s.1 (848 + 1 * ((5 : Int32).toNatClampNeg)) (l1.toNatClampNeg)) then (k_X3_settleCall_124 l1 l2 s)
 else ((f_X3_late (6 : Int32) (s.1 (848 + 1 * ((0 : Int32).toNatClampNeg)) (l1.toNatClampNeg)) s).bind (fun r3 =>
 k_X3_settleCall_124 l1 l2 r3))
else none
else none
set_option maxRecDepth 4000 in
set_option maxHeartbeats 1000000 in
theorem B_X3_settleCall_90 {D : va_G} {cy : Nat → ClassId} {ad : Nat → Nat} {bs : Nat} {X : State → Heap → Prop} (l1 : Int32) (l2 : Int32) (s : t_S) (Q : Int32 × t_S → Prop) (hk : t_hk (k_X3_settleCall_90 l1 l2 s) Q) : mj_G D cy ad bs X cX3_settleCall 4 yX3_settleCall.cls (some .boolean) yX3_settleCall.name 1 0 0 1065 (t_P (fun v s' => ∃ x, v = some (.int x) ∧ Q ((x, s')))) 90 [(0, .ref 846), (1, .int l1), (2, .int l2)] [] (t_m s) 1065 0 0 := by
  refine mj_aload_n dX3_settleCall_90 0 rfl ?_
  refine t_getR 428 dX3_settleCall_91 F_X3_30 qr_846_4 ?_
  refine t_getR 439 dX3_settleCall_94 F_X3_151 qr_428_12 ?_
  refine mj_iload_n dX3_settleCall_97 2 rfl ?_
  refine t_chkK hk (fun c0 hk => ?_)
  refine t_iald dX3_settleCall_98 qa_439 (t_ixv c0) ?_
  refine mj_aload_n dX3_settleCall_99 0 rfl ?_
  refine t_getR 847 dX3_settleCall_100 F_X3_11 qr_846_5 ?_
  refine mj_iconst (v := 5) dX3_settleCall_103 (by decide) ?_
  refine t_aaldI dX3_settleCall_104 qq_847 (by unfold vp_in; decide) ?_
  refine mj_iload_n dX3_settleCall_105 1 rfl ?_
  refine t_chkK hk (fun c1 hk => ?_)
  refine t_iald dX3_settleCall_106 (t_row848 (by decide)) (t_ixv c1) ?_
  refine mj_icmp_eq 124 dX3_settleCall_107 (by decide) (fun z => t_posK hk z (fun hk => ?_)) (fun z => t_negK hk z (fun hk => ?_))
  · exact B_X3_settleCall_124 _ _ _ _ hk
  · refine mj_aload_n dX3_settleCall_110 0 rfl ?_
    refine mj_bipush (v := 6) dX3_settleCall_111 (by decide) ?_
    refine mj_aload_n dX3_settleCall_113 0 rfl ?_
    refine t_getR 847 dX3_settleCall_114 F_X3_11 qr_846_5 ?_
    refine mj_iconst (v := 0) dX3_settleCall_117 (by decide) ?_
    refine t_aaldI dX3_settleCall_118 qq_847 (by unfold vp_in; decide) ?_
    refine mj_iload_n dX3_settleCall_119 1 rfl ?_
    refine t_iald dX3_settleCall_120 (t_row848 (by decide)) (t_ixv c1) ?_
    refine t_bndK hk (fun r3 er3 hk => ?_)
    refine t_callVvE dX3_settleCall_121 M_X3_late (C_X3_late _ _ _ _ er3) ML_X3_52 IM_X3_late SE_X3_late qc_846 rfl (As := [.int 6, .int (s.1 (848 + 1 * ((0 : Int32).toNatClampNeg)) (l1.toNatClampNeg))]) rfl rfl (Nat.le_of_ble_eq_true rfl) (Nat.le_of_ble_eq_true rfl) (Nat.le_of_ble_eq_true rfl) (Nat.le_of_ble_eq_true rfl) ?_
    exact B_X3_settleCall_124 _ _ _ _ hk
noncomputable def k_X3_settleCall_49 (l1 : Int32) (l2 : Int32) (l3 : Int32) (k0 : Int32) (k1 : Int32) (s : t_S) : Option (Int32 × t_S) :=
 if k1 = k0 then (if l3 = (11 : Int32) then (k_X3_settleCall_90 l1 l2 s)
 else (if t_ix l2 40 = true then
  if t_ix l1 6002 = true then
  if t_ix (s.1 (848 + 1 * ((3 : Int32).toNatClampNeg)) (l1.toNatClampNeg)) 40 = true then
  if (s.1 438 (l2.toNatClampNeg)) = (s.1 438 ((s.1 (848 + 1 * ((3 : Int32).toNatClampNeg)) (l1.toNatClampNeg)).toNatClampNeg)) then (k_X3_settleCall_90 l1 l2 s)
 else (some ((0 : Int32), s))
else none
else none
else none))
 else (some ((0 : Int32), s))
set_option maxRecDepth 4000 in
set_option maxHeartbeats 1000000 in
theorem B_X3_settleCall_49 {D : va_G} {cy : Nat → ClassId} {ad : Nat → Nat} {bs : Nat} {X : State → Heap → Prop} (l1 : Int32) (l2 : Int32) (l3 : Int32) (k0 : Int32) (k1 : Int32) (s : t_S) (Q : Int32 × t_S → Prop) (hk : t_hk (k_X3_settleCall_49 l1 l2 l3 k0 k1 s) Q) : mj_G D cy ad bs X cX3_settleCall 4 yX3_settleCall.cls (some .boolean) yX3_settleCall.name 1 0 0 1065 (t_P (fun v s' => ∃ x, v = some (.int x) ∧ Q ((x, s')))) 49 [(0, .ref 846), (1, .int l1), (2, .int l2), (3, .int l3)] [.int k0, .int k1] (t_m s) 1065 0 0 := by
  refine mj_icmp_eq 54 dX3_settleCall_49 (by decide) (fun z => t_posK hk z (fun hk => ?_)) (fun z => t_negK hk z (fun hk => ?_))
  · refine mj_iload_n dX3_settleCall_54 3 rfl ?_
    refine mj_bipush (v := 11) dX3_settleCall_55 (by decide) ?_
    refine mj_icmp_eq 90 dX3_settleCall_57 (by decide) (fun z => t_posK hk z (fun hk => ?_)) (fun z => t_negK hk z (fun hk => ?_))
    · refine mj_sublv [(0, .ref 846), (1, .int l1), (2, .int l2)] [0, 1, 2] rfl ?_
      exact B_X3_settleCall_90 _ _ _ _ hk
    · refine mj_aload_n dX3_settleCall_60 0 rfl ?_
      refine t_getR 428 dX3_settleCall_61 F_X3_30 qr_846_4 ?_
      refine t_getR 438 dX3_settleCall_64 F_X3_82 qr_428_11 ?_
      refine mj_iload_n dX3_settleCall_67 2 rfl ?_
      refine t_chkK hk (fun c0 hk => ?_)
      refine t_iald dX3_settleCall_68 qa_438 (t_ixv c0) ?_
      refine mj_aload_n dX3_settleCall_69 0 rfl ?_
      refine t_getR 428 dX3_settleCall_70 F_X3_30 qr_846_4 ?_
      refine t_getR 438 dX3_settleCall_73 F_X3_82 qr_428_11 ?_
      refine mj_aload_n dX3_settleCall_76 0 rfl ?_
      refine t_getR 847 dX3_settleCall_77 F_X3_11 qr_846_5 ?_
      refine mj_iconst (v := 3) dX3_settleCall_80 (by decide) ?_
      refine t_aaldI dX3_settleCall_81 qq_847 (by unfold vp_in; decide) ?_
      refine mj_iload_n dX3_settleCall_82 1 rfl ?_
      refine t_chkK hk (fun c1 hk => ?_)
      refine t_iald dX3_settleCall_83 (t_row848 (by decide)) (t_ixv c1) ?_
      refine t_chkK hk (fun c2 hk => ?_)
      refine t_iald dX3_settleCall_84 qa_438 (t_ixv c2) ?_
      refine mj_icmp_eq 90 dX3_settleCall_85 (by decide) (fun z => t_posK hk z (fun hk => ?_)) (fun z => t_negK hk z (fun hk => ?_))
      · refine mj_sublv [(0, .ref 846), (1, .int l1), (2, .int l2)] [0, 1, 2] rfl ?_
        exact B_X3_settleCall_90 _ _ _ _ hk
      · refine mj_iconst (v := 0) dX3_settleCall_88 (by decide) ?_
        exact t_somK hk (fun hf => t_iret dX3_settleCall_89 rfl (by decide) ⟨_, rfl, hf⟩ (Nat.le_of_ble_eq_true rfl) (Nat.le_of_ble_eq_true rfl))
  · refine mj_iconst (v := 0) dX3_settleCall_52 (by decide) ?_
    exact t_somK hk (fun hf => t_iret dX3_settleCall_53 rfl (by decide) ⟨_, rfl, hf⟩ (Nat.le_of_ble_eq_true rfl) (Nat.le_of_ble_eq_true rfl))
noncomputable def f_X3_settleCall (x1 : Int32) (s : t_S) : Option (Int32 × t_S) :=
 if t_ix x1 6002 = true then
  (f_X3_toldAs (s.1 (848 + 1 * ((2 : Int32).toNatClampNeg)) (x1.toNatClampNeg)) (3 : Int32) s).bind (fun r2 =>
 if (0 : Int32) ≤ r2 then (if t_ix r2 40 = true then
  if (s.1 (848 + 1 * ((1 : Int32).toNatClampNeg)) (x1.toNatClampNeg)) = (10 : Int32) then (k_X3_settleCall_49 x1 r2 (s.1 (848 + 1 * ((1 : Int32).toNatClampNeg)) (x1.toNatClampNeg)) 1 (s.1 437 (r2.toNatClampNeg)) s)
 else (k_X3_settleCall_49 x1 r2 (s.1 (848 + 1 * ((1 : Int32).toNatClampNeg)) (x1.toNatClampNeg)) 0 (s.1 437 (r2.toNatClampNeg)) s)
else none)
 else (some ((0 : Int32), s)))
else none
set_option maxRecDepth 4000 in
set_option maxHeartbeats 1000000 in
theorem C_X3_settleCall (x1 : Int32) (s : t_S) (r : Int32 × t_S) (hr : f_X3_settleCall x1 s = some r) : t_C yX3_settleCall cX3_settleCall 4 (some .boolean) 1 [.ref 846, .int x1] s (fun v s' => v = some (.int r.1) ∧ s' = r.2) := by
  refine t_C.imp (P := fun v s' => ∃ x, v = some (.int x) ∧ (fun q => q = r) ((x, s'))) (t_C.of (by decide +kernel) (Nat.le_of_ble_eq_true rfl) ?_) (fun v s' hp => by obtain ⟨x, rfl, rfl⟩ := hp; exact ⟨rfl, rfl⟩)
  intro D cy ad bs X
  have hk : t_hk (f_X3_settleCall x1 s) (fun q => q = r) := ⟨r, hr, rfl⟩
  show mj_G D cy ad bs X cX3_settleCall 4 yX3_settleCall.cls (some .boolean) yX3_settleCall.name 1 0 0 1065 (t_P (fun v s' => ∃ x, v = some (.int x) ∧ (fun q => q = r) ((x, s')))) 0 [(0, .ref 846), (1, .int x1)] [] (t_m s) 1065 0 0
  refine mj_aload_n dX3_settleCall_0 0 rfl ?_
  refine mj_aload_n dX3_settleCall_1 0 rfl ?_
  refine t_getR 847 dX3_settleCall_2 F_X3_11 qr_846_5 ?_
  refine mj_iconst (v := 2) dX3_settleCall_5 (by decide) ?_
  refine t_aaldI dX3_settleCall_6 qq_847 (by unfold vp_in; decide) ?_
  refine mj_iload_n dX3_settleCall_7 1 rfl ?_
  refine t_chkK hk (fun c0 hk => ?_)
  refine t_iald dX3_settleCall_8 (t_row848 (by decide)) (t_ixv c0) ?_
  refine mj_iconst (v := 3) dX3_settleCall_9 (by decide) ?_
  refine t_bndK hk (fun r2 er2 hk => ?_)
  refine t_callViP dX3_settleCall_10 M_X3_toldAs (C_X3_toldAs _ _ _ _ er2) ML_X3_87 IM_X3_toldAs SE_X3_toldAs qc_846 rfl (As := [.int (s.1 (848 + 1 * ((2 : Int32).toNatClampNeg)) (x1.toNatClampNeg)), .int 3]) rfl rfl (Nat.le_of_ble_eq_true rfl) (Nat.le_of_ble_eq_true rfl) (Nat.le_of_ble_eq_true rfl) (Nat.le_of_ble_eq_true rfl) ?_
  refine mj_istore_n 2 (lv2 := [(2, .int r2), (0, .ref 846), (1, .int x1)]) dX3_settleCall_13 rfl (by decide) rfl ?_
  refine mj_aload_n dX3_settleCall_14 1 rfl ?_
  refine t_getR 847 dX3_settleCall_15 F_X3_11 qr_846_5 ?_
  refine mj_iconst (v := 1) dX3_settleCall_18 (by decide) ?_
  refine t_aaldI dX3_settleCall_19 qq_847 (by unfold vp_in; decide) ?_
  refine mj_iload_n dX3_settleCall_20 2 rfl ?_
  refine t_iald dX3_settleCall_21 (t_row848 (by decide)) (t_ixv c0) ?_
  refine mj_istore_n 3 (lv2 := [(3, .int (s.1 (848 + 1 * ((1 : Int32).toNatClampNeg)) (x1.toNatClampNeg))), (2, .int r2), (0, .ref 846), (1, .int x1)]) dX3_settleCall_22 rfl (by decide) rfl ?_
  refine mj_iload_n dX3_settleCall_23 1 rfl ?_
  refine mj_if_ge 29 dX3_settleCall_24 (by decide) (fun z => t_posK hk z (fun hk => ?_)) (fun z => t_negK hk z (fun hk => ?_))
  · refine mj_aload_n dX3_settleCall_29 2 rfl ?_
    refine t_getR 428 dX3_settleCall_30 F_X3_30 qr_846_4 ?_
    refine t_getR 437 dX3_settleCall_33 F_X3_148 qr_428_10 ?_
    refine mj_iload_n dX3_settleCall_36 1 rfl ?_
    refine t_chkK hk (fun c2 hk => ?_)
    refine t_iald dX3_settleCall_37 qa_437 (t_ixv c2) ?_
    refine mj_iload_n dX3_settleCall_38 0 rfl ?_
    refine mj_bipush (v := 10) dX3_settleCall_39 (by decide) ?_
    refine mj_icmp_ne 48 dX3_settleCall_41 (by decide) (fun z => t_negK hk z (fun hk => ?_)) (fun z => t_posK hk z (fun hk => ?_))
    · refine mj_iconst (v := 0) dX3_settleCall_48 (by decide) ?_
      refine mj_sublv [(0, .ref 846), (1, .int x1), (2, .int r2), (3, .int (s.1 (848 + 1 * ((1 : Int32).toNatClampNeg)) (x1.toNatClampNeg)))] [2, 3, 1, 0] rfl ?_
      exact B_X3_settleCall_49 _ _ _ _ _ _ _ hk
    · refine mj_iconst (v := 1) dX3_settleCall_44 (by decide) ?_
      refine mj_goto 49 dX3_settleCall_45 (by decide) ?_
      refine mj_sublv [(0, .ref 846), (1, .int x1), (2, .int r2), (3, .int (s.1 (848 + 1 * ((1 : Int32).toNatClampNeg)) (x1.toNatClampNeg)))] [2, 3, 1, 0] rfl ?_
      exact B_X3_settleCall_49 _ _ _ _ _ _ _ hk
  · refine mj_iconst (v := 0) dX3_settleCall_27 (by decide) ?_
    exact t_somK hk (fun hf => t_iret dX3_settleCall_28 rfl (by decide) ⟨_, rfl, hf⟩ (Nat.le_of_ble_eq_true rfl) (Nat.le_of_ble_eq_true rfl))

theorem dX5_find_0 : decode cX5_find 0 = .ok (.iconst 0, 1) := by decide +kernel
theorem dX5_find_1 : decode cX5_find 1 = .ok (.istore 4, 2) := by decide +kernel
theorem dX5_find_10 : decode cX5_find 10 = .ok (.iload_n 1, 1) := by decide +kernel
theorem dX5_find_11 : decode cX5_find 11 = .ok (.iload 4, 2) := by decide +kernel
theorem dX5_find_13 : decode cX5_find 13 = .ok (.iadd, 1) := by decide +kernel
theorem dX5_find_14 : decode cX5_find 14 = .ok (.iaload, 1) := by decide +kernel
theorem dX5_find_15 : decode cX5_find 15 = .ok (.iload_n 3, 1) := by decide +kernel
theorem dX5_find_16 : decode cX5_find 16 = .ok (.if_icmp .ne 6, 3) := by decide +kernel
theorem dX5_find_19 : decode cX5_find 19 = .ok (.iload 4, 2) := by decide +kernel
theorem dX5_find_21 : decode cX5_find 21 = .ok (.ireturn, 1) := by decide +kernel
theorem dX5_find_22 : decode cX5_find 22 = .ok (.iinc 4 1, 3) := by decide +kernel
theorem dX5_find_25 : decode cX5_find 25 = .ok (.goto (-22), 3) := by decide +kernel
theorem dX5_find_28 : decode cX5_find 28 = .ok (.iconst (-1), 1) := by decide +kernel
theorem dX5_find_29 : decode cX5_find 29 = .ok (.ireturn, 1) := by decide +kernel
theorem dX5_find_3 : decode cX5_find 3 = .ok (.iload 4, 2) := by decide +kernel
theorem dX5_find_5 : decode cX5_find 5 = .ok (.iload_n 2, 1) := by decide +kernel
theorem dX5_find_6 : decode cX5_find 6 = .ok (.if_icmp .ge 22, 3) := by decide +kernel
theorem dX5_find_9 : decode cX5_find 9 = .ok (.aload_n 0, 1) := by decide +kernel
noncomputable def k_X5_find_3 (l0 : Nat) (l1 : Int32) (l2 : Int32) (l3 : Int32) (l4 : Int32) (s : t_S) : Option ((Nat × Int32 × Int32 × Int32 × Int32) ⊕ (Int32)) :=
 if l2 ≤ l4 then ((some (-1 : Int32)).map Sum.inr)
 else (if t_oka l0 1 (t_ln l0) = true then
  if t_ix (l1 + l4) (t_ln l0) = true then
  if (s.1 l0 ((l1 + l4).toNatClampNeg)) = l3 then ((some (l4)).map Sum.inr)
 else (some (.inl (l0, l1, l2, l3, (l4 + 1))))
else none
else none)
set_option maxRecDepth 4000 in
set_option maxHeartbeats 1000000 in
theorem B_X5_find_3 {D : va_G} {cy : Nat → ClassId} {ad : Nat → Nat} {bs : Nat} {X : State → Heap → Prop} (l0 : Nat) (l1 : Int32) (l2 : Int32) (l3 : Int32) (l4 : Int32) (s : t_S) (Q : (Nat × Int32 × Int32 × Int32 × Int32) ⊕ (Int32) → Prop) (Hb3 : ∀ (y0 : Nat) (y1 : Int32) (y2 : Int32) (y3 : Int32) (y4 : Int32), Q (.inl (y0, y1, y2, y3, y4)) → mj_G D cy ad bs X cX5_find 5 yX5_find.cls (some .int) yX5_find.name 0 0 0 1065 (t_P (fun v s' => s' = s ∧ ∃ x, v = some (.int x) ∧ Q (.inr (x)))) 3 [(0, .ref (y0)), (1, .int (y1)), (2, .int (y2)), (3, .int (y3)), (4, .int (y4))] [] (t_m s) 1065 0 0) (hk : t_hk (k_X5_find_3 l0 l1 l2 l3 l4 s) Q) : mj_G D cy ad bs X cX5_find 5 yX5_find.cls (some .int) yX5_find.name 0 0 0 1065 (t_P (fun v s' => s' = s ∧ ∃ x, v = some (.int x) ∧ Q (.inr (x)))) 3 [(0, .ref l0), (1, .int l1), (2, .int l2), (3, .int l3), (4, .int l4)] [] (t_m s) 1065 0 0 := by
  refine mj_iload dX5_find_3 4 rfl ?_
  refine mj_iload_n dX5_find_5 2 rfl ?_
  refine mj_icmp_ge 28 dX5_find_6 (by decide) (fun z => t_posK hk z (fun hk => ?_)) (fun z => t_negK hk z (fun hk => ?_))
  · refine t_mapK hk (fun hk => ?_)
    refine mj_iconst (v := (-1)) dX5_find_28 (by decide) ?_
    exact t_somK hk (fun hf => t_iret dX5_find_29 rfl rfl ⟨rfl, _, rfl, hf⟩ (Nat.le_of_ble_eq_true rfl) (Nat.le_of_ble_eq_true rfl))
  · refine mj_aload_n dX5_find_9 0 rfl ?_
    refine mj_iload_n dX5_find_10 1 rfl ?_
    refine mj_iload dX5_find_11 4 rfl ?_
    refine mj_iadd dX5_find_13 ?_
    refine t_chkK hk (fun c0 hk => ?_)
    refine t_chkK hk (fun c1 hk => ?_)
    refine t_iald dX5_find_14 c0 (t_ixv c1) ?_
    refine mj_iload_n dX5_find_15 3 rfl ?_
    refine mj_icmp_ne 22 dX5_find_16 (by decide) (fun z => t_negK hk z (fun hk => ?_)) (fun z => t_posK hk z (fun hk => ?_))
    · refine mj_iinc (k := 4) (v := (l4 + 1)) (lv2 := [(4, .int (l4 + 1)), (0, .ref l0), (1, .int l1), (2, .int l2), (3, .int l3)]) dX5_find_22 rfl rfl (by decide) rfl ?_
      refine mj_goto 3 dX5_find_25 (by decide) ?_
      refine mj_sublv [(0, .ref l0), (1, .int l1), (2, .int l2), (3, .int l3), (4, .int (l4 + 1))] [1, 2, 3, 4, 0] rfl ?_
      exact t_somK hk (fun hf => Hb3 l0 l1 l2 l3 (l4 + 1) hf)
    · refine t_mapK hk (fun hk => ?_)
      refine mj_iload dX5_find_19 4 rfl ?_
      exact t_somK hk (fun hf => t_iret dX5_find_21 rfl rfl ⟨rfl, _, rfl, hf⟩ (Nat.le_of_ble_eq_true rfl) (Nat.le_of_ble_eq_true rfl))
noncomputable def b_X5_find_3 (s : t_S) (x : Nat × Int32 × Int32 × Int32 × Int32) : Option ((Nat × Int32 × Int32 × Int32 × Int32) ⊕ (Int32)) := k_X5_find_3 x.1 x.2.1 x.2.2.1 x.2.2.2.1 x.2.2.2.2 s
set_option maxRecDepth 4000 in
set_option maxHeartbeats 1000000 in
theorem LH_X5_find_3 {D : va_G} {cy : Nat → ClassId} {ad : Nat → Nat} {bs : Nat} {X : State → Heap → Prop} (s : t_S) : ∀ (n : Nat) (y0 : Nat) (y1 : Int32) (y2 : Int32) (y3 : Int32) (y4 : Int32) (Q : Int32 → Prop) (hk : t_hk (t_loop (b_X5_find_3 s) n (y0, y1, y2, y3, y4)) Q), mj_G D cy ad bs X cX5_find 5 yX5_find.cls (some .int) yX5_find.name 0 0 0 1065 (t_P (fun v s' => s' = s ∧ ∃ x, v = some (.int x) ∧ Q (x))) 3 [(0, .ref (y0)), (1, .int (y1)), (2, .int (y2)), (3, .int (y3)), (4, .int (y4))] [] (t_m s) 1065 0 0 := by
  intro n
  induction n with
  | zero => intro y0 y1 y2 y3 y4 Q hk; obtain ⟨r, hr, _⟩ := hk; cases hr
  | succ n ih =>
    intro y0 y1 y2 y3 y4 Q hk
    exact B_X5_find_3 y0 y1 y2 y3 y4 s (fun y => t_lq (b_X5_find_3 s) n Q y) (fun y0' y1' y2' y3' y4' hy => ih y0' y1' y2' y3' y4' Q hy) (t_lp hk)
noncomputable def f_X5_find (x1 : Nat) (x2 : Int32) (x3 : Int32) (x4 : Int32) (s : t_S) : Option (Int32) :=
 t_loop (b_X5_find_3 s) t_N (x1, x2, x3, x4, 0)
set_option maxRecDepth 4000 in
set_option maxHeartbeats 1000000 in
theorem C_X5_find (x1 : Nat) (x2 : Int32) (x3 : Int32) (x4 : Int32) (s : t_S) (r : Int32) (hr : f_X5_find x1 x2 x3 x4 s = some r) : t_C yX5_find cX5_find 5 (some .int) 0 [.ref x1, .int x2, .int x3, .int x4] s (fun v s' => v = some (.int r) ∧ s' = s) := by
  refine t_C.imp (P := fun v s' => s' = s ∧ ∃ x, v = some (.int x) ∧ (fun q => q = r) (x)) (t_C.of (by decide +kernel) (Nat.le_of_ble_eq_true rfl) ?_) (fun v s' hp => by obtain ⟨rfl, x, rfl, rfl⟩ := hp; exact ⟨rfl, rfl⟩)
  intro D cy ad bs X
  have hk : t_hk (f_X5_find x1 x2 x3 x4 s) (fun q => q = r) := ⟨r, hr, rfl⟩
  show mj_G D cy ad bs X cX5_find 5 yX5_find.cls (some .int) yX5_find.name 0 0 0 1065 (t_P (fun v s' => s' = s ∧ ∃ x, v = some (.int x) ∧ (fun q => q = r) (x))) 0 [(0, .ref x1), (1, .int x2), (2, .int x3), (3, .int x4)] [] (t_m s) 1065 0 0
  refine mj_iconst (v := 0) dX5_find_0 (by decide) ?_
  refine mj_istore (lv2 := [(4, .int 0), (0, .ref x1), (1, .int x2), (2, .int x3), (3, .int x4)]) dX5_find_1 (by decide) rfl ?_
  refine mj_sublv [(0, .ref x1), (1, .int x2), (2, .int x3), (3, .int x4), (4, .int 0)] [1, 2, 3, 4, 0] rfl ?_
  exact LH_X5_find_3 _ _ x1 x2 x3 x4 0 _ hk

theorem dX5_portOf_0 : decode cX5_portOf 0 = .ok (.iload_n 1, 1) := by decide +kernel
theorem dX5_portOf_1 : decode cX5_portOf 1 = .ok (.ifCond .ge 7, 3) := by decide +kernel
theorem dX5_portOf_12 : decode cX5_portOf 12 = .ok (.iload_n 1, 1) := by decide +kernel
theorem dX5_portOf_13 : decode cX5_portOf 13 = .ok (.bipush 6, 2) := by decide +kernel
theorem dX5_portOf_15 : decode cX5_portOf 15 = .ok (.imul, 1) := by decide +kernel
theorem dX5_portOf_16 : decode cX5_portOf 16 = .ok (.aload_n 0, 1) := by decide +kernel
theorem dX5_portOf_17 : decode cX5_portOf 17 = .ok (.getfield 9, 3) := by decide +kernel
theorem dX5_portOf_20 : decode cX5_portOf 20 = .ok (.iload_n 1, 1) := by decide +kernel
theorem dX5_portOf_21 : decode cX5_portOf 21 = .ok (.iaload, 1) := by decide +kernel
theorem dX5_portOf_22 : decode cX5_portOf 22 = .ok (.iload_n 2, 1) := by decide +kernel
theorem dX5_portOf_23 : decode cX5_portOf 23 = .ok (.invokestatic 76, 3) := by decide +kernel
theorem dX5_portOf_26 : decode cX5_portOf 26 = .ok (.ireturn, 1) := by decide +kernel
theorem dX5_portOf_4 : decode cX5_portOf 4 = .ok (.iconst (-1), 1) := by decide +kernel
theorem dX5_portOf_5 : decode cX5_portOf 5 = .ok (.goto 21, 3) := by decide +kernel
theorem dX5_portOf_8 : decode cX5_portOf 8 = .ok (.aload_n 0, 1) := by decide +kernel
theorem dX5_portOf_9 : decode cX5_portOf 9 = .ok (.getfield 13, 3) := by decide +kernel
noncomputable def f_X5_portOf (x1 : Int32) (x2 : Int32) (s : t_S) : Option (Int32) :=
 if (0 : Int32) ≤ x1 then (if t_ix x1 8 = true then
  (f_X5_find 430 (x1 * (6 : Int32)) (s.1 429 (x1.toNatClampNeg)) x2 s).bind (fun r2 =>
 some (r2))
else none)
 else (some (-1 : Int32))
set_option maxRecDepth 4000 in
set_option maxHeartbeats 1000000 in
theorem C_X5_portOf (x1 : Int32) (x2 : Int32) (s : t_S) (r : Int32) (hr : f_X5_portOf x1 x2 s = some r) : t_C yX5_portOf cX5_portOf 3 (some .int) 1 [.ref 428, .int x1, .int x2] s (fun v s' => v = some (.int r) ∧ s' = s) := by
  refine t_C.imp (P := fun v s' => s' = s ∧ ∃ x, v = some (.int x) ∧ (fun q => q = r) (x)) (t_C.of (by decide +kernel) (Nat.le_of_ble_eq_true rfl) ?_) (fun v s' hp => by obtain ⟨rfl, x, rfl, rfl⟩ := hp; exact ⟨rfl, rfl⟩)
  intro D cy ad bs X
  have hk : t_hk (f_X5_portOf x1 x2 s) (fun q => q = r) := ⟨r, hr, rfl⟩
  show mj_G D cy ad bs X cX5_portOf 3 yX5_portOf.cls (some .int) yX5_portOf.name 1 0 0 1065 (t_P (fun v s' => s' = s ∧ ∃ x, v = some (.int x) ∧ (fun q => q = r) (x))) 0 [(0, .ref 428), (1, .int x1), (2, .int x2)] [] (t_m s) 1065 0 0
  refine mj_iload_n dX5_portOf_0 1 rfl ?_
  refine mj_if_ge 8 dX5_portOf_1 (by decide) (fun z => t_posK hk z (fun hk => ?_)) (fun z => t_negK hk z (fun hk => ?_))
  · refine mj_aload_n dX5_portOf_8 0 rfl ?_
    refine t_getR 430 dX5_portOf_9 F_X5_13 qr_428_2 ?_
    refine mj_iload_n dX5_portOf_12 1 rfl ?_
    refine mj_bipush (v := 6) dX5_portOf_13 (by decide) ?_
    refine mj_imul dX5_portOf_15 ?_
    refine mj_aload_n dX5_portOf_16 0 rfl ?_
    refine t_getR 429 dX5_portOf_17 F_X5_9 qr_428_1 ?_
    refine mj_iload_n dX5_portOf_20 1 rfl ?_
    refine t_chkK hk (fun c0 hk => ?_)
    refine t_iald dX5_portOf_21 qa_429 (t_ixv c0) ?_
    refine mj_iload_n dX5_portOf_22 2 rfl ?_
    refine t_bndK hk (fun r2 er2 hk => ?_)
    refine t_callSiP dX5_portOf_23 M_X5_find (C_X5_find _ _ _ _ _ _ er2) ML_X5_76 SM_X5_find (As := [.ref 430, .int (x1 * (6 : Int32)), .int (s.1 429 (x1.toNatClampNeg)), .int x2]) rfl rfl (Nat.le_of_ble_eq_true rfl) (Nat.le_of_ble_eq_true rfl) (Nat.le_of_ble_eq_true rfl) (Nat.le_of_ble_eq_true rfl) ?_
    exact t_somK hk (fun hf => t_iret dX5_portOf_26 rfl rfl ⟨rfl, _, rfl, hf⟩ (Nat.le_of_ble_eq_true rfl) (Nat.le_of_ble_eq_true rfl))
  · refine mj_iconst (v := (-1)) dX5_portOf_4 (by decide) ?_
    refine mj_goto 26 dX5_portOf_5 (by decide) ?_
    exact t_somK hk (fun hf => t_iret dX5_portOf_26 rfl rfl ⟨rfl, _, rfl, hf⟩ (Nat.le_of_ble_eq_true rfl) (Nat.le_of_ble_eq_true rfl))

theorem dX5_timerOf_0 : decode cX5_timerOf 0 = .ok (.iload_n 1, 1) := by decide +kernel
theorem dX5_timerOf_1 : decode cX5_timerOf 1 = .ok (.ifCond .ge 7, 3) := by decide +kernel
theorem dX5_timerOf_12 : decode cX5_timerOf 12 = .ok (.iload_n 1, 1) := by decide +kernel
theorem dX5_timerOf_13 : decode cX5_timerOf 13 = .ok (.iconst 4, 1) := by decide +kernel
theorem dX5_timerOf_14 : decode cX5_timerOf 14 = .ok (.imul, 1) := by decide +kernel
theorem dX5_timerOf_15 : decode cX5_timerOf 15 = .ok (.aload_n 0, 1) := by decide +kernel
theorem dX5_timerOf_16 : decode cX5_timerOf 16 = .ok (.getfield 16, 3) := by decide +kernel
theorem dX5_timerOf_19 : decode cX5_timerOf 19 = .ok (.iload_n 1, 1) := by decide +kernel
theorem dX5_timerOf_20 : decode cX5_timerOf 20 = .ok (.iaload, 1) := by decide +kernel
theorem dX5_timerOf_21 : decode cX5_timerOf 21 = .ok (.iload_n 2, 1) := by decide +kernel
theorem dX5_timerOf_22 : decode cX5_timerOf 22 = .ok (.invokestatic 76, 3) := by decide +kernel
theorem dX5_timerOf_25 : decode cX5_timerOf 25 = .ok (.ireturn, 1) := by decide +kernel
theorem dX5_timerOf_4 : decode cX5_timerOf 4 = .ok (.iconst (-1), 1) := by decide +kernel
theorem dX5_timerOf_5 : decode cX5_timerOf 5 = .ok (.goto 20, 3) := by decide +kernel
theorem dX5_timerOf_8 : decode cX5_timerOf 8 = .ok (.aload_n 0, 1) := by decide +kernel
theorem dX5_timerOf_9 : decode cX5_timerOf 9 = .ok (.getfield 19, 3) := by decide +kernel
noncomputable def f_X5_timerOf (x1 : Int32) (x2 : Int32) (s : t_S) : Option (Int32) :=
 if (0 : Int32) ≤ x1 then (if t_ix x1 8 = true then
  (f_X5_find 432 (x1 * (4 : Int32)) (s.1 431 (x1.toNatClampNeg)) x2 s).bind (fun r2 =>
 some (r2))
else none)
 else (some (-1 : Int32))
set_option maxRecDepth 4000 in
set_option maxHeartbeats 1000000 in
theorem C_X5_timerOf (x1 : Int32) (x2 : Int32) (s : t_S) (r : Int32) (hr : f_X5_timerOf x1 x2 s = some r) : t_C yX5_timerOf cX5_timerOf 3 (some .int) 1 [.ref 428, .int x1, .int x2] s (fun v s' => v = some (.int r) ∧ s' = s) := by
  refine t_C.imp (P := fun v s' => s' = s ∧ ∃ x, v = some (.int x) ∧ (fun q => q = r) (x)) (t_C.of (by decide +kernel) (Nat.le_of_ble_eq_true rfl) ?_) (fun v s' hp => by obtain ⟨rfl, x, rfl, rfl⟩ := hp; exact ⟨rfl, rfl⟩)
  intro D cy ad bs X
  have hk : t_hk (f_X5_timerOf x1 x2 s) (fun q => q = r) := ⟨r, hr, rfl⟩
  show mj_G D cy ad bs X cX5_timerOf 3 yX5_timerOf.cls (some .int) yX5_timerOf.name 1 0 0 1065 (t_P (fun v s' => s' = s ∧ ∃ x, v = some (.int x) ∧ (fun q => q = r) (x))) 0 [(0, .ref 428), (1, .int x1), (2, .int x2)] [] (t_m s) 1065 0 0
  refine mj_iload_n dX5_timerOf_0 1 rfl ?_
  refine mj_if_ge 8 dX5_timerOf_1 (by decide) (fun z => t_posK hk z (fun hk => ?_)) (fun z => t_negK hk z (fun hk => ?_))
  · refine mj_aload_n dX5_timerOf_8 0 rfl ?_
    refine t_getR 432 dX5_timerOf_9 F_X5_19 qr_428_4 ?_
    refine mj_iload_n dX5_timerOf_12 1 rfl ?_
    refine mj_iconst (v := 4) dX5_timerOf_13 (by decide) ?_
    refine mj_imul dX5_timerOf_14 ?_
    refine mj_aload_n dX5_timerOf_15 0 rfl ?_
    refine t_getR 431 dX5_timerOf_16 F_X5_16 qr_428_3 ?_
    refine mj_iload_n dX5_timerOf_19 1 rfl ?_
    refine t_chkK hk (fun c0 hk => ?_)
    refine t_iald dX5_timerOf_20 qa_431 (t_ixv c0) ?_
    refine mj_iload_n dX5_timerOf_21 2 rfl ?_
    refine t_bndK hk (fun r2 er2 hk => ?_)
    refine t_callSiP dX5_timerOf_22 M_X5_find (C_X5_find _ _ _ _ _ _ er2) ML_X5_76 SM_X5_find (As := [.ref 432, .int (x1 * (4 : Int32)), .int (s.1 431 (x1.toNatClampNeg)), .int x2]) rfl rfl (Nat.le_of_ble_eq_true rfl) (Nat.le_of_ble_eq_true rfl) (Nat.le_of_ble_eq_true rfl) (Nat.le_of_ble_eq_true rfl) ?_
    exact t_somK hk (fun hf => t_iret dX5_timerOf_25 rfl rfl ⟨rfl, _, rfl, hf⟩ (Nat.le_of_ble_eq_true rfl) (Nat.le_of_ble_eq_true rfl))
  · refine mj_iconst (v := (-1)) dX5_timerOf_4 (by decide) ?_
    refine mj_goto 25 dX5_timerOf_5 (by decide) ?_
    exact t_somK hk (fun hf => t_iret dX5_timerOf_25 rfl rfl ⟨rfl, _, rfl, hf⟩ (Nat.le_of_ble_eq_true rfl) (Nat.le_of_ble_eq_true rfl))

theorem dX5_varOf_0 : decode cX5_varOf 0 = .ok (.iload_n 1, 1) := by decide +kernel
theorem dX5_varOf_1 : decode cX5_varOf 1 = .ok (.ifCond .ge 7, 3) := by decide +kernel
theorem dX5_varOf_12 : decode cX5_varOf 12 = .ok (.iload_n 1, 1) := by decide +kernel
theorem dX5_varOf_13 : decode cX5_varOf 13 = .ok (.bipush 8, 2) := by decide +kernel
theorem dX5_varOf_15 : decode cX5_varOf 15 = .ok (.imul, 1) := by decide +kernel
theorem dX5_varOf_16 : decode cX5_varOf 16 = .ok (.aload_n 0, 1) := by decide +kernel
theorem dX5_varOf_17 : decode cX5_varOf 17 = .ok (.getfield 22, 3) := by decide +kernel
theorem dX5_varOf_20 : decode cX5_varOf 20 = .ok (.iload_n 1, 1) := by decide +kernel
theorem dX5_varOf_21 : decode cX5_varOf 21 = .ok (.iaload, 1) := by decide +kernel
theorem dX5_varOf_22 : decode cX5_varOf 22 = .ok (.iload_n 2, 1) := by decide +kernel
theorem dX5_varOf_23 : decode cX5_varOf 23 = .ok (.invokestatic 76, 3) := by decide +kernel
theorem dX5_varOf_26 : decode cX5_varOf 26 = .ok (.ireturn, 1) := by decide +kernel
theorem dX5_varOf_4 : decode cX5_varOf 4 = .ok (.iconst (-1), 1) := by decide +kernel
theorem dX5_varOf_5 : decode cX5_varOf 5 = .ok (.goto 21, 3) := by decide +kernel
theorem dX5_varOf_8 : decode cX5_varOf 8 = .ok (.aload_n 0, 1) := by decide +kernel
theorem dX5_varOf_9 : decode cX5_varOf 9 = .ok (.getfield 25, 3) := by decide +kernel
noncomputable def f_X5_varOf (x1 : Int32) (x2 : Int32) (s : t_S) : Option (Int32) :=
 if (0 : Int32) ≤ x1 then (if t_ix x1 8 = true then
  (f_X5_find 434 (x1 * (8 : Int32)) (s.1 433 (x1.toNatClampNeg)) x2 s).bind (fun r2 =>
 some (r2))
else none)
 else (some (-1 : Int32))
set_option maxRecDepth 4000 in
set_option maxHeartbeats 1000000 in
theorem C_X5_varOf (x1 : Int32) (x2 : Int32) (s : t_S) (r : Int32) (hr : f_X5_varOf x1 x2 s = some r) : t_C yX5_varOf cX5_varOf 3 (some .int) 1 [.ref 428, .int x1, .int x2] s (fun v s' => v = some (.int r) ∧ s' = s) := by
  refine t_C.imp (P := fun v s' => s' = s ∧ ∃ x, v = some (.int x) ∧ (fun q => q = r) (x)) (t_C.of (by decide +kernel) (Nat.le_of_ble_eq_true rfl) ?_) (fun v s' hp => by obtain ⟨rfl, x, rfl, rfl⟩ := hp; exact ⟨rfl, rfl⟩)
  intro D cy ad bs X
  have hk : t_hk (f_X5_varOf x1 x2 s) (fun q => q = r) := ⟨r, hr, rfl⟩
  show mj_G D cy ad bs X cX5_varOf 3 yX5_varOf.cls (some .int) yX5_varOf.name 1 0 0 1065 (t_P (fun v s' => s' = s ∧ ∃ x, v = some (.int x) ∧ (fun q => q = r) (x))) 0 [(0, .ref 428), (1, .int x1), (2, .int x2)] [] (t_m s) 1065 0 0
  refine mj_iload_n dX5_varOf_0 1 rfl ?_
  refine mj_if_ge 8 dX5_varOf_1 (by decide) (fun z => t_posK hk z (fun hk => ?_)) (fun z => t_negK hk z (fun hk => ?_))
  · refine mj_aload_n dX5_varOf_8 0 rfl ?_
    refine t_getR 434 dX5_varOf_9 F_X5_25 qr_428_6 ?_
    refine mj_iload_n dX5_varOf_12 1 rfl ?_
    refine mj_bipush (v := 8) dX5_varOf_13 (by decide) ?_
    refine mj_imul dX5_varOf_15 ?_
    refine mj_aload_n dX5_varOf_16 0 rfl ?_
    refine t_getR 433 dX5_varOf_17 F_X5_22 qr_428_5 ?_
    refine mj_iload_n dX5_varOf_20 1 rfl ?_
    refine t_chkK hk (fun c0 hk => ?_)
    refine t_iald dX5_varOf_21 qa_433 (t_ixv c0) ?_
    refine mj_iload_n dX5_varOf_22 2 rfl ?_
    refine t_bndK hk (fun r2 er2 hk => ?_)
    refine t_callSiP dX5_varOf_23 M_X5_find (C_X5_find _ _ _ _ _ _ er2) ML_X5_76 SM_X5_find (As := [.ref 434, .int (x1 * (8 : Int32)), .int (s.1 433 (x1.toNatClampNeg)), .int x2]) rfl rfl (Nat.le_of_ble_eq_true rfl) (Nat.le_of_ble_eq_true rfl) (Nat.le_of_ble_eq_true rfl) (Nat.le_of_ble_eq_true rfl) ?_
    exact t_somK hk (fun hf => t_iret dX5_varOf_26 rfl rfl ⟨rfl, _, rfl, hf⟩ (Nat.le_of_ble_eq_true rfl) (Nat.le_of_ble_eq_true rfl))
  · refine mj_iconst (v := (-1)) dX5_varOf_4 (by decide) ?_
    refine mj_goto 26 dX5_varOf_5 (by decide) ?_
    exact t_somK hk (fun hf => t_iret dX5_varOf_26 rfl rfl ⟨rfl, _, rfl, hf⟩ (Nat.le_of_ble_eq_true rfl) (Nat.le_of_ble_eq_true rfl))

