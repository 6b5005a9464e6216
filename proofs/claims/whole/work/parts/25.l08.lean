/-! Methods as functions, 8: X10_meets, X0_hold, X0_jump, X0_pushCell, X4_varSlot, X8_placeOf, X0_load, X0_poolCell, X0_poolText, X0_tagTop, X0_unary, X0_work, X10_add, X10_clear, X10_depthOf, X10_step -/
theorem qa_358 : t_oka 358 1 6100 = true := by decide +kernel
theorem qa_425 : t_oka 425 1 240 = true := by decide +kernel
theorem qc_12 : t_okc 12 8 = true := by decide +kernel
theorem qf_334_13 : t_okf 334 0 13 0 = true := by decide +kernel
theorem qf_334_15 : t_okf 334 0 15 3 = true := by decide +kernel
theorem qf_334_16 : t_okf 334 0 16 0 = true := by decide +kernel
theorem qf_334_17 : t_okf 334 0 17 1 = true := by decide +kernel
theorem qf_334_18 : t_okf 334 0 18 0 = true := by decide +kernel
theorem qf_353_11 : t_okf 353 10 11 0 = true := by decide +kernel
theorem qf_353_17 : t_okf 353 10 17 0 = true := by decide +kernel
theorem qf_353_9 : t_okf 353 10 9 0 = true := by decide +kernel
theorem qr_353_16 : t_okr 353 10 16 425 = true := by decide +kernel
theorem qr_353_4 : t_okr 353 10 4 358 = true := by decide +kernel
theorem dX10_meets_0 : decode cX10_meets 0 = .ok (.aload_n 0, 1) := by decide +kernel
theorem dX10_meets_1 : decode cX10_meets 1 = .ok (.aload_n 2, 1) := by decide +kernel
theorem dX10_meets_10 : decode cX10_meets 10 = .ok (.aload_n 0, 1) := by decide +kernel
theorem dX10_meets_11 : decode cX10_meets 11 = .ok (.dup, 1) := by decide +kernel
theorem dX10_meets_12 : decode cX10_meets 12 = .ok (.getfield 135, 3) := by decide +kernel
theorem dX10_meets_15 : decode cX10_meets 15 = .ok (.iconst 1, 1) := by decide +kernel
theorem dX10_meets_16 : decode cX10_meets 16 = .ok (.iadd, 1) := by decide +kernel
theorem dX10_meets_17 : decode cX10_meets 17 = .ok (.putfield 135, 3) := by decide +kernel
theorem dX10_meets_2 : decode cX10_meets 2 = .ok (.putfield 67, 3) := by decide +kernel
theorem dX10_meets_20 : decode cX10_meets 20 = .ok (.aload_n 0, 1) := by decide +kernel
theorem dX10_meets_21 : decode cX10_meets 21 = .ok (.getfield 135, 3) := by decide +kernel
theorem dX10_meets_24 : decode cX10_meets 24 = .ok (.ldc 138, 2) := by decide +kernel
theorem dX10_meets_26 : decode cX10_meets 26 = .ok (.if_icmp .lt 16, 3) := by decide +kernel
theorem dX10_meets_29 : decode cX10_meets 29 = .ok (.aload_n 0, 1) := by decide +kernel
theorem dX10_meets_30 : decode cX10_meets 30 = .ok (.getfield 46, 3) := by decide +kernel
theorem dX10_meets_33 : decode cX10_meets 33 = .ok (.iconst 0, 1) := by decide +kernel
theorem dX10_meets_34 : decode cX10_meets 34 = .ok (.invokestatic 139, 3) := by decide +kernel
theorem dX10_meets_37 : decode cX10_meets 37 = .ok (.aload_n 0, 1) := by decide +kernel
theorem dX10_meets_38 : decode cX10_meets 38 = .ok (.iconst 1, 1) := by decide +kernel
theorem dX10_meets_39 : decode cX10_meets 39 = .ok (.putfield 135, 3) := by decide +kernel
theorem dX10_meets_42 : decode cX10_meets 42 = .ok (.aload_n 0, 1) := by decide +kernel
theorem dX10_meets_43 : decode cX10_meets 43 = .ok (.iload_n 1, 1) := by decide +kernel
theorem dX10_meets_44 : decode cX10_meets 44 = .ok (.aload_n 2, 1) := by decide +kernel
theorem dX10_meets_45 : decode cX10_meets 45 = .ok (.iload_n 3, 1) := by decide +kernel
theorem dX10_meets_46 : decode cX10_meets 46 = .ok (.laload, 1) := by decide +kernel
theorem dX10_meets_47 : decode cX10_meets 47 = .ok (.invokestatic 122, 3) := by decide +kernel
theorem dX10_meets_5 : decode cX10_meets 5 = .ok (.aload_n 0, 1) := by decide +kernel
theorem dX10_meets_50 : decode cX10_meets 50 = .ok (.iconst 4, 1) := by decide +kernel
theorem dX10_meets_51 : decode cX10_meets 51 = .ok (.if_icmp .ne 7, 3) := by decide +kernel
theorem dX10_meets_54 : decode cX10_meets 54 = .ok (.iconst (-1), 1) := by decide +kernel
theorem dX10_meets_55 : decode cX10_meets 55 = .ok (.goto 4, 3) := by decide +kernel
theorem dX10_meets_58 : decode cX10_meets 58 = .ok (.iconst 0, 1) := by decide +kernel
theorem dX10_meets_59 : decode cX10_meets 59 = .ok (.iconst 0, 1) := by decide +kernel
theorem dX10_meets_6 : decode cX10_meets 6 = .ok (.iload_n 3, 1) := by decide +kernel
theorem dX10_meets_60 : decode cX10_meets 60 = .ok (.invokevirtual 145, 3) := by decide +kernel
theorem dX10_meets_63 : decode cX10_meets 63 = .ok (.ireturn, 1) := by decide +kernel
theorem dX10_meets_7 : decode cX10_meets 7 = .ok (.putfield 132, 3) := by decide +kernel
noncomputable def k_X10_meets_59 (k0 : Int32) (k1 : Int32) (s : t_S) : Option (Int32 × t_S) :=
 (f_X10_matches k1 k0 (0 : Int32) s).bind (fun r1 =>
 if r1.1 = 0 ∨ r1.1 = 1 then
  some (r1.1, r1.2)
else none)
set_option maxRecDepth 4000 in
set_option maxHeartbeats 1000000 in
theorem B_X10_meets_59 {D : va_G} {cy : Nat → ClassId} {ad : Nat → Nat} {bs : Nat} {X : State → Heap → Prop} (k0 : Int32) (k1 : Int32) (s : t_S) (Q : Int32 × t_S → Prop) (hk : t_hk (k_X10_meets_59 k0 k1 s) Q) : mj_G D cy ad bs X cX10_meets 4 yX10_meets.cls (some .boolean) yX10_meets.name 403 0 0 1065 (t_P (fun v s' => ∃ x, v = some (.int x) ∧ Q ((x, s')))) 59 [] [.int k0, .int k1, .ref 353] (t_m s) 1065 0 0 := by
  refine mj_iconst (v := 0) dX10_meets_59 (by decide) ?_
  refine t_bndK hk (fun r1 er1 hk => ?_)
  refine t_callViE dX10_meets_60 M_X10_matches (C_X10_matches _ _ _ _ _ er1) ML_X10_145 IM_X10_matches SE_X10_matches qc_353 rfl (As := [.int k1, .int k0, .int 0]) rfl rfl (Nat.le_of_ble_eq_true rfl) (Nat.le_of_ble_eq_true rfl) (Nat.le_of_ble_eq_true rfl) (Nat.le_of_ble_eq_true rfl) ?_
  refine t_chkK hk (fun c1 hk => ?_)
  exact t_somK hk (fun hf => t_iret dX10_meets_63 rfl (t_zfit c1) ⟨_, rfl, hf⟩ (Nat.le_of_ble_eq_true rfl) (Nat.le_of_ble_eq_true rfl))
noncomputable def k_X10_meets_42 (l1 : Int32) (l2 : Nat) (l3 : Int32) (s : t_S) : Option (Int32 × t_S) :=
 if t_oka l2 2 (t_ln l2) = true then
  if t_ix l3 (t_ln l2) = true then
  if (f_X8_kind (s.2.1 l2 (l3.toNatClampNeg)) s) = (4 : Int32) then (k_X10_meets_59 (-1) l1 s)
 else (k_X10_meets_59 0 l1 s)
else none
else none
set_option maxRecDepth 4000 in
set_option maxHeartbeats 1000000 in
theorem B_X10_meets_42 {D : va_G} {cy : Nat → ClassId} {ad : Nat → Nat} {bs : Nat} {X : State → Heap → Prop} (l1 : Int32) (l2 : Nat) (l3 : Int32) (s : t_S) (Q : Int32 × t_S → Prop) (hk : t_hk (k_X10_meets_42 l1 l2 l3 s) Q) : mj_G D cy ad bs X cX10_meets 4 yX10_meets.cls (some .boolean) yX10_meets.name 403 0 0 1065 (t_P (fun v s' => ∃ x, v = some (.int x) ∧ Q ((x, s')))) 42 [(0, .ref 353), (1, .int l1), (2, .ref l2), (3, .int l3)] [] (t_m s) 1065 0 0 := by
  refine mj_aload_n dX10_meets_42 0 rfl ?_
  refine mj_iload_n dX10_meets_43 1 rfl ?_
  refine mj_aload_n dX10_meets_44 2 rfl ?_
  refine mj_iload_n dX10_meets_45 3 rfl ?_
  refine t_chkK hk (fun c0 hk => ?_)
  refine t_chkK hk (fun c1 hk => ?_)
  refine t_lald dX10_meets_46 c0 (t_ixv c1) ?_
  refine t_callSiP dX10_meets_47 M_X8_kind (C_X8_kind _ _) ML_X10_122 SM_X8_kind (As := [.long (s.2.1 l2 (l3.toNatClampNeg))]) rfl rfl (Nat.le_of_ble_eq_true rfl) (Nat.le_of_ble_eq_true rfl) (Nat.le_of_ble_eq_true rfl) (Nat.le_of_ble_eq_true rfl) ?_
  refine mj_iconst (v := 4) dX10_meets_50 (by decide) ?_
  refine mj_icmp_ne 58 dX10_meets_51 (by decide) (fun z => t_negK hk z (fun hk => ?_)) (fun z => t_posK hk z (fun hk => ?_))
  · refine mj_iconst (v := 0) dX10_meets_58 (by decide) ?_
    refine mj_sublv [] [] rfl ?_
    exact B_X10_meets_59 _ _ _ _ hk
  · refine mj_iconst (v := (-1)) dX10_meets_54 (by decide) ?_
    refine mj_goto 59 dX10_meets_55 (by decide) ?_
    refine mj_sublv [] [] rfl ?_
    exact B_X10_meets_59 _ _ _ _ hk
noncomputable def f_X10_meets (x1 : Int32) (x2 : Nat) (x3 : Int32) (s : t_S) : Option (Int32 × t_S) :=
 t_let (t_setR s 353 14 x2) (fun s1 =>
 t_let (t_setI s1 353 15 x3) (fun s2 =>
 t_let (t_setI s2 353 13 ((s2.1 353 13) + (1 : Int32))) (fun s3 =>
 if (s3.1 353 13) < (1000000000 : Int32) then (k_X10_meets_42 x1 x2 x3 s3)
 else ((f_J7_fill_53178 424 (0 : Int32) s3).bind (fun r1 =>
 t_let (t_setI r1 353 13 (1 : Int32)) (fun s4 =>
 k_X10_meets_42 x1 x2 x3 s4))))))
set_option maxRecDepth 4000 in
set_option maxHeartbeats 1000000 in
theorem C_X10_meets (x1 : Int32) (x2 : Nat) (x3 : Int32) (s : t_S) (r : Int32 × t_S) (hr : f_X10_meets x1 x2 x3 s = some r) : t_C yX10_meets cX10_meets 4 (some .boolean) 403 [.ref 353, .int x1, .ref x2, .int x3] s (fun v s' => v = some (.int r.1) ∧ s' = r.2) := by
  refine t_C.imp (P := fun v s' => ∃ x, v = some (.int x) ∧ (fun q => q = r) ((x, s'))) (t_C.of (by decide +kernel) (Nat.le_of_ble_eq_true rfl) ?_) (fun v s' hp => by obtain ⟨x, rfl, rfl⟩ := hp; exact ⟨rfl, rfl⟩)
  intro D cy ad bs X
  have hk : t_hk (f_X10_meets x1 x2 x3 s) (fun q => q = r) := ⟨r, hr, rfl⟩
  show mj_G D cy ad bs X cX10_meets 4 yX10_meets.cls (some .boolean) yX10_meets.name 403 0 0 1065 (t_P (fun v s' => ∃ x, v = some (.int x) ∧ (fun q => q = r) ((x, s')))) 0 [(0, .ref 353), (1, .int x1), (2, .ref x2), (3, .int x3)] [] (t_m s) 1065 0 0
  refine mj_aload_n dX10_meets_0 0 rfl ?_
  refine mj_aload_n dX10_meets_1 2 rfl ?_
  refine t_putDK dX10_meets_2 F_X10_67 qf_353_14 rfl (fun s1 ws1 => t_letE hk ws1 (fun hk => ?_))
  refine mj_aload_n dX10_meets_5 0 rfl ?_
  refine mj_iload_n dX10_meets_6 3 rfl ?_
  refine t_putIK dX10_meets_7 F_X10_132 qf_353_15 rfl (fun s2 ws2 => t_letE hk ws2 (fun hk => ?_))
  refine mj_aload_n dX10_meets_10 0 rfl ?_
  refine mj_dup dX10_meets_11 rfl ?_
  refine t_getI dX10_meets_12 F_X10_135 qf_353_13 ?_
  refine mj_iconst (v := 1) dX10_meets_15 (by decide) ?_
  refine mj_iadd dX10_meets_16 ?_
  refine t_putIK dX10_meets_17 F_X10_135 qf_353_13 rfl (fun s3 ws3 => t_letE hk ws3 (fun hk => ?_))
  refine mj_aload_n dX10_meets_20 0 rfl ?_
  refine t_getI dX10_meets_21 F_X10_135 qf_353_13 ?_
  refine mj_ldc dX10_meets_24 K_X10_138 ?_
  refine mj_icmp_lt 42 dX10_meets_26 (by decide) (fun z => t_posK hk z (fun hk => ?_)) (fun z => t_negK hk z (fun hk => ?_))
  · exact B_X10_meets_42 _ _ _ _ _ hk
  · refine mj_aload_n dX10_meets_29 0 rfl ?_
    refine t_getR 424 dX10_meets_30 F_X10_46 qr_353_12 ?_
    refine mj_iconst (v := 0) dX10_meets_33 (by decide) ?_
    refine t_bndK hk (fun r1 er1 hk => ?_)
    refine t_callSvE dX10_meets_34 M_J7_fill_53178 (C_J7_fill_53178 _ _ _ _ er1) ML_X10_139 SM_J7_fill_53178 (As := [.ref 424, .int 0]) rfl rfl (Nat.le_of_ble_eq_true rfl) (Nat.le_of_ble_eq_true rfl) (Nat.le_of_ble_eq_true rfl) (Nat.le_of_ble_eq_true rfl) ?_
    refine mj_aload_n dX10_meets_37 0 rfl ?_
    refine mj_iconst (v := 1) dX10_meets_38 (by decide) ?_
    refine t_putIK dX10_meets_39 F_X10_135 qf_353_13 rfl (fun s4 ws4 => t_letE hk ws4 (fun hk => ?_))
    exact B_X10_meets_42 _ _ _ _ _ hk

theorem dX0_hold_0 : decode cX0_hold 0 = .ok (.aload_n 0, 1) := by decide +kernel
theorem dX0_hold_1 : decode cX0_hold 1 = .ok (.getfield 62, 3) := by decide +kernel
theorem dX0_hold_10 : decode cX0_hold 10 = .ok (.putfield 71, 3) := by decide +kernel
theorem dX0_hold_13 : decode cX0_hold 13 = .ok (.return_, 1) := by decide +kernel
theorem dX0_hold_14 : decode cX0_hold 14 = .ok (.aload_n 0, 1) := by decide +kernel
theorem dX0_hold_15 : decode cX0_hold 15 = .ok (.getfield 250, 3) := by decide +kernel
theorem dX0_hold_18 : decode cX0_hold 18 = .ok (.iload_n 1, 1) := by decide +kernel
theorem dX0_hold_19 : decode cX0_hold 19 = .ok (.aload_n 0, 1) := by decide +kernel
theorem dX0_hold_20 : decode cX0_hold 20 = .ok (.getfield 21, 3) := by decide +kernel
theorem dX0_hold_23 : decode cX0_hold 23 = .ok (.aload_n 0, 1) := by decide +kernel
theorem dX0_hold_24 : decode cX0_hold 24 = .ok (.getfield 24, 3) := by decide +kernel
theorem dX0_hold_27 : decode cX0_hold 27 = .ok (.aload_n 0, 1) := by decide +kernel
theorem dX0_hold_28 : decode cX0_hold 28 = .ok (.getfield 62, 3) := by decide +kernel
theorem dX0_hold_31 : decode cX0_hold 31 = .ok (.iconst 1, 1) := by decide +kernel
theorem dX0_hold_32 : decode cX0_hold 32 = .ok (.isub, 1) := by decide +kernel
theorem dX0_hold_33 : decode cX0_hold 33 = .ok (.iaload, 1) := by decide +kernel
theorem dX0_hold_34 : decode cX0_hold 34 = .ok (.invokevirtual 270, 3) := by decide +kernel
theorem dX0_hold_37 : decode cX0_hold 37 = .ok (.istore_n 2, 1) := by decide +kernel
theorem dX0_hold_38 : decode cX0_hold 38 = .ok (.aload_n 0, 1) := by decide +kernel
theorem dX0_hold_39 : decode cX0_hold 39 = .ok (.iload_n 2, 1) := by decide +kernel
theorem dX0_hold_4 : decode cX0_hold 4 = .ok (.iconst 1, 1) := by decide +kernel
theorem dX0_hold_40 : decode cX0_hold 40 = .ok (.invokestatic 142, 3) := by decide +kernel
theorem dX0_hold_43 : decode cX0_hold 43 = .ok (.invokevirtual 170, 3) := by decide +kernel
theorem dX0_hold_46 : decode cX0_hold 46 = .ok (.return_, 1) := by decide +kernel
theorem dX0_hold_5 : decode cX0_hold 5 = .ok (.if_icmp .ge 9, 3) := by decide +kernel
theorem dX0_hold_8 : decode cX0_hold 8 = .ok (.aload_n 0, 1) := by decide +kernel
theorem dX0_hold_9 : decode cX0_hold 9 = .ok (.iconst 1, 1) := by decide +kernel
noncomputable def f_X0_hold (x1 : Int32) (s : t_S) : Option (t_S) :=
 if (1 : Int32) ≤ (s.1 334 7) then (if t_ix ((s.1 334 7) - (1 : Int32)) 3201 = true then
  (f_X10_meets x1 338 (s.1 339 (((s.1 334 7) - (1 : Int32)).toNatClampNeg)) s).bind (fun r2 =>
 (f_X0_replaceTop (f_X0_truth r2.1 r2.2) r2.2).bind (fun r4 =>
 some (r4)))
else none)
 else (t_let (t_setI s 334 12 (1 : Int32)) (fun s1 =>
 some (s1)))
set_option maxRecDepth 4000 in
set_option maxHeartbeats 1000000 in
theorem C_X0_hold (x1 : Int32) (s : t_S) (r : t_S) (hr : f_X0_hold x1 s = some r) : t_C yX0_hold cX0_hold 3 none 404 [.ref 334, .int x1] s (fun v s' => v = none ∧ s' = r) := by
  refine t_C.imp (P := fun v s' => v = none ∧ (fun q => q = r) (s')) (t_C.of (by decide +kernel) (Nat.le_of_ble_eq_true rfl) ?_) (fun v s' hp => hp)
  intro D cy ad bs X
  have hk : t_hk (f_X0_hold x1 s) (fun q => q = r) := ⟨r, hr, rfl⟩
  show mj_G D cy ad bs X cX0_hold 3 yX0_hold.cls none yX0_hold.name 404 0 0 1065 (t_P (fun v s' => v = none ∧ (fun q => q = r) (s'))) 0 [(0, .ref 334), (1, .int x1)] [] (t_m s) 1065 0 0
  refine mj_aload_n dX0_hold_0 0 rfl ?_
  refine t_getI dX0_hold_1 F_X0_62 qf_334_7 ?_
  refine mj_iconst (v := 1) dX0_hold_4 (by decide) ?_
  refine mj_icmp_ge 14 dX0_hold_5 (by decide) (fun z => t_posK hk z (fun hk => ?_)) (fun z => t_negK hk z (fun hk => ?_))
  · refine mj_aload_n dX0_hold_14 0 rfl ?_
    refine t_getR 353 dX0_hold_15 F_X0_250 qr_334_20 ?_
    refine mj_iload_n dX0_hold_18 1 rfl ?_
    refine mj_aload_n dX0_hold_19 0 rfl ?_
    refine t_getR 338 dX0_hold_20 F_X0_21 qr_334_5 ?_
    refine mj_aload_n dX0_hold_23 0 rfl ?_
    refine t_getR 339 dX0_hold_24 F_X0_24 qr_334_6 ?_
    refine mj_aload_n dX0_hold_27 0 rfl ?_
    refine t_getI dX0_hold_28 F_X0_62 qf_334_7 ?_
    refine mj_iconst (v := 1) dX0_hold_31 (by decide) ?_
    refine mj_isub dX0_hold_32 ?_
    refine t_chkK hk (fun c0 hk => ?_)
    refine t_iald dX0_hold_33 qa_339 (t_ixv c0) ?_
    refine t_bndK hk (fun r2 er2 hk => ?_)
    refine t_callViE dX0_hold_34 M_X10_meets (C_X10_meets _ _ _ _ _ er2) ML_X0_270 IM_X10_meets SE_X10_meets qc_353 rfl (As := [.int x1, .ref 338, .int (s.1 339 (((s.1 334 7) - (1 : Int32)).toNatClampNeg))]) rfl rfl (Nat.le_of_ble_eq_true rfl) (Nat.le_of_ble_eq_true rfl) (Nat.le_of_ble_eq_true rfl) (Nat.le_of_ble_eq_true rfl) ?_
    refine mj_istore_n 2 (lv2 := [(2, .int r2.1), (0, .ref 334), (1, .int x1)]) dX0_hold_37 rfl (by decide) rfl ?_
    refine mj_aload_n dX0_hold_38 1 rfl ?_
    refine mj_iload_n dX0_hold_39 0 rfl ?_
    refine t_callSlP dX0_hold_40 M_X0_truth (C_X0_truth _ _) ML_X0_142 SM_X0_truth (As := [.int r2.1]) rfl rfl (Nat.le_of_ble_eq_true rfl) (Nat.le_of_ble_eq_true rfl) (Nat.le_of_ble_eq_true rfl) (Nat.le_of_ble_eq_true rfl) ?_
    refine t_bndK hk (fun r4 er4 hk => ?_)
    refine t_callVvE dX0_hold_43 M_X0_replaceTop (C_X0_replaceTop _ _ _ er4) ML_X0_170 IM_X0_replaceTop SE_X0_replaceTop qc_334 rfl (As := [.long (f_X0_truth r2.1 r2.2)]) rfl rfl (Nat.le_of_ble_eq_true rfl) (Nat.le_of_ble_eq_true rfl) (Nat.le_of_ble_eq_true rfl) (Nat.le_of_ble_eq_true rfl) ?_
    exact t_somK hk (fun hf => t_vret dX0_hold_46 rfl ⟨rfl, hf⟩ (Nat.le_of_ble_eq_true rfl) (Nat.le_of_ble_eq_true rfl))
  · refine mj_aload_n dX0_hold_8 0 rfl ?_
    refine mj_iconst (v := 1) dX0_hold_9 (by decide) ?_
    refine t_putIK dX0_hold_10 F_X0_71 qf_334_12 rfl (fun s1 ws1 => t_letE hk ws1 (fun hk => ?_))
    exact t_somK hk (fun hf => t_vret dX0_hold_13 rfl ⟨rfl, hf⟩ (Nat.le_of_ble_eq_true rfl) (Nat.le_of_ble_eq_true rfl))

theorem dX0_jump_0 : decode cX0_jump 0 = .ok (.aload_n 0, 1) := by decide +kernel
theorem dX0_jump_1 : decode cX0_jump 1 = .ok (.aload_n 0, 1) := by decide +kernel
theorem dX0_jump_10 : decode cX0_jump 10 = .ok (.invokestatic 160, 3) := by decide +kernel
theorem dX0_jump_13 : decode cX0_jump 13 = .ok (.iconst 1, 1) := by decide +kernel
theorem dX0_jump_14 : decode cX0_jump 14 = .ok (.if_icmp .eq 10, 3) := by decide +kernel
theorem dX0_jump_17 : decode cX0_jump 17 = .ok (.aload_n 0, 1) := by decide +kernel
theorem dX0_jump_18 : decode cX0_jump 18 = .ok (.iconst 1, 1) := by decide +kernel
theorem dX0_jump_19 : decode cX0_jump 19 = .ok (.putfield 71, 3) := by decide +kernel
theorem dX0_jump_2 : decode cX0_jump 2 = .ok (.getfield 62, 3) := by decide +kernel
theorem dX0_jump_22 : decode cX0_jump 22 = .ok (.iload_n 2, 1) := by decide +kernel
theorem dX0_jump_23 : decode cX0_jump 23 = .ok (.ireturn, 1) := by decide +kernel
theorem dX0_jump_24 : decode cX0_jump 24 = .ok (.aload_n 0, 1) := by decide +kernel
theorem dX0_jump_25 : decode cX0_jump 25 = .ok (.invokevirtual 233, 3) := by decide +kernel
theorem dX0_jump_28 : decode cX0_jump 28 = .ok (.invokestatic 166, 3) := by decide +kernel
theorem dX0_jump_31 : decode cX0_jump 31 = .ok (.lconst 0, 1) := by decide +kernel
theorem dX0_jump_32 : decode cX0_jump 32 = .ok (.lcmp, 1) := by decide +kernel
theorem dX0_jump_33 : decode cX0_jump 33 = .ok (.ifCond .eq 7, 3) := by decide +kernel
theorem dX0_jump_36 : decode cX0_jump 36 = .ok (.iconst 1, 1) := by decide +kernel
theorem dX0_jump_37 : decode cX0_jump 37 = .ok (.goto 4, 3) := by decide +kernel
theorem dX0_jump_40 : decode cX0_jump 40 = .ok (.iconst 0, 1) := by decide +kernel
theorem dX0_jump_41 : decode cX0_jump 41 = .ok (.istore_n 3, 1) := by decide +kernel
theorem dX0_jump_42 : decode cX0_jump 42 = .ok (.iload_n 3, 1) := by decide +kernel
theorem dX0_jump_43 : decode cX0_jump 43 = .ok (.iload_n 1, 1) := by decide +kernel
theorem dX0_jump_44 : decode cX0_jump 44 = .ok (.bipush 29, 2) := by decide +kernel
theorem dX0_jump_46 : decode cX0_jump 46 = .ok (.if_icmp .ne 7, 3) := by decide +kernel
theorem dX0_jump_49 : decode cX0_jump 49 = .ok (.iconst 1, 1) := by decide +kernel
theorem dX0_jump_5 : decode cX0_jump 5 = .ok (.iconst 1, 1) := by decide +kernel
theorem dX0_jump_50 : decode cX0_jump 50 = .ok (.goto 4, 3) := by decide +kernel
theorem dX0_jump_53 : decode cX0_jump 53 = .ok (.iconst 0, 1) := by decide +kernel
theorem dX0_jump_54 : decode cX0_jump 54 = .ok (.if_icmp .ne 12, 3) := by decide +kernel
theorem dX0_jump_57 : decode cX0_jump 57 = .ok (.aload_n 0, 1) := by decide +kernel
theorem dX0_jump_58 : decode cX0_jump 58 = .ok (.getfield 13, 3) := by decide +kernel
theorem dX0_jump_6 : decode cX0_jump 6 = .ok (.isub, 1) := by decide +kernel
theorem dX0_jump_61 : decode cX0_jump 61 = .ok (.iload_n 2, 1) := by decide +kernel
theorem dX0_jump_62 : decode cX0_jump 62 = .ok (.iaload, 1) := by decide +kernel
theorem dX0_jump_63 : decode cX0_jump 63 = .ok (.iconst 1, 1) := by decide +kernel
theorem dX0_jump_64 : decode cX0_jump 64 = .ok (.isub, 1) := by decide +kernel
theorem dX0_jump_65 : decode cX0_jump 65 = .ok (.ireturn, 1) := by decide +kernel
theorem dX0_jump_66 : decode cX0_jump 66 = .ok (.aload_n 0, 1) := by decide +kernel
theorem dX0_jump_67 : decode cX0_jump 67 = .ok (.dup, 1) := by decide +kernel
theorem dX0_jump_68 : decode cX0_jump 68 = .ok (.getfield 62, 3) := by decide +kernel
theorem dX0_jump_7 : decode cX0_jump 7 = .ok (.invokevirtual 230, 3) := by decide +kernel
theorem dX0_jump_71 : decode cX0_jump 71 = .ok (.iconst 1, 1) := by decide +kernel
theorem dX0_jump_72 : decode cX0_jump 72 = .ok (.isub, 1) := by decide +kernel
theorem dX0_jump_73 : decode cX0_jump 73 = .ok (.putfield 62, 3) := by decide +kernel
theorem dX0_jump_76 : decode cX0_jump 76 = .ok (.iload_n 2, 1) := by decide +kernel
theorem dX0_jump_77 : decode cX0_jump 77 = .ok (.ireturn, 1) := by decide +kernel
noncomputable def k_X0_jump_54 (l2 : Int32) (k0 : Int32) (k1 : Int32) (s : t_S) : Option (Int32 × t_S) :=
 if k1 = k0 then (if t_ix l2 16000 = true then
  some (((s.1 336 (l2.toNatClampNeg)) - (1 : Int32)), s)
else none)
 else (t_let (t_setI s 334 7 ((s.1 334 7) - (1 : Int32))) (fun s1 =>
 some (l2, s1)))
set_option maxRecDepth 4000 in
set_option maxHeartbeats 1000000 in
theorem B_X0_jump_54 {D : va_G} {cy : Nat → ClassId} {ad : Nat → Nat} {bs : Nat} {X : State → Heap → Prop} (l2 : Int32) (k0 : Int32) (k1 : Int32) (s : t_S) (Q : Int32 × t_S → Prop) (hk : t_hk (k_X0_jump_54 l2 k0 k1 s) Q) : mj_G D cy ad bs X cX0_jump 4 yX0_jump.cls (some .int) yX0_jump.name 2 0 0 1065 (t_P (fun v s' => ∃ x, v = some (.int x) ∧ Q ((x, s')))) 54 [(0, .ref 334), (2, .int l2)] [.int k0, .int k1] (t_m s) 1065 0 0 := by
  refine mj_icmp_ne 66 dX0_jump_54 (by decide) (fun z => t_negK hk z (fun hk => ?_)) (fun z => t_posK hk z (fun hk => ?_))
  · refine mj_aload_n dX0_jump_66 0 rfl ?_
    refine mj_dup dX0_jump_67 rfl ?_
    refine t_getI dX0_jump_68 F_X0_62 qf_334_7 ?_
    refine mj_iconst (v := 1) dX0_jump_71 (by decide) ?_
    refine mj_isub dX0_jump_72 ?_
    refine t_putIK dX0_jump_73 F_X0_62 qf_334_7 rfl (fun s1 ws1 => t_letE hk ws1 (fun hk => ?_))
    refine mj_iload_n dX0_jump_76 1 rfl ?_
    exact t_somK hk (fun hf => t_iret dX0_jump_77 rfl rfl ⟨_, rfl, hf⟩ (Nat.le_of_ble_eq_true rfl) (Nat.le_of_ble_eq_true rfl))
  · refine mj_aload_n dX0_jump_57 0 rfl ?_
    refine t_getR 336 dX0_jump_58 F_X0_13 qr_334_1 ?_
    refine mj_iload_n dX0_jump_61 1 rfl ?_
    refine t_chkK hk (fun c0 hk => ?_)
    refine t_iald dX0_jump_62 qa_336 (t_ixv c0) ?_
    refine mj_iconst (v := 1) dX0_jump_63 (by decide) ?_
    refine mj_isub dX0_jump_64 ?_
    exact t_somK hk (fun hf => t_iret dX0_jump_65 rfl rfl ⟨_, rfl, hf⟩ (Nat.le_of_ble_eq_true rfl) (Nat.le_of_ble_eq_true rfl))
noncomputable def k_X0_jump_41 (l1 : Int32) (l2 : Int32) (k0 : Int32) (s : t_S) : Option (Int32 × t_S) :=
 if l1 = (29 : Int32) then (k_X0_jump_54 l2 1 k0 s)
 else (k_X0_jump_54 l2 0 k0 s)
set_option maxRecDepth 4000 in
set_option maxHeartbeats 1000000 in
theorem B_X0_jump_41 {D : va_G} {cy : Nat → ClassId} {ad : Nat → Nat} {bs : Nat} {X : State → Heap → Prop} (l1 : Int32) (l2 : Int32) (k0 : Int32) (s : t_S) (Q : Int32 × t_S → Prop) (hk : t_hk (k_X0_jump_41 l1 l2 k0 s) Q) : mj_G D cy ad bs X cX0_jump 4 yX0_jump.cls (some .int) yX0_jump.name 2 0 0 1065 (t_P (fun v s' => ∃ x, v = some (.int x) ∧ Q ((x, s')))) 41 [(0, .ref 334), (1, .int l1), (2, .int l2)] [.int k0] (t_m s) 1065 0 0 := by
  refine mj_istore_n 3 (lv2 := [(3, .int k0), (0, .ref 334), (1, .int l1), (2, .int l2)]) dX0_jump_41 rfl (by decide) rfl ?_
  refine mj_iload_n dX0_jump_42 0 rfl ?_
  refine mj_iload_n dX0_jump_43 2 rfl ?_
  refine mj_bipush (v := 29) dX0_jump_44 (by decide) ?_
  refine mj_icmp_ne 53 dX0_jump_46 (by decide) (fun z => t_negK hk z (fun hk => ?_)) (fun z => t_posK hk z (fun hk => ?_))
  · refine mj_iconst (v := 0) dX0_jump_53 (by decide) ?_
    refine mj_sublv [(0, .ref 334), (2, .int l2)] [1, 3] rfl ?_
    exact B_X0_jump_54 _ _ _ _ _ hk
  · refine mj_iconst (v := 1) dX0_jump_49 (by decide) ?_
    refine mj_goto 54 dX0_jump_50 (by decide) ?_
    refine mj_sublv [(0, .ref 334), (2, .int l2)] [1, 3] rfl ?_
    exact B_X0_jump_54 _ _ _ _ _ hk
noncomputable def f_X0_jump (x1 : Int32) (x2 : Int32) (s : t_S) : Option (Int32 × t_S) :=
 (f_X0_cellOf ((s.1 334 7) - (1 : Int32)) s).bind (fun r1 =>
 if (f_X8_kind r1 s) = (1 : Int32) then ((f_X0_top s).bind (fun r3 =>
 if (lg_cmp (f_X8_told r3 s) (0 : Int64)) = (0 : Int32) then (k_X0_jump_41 x1 x2 0 s)
 else (k_X0_jump_41 x1 x2 1 s)))
 else (t_let (t_setI s 334 12 (1 : Int32)) (fun s1 =>
 some (x2, s1))))
set_option maxRecDepth 4000 in
set_option maxHeartbeats 1000000 in
theorem C_X0_jump (x1 : Int32) (x2 : Int32) (s : t_S) (r : Int32 × t_S) (hr : f_X0_jump x1 x2 s = some r) : t_C yX0_jump cX0_jump 4 (some .int) 2 [.ref 334, .int x1, .int x2] s (fun v s' => v = some (.int r.1) ∧ s' = r.2) := by
  refine t_C.imp (P := fun v s' => ∃ x, v = some (.int x) ∧ (fun q => q = r) ((x, s'))) (t_C.of (by decide +kernel) (Nat.le_of_ble_eq_true rfl) ?_) (fun v s' hp => by obtain ⟨x, rfl, rfl⟩ := hp; exact ⟨rfl, rfl⟩)
  intro D cy ad bs X
  have hk : t_hk (f_X0_jump x1 x2 s) (fun q => q = r) := ⟨r, hr, rfl⟩
  show mj_G D cy ad bs X cX0_jump 4 yX0_jump.cls (some .int) yX0_jump.name 2 0 0 1065 (t_P (fun v s' => ∃ x, v = some (.int x) ∧ (fun q => q = r) ((x, s')))) 0 [(0, .ref 334), (1, .int x1), (2, .int x2)] [] (t_m s) 1065 0 0
  refine mj_aload_n dX0_jump_0 0 rfl ?_
  refine mj_aload_n dX0_jump_1 0 rfl ?_
  refine t_getI dX0_jump_2 F_X0_62 qf_334_7 ?_
  refine mj_iconst (v := 1) dX0_jump_5 (by decide) ?_
  refine mj_isub dX0_jump_6 ?_
  refine t_bndK hk (fun r1 er1 hk => ?_)
  refine t_callVlP dX0_jump_7 M_X0_cellOf (C_X0_cellOf _ _ _ er1) ML_X0_230 IM_X0_cellOf SE_X0_cellOf qc_334 rfl (As := [.int ((s.1 334 7) - (1 : Int32))]) rfl rfl (Nat.le_of_ble_eq_true rfl) (Nat.le_of_ble_eq_true rfl) (Nat.le_of_ble_eq_true rfl) (Nat.le_of_ble_eq_true rfl) ?_
  refine t_callSiP dX0_jump_10 M_X8_kind (C_X8_kind _ _) ML_X0_160 SM_X8_kind (As := [.long r1]) rfl rfl (Nat.le_of_ble_eq_true rfl) (Nat.le_of_ble_eq_true rfl) (Nat.le_of_ble_eq_true rfl) (Nat.le_of_ble_eq_true rfl) ?_
  refine mj_iconst (v := 1) dX0_jump_13 (by decide) ?_
  refine mj_icmp_eq 24 dX0_jump_14 (by decide) (fun z => t_posK hk z (fun hk => ?_)) (fun z => t_negK hk z (fun hk => ?_))
  · refine mj_aload_n dX0_jump_24 0 rfl ?_
    refine t_bndK hk (fun r3 er3 hk => ?_)
    refine t_callVlP dX0_jump_25 M_X0_top (C_X0_top _ _ er3) ML_X0_233 IM_X0_top SE_X0_top qc_334 rfl (As := []) rfl rfl (Nat.le_of_ble_eq_true rfl) (Nat.le_of_ble_eq_true rfl) (Nat.le_of_ble_eq_true rfl) (Nat.le_of_ble_eq_true rfl) ?_
    refine t_callSlP dX0_jump_28 M_X8_told (C_X8_told _ _) ML_X0_166 SM_X8_told (As := [.long r3]) rfl rfl (Nat.le_of_ble_eq_true rfl) (Nat.le_of_ble_eq_true rfl) (Nat.le_of_ble_eq_true rfl) (Nat.le_of_ble_eq_true rfl) ?_
    refine mj_lconst (v := 0) dX0_jump_31 (by decide) ?_
    refine mj_lcmp dX0_jump_32 ?_
    refine mj_if_eq 40 dX0_jump_33 (by decide) (fun z => t_posK hk z (fun hk => ?_)) (fun z => t_negK hk z (fun hk => ?_))
    · refine mj_iconst (v := 0) dX0_jump_40 (by decide) ?_
      exact B_X0_jump_41 _ _ _ _ _ hk
    · refine mj_iconst (v := 1) dX0_jump_36 (by decide) ?_
      refine mj_goto 41 dX0_jump_37 (by decide) ?_
      exact B_X0_jump_41 _ _ _ _ _ hk
  · refine mj_aload_n dX0_jump_17 0 rfl ?_
    refine mj_iconst (v := 1) dX0_jump_18 (by decide) ?_
    refine t_putIK dX0_jump_19 F_X0_71 qf_334_12 rfl (fun s1 ws1 => t_letE hk ws1 (fun hk => ?_))
    refine mj_iload_n dX0_jump_22 2 rfl ?_
    exact t_somK hk (fun hf => t_iret dX0_jump_23 rfl rfl ⟨_, rfl, hf⟩ (Nat.le_of_ble_eq_true rfl) (Nat.le_of_ble_eq_true rfl))

theorem dX0_pushCell_0 : decode cX0_pushCell 0 = .ok (.aload_n 0, 1) := by decide +kernel
theorem dX0_pushCell_1 : decode cX0_pushCell 1 = .ok (.iconst 1, 1) := by decide +kernel
theorem dX0_pushCell_10 : decode cX0_pushCell 10 = .ok (.getfield 21, 3) := by decide +kernel
theorem dX0_pushCell_13 : decode cX0_pushCell 13 = .ok (.aload_n 0, 1) := by decide +kernel
theorem dX0_pushCell_14 : decode cX0_pushCell 14 = .ok (.getfield 24, 3) := by decide +kernel
theorem dX0_pushCell_17 : decode cX0_pushCell 17 = .ok (.aload_n 0, 1) := by decide +kernel
theorem dX0_pushCell_18 : decode cX0_pushCell 18 = .ok (.getfield 62, 3) := by decide +kernel
theorem dX0_pushCell_2 : decode cX0_pushCell 2 = .ok (.invokevirtual 146, 3) := by decide +kernel
theorem dX0_pushCell_21 : decode cX0_pushCell 21 = .ok (.iaload, 1) := by decide +kernel
theorem dX0_pushCell_22 : decode cX0_pushCell 22 = .ok (.lload_n 1, 1) := by decide +kernel
theorem dX0_pushCell_23 : decode cX0_pushCell 23 = .ok (.lastore, 1) := by decide +kernel
theorem dX0_pushCell_24 : decode cX0_pushCell 24 = .ok (.aload_n 0, 1) := by decide +kernel
theorem dX0_pushCell_25 : decode cX0_pushCell 25 = .ok (.getfield 24, 3) := by decide +kernel
theorem dX0_pushCell_28 : decode cX0_pushCell 28 = .ok (.aload_n 0, 1) := by decide +kernel
theorem dX0_pushCell_29 : decode cX0_pushCell 29 = .ok (.getfield 62, 3) := by decide +kernel
theorem dX0_pushCell_32 : decode cX0_pushCell 32 = .ok (.iconst 1, 1) := by decide +kernel
theorem dX0_pushCell_33 : decode cX0_pushCell 33 = .ok (.iadd, 1) := by decide +kernel
theorem dX0_pushCell_34 : decode cX0_pushCell 34 = .ok (.aload_n 0, 1) := by decide +kernel
theorem dX0_pushCell_35 : decode cX0_pushCell 35 = .ok (.getfield 24, 3) := by decide +kernel
theorem dX0_pushCell_38 : decode cX0_pushCell 38 = .ok (.aload_n 0, 1) := by decide +kernel
theorem dX0_pushCell_39 : decode cX0_pushCell 39 = .ok (.getfield 62, 3) := by decide +kernel
theorem dX0_pushCell_42 : decode cX0_pushCell 42 = .ok (.iaload, 1) := by decide +kernel
theorem dX0_pushCell_43 : decode cX0_pushCell 43 = .ok (.iconst 1, 1) := by decide +kernel
theorem dX0_pushCell_44 : decode cX0_pushCell 44 = .ok (.iadd, 1) := by decide +kernel
theorem dX0_pushCell_45 : decode cX0_pushCell 45 = .ok (.iastore, 1) := by decide +kernel
theorem dX0_pushCell_46 : decode cX0_pushCell 46 = .ok (.aload_n 0, 1) := by decide +kernel
theorem dX0_pushCell_47 : decode cX0_pushCell 47 = .ok (.dup, 1) := by decide +kernel
theorem dX0_pushCell_48 : decode cX0_pushCell 48 = .ok (.getfield 62, 3) := by decide +kernel
theorem dX0_pushCell_5 : decode cX0_pushCell 5 = .ok (.ifCond .ne 4, 3) := by decide +kernel
theorem dX0_pushCell_51 : decode cX0_pushCell 51 = .ok (.iconst 1, 1) := by decide +kernel
theorem dX0_pushCell_52 : decode cX0_pushCell 52 = .ok (.iadd, 1) := by decide +kernel
theorem dX0_pushCell_53 : decode cX0_pushCell 53 = .ok (.putfield 62, 3) := by decide +kernel
theorem dX0_pushCell_56 : decode cX0_pushCell 56 = .ok (.return_, 1) := by decide +kernel
theorem dX0_pushCell_8 : decode cX0_pushCell 8 = .ok (.return_, 1) := by decide +kernel
theorem dX0_pushCell_9 : decode cX0_pushCell 9 = .ok (.aload_n 0, 1) := by decide +kernel
noncomputable def f_X0_pushCell (x1 : Int64) (s : t_S) : Option (t_S) :=
 (f_X0_hasRoom (1 : Int32) s).bind (fun r1 =>
 if r1.1 = (0 : Int32) then (some (r1.2))
 else (if t_ix (r1.2.1 334 7) 3201 = true then
  if t_ix (r1.2.1 339 ((r1.2.1 334 7).toNatClampNeg)) 48000 = true then
  t_let (t_setJ r1.2 338 ((r1.2.1 339 ((r1.2.1 334 7).toNatClampNeg)).toNatClampNeg) x1) (fun s1 =>
 if t_ix (s1.1 334 7) 3201 = true then
  if t_ix ((s1.1 334 7) + (1 : Int32)) 3201 = true then
  t_let (t_setI s1 339 (((s1.1 334 7) + (1 : Int32)).toNatClampNeg) ((s1.1 339 ((s1.1 334 7).toNatClampNeg)) + (1 : Int32))) (fun s2 =>
 t_let (t_setI s2 334 7 ((s2.1 334 7) + (1 : Int32))) (fun s3 =>
 some (s3)))
else none
else none)
else none
else none))
set_option maxRecDepth 4000 in
set_option maxHeartbeats 1000000 in
theorem C_X0_pushCell (x1 : Int64) (s : t_S) (r : t_S) (hr : f_X0_pushCell x1 s = some r) : t_C yX0_pushCell cX0_pushCell 3 none 1 [.ref 334, .long x1] s (fun v s' => v = none ∧ s' = r) := by
  refine t_C.imp (P := fun v s' => v = none ∧ (fun q => q = r) (s')) (t_C.of (by decide +kernel) (Nat.le_of_ble_eq_true rfl) ?_) (fun v s' hp => hp)
  intro D cy ad bs X
  have hk : t_hk (f_X0_pushCell x1 s) (fun q => q = r) := ⟨r, hr, rfl⟩
  show mj_G D cy ad bs X cX0_pushCell 3 yX0_pushCell.cls none yX0_pushCell.name 1 0 0 1065 (t_P (fun v s' => v = none ∧ (fun q => q = r) (s'))) 0 [(0, .ref 334), (1, .long x1)] [] (t_m s) 1065 0 0
  refine mj_aload_n dX0_pushCell_0 0 rfl ?_
  refine mj_iconst (v := 1) dX0_pushCell_1 (by decide) ?_
  refine t_bndK hk (fun r1 er1 hk => ?_)
  refine t_callViE dX0_pushCell_2 M_X0_hasRoom (C_X0_hasRoom _ _ _ er1) ML_X0_146 IM_X0_hasRoom SE_X0_hasRoom qc_334 rfl (As := [.int 1]) rfl rfl (Nat.le_of_ble_eq_true rfl) (Nat.le_of_ble_eq_true rfl) (Nat.le_of_ble_eq_true rfl) (Nat.le_of_ble_eq_true rfl) ?_
  refine mj_if_ne 9 dX0_pushCell_5 (by decide) (fun z => t_negK hk z (fun hk => ?_)) (fun z => t_posK hk z (fun hk => ?_))
  · refine mj_aload_n dX0_pushCell_9 0 rfl ?_
    refine t_getR 338 dX0_pushCell_10 F_X0_21 qr_334_5 ?_
    refine mj_aload_n dX0_pushCell_13 0 rfl ?_
    refine t_getR 339 dX0_pushCell_14 F_X0_24 qr_334_6 ?_
    refine mj_aload_n dX0_pushCell_17 0 rfl ?_
    refine t_getI dX0_pushCell_18 F_X0_62 qf_334_7 ?_
    refine t_chkK hk (fun c1 hk => ?_)
    refine t_iald dX0_pushCell_21 qa_339 (t_ixv c1) ?_
    refine mj_lload_n dX0_pushCell_22 1 rfl ?_
    refine t_chkK hk (fun c2 hk => ?_)
    refine t_lastK dX0_pushCell_23 qa_338 (t_ixv c2) (fun s1 ws1 => t_letE hk ws1 (fun hk => ?_))
    refine mj_aload_n dX0_pushCell_24 0 rfl ?_
    refine t_getR 339 dX0_pushCell_25 F_X0_24 qr_334_6 ?_
    refine mj_aload_n dX0_pushCell_28 0 rfl ?_
    refine t_getI dX0_pushCell_29 F_X0_62 qf_334_7 ?_
    refine mj_iconst (v := 1) dX0_pushCell_32 (by decide) ?_
    refine mj_iadd dX0_pushCell_33 ?_
    refine mj_aload_n dX0_pushCell_34 0 rfl ?_
    refine t_getR 339 dX0_pushCell_35 F_X0_24 qr_334_6 ?_
    refine mj_aload_n dX0_pushCell_38 0 rfl ?_
    refine t_getI dX0_pushCell_39 F_X0_62 qf_334_7 ?_
    refine t_chkK hk (fun c3 hk => ?_)
    refine t_iald dX0_pushCell_42 qa_339 (t_ixv c3) ?_
    refine mj_iconst (v := 1) dX0_pushCell_43 (by decide) ?_
    refine mj_iadd dX0_pushCell_44 ?_
    refine t_chkK hk (fun c4 hk => ?_)
    refine t_iastK dX0_pushCell_45 qa_339 (t_ixv c4) (fun s2 ws2 => t_letE hk ws2 (fun hk => ?_))
    refine mj_aload_n dX0_pushCell_46 0 rfl ?_
    refine mj_dup dX0_pushCell_47 rfl ?_
    refine t_getI dX0_pushCell_48 F_X0_62 qf_334_7 ?_
    refine mj_iconst (v := 1) dX0_pushCell_51 (by decide) ?_
    refine mj_iadd dX0_pushCell_52 ?_
    refine t_putIK dX0_pushCell_53 F_X0_62 qf_334_7 rfl (fun s3 ws3 => t_letE hk ws3 (fun hk => ?_))
    exact t_somK hk (fun hf => t_vret dX0_pushCell_56 rfl ⟨rfl, hf⟩ (Nat.le_of_ble_eq_true rfl) (Nat.le_of_ble_eq_true rfl))
  · exact t_somK hk (fun hf => t_vret dX0_pushCell_8 rfl ⟨rfl, hf⟩ (Nat.le_of_ble_eq_true rfl) (Nat.le_of_ble_eq_true rfl))

theorem dX4_varSlot_0 : decode cX4_varSlot 0 = .ok (.iconst 0, 1) := by decide +kernel
theorem dX4_varSlot_1 : decode cX4_varSlot 1 = .ok (.aload_n 0, 1) := by decide +kernel
theorem dX4_varSlot_10 : decode cX4_varSlot 10 = .ok (.iadd, 1) := by decide +kernel
theorem dX4_varSlot_11 : decode cX4_varSlot 11 = .ok (.ireturn, 1) := by decide +kernel
theorem dX4_varSlot_2 : decode cX4_varSlot 2 = .ok (.getfield 40, 3) := by decide +kernel
theorem dX4_varSlot_5 : decode cX4_varSlot 5 = .ok (.bipush 72, 2) := by decide +kernel
theorem dX4_varSlot_7 : decode cX4_varSlot 7 = .ok (.imul, 1) := by decide +kernel
theorem dX4_varSlot_8 : decode cX4_varSlot 8 = .ok (.iadd, 1) := by decide +kernel
theorem dX4_varSlot_9 : decode cX4_varSlot 9 = .ok (.iload_n 1, 1) := by decide +kernel
noncomputable def f_X4_varSlot (p : Nat) (x1 : Int32) (s : t_S) : Option (Int32) :=
 if t_isP p = true then
  some (((0 : Int32) + ((s.1 p 0) * (72 : Int32))) + x1)
else none
set_option maxRecDepth 4000 in
set_option maxHeartbeats 1000000 in
theorem C_X4_varSlot (p : Nat) (x1 : Int32) (s : t_S) (r : Int32) (hr : f_X4_varSlot p x1 s = some r) : t_C yX4_varSlot cX4_varSlot 2 (some .int) 0 [.ref p, .int x1] s (fun v s' => v = some (.int r) ∧ s' = s) := by
  refine t_C.imp (P := fun v s' => s' = s ∧ ∃ x, v = some (.int x) ∧ (fun q => q = r) (x)) (t_C.of (by decide +kernel) (Nat.le_of_ble_eq_true rfl) ?_) (fun v s' hp => by obtain ⟨rfl, x, rfl, rfl⟩ := hp; exact ⟨rfl, rfl⟩)
  intro D cy ad bs X
  have hk : t_hk (f_X4_varSlot p x1 s) (fun q => q = r) := ⟨r, hr, rfl⟩
  show mj_G D cy ad bs X cX4_varSlot 2 yX4_varSlot.cls (some .int) yX4_varSlot.name 0 0 0 1065 (t_P (fun v s' => s' = s ∧ ∃ x, v = some (.int x) ∧ (fun q => q = r) (x))) 0 [(0, .ref p), (1, .int x1)] [] (t_m s) 1065 0 0
  refine mj_iconst (v := 0) dX4_varSlot_0 (by decide) ?_
  refine mj_aload_n dX4_varSlot_1 0 rfl ?_
  refine t_chkK hk (fun c0 hk => ?_)
  refine t_getI dX4_varSlot_2 F_X4_40 (t_pf0 c0) ?_
  refine mj_bipush (v := 72) dX4_varSlot_5 (by decide) ?_
  refine mj_imul dX4_varSlot_7 ?_
  refine mj_iadd dX4_varSlot_8 ?_
  refine mj_iload_n dX4_varSlot_9 1 rfl ?_
  refine mj_iadd dX4_varSlot_10 ?_
  exact t_somK hk (fun hf => t_iret dX4_varSlot_11 rfl rfl ⟨rfl, _, rfl, hf⟩ (Nat.le_of_ble_eq_true rfl) (Nat.le_of_ble_eq_true rfl))

theorem dX8_placeOf_0 : decode cX8_placeOf 0 = .ok (.iload_n 1, 1) := by decide +kernel
theorem dX8_placeOf_1 : decode cX8_placeOf 1 = .ok (.ifCond .lt 23, 3) := by decide +kernel
theorem dX8_placeOf_11 : decode cX8_placeOf 11 = .ok (.aload_n 0, 1) := by decide +kernel
theorem dX8_placeOf_12 : decode cX8_placeOf 12 = .ok (.getfield 16, 3) := by decide +kernel
theorem dX8_placeOf_15 : decode cX8_placeOf 15 = .ok (.iload_n 1, 1) := by decide +kernel
theorem dX8_placeOf_16 : decode cX8_placeOf 16 = .ok (.iaload, 1) := by decide +kernel
theorem dX8_placeOf_17 : decode cX8_placeOf 17 = .ok (.ifCond .eq 7, 3) := by decide +kernel
theorem dX8_placeOf_20 : decode cX8_placeOf 20 = .ok (.iconst 1, 1) := by decide +kernel
theorem dX8_placeOf_21 : decode cX8_placeOf 21 = .ok (.goto 4, 3) := by decide +kernel
theorem dX8_placeOf_24 : decode cX8_placeOf 24 = .ok (.iconst 0, 1) := by decide +kernel
theorem dX8_placeOf_25 : decode cX8_placeOf 25 = .ok (.istore_n 2, 1) := by decide +kernel
theorem dX8_placeOf_26 : decode cX8_placeOf 26 = .ok (.iload_n 2, 1) := by decide +kernel
theorem dX8_placeOf_27 : decode cX8_placeOf 27 = .ok (.ifCond .eq 7, 3) := by decide +kernel
theorem dX8_placeOf_30 : decode cX8_placeOf 30 = .ok (.iload_n 1, 1) := by decide +kernel
theorem dX8_placeOf_31 : decode cX8_placeOf 31 = .ok (.goto 6, 3) := by decide +kernel
theorem dX8_placeOf_34 : decode cX8_placeOf 34 = .ok (.sipush 1588, 3) := by decide +kernel
theorem dX8_placeOf_37 : decode cX8_placeOf 37 = .ok (.bipush 120, 2) := by decide +kernel
theorem dX8_placeOf_39 : decode cX8_placeOf 39 = .ok (.imul, 1) := by decide +kernel
theorem dX8_placeOf_4 : decode cX8_placeOf 4 = .ok (.iload_n 1, 1) := by decide +kernel
theorem dX8_placeOf_40 : decode cX8_placeOf 40 = .ok (.ireturn, 1) := by decide +kernel
theorem dX8_placeOf_5 : decode cX8_placeOf 5 = .ok (.sipush 1589, 3) := by decide +kernel
theorem dX8_placeOf_8 : decode cX8_placeOf 8 = .ok (.if_icmp .ge 16, 3) := by decide +kernel
noncomputable def k_X8_placeOf_25 (l1 : Int32) (k0 : Int32) (s : t_S) : Option (Int32) :=
 if k0 = (0 : Int32) then (some ((1588 : Int32) * (120 : Int32)))
 else (some (l1 * (120 : Int32)))
set_option maxRecDepth 4000 in
set_option maxHeartbeats 1000000 in
theorem B_X8_placeOf_25 {D : va_G} {cy : Nat → ClassId} {ad : Nat → Nat} {bs : Nat} {X : State → Heap → Prop} (l1 : Int32) (k0 : Int32) (s : t_S) (Q : Int32 → Prop) (hk : t_hk (k_X8_placeOf_25 l1 k0 s) Q) : mj_G D cy ad bs X cX8_placeOf 3 yX8_placeOf.cls (some .int) yX8_placeOf.name 0 0 0 1065 (t_P (fun v s' => s' = s ∧ ∃ x, v = some (.int x) ∧ Q (x))) 25 [(1, .int l1)] [.int k0] (t_m s) 1065 0 0 := by
  refine mj_istore_n 2 (lv2 := [(2, .int k0), (1, .int l1)]) dX8_placeOf_25 rfl (by decide) rfl ?_
  refine mj_iload_n dX8_placeOf_26 0 rfl ?_
  refine mj_if_eq 34 dX8_placeOf_27 (by decide) (fun z => t_posK hk z (fun hk => ?_)) (fun z => t_negK hk z (fun hk => ?_))
  · refine mj_sipush (v := 1588) dX8_placeOf_34 (by decide) ?_
    refine mj_bipush (v := 120) dX8_placeOf_37 (by decide) ?_
    refine mj_imul dX8_placeOf_39 ?_
    exact t_somK hk (fun hf => t_iret dX8_placeOf_40 rfl rfl ⟨rfl, _, rfl, hf⟩ (Nat.le_of_ble_eq_true rfl) (Nat.le_of_ble_eq_true rfl))
  · refine mj_iload_n dX8_placeOf_30 1 rfl ?_
    refine mj_goto 37 dX8_placeOf_31 (by decide) ?_
    refine mj_bipush (v := 120) dX8_placeOf_37 (by decide) ?_
    refine mj_imul dX8_placeOf_39 ?_
    exact t_somK hk (fun hf => t_iret dX8_placeOf_40 rfl rfl ⟨rfl, _, rfl, hf⟩ (Nat.le_of_ble_eq_true rfl) (Nat.le_of_ble_eq_true rfl))
noncomputable def k_X8_placeOf_24 (l1 : Int32) (s : t_S) : Option (Int32) :=
 k_X8_placeOf_25 l1 0 s
set_option maxRecDepth 4000 in
set_option maxHeartbeats 1000000 in
theorem B_X8_placeOf_24 {D : va_G} {cy : Nat → ClassId} {ad : Nat → Nat} {bs : Nat} {X : State → Heap → Prop} (l1 : Int32) (s : t_S) (Q : Int32 → Prop) (hk : t_hk (k_X8_placeOf_24 l1 s) Q) : mj_G D cy ad bs X cX8_placeOf 3 yX8_placeOf.cls (some .int) yX8_placeOf.name 0 0 0 1065 (t_P (fun v s' => s' = s ∧ ∃ x, v = some (.int x) ∧ Q (x))) 24 [(1, .int l1)] [] (t_m s) 1065 0 0 := by
  refine mj_iconst (v := 0) dX8_placeOf_24 (by decide) ?_
  exact B_X8_placeOf_25 _ _ _ _ hk
noncomputable def f_X8_placeOf (x1 : Int32) (s : t_S) : Option (Int32) :=
 if x1 < (0 : Int32) then (k_X8_placeOf_24 x1 s)
 else (if (1589 : Int32) ≤ x1 then (k_X8_placeOf_24 x1 s)
 else (if t_ix x1 1589 = true then
  if (s.1 14 (x1.toNatClampNeg)) = (0 : Int32) then (k_X8_placeOf_24 x1 s)
 else (k_X8_placeOf_25 x1 1 s)
else none))
set_option maxRecDepth 4000 in
set_option maxHeartbeats 1000000 in
theorem C_X8_placeOf (x1 : Int32) (s : t_S) (r : Int32) (hr : f_X8_placeOf x1 s = some r) : t_C yX8_placeOf cX8_placeOf 3 (some .int) 0 [.ref 12, .int x1] s (fun v s' => v = some (.int r) ∧ s' = s) := by
  refine t_C.imp (P := fun v s' => s' = s ∧ ∃ x, v = some (.int x) ∧ (fun q => q = r) (x)) (t_C.of (by decide +kernel) (Nat.le_of_ble_eq_true rfl) ?_) (fun v s' hp => by obtain ⟨rfl, x, rfl, rfl⟩ := hp; exact ⟨rfl, rfl⟩)
  intro D cy ad bs X
  have hk : t_hk (f_X8_placeOf x1 s) (fun q => q = r) := ⟨r, hr, rfl⟩
  show mj_G D cy ad bs X cX8_placeOf 3 yX8_placeOf.cls (some .int) yX8_placeOf.name 0 0 0 1065 (t_P (fun v s' => s' = s ∧ ∃ x, v = some (.int x) ∧ (fun q => q = r) (x))) 0 [(0, .ref 12), (1, .int x1)] [] (t_m s) 1065 0 0
  refine mj_iload_n dX8_placeOf_0 1 rfl ?_
  refine mj_if_lt 24 dX8_placeOf_1 (by decide) (fun z => t_posK hk z (fun hk => ?_)) (fun z => t_negK hk z (fun hk => ?_))
  · refine mj_sublv [(1, .int x1)] [1] rfl ?_
    exact B_X8_placeOf_24 _ _ _ hk
  · refine mj_iload_n dX8_placeOf_4 1 rfl ?_
    refine mj_sipush (v := 1589) dX8_placeOf_5 (by decide) ?_
    refine mj_icmp_ge 24 dX8_placeOf_8 (by decide) (fun z => t_posK hk z (fun hk => ?_)) (fun z => t_negK hk z (fun hk => ?_))
    · refine mj_sublv [(1, .int x1)] [1] rfl ?_
      exact B_X8_placeOf_24 _ _ _ hk
    · refine mj_aload_n dX8_placeOf_11 0 rfl ?_
      refine t_getR 14 dX8_placeOf_12 F_X8_16 qr_12_1 ?_
      refine mj_iload_n dX8_placeOf_15 1 rfl ?_
      refine t_chkK hk (fun c0 hk => ?_)
      refine t_iald dX8_placeOf_16 qa_14 (t_ixv c0) ?_
      refine mj_if_eq 24 dX8_placeOf_17 (by decide) (fun z => t_posK hk z (fun hk => ?_)) (fun z => t_negK hk z (fun hk => ?_))
      · refine mj_sublv [(1, .int x1)] [1] rfl ?_
        exact B_X8_placeOf_24 _ _ _ hk
      · refine mj_iconst (v := 1) dX8_placeOf_20 (by decide) ?_
        refine mj_goto 25 dX8_placeOf_21 (by decide) ?_
        refine mj_sublv [(1, .int x1)] [1] rfl ?_
        exact B_X8_placeOf_25 _ _ _ _ hk

theorem dX0_load_0 : decode cX0_load 0 = .ok (.iload_n 1, 1) := by decide +kernel
theorem dX0_load_1 : decode cX0_load 1 = .ok (.tableswitch 177 1 7 #[43, 55, 68, 95, 124, 143, 158], 43) := by decide +kernel
theorem dX0_load_101 : decode cX0_load 101 = .ok (.getfield 114, 3) := by decide +kernel
theorem dX0_load_104 : decode cX0_load 104 = .ok (.aload_n 0, 1) := by decide +kernel
theorem dX0_load_105 : decode cX0_load 105 = .ok (.getfield 38, 3) := by decide +kernel
theorem dX0_load_108 : decode cX0_load 108 = .ok (.aload_n 0, 1) := by decide +kernel
theorem dX0_load_109 : decode cX0_load 109 = .ok (.getfield 47, 3) := by decide +kernel
theorem dX0_load_112 : decode cX0_load 112 = .ok (.iload_n 2, 1) := by decide +kernel
theorem dX0_load_113 : decode cX0_load 113 = .ok (.invokevirtual 124, 3) := by decide +kernel
theorem dX0_load_116 : decode cX0_load 116 = .ok (.invokevirtual 120, 3) := by decide +kernel
theorem dX0_load_119 : decode cX0_load 119 = .ok (.invokevirtual 102, 3) := by decide +kernel
theorem dX0_load_122 : decode cX0_load 122 = .ok (.goto 94, 3) := by decide +kernel
theorem dX0_load_125 : decode cX0_load 125 = .ok (.aload_n 0, 1) := by decide +kernel
theorem dX0_load_126 : decode cX0_load 126 = .ok (.iconst 5, 1) := by decide +kernel
theorem dX0_load_127 : decode cX0_load 127 = .ok (.aload_n 0, 1) := by decide +kernel
theorem dX0_load_128 : decode cX0_load 128 = .ok (.getfield 47, 3) := by decide +kernel
theorem dX0_load_131 : decode cX0_load 131 = .ok (.getfield 127, 3) := by decide +kernel
theorem dX0_load_134 : decode cX0_load 134 = .ok (.i2l, 1) := by decide +kernel
theorem dX0_load_135 : decode cX0_load 135 = .ok (.invokestatic 106, 3) := by decide +kernel
theorem dX0_load_138 : decode cX0_load 138 = .ok (.invokevirtual 110, 3) := by decide +kernel
theorem dX0_load_141 : decode cX0_load 141 = .ok (.goto 75, 3) := by decide +kernel
theorem dX0_load_144 : decode cX0_load 144 = .ok (.aload_n 0, 1) := by decide +kernel
theorem dX0_load_145 : decode cX0_load 145 = .ok (.iconst 0, 1) := by decide +kernel
theorem dX0_load_146 : decode cX0_load 146 = .ok (.aload_n 0, 1) := by decide +kernel
theorem dX0_load_147 : decode cX0_load 147 = .ok (.getfield 130, 3) := by decide +kernel
theorem dX0_load_150 : decode cX0_load 150 = .ok (.invokestatic 106, 3) := by decide +kernel
theorem dX0_load_153 : decode cX0_load 153 = .ok (.invokevirtual 110, 3) := by decide +kernel
theorem dX0_load_156 : decode cX0_load 156 = .ok (.goto 60, 3) := by decide +kernel
theorem dX0_load_159 : decode cX0_load 159 = .ok (.aload_n 0, 1) := by decide +kernel
theorem dX0_load_160 : decode cX0_load 160 = .ok (.iconst 0, 1) := by decide +kernel
theorem dX0_load_161 : decode cX0_load 161 = .ok (.aload_n 0, 1) := by decide +kernel
theorem dX0_load_162 : decode cX0_load 162 = .ok (.getfield 47, 3) := by decide +kernel
theorem dX0_load_165 : decode cX0_load 165 = .ok (.getfield 134, 3) := by decide +kernel
theorem dX0_load_168 : decode cX0_load 168 = .ok (.i2l, 1) := by decide +kernel
theorem dX0_load_169 : decode cX0_load 169 = .ok (.invokestatic 106, 3) := by decide +kernel
theorem dX0_load_172 : decode cX0_load 172 = .ok (.invokevirtual 110, 3) := by decide +kernel
theorem dX0_load_175 : decode cX0_load 175 = .ok (.goto 41, 3) := by decide +kernel
theorem dX0_load_178 : decode cX0_load 178 = .ok (.aload_n 0, 1) := by decide +kernel
theorem dX0_load_179 : decode cX0_load 179 = .ok (.iload_n 2, 1) := by decide +kernel
theorem dX0_load_180 : decode cX0_load 180 = .ok (.ifCond .lt 29, 3) := by decide +kernel
theorem dX0_load_183 : decode cX0_load 183 = .ok (.iload_n 2, 1) := by decide +kernel
theorem dX0_load_184 : decode cX0_load 184 = .ok (.iconst 4, 1) := by decide +kernel
theorem dX0_load_185 : decode cX0_load 185 = .ok (.if_icmp .ge 24, 3) := by decide +kernel
theorem dX0_load_188 : decode cX0_load 188 = .ok (.aload_n 0, 1) := by decide +kernel
theorem dX0_load_189 : decode cX0_load 189 = .ok (.getfield 47, 3) := by decide +kernel
theorem dX0_load_192 : decode cX0_load 192 = .ok (.getfield 139, 3) := by decide +kernel
theorem dX0_load_195 : decode cX0_load 195 = .ok (.iload_n 2, 1) := by decide +kernel
theorem dX0_load_196 : decode cX0_load 196 = .ok (.laload, 1) := by decide +kernel
theorem dX0_load_197 : decode cX0_load 197 = .ok (.aload_n 0, 1) := by decide +kernel
theorem dX0_load_198 : decode cX0_load 198 = .ok (.getfield 130, 3) := by decide +kernel
theorem dX0_load_201 : decode cX0_load 201 = .ok (.lcmp, 1) := by decide +kernel
theorem dX0_load_202 : decode cX0_load 202 = .ok (.ifCond .le 7, 3) := by decide +kernel
theorem dX0_load_205 : decode cX0_load 205 = .ok (.iconst 1, 1) := by decide +kernel
theorem dX0_load_206 : decode cX0_load 206 = .ok (.goto 4, 3) := by decide +kernel
theorem dX0_load_209 : decode cX0_load 209 = .ok (.iconst 0, 1) := by decide +kernel
theorem dX0_load_210 : decode cX0_load 210 = .ok (.invokestatic 142, 3) := by decide +kernel
theorem dX0_load_213 : decode cX0_load 213 = .ok (.invokevirtual 110, 3) := by decide +kernel
theorem dX0_load_216 : decode cX0_load 216 = .ok (.return_, 1) := by decide +kernel
theorem dX0_load_44 : decode cX0_load 44 = .ok (.aload_n 0, 1) := by decide +kernel
theorem dX0_load_45 : decode cX0_load 45 = .ok (.aload_n 0, 1) := by decide +kernel
theorem dX0_load_46 : decode cX0_load 46 = .ok (.getfield 16, 3) := by decide +kernel
theorem dX0_load_49 : decode cX0_load 49 = .ok (.iload_n 2, 1) := by decide +kernel
theorem dX0_load_50 : decode cX0_load 50 = .ok (.invokevirtual 102, 3) := by decide +kernel
theorem dX0_load_53 : decode cX0_load 53 = .ok (.goto 163, 3) := by decide +kernel
theorem dX0_load_56 : decode cX0_load 56 = .ok (.aload_n 0, 1) := by decide +kernel
theorem dX0_load_57 : decode cX0_load 57 = .ok (.iconst 3, 1) := by decide +kernel
theorem dX0_load_58 : decode cX0_load 58 = .ok (.iload_n 2, 1) := by decide +kernel
theorem dX0_load_59 : decode cX0_load 59 = .ok (.i2l, 1) := by decide +kernel
theorem dX0_load_60 : decode cX0_load 60 = .ok (.invokestatic 106, 3) := by decide +kernel
theorem dX0_load_63 : decode cX0_load 63 = .ok (.invokevirtual 110, 3) := by decide +kernel
theorem dX0_load_66 : decode cX0_load 66 = .ok (.goto 150, 3) := by decide +kernel
theorem dX0_load_69 : decode cX0_load 69 = .ok (.aload_n 0, 1) := by decide +kernel
theorem dX0_load_70 : decode cX0_load 70 = .ok (.aload_n 0, 1) := by decide +kernel
theorem dX0_load_71 : decode cX0_load 71 = .ok (.getfield 38, 3) := by decide +kernel
theorem dX0_load_74 : decode cX0_load 74 = .ok (.getfield 114, 3) := by decide +kernel
theorem dX0_load_77 : decode cX0_load 77 = .ok (.aload_n 0, 1) := by decide +kernel
theorem dX0_load_78 : decode cX0_load 78 = .ok (.getfield 38, 3) := by decide +kernel
theorem dX0_load_81 : decode cX0_load 81 = .ok (.aload_n 0, 1) := by decide +kernel
theorem dX0_load_82 : decode cX0_load 82 = .ok (.getfield 117, 3) := by decide +kernel
theorem dX0_load_85 : decode cX0_load 85 = .ok (.iload_n 2, 1) := by decide +kernel
theorem dX0_load_86 : decode cX0_load 86 = .ok (.iadd, 1) := by decide +kernel
theorem dX0_load_87 : decode cX0_load 87 = .ok (.invokevirtual 120, 3) := by decide +kernel
theorem dX0_load_90 : decode cX0_load 90 = .ok (.invokevirtual 102, 3) := by decide +kernel
theorem dX0_load_93 : decode cX0_load 93 = .ok (.goto 123, 3) := by decide +kernel
theorem dX0_load_96 : decode cX0_load 96 = .ok (.aload_n 0, 1) := by decide +kernel
theorem dX0_load_97 : decode cX0_load 97 = .ok (.aload_n 0, 1) := by decide +kernel
theorem dX0_load_98 : decode cX0_load 98 = .ok (.getfield 38, 3) := by decide +kernel
noncomputable def k_X0_load_210 (k0 : Int32) (s : t_S) : Option (t_S) :=
 (f_X0_pushCell (f_X0_truth k0 s) s).bind (fun r2 =>
 some (r2))
set_option maxRecDepth 4000 in
set_option maxHeartbeats 1000000 in
theorem B_X0_load_210 {D : va_G} {cy : Nat → ClassId} {ad : Nat → Nat} {bs : Nat} {X : State → Heap → Prop} (k0 : Int32) (s : t_S) (Q : t_S → Prop) (hk : t_hk (k_X0_load_210 k0 s) Q) : mj_G D cy ad bs X cX0_load 3 yX0_load.cls none yX0_load.name 2 0 0 1065 (t_P (fun v s' => v = none ∧ Q (s'))) 210 [] [.int k0, .ref 334] (t_m s) 1065 0 0 := by
  refine t_callSlP dX0_load_210 M_X0_truth (C_X0_truth _ _) ML_X0_142 SM_X0_truth (As := [.int k0]) rfl rfl (Nat.le_of_ble_eq_true rfl) (Nat.le_of_ble_eq_true rfl) (Nat.le_of_ble_eq_true rfl) (Nat.le_of_ble_eq_true rfl) ?_
  refine t_bndK hk (fun r2 er2 hk => ?_)
  refine t_callVvE dX0_load_213 M_X0_pushCell (C_X0_pushCell _ _ _ er2) ML_X0_110 IM_X0_pushCell SE_X0_pushCell qc_334 rfl (As := [.long (f_X0_truth k0 s)]) rfl rfl (Nat.le_of_ble_eq_true rfl) (Nat.le_of_ble_eq_true rfl) (Nat.le_of_ble_eq_true rfl) (Nat.le_of_ble_eq_true rfl) ?_
  exact t_somK hk (fun hf => t_vret dX0_load_216 rfl ⟨rfl, hf⟩ (Nat.le_of_ble_eq_true rfl) (Nat.le_of_ble_eq_true rfl))
noncomputable def k_X0_load_209 (s : t_S) : Option (t_S) :=
 k_X0_load_210 0 s
set_option maxRecDepth 4000 in
set_option maxHeartbeats 1000000 in
theorem B_X0_load_209 {D : va_G} {cy : Nat → ClassId} {ad : Nat → Nat} {bs : Nat} {X : State → Heap → Prop} (s : t_S) (Q : t_S → Prop) (hk : t_hk (k_X0_load_209 s) Q) : mj_G D cy ad bs X cX0_load 3 yX0_load.cls none yX0_load.name 2 0 0 1065 (t_P (fun v s' => v = none ∧ Q (s'))) 209 [] [.ref 334] (t_m s) 1065 0 0 := by
  refine mj_iconst (v := 0) dX0_load_209 (by decide) ?_
  exact B_X0_load_210 _ _ _ hk
noncomputable def f_X0_load (x1 : Int32) (x2 : Int32) (s : t_S) : Option (t_S) :=
 if x1.toInt < 1 ∨ 7 < x1.toInt then (if x2 < (0 : Int32) then (k_X0_load_209 s)
 else (if (4 : Int32) ≤ x2 then (k_X0_load_209 s)
 else (if t_isP (s.2.2 334 15) = true then
  if t_ix x2 4 = true then
  if (lg_cmp (s.2.1 ((s.2.2 334 15) + 9) (x2.toNatClampNeg)) (s.2.1 334 17)) ≤ (0 : Int32) then (k_X0_load_209 s)
 else (k_X0_load_210 1 s)
else none
else none)))
 else if x1.toInt = 1 then ((f_X0_pushFrom 337 x2 s).bind (fun r3 =>
 some (r3)))
 else if x1.toInt = 2 then ((f_X0_pushCell (f_X8_plainCell (3 : Int32) x2.toInt64 s) s).bind (fun r5 =>
 some (r5)))
 else if x1.toInt = 3 then ((f_X8_placeOf ((s.1 334 18) + x2) s).bind (fun r6 =>
 (f_X0_pushFrom 13 r6 s).bind (fun r7 =>
 some (r7))))
 else if x1.toInt = 4 then (if t_isP (s.2.2 334 15) = true then
  (f_X4_varSlot (s.2.2 334 15) x2 s).bind (fun r9 =>
 (f_X8_placeOf r9 s).bind (fun r10 =>
 (f_X0_pushFrom 13 r10 s).bind (fun r11 =>
 some (r11))))
else none)
 else if x1.toInt = 5 then (if t_isP (s.2.2 334 15) = true then
  (f_X0_pushCell (f_X8_plainCell (5 : Int32) ((s.1 (s.2.2 334 15) 0).toInt64) s) s).bind (fun r14 =>
 some (r14))
else none)
 else if x1.toInt = 6 then ((f_X0_pushCell (f_X8_plainCell (0 : Int32) (s.2.1 334 17) s) s).bind (fun r16 =>
 some (r16)))
 else (if t_isP (s.2.2 334 15) = true then
  (f_X0_pushCell (f_X8_plainCell (0 : Int32) ((s.1 (s.2.2 334 15) 3).toInt64) s) s).bind (fun r19 =>
 some (r19))
else none)
set_option maxRecDepth 4000 in
set_option maxHeartbeats 1000000 in
theorem C_X0_load (x1 : Int32) (x2 : Int32) (s : t_S) (r : t_S) (hr : f_X0_load x1 x2 s = some r) : t_C yX0_load cX0_load 3 none 2 [.ref 334, .int x1, .int x2] s (fun v s' => v = none ∧ s' = r) := by
  refine t_C.imp (P := fun v s' => v = none ∧ (fun q => q = r) (s')) (t_C.of (by decide +kernel) (Nat.le_of_ble_eq_true rfl) ?_) (fun v s' hp => hp)
  intro D cy ad bs X
  have hk : t_hk (f_X0_load x1 x2 s) (fun q => q = r) := ⟨r, hr, rfl⟩
  show mj_G D cy ad bs X cX0_load 3 yX0_load.cls none yX0_load.name 2 0 0 1065 (t_P (fun v s' => v = none ∧ (fun q => q = r) (s'))) 0 [(0, .ref 334), (1, .int x1), (2, .int x2)] [] (t_m s) 1065 0 0
  refine mj_iload_n dX0_load_0 1 rfl ?_
  by_cases hout : x1.toInt < 1 ∨ 7 < x1.toInt
  · replace hk := t_pos hk hout
    refine mj_tableOut 178 dX0_load_1 hout (by decide) ?_
    refine mj_aload_n dX0_load_178 0 rfl ?_
    refine mj_iload_n dX0_load_179 2 rfl ?_
    refine mj_if_lt 209 dX0_load_180 (by decide) (fun z => t_posK hk z (fun hk => ?_)) (fun z => t_negK hk z (fun hk => ?_))
    · refine mj_sublv [] [] rfl ?_
      exact B_X0_load_209 _ _ hk
    · refine mj_iload_n dX0_load_183 2 rfl ?_
      refine mj_iconst (v := 4) dX0_load_184 (by decide) ?_
      refine mj_icmp_ge 209 dX0_load_185 (by decide) (fun z => t_posK hk z (fun hk => ?_)) (fun z => t_negK hk z (fun hk => ?_))
      · refine mj_sublv [] [] rfl ?_
        exact B_X0_load_209 _ _ hk
      · refine mj_aload_n dX0_load_188 0 rfl ?_
        refine t_getD dX0_load_189 F_X0_47 qf_334_15 ?_
        refine t_chkK hk (fun c0 hk => ?_)
        refine t_getR ((s.2.2 334 15) + 9) dX0_load_192 F_X0_139 (t_pr16 c0) ?_
        refine mj_iload_n dX0_load_195 2 rfl ?_
        refine t_chkK hk (fun c1 hk => ?_)
        refine t_lald dX0_load_196 (t_pa16 c0) (t_ixv c1) ?_
        refine mj_aload_n dX0_load_197 0 rfl ?_
        refine t_getJ dX0_load_198 F_X0_130 qf_334_17 ?_
        refine mj_lcmp dX0_load_201 ?_
        refine mj_if_le 209 dX0_load_202 (by decide) (fun z => t_posK hk z (fun hk => ?_)) (fun z => t_negK hk z (fun hk => ?_))
        · refine mj_sublv [] [] rfl ?_
          exact B_X0_load_209 _ _ hk
        · refine mj_iconst (v := 1) dX0_load_205 (by decide) ?_
          refine mj_goto 210 dX0_load_206 (by decide) ?_
          refine mj_sublv [] [] rfl ?_
          exact B_X0_load_210 _ _ _ hk
  · replace hk := t_neg hk hout
    have hh1 : ¬ x1.toInt < 1 := fun z => hout (Or.inl z)
    have hh2 : ¬ (7 : Int) < x1.toInt := fun z => hout (Or.inr z)
    by_cases h0 : x1.toInt = 1
    · replace hk := t_pos hk h0
      refine mj_tableIn 44 dX0_load_1 hh1 hh2 (by rw [h0]; rfl) (by decide) ?_
      refine mj_aload_n dX0_load_44 0 rfl ?_
      refine mj_aload_n dX0_load_45 0 rfl ?_
      refine t_getR 337 dX0_load_46 F_X0_16 qr_334_3 ?_
      refine mj_iload_n dX0_load_49 2 rfl ?_
      refine t_bndK hk (fun r3 er3 hk => ?_)
      refine t_callVvE dX0_load_50 M_X0_pushFrom (C_X0_pushFrom _ _ _ _ er3) ML_X0_102 IM_X0_pushFrom SE_X0_pushFrom qc_334 rfl (As := [.ref 337, .int x2]) rfl rfl (Nat.le_of_ble_eq_true rfl) (Nat.le_of_ble_eq_true rfl) (Nat.le_of_ble_eq_true rfl) (Nat.le_of_ble_eq_true rfl) ?_
      refine mj_goto 216 dX0_load_53 (by decide) ?_
      exact t_somK hk (fun hf => t_vret dX0_load_216 rfl ⟨rfl, hf⟩ (Nat.le_of_ble_eq_true rfl) (Nat.le_of_ble_eq_true rfl))
    replace hk := t_neg hk h0
    by_cases h1 : x1.toInt = 2
    · replace hk := t_pos hk h1
      refine mj_tableIn 56 dX0_load_1 hh1 hh2 (by rw [h1]; rfl) (by decide) ?_
      refine mj_aload_n dX0_load_56 0 rfl ?_
      refine mj_iconst (v := 3) dX0_load_57 (by decide) ?_
      refine mj_iload_n dX0_load_58 2 rfl ?_
      refine mj_i2l (v := x2.toInt64) dX0_load_59 rfl ?_
      refine t_callSlP dX0_load_60 M_X8_plainCell (C_X8_plainCell _ _ _) ML_X0_106 SM_X8_plainCell (As := [.int 3, .long x2.toInt64]) rfl rfl (Nat.le_of_ble_eq_true rfl) (Nat.le_of_ble_eq_true rfl) (Nat.le_of_ble_eq_true rfl) (Nat.le_of_ble_eq_true rfl) ?_
      refine t_bndK hk (fun r5 er5 hk => ?_)
      refine t_callVvE dX0_load_63 M_X0_pushCell (C_X0_pushCell _ _ _ er5) ML_X0_110 IM_X0_pushCell SE_X0_pushCell qc_334 rfl (As := [.long (f_X8_plainCell (3 : Int32) x2.toInt64 s)]) rfl rfl (Nat.le_of_ble_eq_true rfl) (Nat.le_of_ble_eq_true rfl) (Nat.le_of_ble_eq_true rfl) (Nat.le_of_ble_eq_true rfl) ?_
      refine mj_goto 216 dX0_load_66 (by decide) ?_
      exact t_somK hk (fun hf => t_vret dX0_load_216 rfl ⟨rfl, hf⟩ (Nat.le_of_ble_eq_true rfl) (Nat.le_of_ble_eq_true rfl))
    replace hk := t_neg hk h1
    by_cases h2 : x1.toInt = 3
    · replace hk := t_pos hk h2
      refine mj_tableIn 69 dX0_load_1 hh1 hh2 (by rw [h2]; rfl) (by decide) ?_
      refine mj_aload_n dX0_load_69 0 rfl ?_
      refine mj_aload_n dX0_load_70 0 rfl ?_
      refine t_getR 12 dX0_load_71 F_X0_38 qr_334_19 ?_
      refine t_getR 13 dX0_load_74 F_X0_114 qr_12_0 ?_
      refine mj_aload_n dX0_load_77 0 rfl ?_
      refine t_getR 12 dX0_load_78 F_X0_38 qr_334_19 ?_
      refine mj_aload_n dX0_load_81 0 rfl ?_
      refine t_getI dX0_load_82 F_X0_117 qf_334_18 ?_
      refine mj_iload_n dX0_load_85 2 rfl ?_
      refine mj_iadd dX0_load_86 ?_
      refine t_bndK hk (fun r6 er6 hk => ?_)
      refine t_callViP dX0_load_87 M_X8_placeOf (C_X8_placeOf _ _ _ er6) ML_X0_120 IM_X8_placeOf SE_X8_placeOf qc_12 rfl (As := [.int ((s.1 334 18) + x2)]) rfl rfl (Nat.le_of_ble_eq_true rfl) (Nat.le_of_ble_eq_true rfl) (Nat.le_of_ble_eq_true rfl) (Nat.le_of_ble_eq_true rfl) ?_
      refine t_bndK hk (fun r7 er7 hk => ?_)
      refine t_callVvE dX0_load_90 M_X0_pushFrom (C_X0_pushFrom _ _ _ _ er7) ML_X0_102 IM_X0_pushFrom SE_X0_pushFrom qc_334 rfl (As := [.ref 13, .int r6]) rfl rfl (Nat.le_of_ble_eq_true rfl) (Nat.le_of_ble_eq_true rfl) (Nat.le_of_ble_eq_true rfl) (Nat.le_of_ble_eq_true rfl) ?_
      refine mj_goto 216 dX0_load_93 (by decide) ?_
      exact t_somK hk (fun hf => t_vret dX0_load_216 rfl ⟨rfl, hf⟩ (Nat.le_of_ble_eq_true rfl) (Nat.le_of_ble_eq_true rfl))
    replace hk := t_neg hk h2
    by_cases h3 : x1.toInt = 4
    · replace hk := t_pos hk h3
      refine mj_tableIn 96 dX0_load_1 hh1 hh2 (by rw [h3]; rfl) (by decide) ?_
      refine mj_aload_n dX0_load_96 0 rfl ?_
      refine mj_aload_n dX0_load_97 0 rfl ?_
      refine t_getR 12 dX0_load_98 F_X0_38 qr_334_19 ?_
      refine t_getR 13 dX0_load_101 F_X0_114 qr_12_0 ?_
      refine mj_aload_n dX0_load_104 0 rfl ?_
      refine t_getR 12 dX0_load_105 F_X0_38 qr_334_19 ?_
      refine mj_aload_n dX0_load_108 0 rfl ?_
      refine t_getD dX0_load_109 F_X0_47 qf_334_15 ?_
      refine mj_iload_n dX0_load_112 2 rfl ?_
      refine t_chkK hk (fun c7 hk => ?_)
      refine t_bndK hk (fun r9 er9 hk => ?_)
      refine t_callViP dX0_load_113 M_X4_varSlot (C_X4_varSlot _ _ _ _ er9) ML_X0_124 IM_X4_varSlot SE_X4_varSlot (t_pc c7) rfl (As := [.int x2]) rfl rfl (Nat.le_of_ble_eq_true rfl) (Nat.le_of_ble_eq_true rfl) (Nat.le_of_ble_eq_true rfl) (Nat.le_of_ble_eq_true rfl) ?_
      refine t_bndK hk (fun r10 er10 hk => ?_)
      refine t_callViP dX0_load_116 M_X8_placeOf (C_X8_placeOf _ _ _ er10) ML_X0_120 IM_X8_placeOf SE_X8_placeOf qc_12 rfl (As := [.int r9]) rfl rfl (Nat.le_of_ble_eq_true rfl) (Nat.le_of_ble_eq_true rfl) (Nat.le_of_ble_eq_true rfl) (Nat.le_of_ble_eq_true rfl) ?_
      refine t_bndK hk (fun r11 er11 hk => ?_)
      refine t_callVvE dX0_load_119 M_X0_pushFrom (C_X0_pushFrom _ _ _ _ er11) ML_X0_102 IM_X0_pushFrom SE_X0_pushFrom qc_334 rfl (As := [.ref 13, .int r10]) rfl rfl (Nat.le_of_ble_eq_true rfl) (Nat.le_of_ble_eq_true rfl) (Nat.le_of_ble_eq_true rfl) (Nat.le_of_ble_eq_true rfl) ?_
      refine mj_goto 216 dX0_load_122 (by decide) ?_
      exact t_somK hk (fun hf => t_vret dX0_load_216 rfl ⟨rfl, hf⟩ (Nat.le_of_ble_eq_true rfl) (Nat.le_of_ble_eq_true rfl))
    replace hk := t_neg hk h3
    by_cases h4 : x1.toInt = 5
    · replace hk := t_pos hk h4
      refine mj_tableIn 125 dX0_load_1 hh1 hh2 (by rw [h4]; rfl) (by decide) ?_
      refine mj_aload_n dX0_load_125 0 rfl ?_
      refine mj_iconst (v := 5) dX0_load_126 (by decide) ?_
      refine mj_aload_n dX0_load_127 0 rfl ?_
      refine t_getD dX0_load_128 F_X0_47 qf_334_15 ?_
      refine t_chkK hk (fun c11 hk => ?_)
      refine t_getI dX0_load_131 F_X0_127 (t_pf0 c11) ?_
      refine mj_i2l (v := (s.1 (s.2.2 334 15) 0).toInt64) dX0_load_134 rfl ?_
      refine t_callSlP dX0_load_135 M_X8_plainCell (C_X8_plainCell _ _ _) ML_X0_106 SM_X8_plainCell (As := [.int 5, .long ((s.1 (s.2.2 334 15) 0).toInt64)]) rfl rfl (Nat.le_of_ble_eq_true rfl) (Nat.le_of_ble_eq_true rfl) (Nat.le_of_ble_eq_true rfl) (Nat.le_of_ble_eq_true rfl) ?_
      refine t_bndK hk (fun r14 er14 hk => ?_)
      refine t_callVvE dX0_load_138 M_X0_pushCell (C_X0_pushCell _ _ _ er14) ML_X0_110 IM_X0_pushCell SE_X0_pushCell qc_334 rfl (As := [.long (f_X8_plainCell (5 : Int32) ((s.1 (s.2.2 334 15) 0).toInt64) s)]) rfl rfl (Nat.le_of_ble_eq_true rfl) (Nat.le_of_ble_eq_true rfl) (Nat.le_of_ble_eq_true rfl) (Nat.le_of_ble_eq_true rfl) ?_
      refine mj_goto 216 dX0_load_141 (by decide) ?_
      exact t_somK hk (fun hf => t_vret dX0_load_216 rfl ⟨rfl, hf⟩ (Nat.le_of_ble_eq_true rfl) (Nat.le_of_ble_eq_true rfl))
    replace hk := t_neg hk h4
    by_cases h5 : x1.toInt = 6
    · replace hk := t_pos hk h5
      refine mj_tableIn 144 dX0_load_1 hh1 hh2 (by rw [h5]; rfl) (by decide) ?_
      refine mj_aload_n dX0_load_144 0 rfl ?_
      refine mj_iconst (v := 0) dX0_load_145 (by decide) ?_
      refine mj_aload_n dX0_load_146 0 rfl ?_
      refine t_getJ dX0_load_147 F_X0_130 qf_334_17 ?_
      refine t_callSlP dX0_load_150 M_X8_plainCell (C_X8_plainCell _ _ _) ML_X0_106 SM_X8_plainCell (As := [.int 0, .long (s.2.1 334 17)]) rfl rfl (Nat.le_of_ble_eq_true rfl) (Nat.le_of_ble_eq_true rfl) (Nat.le_of_ble_eq_true rfl) (Nat.le_of_ble_eq_true rfl) ?_
      refine t_bndK hk (fun r16 er16 hk => ?_)
      refine t_callVvE dX0_load_153 M_X0_pushCell (C_X0_pushCell _ _ _ er16) ML_X0_110 IM_X0_pushCell SE_X0_pushCell qc_334 rfl (As := [.long (f_X8_plainCell (0 : Int32) (s.2.1 334 17) s)]) rfl rfl (Nat.le_of_ble_eq_true rfl) (Nat.le_of_ble_eq_true rfl) (Nat.le_of_ble_eq_true rfl) (Nat.le_of_ble_eq_true rfl) ?_
      refine mj_goto 216 dX0_load_156 (by decide) ?_
      exact t_somK hk (fun hf => t_vret dX0_load_216 rfl ⟨rfl, hf⟩ (Nat.le_of_ble_eq_true rfl) (Nat.le_of_ble_eq_true rfl))
    replace hk := t_neg hk h5
    have h6 : x1.toInt = 7 := by omega
    refine mj_tableIn 159 dX0_load_1 hh1 hh2 (by rw [h6]; rfl) (by decide) ?_
    refine mj_aload_n dX0_load_159 0 rfl ?_
    refine mj_iconst (v := 0) dX0_load_160 (by decide) ?_
    refine mj_aload_n dX0_load_161 0 rfl ?_
    refine t_getD dX0_load_162 F_X0_47 qf_334_15 ?_
    refine t_chkK hk (fun c16 hk => ?_)
    refine t_getI dX0_load_165 F_X0_134 (t_pf3 c16) ?_
    refine mj_i2l (v := (s.1 (s.2.2 334 15) 3).toInt64) dX0_load_168 rfl ?_
    refine t_callSlP dX0_load_169 M_X8_plainCell (C_X8_plainCell _ _ _) ML_X0_106 SM_X8_plainCell (As := [.int 0, .long ((s.1 (s.2.2 334 15) 3).toInt64)]) rfl rfl (Nat.le_of_ble_eq_true rfl) (Nat.le_of_ble_eq_true rfl) (Nat.le_of_ble_eq_true rfl) (Nat.le_of_ble_eq_true rfl) ?_
    refine t_bndK hk (fun r19 er19 hk => ?_)
    refine t_callVvE dX0_load_172 M_X0_pushCell (C_X0_pushCell _ _ _ er19) ML_X0_110 IM_X0_pushCell SE_X0_pushCell qc_334 rfl (As := [.long (f_X8_plainCell (0 : Int32) ((s.1 (s.2.2 334 15) 3).toInt64) s)]) rfl rfl (Nat.le_of_ble_eq_true rfl) (Nat.le_of_ble_eq_true rfl) (Nat.le_of_ble_eq_true rfl) (Nat.le_of_ble_eq_true rfl) ?_
    refine mj_goto 216 dX0_load_175 (by decide) ?_
    exact t_somK hk (fun hf => t_vret dX0_load_216 rfl ⟨rfl, hf⟩ (Nat.le_of_ble_eq_true rfl) (Nat.le_of_ble_eq_true rfl))

theorem dX0_poolCell_0 : decode cX0_poolCell 0 = .ok (.aload_n 0, 1) := by decide +kernel
theorem dX0_poolCell_1 : decode cX0_poolCell 1 = .ok (.getfield 55, 3) := by decide +kernel
theorem dX0_poolCell_10 : decode cX0_poolCell 10 = .ok (.iconst 0, 1) := by decide +kernel
theorem dX0_poolCell_11 : decode cX0_poolCell 11 = .ok (.ireturn, 1) := by decide +kernel
theorem dX0_poolCell_12 : decode cX0_poolCell 12 = .ok (.aload_n 0, 1) := by decide +kernel
theorem dX0_poolCell_13 : decode cX0_poolCell 13 = .ok (.getfield 16, 3) := by decide +kernel
theorem dX0_poolCell_16 : decode cX0_poolCell 16 = .ok (.aload_n 0, 1) := by decide +kernel
theorem dX0_poolCell_17 : decode cX0_poolCell 17 = .ok (.getfield 55, 3) := by decide +kernel
theorem dX0_poolCell_20 : decode cX0_poolCell 20 = .ok (.lload_n 1, 1) := by decide +kernel
theorem dX0_poolCell_21 : decode cX0_poolCell 21 = .ok (.lastore, 1) := by decide +kernel
theorem dX0_poolCell_22 : decode cX0_poolCell 22 = .ok (.aload_n 0, 1) := by decide +kernel
theorem dX0_poolCell_23 : decode cX0_poolCell 23 = .ok (.dup, 1) := by decide +kernel
theorem dX0_poolCell_24 : decode cX0_poolCell 24 = .ok (.getfield 55, 3) := by decide +kernel
theorem dX0_poolCell_27 : decode cX0_poolCell 27 = .ok (.iconst 1, 1) := by decide +kernel
theorem dX0_poolCell_28 : decode cX0_poolCell 28 = .ok (.iadd, 1) := by decide +kernel
theorem dX0_poolCell_29 : decode cX0_poolCell 29 = .ok (.putfield 55, 3) := by decide +kernel
theorem dX0_poolCell_32 : decode cX0_poolCell 32 = .ok (.aload_n 0, 1) := by decide +kernel
theorem dX0_poolCell_33 : decode cX0_poolCell 33 = .ok (.getfield 55, 3) := by decide +kernel
theorem dX0_poolCell_36 : decode cX0_poolCell 36 = .ok (.iconst 1, 1) := by decide +kernel
theorem dX0_poolCell_37 : decode cX0_poolCell 37 = .ok (.isub, 1) := by decide +kernel
theorem dX0_poolCell_38 : decode cX0_poolCell 38 = .ok (.ireturn, 1) := by decide +kernel
theorem dX0_poolCell_4 : decode cX0_poolCell 4 = .ok (.sipush 26000, 3) := by decide +kernel
theorem dX0_poolCell_7 : decode cX0_poolCell 7 = .ok (.if_icmp .lt 5, 3) := by decide +kernel
noncomputable def f_X0_poolCell (x1 : Int64) (s : t_S) : Option (Int32 × t_S) :=
 if (s.1 334 4) < (26000 : Int32) then (if t_ix (s.1 334 4) 26000 = true then
  t_let (t_setJ s 337 ((s.1 334 4).toNatClampNeg) x1) (fun s1 =>
 t_let (t_setI s1 334 4 ((s1.1 334 4) + (1 : Int32))) (fun s2 =>
 some (((s2.1 334 4) - (1 : Int32)), s2)))
else none)
 else (some ((0 : Int32), s))
set_option maxRecDepth 4000 in
set_option maxHeartbeats 1000000 in
theorem C_X0_poolCell (x1 : Int64) (s : t_S) (r : Int32 × t_S) (hr : f_X0_poolCell x1 s = some r) : t_C yX0_poolCell cX0_poolCell 3 (some .int) 0 [.ref 334, .long x1] s (fun v s' => v = some (.int r.1) ∧ s' = r.2) := by
  refine t_C.imp (P := fun v s' => ∃ x, v = some (.int x) ∧ (fun q => q = r) ((x, s'))) (t_C.of (by decide +kernel) (Nat.le_of_ble_eq_true rfl) ?_) (fun v s' hp => by obtain ⟨x, rfl, rfl⟩ := hp; exact ⟨rfl, rfl⟩)
  intro D cy ad bs X
  have hk : t_hk (f_X0_poolCell x1 s) (fun q => q = r) := ⟨r, hr, rfl⟩
  show mj_G D cy ad bs X cX0_poolCell 3 yX0_poolCell.cls (some .int) yX0_poolCell.name 0 0 0 1065 (t_P (fun v s' => ∃ x, v = some (.int x) ∧ (fun q => q = r) ((x, s')))) 0 [(0, .ref 334), (1, .long x1)] [] (t_m s) 1065 0 0
  refine mj_aload_n dX0_poolCell_0 0 rfl ?_
  refine t_getI dX0_poolCell_1 F_X0_55 qf_334_4 ?_
  refine mj_sipush (v := 26000) dX0_poolCell_4 (by decide) ?_
  refine mj_icmp_lt 12 dX0_poolCell_7 (by decide) (fun z => t_posK hk z (fun hk => ?_)) (fun z => t_negK hk z (fun hk => ?_))
  · refine mj_aload_n dX0_poolCell_12 0 rfl ?_
    refine t_getR 337 dX0_poolCell_13 F_X0_16 qr_334_3 ?_
    refine mj_aload_n dX0_poolCell_16 0 rfl ?_
    refine t_getI dX0_poolCell_17 F_X0_55 qf_334_4 ?_
    refine mj_lload_n dX0_poolCell_20 1 rfl ?_
    refine t_chkK hk (fun c0 hk => ?_)
    refine t_lastK dX0_poolCell_21 qa_337 (t_ixv c0) (fun s1 ws1 => t_letE hk ws1 (fun hk => ?_))
    refine mj_aload_n dX0_poolCell_22 0 rfl ?_
    refine mj_dup dX0_poolCell_23 rfl ?_
    refine t_getI dX0_poolCell_24 F_X0_55 qf_334_4 ?_
    refine mj_iconst (v := 1) dX0_poolCell_27 (by decide) ?_
    refine mj_iadd dX0_poolCell_28 ?_
    refine t_putIK dX0_poolCell_29 F_X0_55 qf_334_4 rfl (fun s2 ws2 => t_letE hk ws2 (fun hk => ?_))
    refine mj_aload_n dX0_poolCell_32 0 rfl ?_
    refine t_getI dX0_poolCell_33 F_X0_55 qf_334_4 ?_
    refine mj_iconst (v := 1) dX0_poolCell_36 (by decide) ?_
    refine mj_isub dX0_poolCell_37 ?_
    exact t_somK hk (fun hf => t_iret dX0_poolCell_38 rfl rfl ⟨_, rfl, hf⟩ (Nat.le_of_ble_eq_true rfl) (Nat.le_of_ble_eq_true rfl))
  · refine mj_iconst (v := 0) dX0_poolCell_10 (by decide) ?_
    exact t_somK hk (fun hf => t_iret dX0_poolCell_11 rfl rfl ⟨_, rfl, hf⟩ (Nat.le_of_ble_eq_true rfl) (Nat.le_of_ble_eq_true rfl))

theorem dX0_poolText_0 : decode cX0_poolText 0 = .ok (.iconst 1, 1) := by decide +kernel
theorem dX0_poolText_1 : decode cX0_poolText 1 = .ok (.iload_n 1, 1) := by decide +kernel
theorem dX0_poolText_10 : decode cX0_poolText 10 = .ok (.aload_n 0, 1) := by decide +kernel
theorem dX0_poolText_11 : decode cX0_poolText 11 = .ok (.getfield 55, 3) := by decide +kernel
theorem dX0_poolText_14 : decode cX0_poolText 14 = .ok (.iload_n 2, 1) := by decide +kernel
theorem dX0_poolText_15 : decode cX0_poolText 15 = .ok (.iadd, 1) := by decide +kernel
theorem dX0_poolText_16 : decode cX0_poolText 16 = .ok (.sipush 26000, 3) := by decide +kernel
theorem dX0_poolText_19 : decode cX0_poolText 19 = .ok (.if_icmp .le 5, 3) := by decide +kernel
theorem dX0_poolText_2 : decode cX0_poolText 2 = .ok (.bipush 7, 2) := by decide +kernel
theorem dX0_poolText_22 : decode cX0_poolText 22 = .ok (.iconst 0, 1) := by decide +kernel
theorem dX0_poolText_23 : decode cX0_poolText 23 = .ok (.ireturn, 1) := by decide +kernel
theorem dX0_poolText_24 : decode cX0_poolText 24 = .ok (.aload_n 0, 1) := by decide +kernel
theorem dX0_poolText_25 : decode cX0_poolText 25 = .ok (.getfield 55, 3) := by decide +kernel
theorem dX0_poolText_28 : decode cX0_poolText 28 = .ok (.istore_n 3, 1) := by decide +kernel
theorem dX0_poolText_29 : decode cX0_poolText 29 = .ok (.aload_n 0, 1) := by decide +kernel
theorem dX0_poolText_30 : decode cX0_poolText 30 = .ok (.getfield 16, 3) := by decide +kernel
theorem dX0_poolText_33 : decode cX0_poolText 33 = .ok (.iload_n 3, 1) := by decide +kernel
theorem dX0_poolText_34 : decode cX0_poolText 34 = .ok (.iload_n 1, 1) := by decide +kernel
theorem dX0_poolText_35 : decode cX0_poolText 35 = .ok (.invokestatic 58, 3) := by decide +kernel
theorem dX0_poolText_38 : decode cX0_poolText 38 = .ok (.lastore, 1) := by decide +kernel
theorem dX0_poolText_39 : decode cX0_poolText 39 = .ok (.aload_n 0, 1) := by decide +kernel
theorem dX0_poolText_4 : decode cX0_poolText 4 = .ok (.iadd, 1) := by decide +kernel
theorem dX0_poolText_40 : decode cX0_poolText 40 = .ok (.dup, 1) := by decide +kernel
theorem dX0_poolText_41 : decode cX0_poolText 41 = .ok (.getfield 55, 3) := by decide +kernel
theorem dX0_poolText_44 : decode cX0_poolText 44 = .ok (.iload_n 2, 1) := by decide +kernel
theorem dX0_poolText_45 : decode cX0_poolText 45 = .ok (.iadd, 1) := by decide +kernel
theorem dX0_poolText_46 : decode cX0_poolText 46 = .ok (.putfield 55, 3) := by decide +kernel
theorem dX0_poolText_49 : decode cX0_poolText 49 = .ok (.iload_n 3, 1) := by decide +kernel
theorem dX0_poolText_5 : decode cX0_poolText 5 = .ok (.bipush 8, 2) := by decide +kernel
theorem dX0_poolText_50 : decode cX0_poolText 50 = .ok (.ireturn, 1) := by decide +kernel
theorem dX0_poolText_7 : decode cX0_poolText 7 = .ok (.idiv, 1) := by decide +kernel
theorem dX0_poolText_8 : decode cX0_poolText 8 = .ok (.iadd, 1) := by decide +kernel
theorem dX0_poolText_9 : decode cX0_poolText 9 = .ok (.istore_n 2, 1) := by decide +kernel
noncomputable def f_X0_poolText (x1 : Int32) (s : t_S) : Option (Int32 × t_S) :=
 if ((s.1 334 4) + ((1 : Int32) + ((x1 + (7 : Int32)) / (8 : Int32)))) ≤ (26000 : Int32) then ((f_X8_textCell x1 s).bind (fun r1 =>
 if t_ix (s.1 334 4) 26000 = true then
  t_let (t_setJ s 337 ((s.1 334 4).toNatClampNeg) r1) (fun s1 =>
 t_let (t_setI s1 334 4 ((s1.1 334 4) + ((1 : Int32) + ((x1 + (7 : Int32)) / (8 : Int32))))) (fun s2 =>
 some ((s.1 334 4), s2)))
else none))
 else (some ((0 : Int32), s))
set_option maxRecDepth 4000 in
set_option maxHeartbeats 1000000 in
theorem C_X0_poolText (x1 : Int32) (s : t_S) (r : Int32 × t_S) (hr : f_X0_poolText x1 s = some r) : t_C yX0_poolText cX0_poolText 4 (some .int) 1 [.ref 334, .int x1] s (fun v s' => v = some (.int r.1) ∧ s' = r.2) := by
  refine t_C.imp (P := fun v s' => ∃ x, v = some (.int x) ∧ (fun q => q = r) ((x, s'))) (t_C.of (by decide +kernel) (Nat.le_of_ble_eq_true rfl) ?_) (fun v s' hp => by obtain ⟨x, rfl, rfl⟩ := hp; exact ⟨rfl, rfl⟩)
  intro D cy ad bs X
  have hk : t_hk (f_X0_poolText x1 s) (fun q => q = r) := ⟨r, hr, rfl⟩
  show mj_G D cy ad bs X cX0_poolText 4 yX0_poolText.cls (some .int) yX0_poolText.name 1 0 0 1065 (t_P (fun v s' => ∃ x, v = some (.int x) ∧ (fun q => q = r) ((x, s')))) 0 [(0, .ref 334), (1, .int x1)] [] (t_m s) 1065 0 0
  refine mj_iconst (v := 1) dX0_poolText_0 (by decide) ?_
  refine mj_iload_n dX0_poolText_1 1 rfl ?_
  refine mj_bipush (v := 7) dX0_poolText_2 (by decide) ?_
  refine mj_iadd dX0_poolText_4 ?_
  refine mj_bipush (v := 8) dX0_poolText_5 (by decide) ?_
  refine mj_idiv dX0_poolText_7 (by decide) ?_
  refine mj_iadd dX0_poolText_8 ?_
  refine mj_istore_n 2 (lv2 := [(2, .int ((1 : Int32) + ((x1 + (7 : Int32)) / (8 : Int32)))), (0, .ref 334), (1, .int x1)]) dX0_poolText_9 rfl (by decide) rfl ?_
  refine mj_aload_n dX0_poolText_10 1 rfl ?_
  refine t_getI dX0_poolText_11 F_X0_55 qf_334_4 ?_
  refine mj_iload_n dX0_poolText_14 0 rfl ?_
  refine mj_iadd dX0_poolText_15 ?_
  refine mj_sipush (v := 26000) dX0_poolText_16 (by decide) ?_
  refine mj_icmp_le 24 dX0_poolText_19 (by decide) (fun z => t_posK hk z (fun hk => ?_)) (fun z => t_negK hk z (fun hk => ?_))
  · refine mj_aload_n dX0_poolText_24 1 rfl ?_
    refine t_getI dX0_poolText_25 F_X0_55 qf_334_4 ?_
    refine mj_istore_n 3 (lv2 := [(3, .int (s.1 334 4)), (2, .int ((1 : Int32) + ((x1 + (7 : Int32)) / (8 : Int32)))), (0, .ref 334), (1, .int x1)]) dX0_poolText_28 rfl (by decide) rfl ?_
    refine mj_aload_n dX0_poolText_29 2 rfl ?_
    refine t_getR 337 dX0_poolText_30 F_X0_16 qr_334_3 ?_
    refine mj_iload_n dX0_poolText_33 0 rfl ?_
    refine mj_iload_n dX0_poolText_34 3 rfl ?_
    refine t_bndK hk (fun r1 er1 hk => ?_)
    refine t_callSlP dX0_poolText_35 M_X8_textCell (C_X8_textCell _ _ _ er1) ML_X0_58 SM_X8_textCell (As := [.int x1]) rfl rfl (Nat.le_of_ble_eq_true rfl) (Nat.le_of_ble_eq_true rfl) (Nat.le_of_ble_eq_true rfl) (Nat.le_of_ble_eq_true rfl) ?_
    refine t_chkK hk (fun c1 hk => ?_)
    refine t_lastK dX0_poolText_38 qa_337 (t_ixv c1) (fun s1 ws1 => t_letE hk ws1 (fun hk => ?_))
    refine mj_aload_n dX0_poolText_39 2 rfl ?_
    refine mj_dup dX0_poolText_40 rfl ?_
    refine t_getI dX0_poolText_41 F_X0_55 qf_334_4 ?_
    refine mj_iload_n dX0_poolText_44 1 rfl ?_
    refine mj_iadd dX0_poolText_45 ?_
    refine t_putIK dX0_poolText_46 F_X0_55 qf_334_4 rfl (fun s2 ws2 => t_letE hk ws2 (fun hk => ?_))
    refine mj_iload_n dX0_poolText_49 0 rfl ?_
    exact t_somK hk (fun hf => t_iret dX0_poolText_50 rfl rfl ⟨_, rfl, hf⟩ (Nat.le_of_ble_eq_true rfl) (Nat.le_of_ble_eq_true rfl))
  · refine mj_iconst (v := 0) dX0_poolText_22 (by decide) ?_
    exact t_somK hk (fun hf => t_iret dX0_poolText_23 rfl rfl ⟨_, rfl, hf⟩ (Nat.le_of_ble_eq_true rfl) (Nat.le_of_ble_eq_true rfl))

theorem dX0_tagTop_0 : decode cX0_tagTop 0 = .ok (.aload_n 0, 1) := by decide +kernel
theorem dX0_tagTop_1 : decode cX0_tagTop 1 = .ok (.getfield 24, 3) := by decide +kernel
theorem dX0_tagTop_10 : decode cX0_tagTop 10 = .ok (.iaload, 1) := by decide +kernel
theorem dX0_tagTop_100 : decode cX0_tagTop 100 = .ok (.iload_n 1, 1) := by decide +kernel
theorem dX0_tagTop_101 : decode cX0_tagTop 101 = .ok (.i2l, 1) := by decide +kernel
theorem dX0_tagTop_102 : decode cX0_tagTop 102 = .ok (.invokestatic 189, 3) := by decide +kernel
theorem dX0_tagTop_105 : decode cX0_tagTop 105 = .ok (.lastore, 1) := by decide +kernel
theorem dX0_tagTop_106 : decode cX0_tagTop 106 = .ok (.aload_n 0, 1) := by decide +kernel
theorem dX0_tagTop_107 : decode cX0_tagTop 107 = .ok (.getfield 24, 3) := by decide +kernel
theorem dX0_tagTop_11 : decode cX0_tagTop 11 = .ok (.istore_n 2, 1) := by decide +kernel
theorem dX0_tagTop_110 : decode cX0_tagTop 110 = .ok (.aload_n 0, 1) := by decide +kernel
theorem dX0_tagTop_111 : decode cX0_tagTop 111 = .ok (.getfield 62, 3) := by decide +kernel
theorem dX0_tagTop_114 : decode cX0_tagTop 114 = .ok (.iload_n 2, 1) := by decide +kernel
theorem dX0_tagTop_115 : decode cX0_tagTop 115 = .ok (.iload_n 3, 1) := by decide +kernel
theorem dX0_tagTop_116 : decode cX0_tagTop 116 = .ok (.iadd, 1) := by decide +kernel
theorem dX0_tagTop_117 : decode cX0_tagTop 117 = .ok (.iconst 1, 1) := by decide +kernel
theorem dX0_tagTop_118 : decode cX0_tagTop 118 = .ok (.iadd, 1) := by decide +kernel
theorem dX0_tagTop_119 : decode cX0_tagTop 119 = .ok (.iastore, 1) := by decide +kernel
theorem dX0_tagTop_12 : decode cX0_tagTop 12 = .ok (.aload_n 0, 1) := by decide +kernel
theorem dX0_tagTop_120 : decode cX0_tagTop 120 = .ok (.return_, 1) := by decide +kernel
theorem dX0_tagTop_13 : decode cX0_tagTop 13 = .ok (.getfield 24, 3) := by decide +kernel
theorem dX0_tagTop_16 : decode cX0_tagTop 16 = .ok (.aload_n 0, 1) := by decide +kernel
theorem dX0_tagTop_17 : decode cX0_tagTop 17 = .ok (.getfield 62, 3) := by decide +kernel
theorem dX0_tagTop_20 : decode cX0_tagTop 20 = .ok (.iaload, 1) := by decide +kernel
theorem dX0_tagTop_21 : decode cX0_tagTop 21 = .ok (.iload_n 2, 1) := by decide +kernel
theorem dX0_tagTop_22 : decode cX0_tagTop 22 = .ok (.isub, 1) := by decide +kernel
theorem dX0_tagTop_23 : decode cX0_tagTop 23 = .ok (.istore_n 3, 1) := by decide +kernel
theorem dX0_tagTop_24 : decode cX0_tagTop 24 = .ok (.aload_n 0, 1) := by decide +kernel
theorem dX0_tagTop_25 : decode cX0_tagTop 25 = .ok (.getfield 21, 3) := by decide +kernel
theorem dX0_tagTop_28 : decode cX0_tagTop 28 = .ok (.iload_n 2, 1) := by decide +kernel
theorem dX0_tagTop_29 : decode cX0_tagTop 29 = .ok (.laload, 1) := by decide +kernel
theorem dX0_tagTop_30 : decode cX0_tagTop 30 = .ok (.invokestatic 160, 3) := by decide +kernel
theorem dX0_tagTop_33 : decode cX0_tagTop 33 = .ok (.iconst 4, 1) := by decide +kernel
theorem dX0_tagTop_34 : decode cX0_tagTop 34 = .ok (.if_icmp .ne 11, 3) := by decide +kernel
theorem dX0_tagTop_37 : decode cX0_tagTop 37 = .ok (.aload_n 0, 1) := by decide +kernel
theorem dX0_tagTop_38 : decode cX0_tagTop 38 = .ok (.iconst 1, 1) := by decide +kernel
theorem dX0_tagTop_39 : decode cX0_tagTop 39 = .ok (.putfield 71, 3) := by decide +kernel
theorem dX0_tagTop_4 : decode cX0_tagTop 4 = .ok (.aload_n 0, 1) := by decide +kernel
theorem dX0_tagTop_42 : decode cX0_tagTop 42 = .ok (.goto 16, 3) := by decide +kernel
theorem dX0_tagTop_45 : decode cX0_tagTop 45 = .ok (.iload_n 3, 1) := by decide +kernel
theorem dX0_tagTop_46 : decode cX0_tagTop 46 = .ok (.iconst 1, 1) := by decide +kernel
theorem dX0_tagTop_47 : decode cX0_tagTop 47 = .ok (.iadd, 1) := by decide +kernel
theorem dX0_tagTop_48 : decode cX0_tagTop 48 = .ok (.bipush 120, 2) := by decide +kernel
theorem dX0_tagTop_5 : decode cX0_tagTop 5 = .ok (.getfield 62, 3) := by decide +kernel
theorem dX0_tagTop_50 : decode cX0_tagTop 50 = .ok (.if_icmp .le 8, 3) := by decide +kernel
theorem dX0_tagTop_53 : decode cX0_tagTop 53 = .ok (.aload_n 0, 1) := by decide +kernel
theorem dX0_tagTop_54 : decode cX0_tagTop 54 = .ok (.iconst 3, 1) := by decide +kernel
theorem dX0_tagTop_55 : decode cX0_tagTop 55 = .ok (.putfield 71, 3) := by decide +kernel
theorem dX0_tagTop_58 : decode cX0_tagTop 58 = .ok (.aload_n 0, 1) := by decide +kernel
theorem dX0_tagTop_59 : decode cX0_tagTop 59 = .ok (.getfield 71, 3) := by decide +kernel
theorem dX0_tagTop_62 : decode cX0_tagTop 62 = .ok (.ifCond .ne 11, 3) := by decide +kernel
theorem dX0_tagTop_65 : decode cX0_tagTop 65 = .ok (.aload_n 0, 1) := by decide +kernel
theorem dX0_tagTop_66 : decode cX0_tagTop 66 = .ok (.iconst 1, 1) := by decide +kernel
theorem dX0_tagTop_67 : decode cX0_tagTop 67 = .ok (.invokevirtual 146, 3) := by decide +kernel
theorem dX0_tagTop_70 : decode cX0_tagTop 70 = .ok (.ifCond .ne 4, 3) := by decide +kernel
theorem dX0_tagTop_73 : decode cX0_tagTop 73 = .ok (.return_, 1) := by decide +kernel
theorem dX0_tagTop_74 : decode cX0_tagTop 74 = .ok (.aload_n 0, 1) := by decide +kernel
theorem dX0_tagTop_75 : decode cX0_tagTop 75 = .ok (.getfield 21, 3) := by decide +kernel
theorem dX0_tagTop_78 : decode cX0_tagTop 78 = .ok (.iload_n 2, 1) := by decide +kernel
theorem dX0_tagTop_79 : decode cX0_tagTop 79 = .ok (.aload_n 0, 1) := by decide +kernel
theorem dX0_tagTop_8 : decode cX0_tagTop 8 = .ok (.iconst 1, 1) := by decide +kernel
theorem dX0_tagTop_80 : decode cX0_tagTop 80 = .ok (.getfield 21, 3) := by decide +kernel
theorem dX0_tagTop_83 : decode cX0_tagTop 83 = .ok (.iload_n 2, 1) := by decide +kernel
theorem dX0_tagTop_84 : decode cX0_tagTop 84 = .ok (.iconst 1, 1) := by decide +kernel
theorem dX0_tagTop_85 : decode cX0_tagTop 85 = .ok (.iadd, 1) := by decide +kernel
theorem dX0_tagTop_86 : decode cX0_tagTop 86 = .ok (.iload_n 3, 1) := by decide +kernel
theorem dX0_tagTop_87 : decode cX0_tagTop 87 = .ok (.invokestatic 154, 3) := by decide +kernel
theorem dX0_tagTop_9 : decode cX0_tagTop 9 = .ok (.isub, 1) := by decide +kernel
theorem dX0_tagTop_90 : decode cX0_tagTop 90 = .ok (.aload_n 0, 1) := by decide +kernel
theorem dX0_tagTop_91 : decode cX0_tagTop 91 = .ok (.getfield 21, 3) := by decide +kernel
theorem dX0_tagTop_94 : decode cX0_tagTop 94 = .ok (.iload_n 2, 1) := by decide +kernel
theorem dX0_tagTop_95 : decode cX0_tagTop 95 = .ok (.bipush 7, 2) := by decide +kernel
theorem dX0_tagTop_97 : decode cX0_tagTop 97 = .ok (.iload_n 3, 1) := by decide +kernel
theorem dX0_tagTop_98 : decode cX0_tagTop 98 = .ok (.iconst 1, 1) := by decide +kernel
theorem dX0_tagTop_99 : decode cX0_tagTop 99 = .ok (.iadd, 1) := by decide +kernel
noncomputable def k_X0_tagTop_58 (l1 : Int32) (l2 : Int32) (l3 : Int32) (s : t_S) : Option (t_S) :=
 if (s.1 334 12) = (0 : Int32) then ((f_X0_hasRoom (1 : Int32) s).bind (fun r1 =>
 if r1.1 = (0 : Int32) then (some (r1.2))
 else (if t_cpok l2 (l2 + (1 : Int32)) l3 48000 48000 = true then
  t_let (t_cpJ r1.2 338 338 l2 (l2 + (1 : Int32)) l3) (fun s1 =>
 if t_ix l2 48000 = true then
  t_let (t_setJ s1 338 (l2.toNatClampNeg) (f_X8_cell (7 : Int32) (l3 + (1 : Int32)) l1.toInt64 s1)) (fun s2 =>
 if t_ix (s2.1 334 7) 3201 = true then
  t_let (t_setI s2 339 ((s2.1 334 7).toNatClampNeg) ((l2 + l3) + (1 : Int32))) (fun s3 =>
 some (s3))
else none)
else none)
else none)))
 else (some (s))
set_option maxRecDepth 4000 in
set_option maxHeartbeats 1000000 in
theorem B_X0_tagTop_58 {D : va_G} {cy : Nat → ClassId} {ad : Nat → Nat} {bs : Nat} {X : State → Heap → Prop} (l1 : Int32) (l2 : Int32) (l3 : Int32) (s : t_S) (Q : t_S → Prop) (hk : t_hk (k_X0_tagTop_58 l1 l2 l3 s) Q) : mj_G D cy ad bs X cX0_tagTop 4 yX0_tagTop.cls none yX0_tagTop.name 1 0 0 1065 (t_P (fun v s' => v = none ∧ Q (s'))) 58 [(0, .ref 334), (1, .int l1), (2, .int l2), (3, .int l3)] [] (t_m s) 1065 0 0 := by
  refine mj_aload_n dX0_tagTop_58 0 rfl ?_
  refine t_getI dX0_tagTop_59 F_X0_71 qf_334_12 ?_
  refine mj_if_ne 73 dX0_tagTop_62 (by decide) (fun z => t_negK hk z (fun hk => ?_)) (fun z => t_posK hk z (fun hk => ?_))
  · exact t_somK hk (fun hf => t_vret dX0_tagTop_73 rfl ⟨rfl, hf⟩ (Nat.le_of_ble_eq_true rfl) (Nat.le_of_ble_eq_true rfl))
  · refine mj_aload_n dX0_tagTop_65 0 rfl ?_
    refine mj_iconst (v := 1) dX0_tagTop_66 (by decide) ?_
    refine t_bndK hk (fun r1 er1 hk => ?_)
    refine t_callViE dX0_tagTop_67 M_X0_hasRoom (C_X0_hasRoom _ _ _ er1) ML_X0_146 IM_X0_hasRoom SE_X0_hasRoom qc_334 rfl (As := [.int 1]) rfl rfl (Nat.le_of_ble_eq_true rfl) (Nat.le_of_ble_eq_true rfl) (Nat.le_of_ble_eq_true rfl) (Nat.le_of_ble_eq_true rfl) ?_
    refine mj_if_ne 74 dX0_tagTop_70 (by decide) (fun z => t_negK hk z (fun hk => ?_)) (fun z => t_posK hk z (fun hk => ?_))
    · refine mj_aload_n dX0_tagTop_74 0 rfl ?_
      refine t_getR 338 dX0_tagTop_75 F_X0_21 qr_334_5 ?_
      refine mj_iload_n dX0_tagTop_78 2 rfl ?_
      refine mj_aload_n dX0_tagTop_79 0 rfl ?_
      refine t_getR 338 dX0_tagTop_80 F_X0_21 qr_334_5 ?_
      refine mj_iload_n dX0_tagTop_83 2 rfl ?_
      refine mj_iconst (v := 1) dX0_tagTop_84 (by decide) ?_
      refine mj_iadd dX0_tagTop_85 ?_
      refine mj_iload_n dX0_tagTop_86 3 rfl ?_
      refine t_chkK hk (fun c1 hk => ?_)
      refine t_copyK dX0_tagTop_87 MA_X0_154 qa_338 qa_338 c1 (Nat.le_of_ble_eq_true rfl) (Nat.le_of_ble_eq_true rfl) (fun s1 ws1 => t_letE hk ws1 (fun hk => ?_))
      refine mj_aload_n dX0_tagTop_90 0 rfl ?_
      refine t_getR 338 dX0_tagTop_91 F_X0_21 qr_334_5 ?_
      refine mj_iload_n dX0_tagTop_94 2 rfl ?_
      refine mj_bipush (v := 7) dX0_tagTop_95 (by decide) ?_
      refine mj_iload_n dX0_tagTop_97 3 rfl ?_
      refine mj_iconst (v := 1) dX0_tagTop_98 (by decide) ?_
      refine mj_iadd dX0_tagTop_99 ?_
      refine mj_iload_n dX0_tagTop_100 1 rfl ?_
      refine mj_i2l (v := l1.toInt64) dX0_tagTop_101 rfl ?_
      refine t_callSlP dX0_tagTop_102 M_X8_cell (C_X8_cell _ _ _ _) ML_X0_189 SM_X8_cell (As := [.int 7, .int (l3 + (1 : Int32)), .long l1.toInt64]) rfl rfl (Nat.le_of_ble_eq_true rfl) (Nat.le_of_ble_eq_true rfl) (Nat.le_of_ble_eq_true rfl) (Nat.le_of_ble_eq_true rfl) ?_
      refine t_chkK hk (fun c3 hk => ?_)
      refine t_lastK dX0_tagTop_105 qa_338 (t_ixv c3) (fun s2 ws2 => t_letE hk ws2 (fun hk => ?_))
      refine mj_aload_n dX0_tagTop_106 0 rfl ?_
      refine t_getR 339 dX0_tagTop_107 F_X0_24 qr_334_6 ?_
      refine mj_aload_n dX0_tagTop_110 0 rfl ?_
      refine t_getI dX0_tagTop_111 F_X0_62 qf_334_7 ?_
      refine mj_iload_n dX0_tagTop_114 2 rfl ?_
      refine mj_iload_n dX0_tagTop_115 3 rfl ?_
      refine mj_iadd dX0_tagTop_116 ?_
      refine mj_iconst (v := 1) dX0_tagTop_117 (by decide) ?_
      refine mj_iadd dX0_tagTop_118 ?_
      refine t_chkK hk (fun c4 hk => ?_)
      refine t_iastK dX0_tagTop_119 qa_339 (t_ixv c4) (fun s3 ws3 => t_letE hk ws3 (fun hk => ?_))
      exact t_somK hk (fun hf => t_vret dX0_tagTop_120 rfl ⟨rfl, hf⟩ (Nat.le_of_ble_eq_true rfl) (Nat.le_of_ble_eq_true rfl))
    · exact t_somK hk (fun hf => t_vret dX0_tagTop_73 rfl ⟨rfl, hf⟩ (Nat.le_of_ble_eq_true rfl) (Nat.le_of_ble_eq_true rfl))
noncomputable def f_X0_tagTop (x1 : Int32) (s : t_S) : Option (t_S) :=
 if t_ix ((s.1 334 7) - (1 : Int32)) 3201 = true then
  if t_ix (s.1 334 7) 3201 = true then
  if t_ix (s.1 339 (((s.1 334 7) - (1 : Int32)).toNatClampNeg)) 48000 = true then
  if (f_X8_kind (s.2.1 338 ((s.1 339 (((s.1 334 7) - (1 : Int32)).toNatClampNeg)).toNatClampNeg)) s) = (4 : Int32) then (t_let (t_setI s 334 12 (1 : Int32)) (fun s2 =>
 k_X0_tagTop_58 x1 (s.1 339 (((s.1 334 7) - (1 : Int32)).toNatClampNeg)) ((s.1 339 ((s.1 334 7).toNatClampNeg)) - (s.1 339 (((s.1 334 7) - (1 : Int32)).toNatClampNeg))) s2))
 else (if (((s.1 339 ((s.1 334 7).toNatClampNeg)) - (s.1 339 (((s.1 334 7) - (1 : Int32)).toNatClampNeg))) + (1 : Int32)) ≤ (120 : Int32) then (k_X0_tagTop_58 x1 (s.1 339 (((s.1 334 7) - (1 : Int32)).toNatClampNeg)) ((s.1 339 ((s.1 334 7).toNatClampNeg)) - (s.1 339 (((s.1 334 7) - (1 : Int32)).toNatClampNeg))) s)
 else (t_let (t_setI s 334 12 (3 : Int32)) (fun s1 =>
 k_X0_tagTop_58 x1 (s.1 339 (((s.1 334 7) - (1 : Int32)).toNatClampNeg)) ((s.1 339 ((s.1 334 7).toNatClampNeg)) - (s.1 339 (((s.1 334 7) - (1 : Int32)).toNatClampNeg))) s1)))
else none
else none
else none
set_option maxRecDepth 4000 in
set_option maxHeartbeats 1000000 in
theorem C_X0_tagTop (x1 : Int32) (s : t_S) (r : t_S) (hr : f_X0_tagTop x1 s = some r) : t_C yX0_tagTop cX0_tagTop 4 none 1 [.ref 334, .int x1] s (fun v s' => v = none ∧ s' = r) := by
  refine t_C.imp (P := fun v s' => v = none ∧ (fun q => q = r) (s')) (t_C.of (by decide +kernel) (Nat.le_of_ble_eq_true rfl) ?_) (fun v s' hp => hp)
  intro D cy ad bs X
  have hk : t_hk (f_X0_tagTop x1 s) (fun q => q = r) := ⟨r, hr, rfl⟩
  show mj_G D cy ad bs X cX0_tagTop 4 yX0_tagTop.cls none yX0_tagTop.name 1 0 0 1065 (t_P (fun v s' => v = none ∧ (fun q => q = r) (s'))) 0 [(0, .ref 334), (1, .int x1)] [] (t_m s) 1065 0 0
  refine mj_aload_n dX0_tagTop_0 0 rfl ?_
  refine t_getR 339 dX0_tagTop_1 F_X0_24 qr_334_6 ?_
  refine mj_aload_n dX0_tagTop_4 0 rfl ?_
  refine t_getI dX0_tagTop_5 F_X0_62 qf_334_7 ?_
  refine mj_iconst (v := 1) dX0_tagTop_8 (by decide) ?_
  refine mj_isub dX0_tagTop_9 ?_
  refine t_chkK hk (fun c0 hk => ?_)
  refine t_iald dX0_tagTop_10 qa_339 (t_ixv c0) ?_
  refine mj_istore_n 2 (lv2 := [(2, .int (s.1 339 (((s.1 334 7) - (1 : Int32)).toNatClampNeg))), (0, .ref 334), (1, .int x1)]) dX0_tagTop_11 rfl (by decide) rfl ?_
  refine mj_aload_n dX0_tagTop_12 1 rfl ?_
  refine t_getR 339 dX0_tagTop_13 F_X0_24 qr_334_6 ?_
  refine mj_aload_n dX0_tagTop_16 1 rfl ?_
  refine t_getI dX0_tagTop_17 F_X0_62 qf_334_7 ?_
  refine t_chkK hk (fun c1 hk => ?_)
  refine t_iald dX0_tagTop_20 qa_339 (t_ixv c1) ?_
  refine mj_iload_n dX0_tagTop_21 0 rfl ?_
  refine mj_isub dX0_tagTop_22 ?_
  refine mj_istore_n 3 (lv2 := [(3, .int ((s.1 339 ((s.1 334 7).toNatClampNeg)) - (s.1 339 (((s.1 334 7) - (1 : Int32)).toNatClampNeg)))), (2, .int (s.1 339 (((s.1 334 7) - (1 : Int32)).toNatClampNeg))), (0, .ref 334), (1, .int x1)]) dX0_tagTop_23 rfl (by decide) rfl ?_
  refine mj_aload_n dX0_tagTop_24 2 rfl ?_
  refine t_getR 338 dX0_tagTop_25 F_X0_21 qr_334_5 ?_
  refine mj_iload_n dX0_tagTop_28 1 rfl ?_
  refine t_chkK hk (fun c2 hk => ?_)
  refine t_lald dX0_tagTop_29 qa_338 (t_ixv c2) ?_
  refine t_callSiP dX0_tagTop_30 M_X8_kind (C_X8_kind _ _) ML_X0_160 SM_X8_kind (As := [.long (s.2.1 338 ((s.1 339 (((s.1 334 7) - (1 : Int32)).toNatClampNeg)).toNatClampNeg))]) rfl rfl (Nat.le_of_ble_eq_true rfl) (Nat.le_of_ble_eq_true rfl) (Nat.le_of_ble_eq_true rfl) (Nat.le_of_ble_eq_true rfl) ?_
  refine mj_iconst (v := 4) dX0_tagTop_33 (by decide) ?_
  refine mj_icmp_ne 45 dX0_tagTop_34 (by decide) (fun z => t_negK hk z (fun hk => ?_)) (fun z => t_posK hk z (fun hk => ?_))
  · refine mj_iload_n dX0_tagTop_45 0 rfl ?_
    refine mj_iconst (v := 1) dX0_tagTop_46 (by decide) ?_
    refine mj_iadd dX0_tagTop_47 ?_
    refine mj_bipush (v := 120) dX0_tagTop_48 (by decide) ?_
    refine mj_icmp_le 58 dX0_tagTop_50 (by decide) (fun z => t_posK hk z (fun hk => ?_)) (fun z => t_negK hk z (fun hk => ?_))
    · refine mj_sublv [(0, .ref 334), (1, .int x1), (2, .int (s.1 339 (((s.1 334 7) - (1 : Int32)).toNatClampNeg))), (3, .int ((s.1 339 ((s.1 334 7).toNatClampNeg)) - (s.1 339 (((s.1 334 7) - (1 : Int32)).toNatClampNeg))))] [2, 3, 1, 0] rfl ?_
      exact B_X0_tagTop_58 _ _ _ _ _ hk
    · refine mj_aload_n dX0_tagTop_53 2 rfl ?_
      refine mj_iconst (v := 3) dX0_tagTop_54 (by decide) ?_
      refine t_putIK dX0_tagTop_55 F_X0_71 qf_334_12 rfl (fun s1 ws1 => t_letE hk ws1 (fun hk => ?_))
      refine mj_sublv [(0, .ref 334), (1, .int x1), (2, .int (s.1 339 (((s.1 334 7) - (1 : Int32)).toNatClampNeg))), (3, .int ((s.1 339 ((s.1 334 7).toNatClampNeg)) - (s.1 339 (((s.1 334 7) - (1 : Int32)).toNatClampNeg))))] [2, 3, 1, 0] rfl ?_
      exact B_X0_tagTop_58 _ _ _ _ _ hk
  · refine mj_aload_n dX0_tagTop_37 2 rfl ?_
    refine mj_iconst (v := 1) dX0_tagTop_38 (by decide) ?_
    refine t_putIK dX0_tagTop_39 F_X0_71 qf_334_12 rfl (fun s2 ws2 => t_letE hk ws2 (fun hk => ?_))
    refine mj_goto 58 dX0_tagTop_42 (by decide) ?_
    refine mj_sublv [(0, .ref 334), (1, .int x1), (2, .int (s.1 339 (((s.1 334 7) - (1 : Int32)).toNatClampNeg))), (3, .int ((s.1 339 ((s.1 334 7).toNatClampNeg)) - (s.1 339 (((s.1 334 7) - (1 : Int32)).toNatClampNeg))))] [2, 3, 1, 0] rfl ?_
    exact B_X0_tagTop_58 _ _ _ _ _ hk

theorem dX0_unary_0 : decode cX0_unary 0 = .ok (.aload_n 0, 1) := by decide +kernel
theorem dX0_unary_1 : decode cX0_unary 1 = .ok (.getfield 62, 3) := by decide +kernel
theorem dX0_unary_10 : decode cX0_unary 10 = .ok (.putfield 71, 3) := by decide +kernel
theorem dX0_unary_100 : decode cX0_unary 100 = .ok (.l2i, 1) := by decide +kernel
theorem dX0_unary_101 : decode cX0_unary 101 = .ok (.ishr, 1) := by decide +kernel
theorem dX0_unary_102 : decode cX0_unary 102 = .ok (.iconst 1, 1) := by decide +kernel
theorem dX0_unary_103 : decode cX0_unary 103 = .ok (.iand, 1) := by decide +kernel
theorem dX0_unary_104 : decode cX0_unary 104 = .ok (.ifCond .eq 7, 3) := by decide +kernel
theorem dX0_unary_107 : decode cX0_unary 107 = .ok (.iconst 1, 1) := by decide +kernel
theorem dX0_unary_108 : decode cX0_unary 108 = .ok (.goto 4, 3) := by decide +kernel
theorem dX0_unary_111 : decode cX0_unary 111 = .ok (.iconst 0, 1) := by decide +kernel
theorem dX0_unary_112 : decode cX0_unary 112 = .ok (.invokestatic 142, 3) := by decide +kernel
theorem dX0_unary_115 : decode cX0_unary 115 = .ok (.invokevirtual 170, 3) := by decide +kernel
theorem dX0_unary_118 : decode cX0_unary 118 = .ok (.goto 183, 3) := by decide +kernel
theorem dX0_unary_121 : decode cX0_unary 121 = .ok (.iload 6, 2) := by decide +kernel
theorem dX0_unary_123 : decode cX0_unary 123 = .ok (.ifCond .eq 11, 3) := by decide +kernel
theorem dX0_unary_126 : decode cX0_unary 126 = .ok (.aload_n 0, 1) := by decide +kernel
theorem dX0_unary_127 : decode cX0_unary 127 = .ok (.iconst 1, 1) := by decide +kernel
theorem dX0_unary_128 : decode cX0_unary 128 = .ok (.putfield 71, 3) := by decide +kernel
theorem dX0_unary_13 : decode cX0_unary 13 = .ok (.return_, 1) := by decide +kernel
theorem dX0_unary_131 : decode cX0_unary 131 = .ok (.goto 170, 3) := by decide +kernel
theorem dX0_unary_134 : decode cX0_unary 134 = .ok (.aload_n 0, 1) := by decide +kernel
theorem dX0_unary_135 : decode cX0_unary 135 = .ok (.iconst 0, 1) := by decide +kernel
theorem dX0_unary_136 : decode cX0_unary 136 = .ok (.lload 4, 2) := by decide +kernel
theorem dX0_unary_138 : decode cX0_unary 138 = .ok (.invokestatic 166, 3) := by decide +kernel
theorem dX0_unary_14 : decode cX0_unary 14 = .ok (.aload_n 0, 1) := by decide +kernel
theorem dX0_unary_141 : decode cX0_unary 141 = .ok (.lneg, 1) := by decide +kernel
theorem dX0_unary_142 : decode cX0_unary 142 = .ok (.invokestatic 106, 3) := by decide +kernel
theorem dX0_unary_145 : decode cX0_unary 145 = .ok (.invokevirtual 170, 3) := by decide +kernel
theorem dX0_unary_148 : decode cX0_unary 148 = .ok (.goto 153, 3) := by decide +kernel
theorem dX0_unary_15 : decode cX0_unary 15 = .ok (.getfield 24, 3) := by decide +kernel
theorem dX0_unary_151 : decode cX0_unary 151 = .ok (.iload 6, 2) := by decide +kernel
theorem dX0_unary_153 : decode cX0_unary 153 = .ok (.iconst 1, 1) := by decide +kernel
theorem dX0_unary_154 : decode cX0_unary 154 = .ok (.if_icmp .eq 11, 3) := by decide +kernel
theorem dX0_unary_157 : decode cX0_unary 157 = .ok (.aload_n 0, 1) := by decide +kernel
theorem dX0_unary_158 : decode cX0_unary 158 = .ok (.iconst 1, 1) := by decide +kernel
theorem dX0_unary_159 : decode cX0_unary 159 = .ok (.putfield 71, 3) := by decide +kernel
theorem dX0_unary_162 : decode cX0_unary 162 = .ok (.goto 139, 3) := by decide +kernel
theorem dX0_unary_165 : decode cX0_unary 165 = .ok (.aload_n 0, 1) := by decide +kernel
theorem dX0_unary_166 : decode cX0_unary 166 = .ok (.lload 4, 2) := by decide +kernel
theorem dX0_unary_168 : decode cX0_unary 168 = .ok (.invokestatic 166, 3) := by decide +kernel
theorem dX0_unary_171 : decode cX0_unary 171 = .ok (.lconst 0, 1) := by decide +kernel
theorem dX0_unary_172 : decode cX0_unary 172 = .ok (.lcmp, 1) := by decide +kernel
theorem dX0_unary_173 : decode cX0_unary 173 = .ok (.ifCond .ne 7, 3) := by decide +kernel
theorem dX0_unary_176 : decode cX0_unary 176 = .ok (.iconst 1, 1) := by decide +kernel
theorem dX0_unary_177 : decode cX0_unary 177 = .ok (.goto 4, 3) := by decide +kernel
theorem dX0_unary_18 : decode cX0_unary 18 = .ok (.aload_n 0, 1) := by decide +kernel
theorem dX0_unary_180 : decode cX0_unary 180 = .ok (.iconst 0, 1) := by decide +kernel
theorem dX0_unary_181 : decode cX0_unary 181 = .ok (.invokestatic 142, 3) := by decide +kernel
theorem dX0_unary_184 : decode cX0_unary 184 = .ok (.invokevirtual 170, 3) := by decide +kernel
theorem dX0_unary_187 : decode cX0_unary 187 = .ok (.goto 114, 3) := by decide +kernel
theorem dX0_unary_19 : decode cX0_unary 19 = .ok (.getfield 62, 3) := by decide +kernel
theorem dX0_unary_190 : decode cX0_unary 190 = .ok (.iload 6, 2) := by decide +kernel
theorem dX0_unary_192 : decode cX0_unary 192 = .ok (.iconst 2, 1) := by decide +kernel
theorem dX0_unary_193 : decode cX0_unary 193 = .ok (.if_icmp .eq 25, 3) := by decide +kernel
theorem dX0_unary_196 : decode cX0_unary 196 = .ok (.iload 6, 2) := by decide +kernel
theorem dX0_unary_198 : decode cX0_unary 198 = .ok (.bipush 8, 2) := by decide +kernel
theorem dX0_unary_200 : decode cX0_unary 200 = .ok (.if_icmp .eq 18, 3) := by decide +kernel
theorem dX0_unary_203 : decode cX0_unary 203 = .ok (.iload 6, 2) := by decide +kernel
theorem dX0_unary_205 : decode cX0_unary 205 = .ok (.bipush 6, 2) := by decide +kernel
theorem dX0_unary_207 : decode cX0_unary 207 = .ok (.if_icmp .eq 11, 3) := by decide +kernel
theorem dX0_unary_210 : decode cX0_unary 210 = .ok (.aload_n 0, 1) := by decide +kernel
theorem dX0_unary_211 : decode cX0_unary 211 = .ok (.iconst 1, 1) := by decide +kernel
theorem dX0_unary_212 : decode cX0_unary 212 = .ok (.putfield 71, 3) := by decide +kernel
theorem dX0_unary_215 : decode cX0_unary 215 = .ok (.goto 86, 3) := by decide +kernel
theorem dX0_unary_218 : decode cX0_unary 218 = .ok (.aload_n 0, 1) := by decide +kernel
theorem dX0_unary_219 : decode cX0_unary 219 = .ok (.iconst 0, 1) := by decide +kernel
theorem dX0_unary_22 : decode cX0_unary 22 = .ok (.iconst 1, 1) := by decide +kernel
theorem dX0_unary_220 : decode cX0_unary 220 = .ok (.lload 4, 2) := by decide +kernel
theorem dX0_unary_222 : decode cX0_unary 222 = .ok (.invokestatic 173, 3) := by decide +kernel
theorem dX0_unary_225 : decode cX0_unary 225 = .ok (.i2l, 1) := by decide +kernel
theorem dX0_unary_226 : decode cX0_unary 226 = .ok (.invokestatic 106, 3) := by decide +kernel
theorem dX0_unary_229 : decode cX0_unary 229 = .ok (.invokevirtual 170, 3) := by decide +kernel
theorem dX0_unary_23 : decode cX0_unary 23 = .ok (.isub, 1) := by decide +kernel
theorem dX0_unary_232 : decode cX0_unary 232 = .ok (.goto 69, 3) := by decide +kernel
theorem dX0_unary_235 : decode cX0_unary 235 = .ok (.aload_n 0, 1) := by decide +kernel
theorem dX0_unary_236 : decode cX0_unary 236 = .ok (.iload_n 2, 1) := by decide +kernel
theorem dX0_unary_237 : decode cX0_unary 237 = .ok (.invokevirtual 176, 3) := by decide +kernel
theorem dX0_unary_24 : decode cX0_unary 24 = .ok (.iaload, 1) := by decide +kernel
theorem dX0_unary_240 : decode cX0_unary 240 = .ok (.goto 61, 3) := by decide +kernel
theorem dX0_unary_243 : decode cX0_unary 243 = .ok (.iload 6, 2) := by decide +kernel
theorem dX0_unary_245 : decode cX0_unary 245 = .ok (.bipush 6, 2) := by decide +kernel
theorem dX0_unary_247 : decode cX0_unary 247 = .ok (.if_icmp .ne 19, 3) := by decide +kernel
theorem dX0_unary_25 : decode cX0_unary 25 = .ok (.istore_n 3, 1) := by decide +kernel
theorem dX0_unary_250 : decode cX0_unary 250 = .ok (.aload_n 0, 1) := by decide +kernel
theorem dX0_unary_251 : decode cX0_unary 251 = .ok (.aload_n 0, 1) := by decide +kernel
theorem dX0_unary_252 : decode cX0_unary 252 = .ok (.getfield 21, 3) := by decide +kernel
theorem dX0_unary_255 : decode cX0_unary 255 = .ok (.iload_n 3, 1) := by decide +kernel
theorem dX0_unary_256 : decode cX0_unary 256 = .ok (.iload_n 2, 1) := by decide +kernel
theorem dX0_unary_257 : decode cX0_unary 257 = .ok (.invokestatic 179, 3) := by decide +kernel
theorem dX0_unary_26 : decode cX0_unary 26 = .ok (.aload_n 0, 1) := by decide +kernel
theorem dX0_unary_260 : decode cX0_unary 260 = .ok (.invokevirtual 183, 3) := by decide +kernel
theorem dX0_unary_263 : decode cX0_unary 263 = .ok (.goto 38, 3) := by decide +kernel
theorem dX0_unary_266 : decode cX0_unary 266 = .ok (.iload 6, 2) := by decide +kernel
theorem dX0_unary_268 : decode cX0_unary 268 = .ok (.bipush 7, 2) := by decide +kernel
theorem dX0_unary_27 : decode cX0_unary 27 = .ok (.getfield 21, 3) := by decide +kernel
theorem dX0_unary_270 : decode cX0_unary 270 = .ok (.if_icmp .ne 26, 3) := by decide +kernel
theorem dX0_unary_273 : decode cX0_unary 273 = .ok (.aload_n 0, 1) := by decide +kernel
theorem dX0_unary_274 : decode cX0_unary 274 = .ok (.lload 4, 2) := by decide +kernel
theorem dX0_unary_276 : decode cX0_unary 276 = .ok (.invokestatic 186, 3) := by decide +kernel
theorem dX0_unary_279 : decode cX0_unary 279 = .ok (.iload_n 2, 1) := by decide +kernel
theorem dX0_unary_280 : decode cX0_unary 280 = .ok (.if_icmp .ne 9, 3) := by decide +kernel
theorem dX0_unary_283 : decode cX0_unary 283 = .ok (.iload_n 3, 1) := by decide +kernel
theorem dX0_unary_284 : decode cX0_unary 284 = .ok (.iconst 1, 1) := by decide +kernel
theorem dX0_unary_285 : decode cX0_unary 285 = .ok (.iadd, 1) := by decide +kernel
theorem dX0_unary_286 : decode cX0_unary 286 = .ok (.goto 4, 3) := by decide +kernel
theorem dX0_unary_289 : decode cX0_unary 289 = .ok (.iconst (-1), 1) := by decide +kernel
theorem dX0_unary_290 : decode cX0_unary 290 = .ok (.invokevirtual 183, 3) := by decide +kernel
theorem dX0_unary_293 : decode cX0_unary 293 = .ok (.goto 8, 3) := by decide +kernel
theorem dX0_unary_296 : decode cX0_unary 296 = .ok (.aload_n 0, 1) := by decide +kernel
theorem dX0_unary_297 : decode cX0_unary 297 = .ok (.iconst 1, 1) := by decide +kernel
theorem dX0_unary_298 : decode cX0_unary 298 = .ok (.putfield 71, 3) := by decide +kernel
theorem dX0_unary_30 : decode cX0_unary 30 = .ok (.iload_n 3, 1) := by decide +kernel
theorem dX0_unary_301 : decode cX0_unary 301 = .ok (.return_, 1) := by decide +kernel
theorem dX0_unary_31 : decode cX0_unary 31 = .ok (.laload, 1) := by decide +kernel
theorem dX0_unary_32 : decode cX0_unary 32 = .ok (.lstore 4, 2) := by decide +kernel
theorem dX0_unary_34 : decode cX0_unary 34 = .ok (.lload 4, 2) := by decide +kernel
theorem dX0_unary_36 : decode cX0_unary 36 = .ok (.invokestatic 160, 3) := by decide +kernel
theorem dX0_unary_39 : decode cX0_unary 39 = .ok (.istore 6, 2) := by decide +kernel
theorem dX0_unary_4 : decode cX0_unary 4 = .ok (.iconst 1, 1) := by decide +kernel
theorem dX0_unary_41 : decode cX0_unary 41 = .ok (.iload_n 1, 1) := by decide +kernel
theorem dX0_unary_42 : decode cX0_unary 42 = .ok (.tableswitch 201 9 13 #[34, 79, 109, 148, 193], 34) := by decide +kernel
theorem dX0_unary_5 : decode cX0_unary 5 = .ok (.if_icmp .ge 9, 3) := by decide +kernel
theorem dX0_unary_76 : decode cX0_unary 76 = .ok (.iload 6, 2) := by decide +kernel
theorem dX0_unary_78 : decode cX0_unary 78 = .ok (.iconst 5, 1) := by decide +kernel
theorem dX0_unary_79 : decode cX0_unary 79 = .ok (.if_icmp .eq 11, 3) := by decide +kernel
theorem dX0_unary_8 : decode cX0_unary 8 = .ok (.aload_n 0, 1) := by decide +kernel
theorem dX0_unary_82 : decode cX0_unary 82 = .ok (.aload_n 0, 1) := by decide +kernel
theorem dX0_unary_83 : decode cX0_unary 83 = .ok (.iconst 1, 1) := by decide +kernel
theorem dX0_unary_84 : decode cX0_unary 84 = .ok (.putfield 71, 3) := by decide +kernel
theorem dX0_unary_87 : decode cX0_unary 87 = .ok (.goto 214, 3) := by decide +kernel
theorem dX0_unary_9 : decode cX0_unary 9 = .ok (.iconst 1, 1) := by decide +kernel
theorem dX0_unary_90 : decode cX0_unary 90 = .ok (.aload_n 0, 1) := by decide +kernel
theorem dX0_unary_91 : decode cX0_unary 91 = .ok (.aload_n 0, 1) := by decide +kernel
theorem dX0_unary_92 : decode cX0_unary 92 = .ok (.getfield 163, 3) := by decide +kernel
theorem dX0_unary_95 : decode cX0_unary 95 = .ok (.lload 4, 2) := by decide +kernel
theorem dX0_unary_97 : decode cX0_unary 97 = .ok (.invokestatic 166, 3) := by decide +kernel
noncomputable def k_X0_unary_112 (k0 : Int32) (s : t_S) : Option (t_S) :=
 (f_X0_replaceTop (f_X0_truth k0 s) s).bind (fun r2 =>
 some (r2))
set_option maxRecDepth 4000 in
set_option maxHeartbeats 1000000 in
theorem B_X0_unary_112 {D : va_G} {cy : Nat → ClassId} {ad : Nat → Nat} {bs : Nat} {X : State → Heap → Prop} (k0 : Int32) (s : t_S) (Q : t_S → Prop) (hk : t_hk (k_X0_unary_112 k0 s) Q) : mj_G D cy ad bs X cX0_unary 7 yX0_unary.cls none yX0_unary.name 2 0 0 1065 (t_P (fun v s' => v = none ∧ Q (s'))) 112 [] [.int k0, .ref 334] (t_m s) 1065 0 0 := by
  refine t_callSlP dX0_unary_112 M_X0_truth (C_X0_truth _ _) ML_X0_142 SM_X0_truth (As := [.int k0]) rfl rfl (Nat.le_of_ble_eq_true rfl) (Nat.le_of_ble_eq_true rfl) (Nat.le_of_ble_eq_true rfl) (Nat.le_of_ble_eq_true rfl) ?_
  refine t_bndK hk (fun r2 er2 hk => ?_)
  refine t_callVvE dX0_unary_115 M_X0_replaceTop (C_X0_replaceTop _ _ _ er2) ML_X0_170 IM_X0_replaceTop SE_X0_replaceTop qc_334 rfl (As := [.long (f_X0_truth k0 s)]) rfl rfl (Nat.le_of_ble_eq_true rfl) (Nat.le_of_ble_eq_true rfl) (Nat.le_of_ble_eq_true rfl) (Nat.le_of_ble_eq_true rfl) ?_
  refine mj_goto 301 dX0_unary_118 (by decide) ?_
  exact t_somK hk (fun hf => t_vret dX0_unary_301 rfl ⟨rfl, hf⟩ (Nat.le_of_ble_eq_true rfl) (Nat.le_of_ble_eq_true rfl))
noncomputable def k_X0_unary_218 (l4 : Int64) (s : t_S) : Option (t_S) :=
 (f_X0_replaceTop (f_X8_plainCell (0 : Int32) ((f_X8_extent l4 s).toInt64) s) s).bind (fun r3 =>
 some (r3))
set_option maxRecDepth 4000 in
set_option maxHeartbeats 1000000 in
theorem B_X0_unary_218 {D : va_G} {cy : Nat → ClassId} {ad : Nat → Nat} {bs : Nat} {X : State → Heap → Prop} (l4 : Int64) (s : t_S) (Q : t_S → Prop) (hk : t_hk (k_X0_unary_218 l4 s) Q) : mj_G D cy ad bs X cX0_unary 7 yX0_unary.cls none yX0_unary.name 2 0 0 1065 (t_P (fun v s' => v = none ∧ Q (s'))) 218 [(0, .ref 334), (4, .long l4)] [] (t_m s) 1065 0 0 := by
  refine mj_aload_n dX0_unary_218 0 rfl ?_
  refine mj_iconst (v := 0) dX0_unary_219 (by decide) ?_
  refine mj_lload dX0_unary_220 1 rfl ?_
  refine t_callSiP dX0_unary_222 M_X8_extent (C_X8_extent _ _) ML_X0_173 SM_X8_extent (As := [.long l4]) rfl rfl (Nat.le_of_ble_eq_true rfl) (Nat.le_of_ble_eq_true rfl) (Nat.le_of_ble_eq_true rfl) (Nat.le_of_ble_eq_true rfl) ?_
  refine mj_i2l (v := (f_X8_extent l4 s).toInt64) dX0_unary_225 rfl ?_
  refine t_callSlP dX0_unary_226 M_X8_plainCell (C_X8_plainCell _ _ _) ML_X0_106 SM_X8_plainCell (As := [.int 0, .long ((f_X8_extent l4 s).toInt64)]) rfl rfl (Nat.le_of_ble_eq_true rfl) (Nat.le_of_ble_eq_true rfl) (Nat.le_of_ble_eq_true rfl) (Nat.le_of_ble_eq_true rfl) ?_
  refine t_bndK hk (fun r3 er3 hk => ?_)
  refine t_callVvE dX0_unary_229 M_X0_replaceTop (C_X0_replaceTop _ _ _ er3) ML_X0_170 IM_X0_replaceTop SE_X0_replaceTop qc_334 rfl (As := [.long (f_X8_plainCell (0 : Int32) ((f_X8_extent l4 s).toInt64) s)]) rfl rfl (Nat.le_of_ble_eq_true rfl) (Nat.le_of_ble_eq_true rfl) (Nat.le_of_ble_eq_true rfl) (Nat.le_of_ble_eq_true rfl) ?_
  refine mj_goto 301 dX0_unary_232 (by decide) ?_
  exact t_somK hk (fun hf => t_vret dX0_unary_301 rfl ⟨rfl, hf⟩ (Nat.le_of_ble_eq_true rfl) (Nat.le_of_ble_eq_true rfl))
noncomputable def k_X0_unary_290 (k0 : Int32) (s : t_S) : Option (t_S) :=
 (f_X0_topBecomes k0 s).bind (fun r1 =>
 some (r1))
set_option maxRecDepth 4000 in
set_option maxHeartbeats 1000000 in
theorem B_X0_unary_290 {D : va_G} {cy : Nat → ClassId} {ad : Nat → Nat} {bs : Nat} {X : State → Heap → Prop} (k0 : Int32) (s : t_S) (Q : t_S → Prop) (hk : t_hk (k_X0_unary_290 k0 s) Q) : mj_G D cy ad bs X cX0_unary 7 yX0_unary.cls none yX0_unary.name 2 0 0 1065 (t_P (fun v s' => v = none ∧ Q (s'))) 290 [] [.int k0, .ref 334] (t_m s) 1065 0 0 := by
  refine t_bndK hk (fun r1 er1 hk => ?_)
  refine t_callVvE dX0_unary_290 M_X0_topBecomes (C_X0_topBecomes _ _ _ er1) ML_X0_183 IM_X0_topBecomes SE_X0_topBecomes qc_334 rfl (As := [.int k0]) rfl rfl (Nat.le_of_ble_eq_true rfl) (Nat.le_of_ble_eq_true rfl) (Nat.le_of_ble_eq_true rfl) (Nat.le_of_ble_eq_true rfl) ?_
  refine mj_goto 301 dX0_unary_293 (by decide) ?_
  exact t_somK hk (fun hf => t_vret dX0_unary_301 rfl ⟨rfl, hf⟩ (Nat.le_of_ble_eq_true rfl) (Nat.le_of_ble_eq_true rfl))
noncomputable def k_X0_unary_181 (k0 : Int32) (s : t_S) : Option (t_S) :=
 (f_X0_replaceTop (f_X0_truth k0 s) s).bind (fun r2 =>
 some (r2))
set_option maxRecDepth 4000 in
set_option maxHeartbeats 1000000 in
theorem B_X0_unary_181 {D : va_G} {cy : Nat → ClassId} {ad : Nat → Nat} {bs : Nat} {X : State → Heap → Prop} (k0 : Int32) (s : t_S) (Q : t_S → Prop) (hk : t_hk (k_X0_unary_181 k0 s) Q) : mj_G D cy ad bs X cX0_unary 7 yX0_unary.cls none yX0_unary.name 2 0 0 1065 (t_P (fun v s' => v = none ∧ Q (s'))) 181 [] [.int k0, .ref 334] (t_m s) 1065 0 0 := by
  refine t_callSlP dX0_unary_181 M_X0_truth (C_X0_truth _ _) ML_X0_142 SM_X0_truth (As := [.int k0]) rfl rfl (Nat.le_of_ble_eq_true rfl) (Nat.le_of_ble_eq_true rfl) (Nat.le_of_ble_eq_true rfl) (Nat.le_of_ble_eq_true rfl) ?_
  refine t_bndK hk (fun r2 er2 hk => ?_)
  refine t_callVvE dX0_unary_184 M_X0_replaceTop (C_X0_replaceTop _ _ _ er2) ML_X0_170 IM_X0_replaceTop SE_X0_replaceTop qc_334 rfl (As := [.long (f_X0_truth k0 s)]) rfl rfl (Nat.le_of_ble_eq_true rfl) (Nat.le_of_ble_eq_true rfl) (Nat.le_of_ble_eq_true rfl) (Nat.le_of_ble_eq_true rfl) ?_
  refine mj_goto 301 dX0_unary_187 (by decide) ?_
  exact t_somK hk (fun hf => t_vret dX0_unary_301 rfl ⟨rfl, hf⟩ (Nat.le_of_ble_eq_true rfl) (Nat.le_of_ble_eq_true rfl))
noncomputable def f_X0_unary (x1 : Int32) (x2 : Int32) (s : t_S) : Option (t_S) :=
 if (1 : Int32) ≤ (s.1 334 7) then (if t_ix ((s.1 334 7) - (1 : Int32)) 3201 = true then
  if t_ix (s.1 339 (((s.1 334 7) - (1 : Int32)).toNatClampNeg)) 48000 = true then
  if x1.toInt < 9 ∨ 13 < x1.toInt then (if (f_X8_kind (s.2.1 338 ((s.1 339 (((s.1 334 7) - (1 : Int32)).toNatClampNeg)).toNatClampNeg)) s) = (6 : Int32) then ((f_X8_fieldAt 338 (s.1 339 (((s.1 334 7) - (1 : Int32)).toNatClampNeg)) x2 s).bind (fun r5 =>
 (f_X0_topBecomes r5 s).bind (fun r6 =>
 some (r6))))
 else (if (f_X8_kind (s.2.1 338 ((s.1 339 (((s.1 334 7) - (1 : Int32)).toNatClampNeg)).toNatClampNeg)) s) = (7 : Int32) then (if (f_X8_wordOf (s.2.1 338 ((s.1 339 (((s.1 334 7) - (1 : Int32)).toNatClampNeg)).toNatClampNeg)) s) = x2 then (k_X0_unary_290 ((s.1 339 (((s.1 334 7) - (1 : Int32)).toNatClampNeg)) + (1 : Int32)) s)
 else (k_X0_unary_290 (-1) s))
 else (t_let (t_setI s 334 12 (1 : Int32)) (fun s1 =>
 some (s1)))))
 else if x1.toInt = 9 then (if (f_X8_kind (s.2.1 338 ((s.1 339 (((s.1 334 7) - (1 : Int32)).toNatClampNeg)).toNatClampNeg)) s) = (5 : Int32) then (if (((s.1 334 16) >>> (((f_X8_told (s.2.1 338 ((s.1 339 (((s.1 334 7) - (1 : Int32)).toNatClampNeg)).toNatClampNeg)) s).toInt32) &&& 31)) &&& (1 : Int32)) = (0 : Int32) then (k_X0_unary_112 0 s)
 else (k_X0_unary_112 1 s))
 else (t_let (t_setI s 334 12 (1 : Int32)) (fun s2 =>
 some (s2))))
 else if x1.toInt = 10 then (if (f_X8_kind (s.2.1 338 ((s.1 339 (((s.1 334 7) - (1 : Int32)).toNatClampNeg)).toNatClampNeg)) s) = (0 : Int32) then ((f_X0_replaceTop (f_X8_plainCell (0 : Int32) (-(f_X8_told (s.2.1 338 ((s.1 339 (((s.1 334 7) - (1 : Int32)).toNatClampNeg)).toNatClampNeg)) s)) s) s).bind (fun r10 =>
 some (r10)))
 else (t_let (t_setI s 334 12 (1 : Int32)) (fun s3 =>
 some (s3))))
 else if x1.toInt = 11 then (if (f_X8_kind (s.2.1 338 ((s.1 339 (((s.1 334 7) - (1 : Int32)).toNatClampNeg)).toNatClampNeg)) s) = (1 : Int32) then (if (lg_cmp (f_X8_told (s.2.1 338 ((s.1 339 (((s.1 334 7) - (1 : Int32)).toNatClampNeg)).toNatClampNeg)) s) (0 : Int64)) = (0 : Int32) then (k_X0_unary_181 1 s)
 else (k_X0_unary_181 0 s))
 else (t_let (t_setI s 334 12 (1 : Int32)) (fun s4 =>
 some (s4))))
 else if x1.toInt = 12 then (if (f_X8_kind (s.2.1 338 ((s.1 339 (((s.1 334 7) - (1 : Int32)).toNatClampNeg)).toNatClampNeg)) s) = (2 : Int32) then (k_X0_unary_218 (s.2.1 338 ((s.1 339 (((s.1 334 7) - (1 : Int32)).toNatClampNeg)).toNatClampNeg)) s)
 else (if (f_X8_kind (s.2.1 338 ((s.1 339 (((s.1 334 7) - (1 : Int32)).toNatClampNeg)).toNatClampNeg)) s) = (8 : Int32) then (k_X0_unary_218 (s.2.1 338 ((s.1 339 (((s.1 334 7) - (1 : Int32)).toNatClampNeg)).toNatClampNeg)) s)
 else (if (f_X8_kind (s.2.1 338 ((s.1 339 (((s.1 334 7) - (1 : Int32)).toNatClampNeg)).toNatClampNeg)) s) = (6 : Int32) then (k_X0_unary_218 (s.2.1 338 ((s.1 339 (((s.1 334 7) - (1 : Int32)).toNatClampNeg)).toNatClampNeg)) s)
 else (t_let (t_setI s 334 12 (1 : Int32)) (fun s5 =>
 some (s5))))))
 else ((f_X0_tagTop x2 s).bind (fun r12 =>
 some (r12)))
else none
else none)
 else (t_let (t_setI s 334 12 (1 : Int32)) (fun s6 =>
 some (s6)))
set_option maxRecDepth 4000 in
set_option maxHeartbeats 1000000 in
theorem C_X0_unary (x1 : Int32) (x2 : Int32) (s : t_S) (r : t_S) (hr : f_X0_unary x1 x2 s = some r) : t_C yX0_unary cX0_unary 7 none 2 [.ref 334, .int x1, .int x2] s (fun v s' => v = none ∧ s' = r) := by
  refine t_C.imp (P := fun v s' => v = none ∧ (fun q => q = r) (s')) (t_C.of (by decide +kernel) (Nat.le_of_ble_eq_true rfl) ?_) (fun v s' hp => hp)
  intro D cy ad bs X
  have hk : t_hk (f_X0_unary x1 x2 s) (fun q => q = r) := ⟨r, hr, rfl⟩
  show mj_G D cy ad bs X cX0_unary 7 yX0_unary.cls none yX0_unary.name 2 0 0 1065 (t_P (fun v s' => v = none ∧ (fun q => q = r) (s'))) 0 [(0, .ref 334), (1, .int x1), (2, .int x2)] [] (t_m s) 1065 0 0
  refine mj_aload_n dX0_unary_0 0 rfl ?_
  refine t_getI dX0_unary_1 F_X0_62 qf_334_7 ?_
  refine mj_iconst (v := 1) dX0_unary_4 (by decide) ?_
  refine mj_icmp_ge 14 dX0_unary_5 (by decide) (fun z => t_posK hk z (fun hk => ?_)) (fun z => t_negK hk z (fun hk => ?_))
  · refine mj_aload_n dX0_unary_14 0 rfl ?_
    refine t_getR 339 dX0_unary_15 F_X0_24 qr_334_6 ?_
    refine mj_aload_n dX0_unary_18 0 rfl ?_
    refine t_getI dX0_unary_19 F_X0_62 qf_334_7 ?_
    refine mj_iconst (v := 1) dX0_unary_22 (by decide) ?_
    refine mj_isub dX0_unary_23 ?_
    refine t_chkK hk (fun c0 hk => ?_)
    refine t_iald dX0_unary_24 qa_339 (t_ixv c0) ?_
    refine mj_istore_n 3 (lv2 := [(3, .int (s.1 339 (((s.1 334 7) - (1 : Int32)).toNatClampNeg))), (0, .ref 334), (1, .int x1), (2, .int x2)]) dX0_unary_25 rfl (by decide) rfl ?_
    refine mj_aload_n dX0_unary_26 1 rfl ?_
    refine t_getR 338 dX0_unary_27 F_X0_21 qr_334_5 ?_
    refine mj_iload_n dX0_unary_30 0 rfl ?_
    refine t_chkK hk (fun c1 hk => ?_)
    refine t_lald dX0_unary_31 qa_338 (t_ixv c1) ?_
    refine mj_lstore (lv2 := [(4, .long (s.2.1 338 ((s.1 339 (((s.1 334 7) - (1 : Int32)).toNatClampNeg)).toNatClampNeg))), (3, .int (s.1 339 (((s.1 334 7) - (1 : Int32)).toNatClampNeg))), (0, .ref 334), (1, .int x1), (2, .int x2)]) dX0_unary_32 (by decide) rfl ?_
    refine mj_lload dX0_unary_34 0 rfl ?_
    refine t_callSiP dX0_unary_36 M_X8_kind (C_X8_kind _ _) ML_X0_160 SM_X8_kind (As := [.long (s.2.1 338 ((s.1 339 (((s.1 334 7) - (1 : Int32)).toNatClampNeg)).toNatClampNeg))]) rfl rfl (Nat.le_of_ble_eq_true rfl) (Nat.le_of_ble_eq_true rfl) (Nat.le_of_ble_eq_true rfl) (Nat.le_of_ble_eq_true rfl) ?_
    refine mj_istore (lv2 := [(6, .int (f_X8_kind (s.2.1 338 ((s.1 339 (((s.1 334 7) - (1 : Int32)).toNatClampNeg)).toNatClampNeg)) s)), (4, .long (s.2.1 338 ((s.1 339 (((s.1 334 7) - (1 : Int32)).toNatClampNeg)).toNatClampNeg))), (3, .int (s.1 339 (((s.1 334 7) - (1 : Int32)).toNatClampNeg))), (0, .ref 334), (1, .int x1), (2, .int x2)]) dX0_unary_39 (by decide) rfl ?_
    refine mj_iload_n dX0_unary_41 4 rfl ?_
    by_cases hout : x1.toInt < 9 ∨ 13 < x1.toInt
    · replace hk := t_pos hk hout
      refine mj_tableOut 243 dX0_unary_42 hout (by decide) ?_
      refine mj_iload dX0_unary_243 0 rfl ?_
      refine mj_bipush (v := 6) dX0_unary_245 (by decide) ?_
      refine mj_icmp_ne 266 dX0_unary_247 (by decide) (fun z => t_negK hk z (fun hk => ?_)) (fun z => t_posK hk z (fun hk => ?_))
      · refine mj_iload dX0_unary_266 0 rfl ?_
        refine mj_bipush (v := 7) dX0_unary_268 (by decide) ?_
        refine mj_icmp_ne 296 dX0_unary_270 (by decide) (fun z => t_negK hk z (fun hk => ?_)) (fun z => t_posK hk z (fun hk => ?_))
        · refine mj_aload_n dX0_unary_296 3 rfl ?_
          refine mj_iconst (v := 1) dX0_unary_297 (by decide) ?_
          refine t_putIK dX0_unary_298 F_X0_71 qf_334_12 rfl (fun s1 ws1 => t_letE hk ws1 (fun hk => ?_))
          exact t_somK hk (fun hf => t_vret dX0_unary_301 rfl ⟨rfl, hf⟩ (Nat.le_of_ble_eq_true rfl) (Nat.le_of_ble_eq_true rfl))
        · refine mj_aload_n dX0_unary_273 3 rfl ?_
          refine mj_lload dX0_unary_274 1 rfl ?_
          refine t_callSiP dX0_unary_276 M_X8_wordOf (C_X8_wordOf _ _) ML_X0_186 SM_X8_wordOf (As := [.long (s.2.1 338 ((s.1 339 (((s.1 334 7) - (1 : Int32)).toNatClampNeg)).toNatClampNeg))]) rfl rfl (Nat.le_of_ble_eq_true rfl) (Nat.le_of_ble_eq_true rfl) (Nat.le_of_ble_eq_true rfl) (Nat.le_of_ble_eq_true rfl) ?_
          refine mj_iload_n dX0_unary_279 5 rfl ?_
          refine mj_icmp_ne 289 dX0_unary_280 (by decide) (fun z => t_negK hk z (fun hk => ?_)) (fun z => t_posK hk z (fun hk => ?_))
          · refine mj_iconst (v := (-1)) dX0_unary_289 (by decide) ?_
            refine mj_sublv [] [] rfl ?_
            exact B_X0_unary_290 _ _ _ hk
          · refine mj_iload_n dX0_unary_283 2 rfl ?_
            refine mj_iconst (v := 1) dX0_unary_284 (by decide) ?_
            refine mj_iadd dX0_unary_285 ?_
            refine mj_goto 290 dX0_unary_286 (by decide) ?_
            refine mj_sublv [] [] rfl ?_
            exact B_X0_unary_290 _ _ _ hk
      · refine mj_aload_n dX0_unary_250 3 rfl ?_
        refine mj_aload_n dX0_unary_251 3 rfl ?_
        refine t_getR 338 dX0_unary_252 F_X0_21 qr_334_5 ?_
        refine mj_iload_n dX0_unary_255 2 rfl ?_
        refine mj_iload_n dX0_unary_256 5 rfl ?_
        refine t_bndK hk (fun r5 er5 hk => ?_)
        refine t_callSiP dX0_unary_257 M_X8_fieldAt (C_X8_fieldAt _ _ _ _ _ er5) ML_X0_179 SM_X8_fieldAt (As := [.ref 338, .int (s.1 339 (((s.1 334 7) - (1 : Int32)).toNatClampNeg)), .int x2]) rfl rfl (Nat.le_of_ble_eq_true rfl) (Nat.le_of_ble_eq_true rfl) (Nat.le_of_ble_eq_true rfl) (Nat.le_of_ble_eq_true rfl) ?_
        refine t_bndK hk (fun r6 er6 hk => ?_)
        refine t_callVvE dX0_unary_260 M_X0_topBecomes (C_X0_topBecomes _ _ _ er6) ML_X0_183 IM_X0_topBecomes SE_X0_topBecomes qc_334 rfl (As := [.int r5]) rfl rfl (Nat.le_of_ble_eq_true rfl) (Nat.le_of_ble_eq_true rfl) (Nat.le_of_ble_eq_true rfl) (Nat.le_of_ble_eq_true rfl) ?_
        refine mj_goto 301 dX0_unary_263 (by decide) ?_
        exact t_somK hk (fun hf => t_vret dX0_unary_301 rfl ⟨rfl, hf⟩ (Nat.le_of_ble_eq_true rfl) (Nat.le_of_ble_eq_true rfl))
    · replace hk := t_neg hk hout
      have hh1 : ¬ x1.toInt < 9 := fun z => hout (Or.inl z)
      have hh2 : ¬ (13 : Int) < x1.toInt := fun z => hout (Or.inr z)
      by_cases h0 : x1.toInt = 9
      · replace hk := t_pos hk h0
        refine mj_tableIn 76 dX0_unary_42 hh1 hh2 (by rw [h0]; rfl) (by decide) ?_
        refine mj_iload dX0_unary_76 0 rfl ?_
        refine mj_iconst (v := 5) dX0_unary_78 (by decide) ?_
        refine mj_icmp_eq 90 dX0_unary_79 (by decide) (fun z => t_posK hk z (fun hk => ?_)) (fun z => t_negK hk z (fun hk => ?_))
        · refine mj_aload_n dX0_unary_90 3 rfl ?_
          refine mj_aload_n dX0_unary_91 3 rfl ?_
          refine t_getI dX0_unary_92 F_X0_163 qf_334_16 ?_
          refine mj_lload dX0_unary_95 1 rfl ?_
          refine t_callSlP dX0_unary_97 M_X8_told (C_X8_told _ _) ML_X0_166 SM_X8_told (As := [.long (s.2.1 338 ((s.1 339 (((s.1 334 7) - (1 : Int32)).toNatClampNeg)).toNatClampNeg))]) rfl rfl (Nat.le_of_ble_eq_true rfl) (Nat.le_of_ble_eq_true rfl) (Nat.le_of_ble_eq_true rfl) (Nat.le_of_ble_eq_true rfl) ?_
          refine mj_l2i (v := (f_X8_told (s.2.1 338 ((s.1 339 (((s.1 334 7) - (1 : Int32)).toNatClampNeg)).toNatClampNeg)) s).toInt32) dX0_unary_100 rfl ?_
          refine mj_ishr dX0_unary_101 ?_
          refine mj_iconst (v := 1) dX0_unary_102 (by decide) ?_
          refine mj_iand dX0_unary_103 ?_
          refine mj_if_eq 111 dX0_unary_104 (by decide) (fun z => t_posK hk z (fun hk => ?_)) (fun z => t_negK hk z (fun hk => ?_))
          · refine mj_iconst (v := 0) dX0_unary_111 (by decide) ?_
            refine mj_sublv [] [] rfl ?_
            exact B_X0_unary_112 _ _ _ hk
          · refine mj_iconst (v := 1) dX0_unary_107 (by decide) ?_
            refine mj_goto 112 dX0_unary_108 (by decide) ?_
            refine mj_sublv [] [] rfl ?_
            exact B_X0_unary_112 _ _ _ hk
        · refine mj_aload_n dX0_unary_82 3 rfl ?_
          refine mj_iconst (v := 1) dX0_unary_83 (by decide) ?_
          refine t_putIK dX0_unary_84 F_X0_71 qf_334_12 rfl (fun s2 ws2 => t_letE hk ws2 (fun hk => ?_))
          refine mj_goto 301 dX0_unary_87 (by decide) ?_
          exact t_somK hk (fun hf => t_vret dX0_unary_301 rfl ⟨rfl, hf⟩ (Nat.le_of_ble_eq_true rfl) (Nat.le_of_ble_eq_true rfl))
      replace hk := t_neg hk h0
      by_cases h1 : x1.toInt = 10
      · replace hk := t_pos hk h1
        refine mj_tableIn 121 dX0_unary_42 hh1 hh2 (by rw [h1]; rfl) (by decide) ?_
        refine mj_iload dX0_unary_121 0 rfl ?_
        refine mj_if_eq 134 dX0_unary_123 (by decide) (fun z => t_posK hk z (fun hk => ?_)) (fun z => t_negK hk z (fun hk => ?_))
        · refine mj_aload_n dX0_unary_134 3 rfl ?_
          refine mj_iconst (v := 0) dX0_unary_135 (by decide) ?_
          refine mj_lload dX0_unary_136 1 rfl ?_
          refine t_callSlP dX0_unary_138 M_X8_told (C_X8_told _ _) ML_X0_166 SM_X8_told (As := [.long (s.2.1 338 ((s.1 339 (((s.1 334 7) - (1 : Int32)).toNatClampNeg)).toNatClampNeg))]) rfl rfl (Nat.le_of_ble_eq_true rfl) (Nat.le_of_ble_eq_true rfl) (Nat.le_of_ble_eq_true rfl) (Nat.le_of_ble_eq_true rfl) ?_
          refine mj_lneg dX0_unary_141 ?_
          refine t_callSlP dX0_unary_142 M_X8_plainCell (C_X8_plainCell _ _ _) ML_X0_106 SM_X8_plainCell (As := [.int 0, .long (-(f_X8_told (s.2.1 338 ((s.1 339 (((s.1 334 7) - (1 : Int32)).toNatClampNeg)).toNatClampNeg)) s))]) rfl rfl (Nat.le_of_ble_eq_true rfl) (Nat.le_of_ble_eq_true rfl) (Nat.le_of_ble_eq_true rfl) (Nat.le_of_ble_eq_true rfl) ?_
          refine t_bndK hk (fun r10 er10 hk => ?_)
          refine t_callVvE dX0_unary_145 M_X0_replaceTop (C_X0_replaceTop _ _ _ er10) ML_X0_170 IM_X0_replaceTop SE_X0_replaceTop qc_334 rfl (As := [.long (f_X8_plainCell (0 : Int32) (-(f_X8_told (s.2.1 338 ((s.1 339 (((s.1 334 7) - (1 : Int32)).toNatClampNeg)).toNatClampNeg)) s)) s)]) rfl rfl (Nat.le_of_ble_eq_true rfl) (Nat.le_of_ble_eq_true rfl) (Nat.le_of_ble_eq_true rfl) (Nat.le_of_ble_eq_true rfl) ?_
          refine mj_goto 301 dX0_unary_148 (by decide) ?_
          exact t_somK hk (fun hf => t_vret dX0_unary_301 rfl ⟨rfl, hf⟩ (Nat.le_of_ble_eq_true rfl) (Nat.le_of_ble_eq_true rfl))
        · refine mj_aload_n dX0_unary_126 3 rfl ?_
          refine mj_iconst (v := 1) dX0_unary_127 (by decide) ?_
          refine t_putIK dX0_unary_128 F_X0_71 qf_334_12 rfl (fun s3 ws3 => t_letE hk ws3 (fun hk => ?_))
          refine mj_goto 301 dX0_unary_131 (by decide) ?_
          exact t_somK hk (fun hf => t_vret dX0_unary_301 rfl ⟨rfl, hf⟩ (Nat.le_of_ble_eq_true rfl) (Nat.le_of_ble_eq_true rfl))
      replace hk := t_neg hk h1
      by_cases h2 : x1.toInt = 11
      · replace hk := t_pos hk h2
        refine mj_tableIn 151 dX0_unary_42 hh1 hh2 (by rw [h2]; rfl) (by decide) ?_
        refine mj_iload dX0_unary_151 0 rfl ?_
        refine mj_iconst (v := 1) dX0_unary_153 (by decide) ?_
        refine mj_icmp_eq 165 dX0_unary_154 (by decide) (fun z => t_posK hk z (fun hk => ?_)) (fun z => t_negK hk z (fun hk => ?_))
        · refine mj_aload_n dX0_unary_165 3 rfl ?_
          refine mj_lload dX0_unary_166 1 rfl ?_
          refine t_callSlP dX0_unary_168 M_X8_told (C_X8_told _ _) ML_X0_166 SM_X8_told (As := [.long (s.2.1 338 ((s.1 339 (((s.1 334 7) - (1 : Int32)).toNatClampNeg)).toNatClampNeg))]) rfl rfl (Nat.le_of_ble_eq_true rfl) (Nat.le_of_ble_eq_true rfl) (Nat.le_of_ble_eq_true rfl) (Nat.le_of_ble_eq_true rfl) ?_
          refine mj_lconst (v := 0) dX0_unary_171 (by decide) ?_
          refine mj_lcmp dX0_unary_172 ?_
          refine mj_if_ne 180 dX0_unary_173 (by decide) (fun z => t_negK hk z (fun hk => ?_)) (fun z => t_posK hk z (fun hk => ?_))
          · refine mj_iconst (v := 0) dX0_unary_180 (by decide) ?_
            refine mj_sublv [] [] rfl ?_
            exact B_X0_unary_181 _ _ _ hk
          · refine mj_iconst (v := 1) dX0_unary_176 (by decide) ?_
            refine mj_goto 181 dX0_unary_177 (by decide) ?_
            refine mj_sublv [] [] rfl ?_
            exact B_X0_unary_181 _ _ _ hk
        · refine mj_aload_n dX0_unary_157 3 rfl ?_
          refine mj_iconst (v := 1) dX0_unary_158 (by decide) ?_
          refine t_putIK dX0_unary_159 F_X0_71 qf_334_12 rfl (fun s4 ws4 => t_letE hk ws4 (fun hk => ?_))
          refine mj_goto 301 dX0_unary_162 (by decide) ?_
          exact t_somK hk (fun hf => t_vret dX0_unary_301 rfl ⟨rfl, hf⟩ (Nat.le_of_ble_eq_true rfl) (Nat.le_of_ble_eq_true rfl))
      replace hk := t_neg hk h2
      by_cases h3 : x1.toInt = 12
      · replace hk := t_pos hk h3
        refine mj_tableIn 190 dX0_unary_42 hh1 hh2 (by rw [h3]; rfl) (by decide) ?_
        refine mj_iload dX0_unary_190 0 rfl ?_
        refine mj_iconst (v := 2) dX0_unary_192 (by decide) ?_
        refine mj_icmp_eq 218 dX0_unary_193 (by decide) (fun z => t_posK hk z (fun hk => ?_)) (fun z => t_negK hk z (fun hk => ?_))
        · refine mj_sublv [(0, .ref 334), (4, .long (s.2.1 338 ((s.1 339 (((s.1 334 7) - (1 : Int32)).toNatClampNeg)).toNatClampNeg)))] [3, 1] rfl ?_
          exact B_X0_unary_218 _ _ _ hk
        · refine mj_iload dX0_unary_196 0 rfl ?_
          refine mj_bipush (v := 8) dX0_unary_198 (by decide) ?_
          refine mj_icmp_eq 218 dX0_unary_200 (by decide) (fun z => t_posK hk z (fun hk => ?_)) (fun z => t_negK hk z (fun hk => ?_))
          · refine mj_sublv [(0, .ref 334), (4, .long (s.2.1 338 ((s.1 339 (((s.1 334 7) - (1 : Int32)).toNatClampNeg)).toNatClampNeg)))] [3, 1] rfl ?_
            exact B_X0_unary_218 _ _ _ hk
          · refine mj_iload dX0_unary_203 0 rfl ?_
            refine mj_bipush (v := 6) dX0_unary_205 (by decide) ?_
            refine mj_icmp_eq 218 dX0_unary_207 (by decide) (fun z => t_posK hk z (fun hk => ?_)) (fun z => t_negK hk z (fun hk => ?_))
            · refine mj_sublv [(0, .ref 334), (4, .long (s.2.1 338 ((s.1 339 (((s.1 334 7) - (1 : Int32)).toNatClampNeg)).toNatClampNeg)))] [3, 1] rfl ?_
              exact B_X0_unary_218 _ _ _ hk
            · refine mj_aload_n dX0_unary_210 3 rfl ?_
              refine mj_iconst (v := 1) dX0_unary_211 (by decide) ?_
              refine t_putIK dX0_unary_212 F_X0_71 qf_334_12 rfl (fun s5 ws5 => t_letE hk ws5 (fun hk => ?_))
              refine mj_goto 301 dX0_unary_215 (by decide) ?_
              exact t_somK hk (fun hf => t_vret dX0_unary_301 rfl ⟨rfl, hf⟩ (Nat.le_of_ble_eq_true rfl) (Nat.le_of_ble_eq_true rfl))
      replace hk := t_neg hk h3
      have h4 : x1.toInt = 13 := by omega
      refine mj_tableIn 235 dX0_unary_42 hh1 hh2 (by rw [h4]; rfl) (by decide) ?_
      refine mj_aload_n dX0_unary_235 3 rfl ?_
      refine mj_iload_n dX0_unary_236 5 rfl ?_
      refine t_bndK hk (fun r12 er12 hk => ?_)
      refine t_callVvE dX0_unary_237 M_X0_tagTop (C_X0_tagTop _ _ _ er12) ML_X0_176 IM_X0_tagTop SE_X0_tagTop qc_334 rfl (As := [.int x2]) rfl rfl (Nat.le_of_ble_eq_true rfl) (Nat.le_of_ble_eq_true rfl) (Nat.le_of_ble_eq_true rfl) (Nat.le_of_ble_eq_true rfl) ?_
      refine mj_goto 301 dX0_unary_240 (by decide) ?_
      exact t_somK hk (fun hf => t_vret dX0_unary_301 rfl ⟨rfl, hf⟩ (Nat.le_of_ble_eq_true rfl) (Nat.le_of_ble_eq_true rfl))
  · refine mj_aload_n dX0_unary_8 0 rfl ?_
    refine mj_iconst (v := 1) dX0_unary_9 (by decide) ?_
    refine t_putIK dX0_unary_10 F_X0_71 qf_334_12 rfl (fun s6 ws6 => t_letE hk ws6 (fun hk => ?_))
    exact t_somK hk (fun hf => t_vret dX0_unary_13 rfl ⟨rfl, hf⟩ (Nat.le_of_ble_eq_true rfl) (Nat.le_of_ble_eq_true rfl))

theorem dX0_work_0 : decode cX0_work 0 = .ok (.aload_n 0, 1) := by decide +kernel
theorem dX0_work_1 : decode cX0_work 1 = .ok (.iconst 0, 1) := by decide +kernel
theorem dX0_work_10 : decode cX0_work 10 = .ok (.iload_n 1, 1) := by decide +kernel
theorem dX0_work_100 : decode cX0_work 100 = .ok (.invokevirtual 84, 3) := by decide +kernel
theorem dX0_work_103 : decode cX0_work 103 = .ok (.goto 48, 3) := by decide +kernel
theorem dX0_work_106 : decode cX0_work 106 = .ok (.iload_n 3, 1) := by decide +kernel
theorem dX0_work_107 : decode cX0_work 107 = .ok (.bipush 29, 2) := by decide +kernel
theorem dX0_work_109 : decode cX0_work 109 = .ok (.if_icmp .gt 17, 3) := by decide +kernel
theorem dX0_work_11 : decode cX0_work 11 = .ok (.istore_n 2, 1) := by decide +kernel
theorem dX0_work_112 : decode cX0_work 112 = .ok (.iload_n 2, 1) := by decide +kernel
theorem dX0_work_113 : decode cX0_work 113 = .ok (.aload_n 0, 1) := by decide +kernel
theorem dX0_work_114 : decode cX0_work 114 = .ok (.iload_n 3, 1) := by decide +kernel
theorem dX0_work_115 : decode cX0_work 115 = .ok (.iload_n 2, 1) := by decide +kernel
theorem dX0_work_116 : decode cX0_work 116 = .ok (.invokevirtual 87, 3) := by decide +kernel
theorem dX0_work_119 : decode cX0_work 119 = .ok (.invokestatic 91, 3) := by decide +kernel
theorem dX0_work_12 : decode cX0_work 12 = .ok (.iload_n 2, 1) := by decide +kernel
theorem dX0_work_122 : decode cX0_work 122 = .ok (.istore_n 2, 1) := by decide +kernel
theorem dX0_work_123 : decode cX0_work 123 = .ok (.goto 28, 3) := by decide +kernel
theorem dX0_work_126 : decode cX0_work 126 = .ok (.iload_n 3, 1) := by decide +kernel
theorem dX0_work_127 : decode cX0_work 127 = .ok (.bipush 36, 2) := by decide +kernel
theorem dX0_work_129 : decode cX0_work 129 = .ok (.if_icmp .ne 16, 3) := by decide +kernel
theorem dX0_work_13 : decode cX0_work 13 = .ok (.ifCond .lt 144, 3) := by decide +kernel
theorem dX0_work_132 : decode cX0_work 132 = .ok (.aload_n 0, 1) := by decide +kernel
theorem dX0_work_133 : decode cX0_work 133 = .ok (.aload_n 0, 1) := by decide +kernel
theorem dX0_work_134 : decode cX0_work 134 = .ok (.getfield 13, 3) := by decide +kernel
theorem dX0_work_137 : decode cX0_work 137 = .ok (.iload_n 2, 1) := by decide +kernel
theorem dX0_work_138 : decode cX0_work 138 = .ok (.iaload, 1) := by decide +kernel
theorem dX0_work_139 : decode cX0_work 139 = .ok (.invokevirtual 96, 3) := by decide +kernel
theorem dX0_work_142 : decode cX0_work 142 = .ok (.goto 9, 3) := by decide +kernel
theorem dX0_work_145 : decode cX0_work 145 = .ok (.aload_n 0, 1) := by decide +kernel
theorem dX0_work_146 : decode cX0_work 146 = .ok (.iload_n 3, 1) := by decide +kernel
theorem dX0_work_147 : decode cX0_work 147 = .ok (.iload_n 2, 1) := by decide +kernel
theorem dX0_work_148 : decode cX0_work 148 = .ok (.invokevirtual 99, 3) := by decide +kernel
theorem dX0_work_151 : decode cX0_work 151 = .ok (.iinc 2 1, 3) := by decide +kernel
theorem dX0_work_154 : decode cX0_work 154 = .ok (.goto (-142), 3) := by decide +kernel
theorem dX0_work_157 : decode cX0_work 157 = .ok (.aload_n 0, 1) := by decide +kernel
theorem dX0_work_158 : decode cX0_work 158 = .ok (.getfield 71, 3) := by decide +kernel
theorem dX0_work_16 : decode cX0_work 16 = .ok (.iload_n 2, 1) := by decide +kernel
theorem dX0_work_161 : decode cX0_work 161 = .ok (.ireturn, 1) := by decide +kernel
theorem dX0_work_17 : decode cX0_work 17 = .ok (.aload_n 0, 1) := by decide +kernel
theorem dX0_work_18 : decode cX0_work 18 = .ok (.getfield 51, 3) := by decide +kernel
theorem dX0_work_2 : decode cX0_work 2 = .ok (.putfield 71, 3) := by decide +kernel
theorem dX0_work_21 : decode cX0_work 21 = .ok (.if_icmp .ge 136, 3) := by decide +kernel
theorem dX0_work_24 : decode cX0_work 24 = .ok (.aload_n 0, 1) := by decide +kernel
theorem dX0_work_25 : decode cX0_work 25 = .ok (.getfield 9, 3) := by decide +kernel
theorem dX0_work_28 : decode cX0_work 28 = .ok (.iload_n 2, 1) := by decide +kernel
theorem dX0_work_29 : decode cX0_work 29 = .ok (.iaload, 1) := by decide +kernel
theorem dX0_work_30 : decode cX0_work 30 = .ok (.ifCond .eq 127, 3) := by decide +kernel
theorem dX0_work_33 : decode cX0_work 33 = .ok (.aload_n 0, 1) := by decide +kernel
theorem dX0_work_34 : decode cX0_work 34 = .ok (.getfield 71, 3) := by decide +kernel
theorem dX0_work_37 : decode cX0_work 37 = .ok (.ifCond .ne 120, 3) := by decide +kernel
theorem dX0_work_40 : decode cX0_work 40 = .ok (.aload_n 0, 1) := by decide +kernel
theorem dX0_work_41 : decode cX0_work 41 = .ok (.iload_n 2, 1) := by decide +kernel
theorem dX0_work_42 : decode cX0_work 42 = .ok (.putfield 74, 3) := by decide +kernel
theorem dX0_work_45 : decode cX0_work 45 = .ok (.aload_n 0, 1) := by decide +kernel
theorem dX0_work_46 : decode cX0_work 46 = .ok (.getfield 9, 3) := by decide +kernel
theorem dX0_work_49 : decode cX0_work 49 = .ok (.iload_n 2, 1) := by decide +kernel
theorem dX0_work_5 : decode cX0_work 5 = .ok (.aload_n 0, 1) := by decide +kernel
theorem dX0_work_50 : decode cX0_work 50 = .ok (.iaload, 1) := by decide +kernel
theorem dX0_work_51 : decode cX0_work 51 = .ok (.istore_n 3, 1) := by decide +kernel
theorem dX0_work_52 : decode cX0_work 52 = .ok (.iload_n 3, 1) := by decide +kernel
theorem dX0_work_53 : decode cX0_work 53 = .ok (.bipush 8, 2) := by decide +kernel
theorem dX0_work_55 : decode cX0_work 55 = .ok (.if_icmp .gt 17, 3) := by decide +kernel
theorem dX0_work_58 : decode cX0_work 58 = .ok (.aload_n 0, 1) := by decide +kernel
theorem dX0_work_59 : decode cX0_work 59 = .ok (.iload_n 3, 1) := by decide +kernel
theorem dX0_work_6 : decode cX0_work 6 = .ok (.iload_n 1, 1) := by decide +kernel
theorem dX0_work_60 : decode cX0_work 60 = .ok (.aload_n 0, 1) := by decide +kernel
theorem dX0_work_61 : decode cX0_work 61 = .ok (.getfield 13, 3) := by decide +kernel
theorem dX0_work_64 : decode cX0_work 64 = .ok (.iload_n 2, 1) := by decide +kernel
theorem dX0_work_65 : decode cX0_work 65 = .ok (.iaload, 1) := by decide +kernel
theorem dX0_work_66 : decode cX0_work 66 = .ok (.invokevirtual 77, 3) := by decide +kernel
theorem dX0_work_69 : decode cX0_work 69 = .ok (.goto 82, 3) := by decide +kernel
theorem dX0_work_7 : decode cX0_work 7 = .ok (.putfield 74, 3) := by decide +kernel
theorem dX0_work_72 : decode cX0_work 72 = .ok (.iload_n 3, 1) := by decide +kernel
theorem dX0_work_73 : decode cX0_work 73 = .ok (.bipush 14, 2) := by decide +kernel
theorem dX0_work_75 : decode cX0_work 75 = .ok (.if_icmp .gt 17, 3) := by decide +kernel
theorem dX0_work_78 : decode cX0_work 78 = .ok (.aload_n 0, 1) := by decide +kernel
theorem dX0_work_79 : decode cX0_work 79 = .ok (.iload_n 3, 1) := by decide +kernel
theorem dX0_work_80 : decode cX0_work 80 = .ok (.aload_n 0, 1) := by decide +kernel
theorem dX0_work_81 : decode cX0_work 81 = .ok (.getfield 13, 3) := by decide +kernel
theorem dX0_work_84 : decode cX0_work 84 = .ok (.iload_n 2, 1) := by decide +kernel
theorem dX0_work_85 : decode cX0_work 85 = .ok (.iaload, 1) := by decide +kernel
theorem dX0_work_86 : decode cX0_work 86 = .ok (.invokevirtual 81, 3) := by decide +kernel
theorem dX0_work_89 : decode cX0_work 89 = .ok (.goto 62, 3) := by decide +kernel
theorem dX0_work_92 : decode cX0_work 92 = .ok (.iload_n 3, 1) := by decide +kernel
theorem dX0_work_93 : decode cX0_work 93 = .ok (.bipush 27, 2) := by decide +kernel
theorem dX0_work_95 : decode cX0_work 95 = .ok (.if_icmp .gt 11, 3) := by decide +kernel
theorem dX0_work_98 : decode cX0_work 98 = .ok (.aload_n 0, 1) := by decide +kernel
theorem dX0_work_99 : decode cX0_work 99 = .ok (.iload_n 3, 1) := by decide +kernel
noncomputable def k_X0_work_151 (l2 : Int32) (s : t_S) : Option ((Int32 × t_S) ⊕ (Int32 × t_S)) :=
 some (.inl ((l2 + 1), s))
set_option maxRecDepth 4000 in
set_option maxHeartbeats 1000000 in
theorem B_X0_work_151 {D : va_G} {cy : Nat → ClassId} {ad : Nat → Nat} {bs : Nat} {X : State → Heap → Prop} (l2 : Int32) (s : t_S) (Q : (Int32 × t_S) ⊕ (Int32 × t_S) → Prop) (Hb12 : ∀ (y0 : Int32) (y1 : t_S), Q (.inl (y0, y1)) → mj_G D cy ad bs X cX0_work 4 yX0_work.cls (some .int) yX0_work.name 405 0 0 1065 (t_P (fun v s' => ∃ x, v = some (.int x) ∧ Q (.inr ((x, s'))))) 12 [(0, .ref 334), (2, .int (y0))] [] (t_m y1) 1065 0 0) (hk : t_hk (k_X0_work_151 l2 s) Q) : mj_G D cy ad bs X cX0_work 4 yX0_work.cls (some .int) yX0_work.name 405 0 0 1065 (t_P (fun v s' => ∃ x, v = some (.int x) ∧ Q (.inr ((x, s'))))) 151 [(0, .ref 334), (2, .int l2)] [] (t_m s) 1065 0 0 := by
  refine mj_iinc (k := 1) (v := (l2 + 1)) (lv2 := [(2, .int (l2 + 1)), (0, .ref 334)]) dX0_work_151 rfl rfl (by decide) rfl ?_
  refine mj_goto 12 dX0_work_154 (by decide) ?_
  refine mj_sublv [(0, .ref 334), (2, .int (l2 + 1))] [1, 0] rfl ?_
  exact t_somK hk (fun hf => Hb12 (l2 + 1) s hf)
noncomputable def k_X0_work_12 (l2 : Int32) (s : t_S) : Option ((Int32 × t_S) ⊕ (Int32 × t_S)) :=
 if l2 < (0 : Int32) then ((some ((s.1 334 12), s)).map Sum.inr)
 else (if (s.1 334 2) ≤ l2 then ((some ((s.1 334 12), s)).map Sum.inr)
 else (if t_ix l2 16000 = true then
  if (s.1 335 (l2.toNatClampNeg)) = (0 : Int32) then ((some ((s.1 334 12), s)).map Sum.inr)
 else (if (s.1 334 12) = (0 : Int32) then (t_let (t_setI s 334 13 l2) (fun s1 =>
 if (8 : Int32) < (s1.1 335 (l2.toNatClampNeg)) then (if (14 : Int32) < (s1.1 335 (l2.toNatClampNeg)) then (if (27 : Int32) < (s1.1 335 (l2.toNatClampNeg)) then (if (29 : Int32) < (s1.1 335 (l2.toNatClampNeg)) then (if (s1.1 335 (l2.toNatClampNeg)) = (36 : Int32) then ((f_X0_hold (s1.1 336 (l2.toNatClampNeg)) s1).bind (fun r3 =>
 k_X0_work_151 l2 r3))
 else ((f_X0_gather (s1.1 335 (l2.toNatClampNeg)) l2 s1).bind (fun r2 =>
 k_X0_work_151 l2 r2)))
 else ((f_X0_jump (s1.1 335 (l2.toNatClampNeg)) l2 s1).bind (fun r4 =>
 k_X0_work_151 (if l2 < r4.1 then r4.1 else l2) r4.2)))
 else ((f_X0_binary (s1.1 335 (l2.toNatClampNeg)) s1).bind (fun r5 =>
 k_X0_work_151 l2 r5)))
 else ((f_X0_unary (s1.1 335 (l2.toNatClampNeg)) (s1.1 336 (l2.toNatClampNeg)) s1).bind (fun r6 =>
 k_X0_work_151 l2 r6)))
 else ((f_X0_load (s1.1 335 (l2.toNatClampNeg)) (s1.1 336 (l2.toNatClampNeg)) s1).bind (fun r7 =>
 k_X0_work_151 l2 r7))))
 else ((some ((s.1 334 12), s)).map Sum.inr))
else none))
set_option maxRecDepth 4000 in
set_option maxHeartbeats 1000000 in
theorem B_X0_work_12 {D : va_G} {cy : Nat → ClassId} {ad : Nat → Nat} {bs : Nat} {X : State → Heap → Prop} (l2 : Int32) (s : t_S) (Q : (Int32 × t_S) ⊕ (Int32 × t_S) → Prop) (Hb12 : ∀ (y0 : Int32) (y1 : t_S), Q (.inl (y0, y1)) → mj_G D cy ad bs X cX0_work 4 yX0_work.cls (some .int) yX0_work.name 405 0 0 1065 (t_P (fun v s' => ∃ x, v = some (.int x) ∧ Q (.inr ((x, s'))))) 12 [(0, .ref 334), (2, .int (y0))] [] (t_m y1) 1065 0 0) (hk : t_hk (k_X0_work_12 l2 s) Q) : mj_G D cy ad bs X cX0_work 4 yX0_work.cls (some .int) yX0_work.name 405 0 0 1065 (t_P (fun v s' => ∃ x, v = some (.int x) ∧ Q (.inr ((x, s'))))) 12 [(0, .ref 334), (2, .int l2)] [] (t_m s) 1065 0 0 := by
  refine mj_iload_n dX0_work_12 1 rfl ?_
  refine mj_if_lt 157 dX0_work_13 (by decide) (fun z => t_posK hk z (fun hk => ?_)) (fun z => t_negK hk z (fun hk => ?_))
  · refine t_mapK hk (fun hk => ?_)
    refine mj_aload_n dX0_work_157 0 rfl ?_
    refine t_getI dX0_work_158 F_X0_71 qf_334_12 ?_
    exact t_somK hk (fun hf => t_iret dX0_work_161 rfl rfl ⟨_, rfl, hf⟩ (Nat.le_of_ble_eq_true rfl) (Nat.le_of_ble_eq_true rfl))
  · refine mj_iload_n dX0_work_16 1 rfl ?_
    refine mj_aload_n dX0_work_17 0 rfl ?_
    refine t_getI dX0_work_18 F_X0_51 qf_334_2 ?_
    refine mj_icmp_ge 157 dX0_work_21 (by decide) (fun z => t_posK hk z (fun hk => ?_)) (fun z => t_negK hk z (fun hk => ?_))
    · refine t_mapK hk (fun hk => ?_)
      refine mj_aload_n dX0_work_157 0 rfl ?_
      refine t_getI dX0_work_158 F_X0_71 qf_334_12 ?_
      exact t_somK hk (fun hf => t_iret dX0_work_161 rfl rfl ⟨_, rfl, hf⟩ (Nat.le_of_ble_eq_true rfl) (Nat.le_of_ble_eq_true rfl))
    · refine mj_aload_n dX0_work_24 0 rfl ?_
      refine t_getR 335 dX0_work_25 F_X0_9 qr_334_0 ?_
      refine mj_iload_n dX0_work_28 1 rfl ?_
      refine t_chkK hk (fun c0 hk => ?_)
      refine t_iald dX0_work_29 qa_335 (t_ixv c0) ?_
      refine mj_if_eq 157 dX0_work_30 (by decide) (fun z => t_posK hk z (fun hk => ?_)) (fun z => t_negK hk z (fun hk => ?_))
      · refine t_mapK hk (fun hk => ?_)
        refine mj_aload_n dX0_work_157 0 rfl ?_
        refine t_getI dX0_work_158 F_X0_71 qf_334_12 ?_
        exact t_somK hk (fun hf => t_iret dX0_work_161 rfl rfl ⟨_, rfl, hf⟩ (Nat.le_of_ble_eq_true rfl) (Nat.le_of_ble_eq_true rfl))
      · refine mj_aload_n dX0_work_33 0 rfl ?_
        refine t_getI dX0_work_34 F_X0_71 qf_334_12 ?_
        refine mj_if_ne 157 dX0_work_37 (by decide) (fun z => t_negK hk z (fun hk => ?_)) (fun z => t_posK hk z (fun hk => ?_))
        · refine t_mapK hk (fun hk => ?_)
          refine mj_aload_n dX0_work_157 0 rfl ?_
          refine t_getI dX0_work_158 F_X0_71 qf_334_12 ?_
          exact t_somK hk (fun hf => t_iret dX0_work_161 rfl rfl ⟨_, rfl, hf⟩ (Nat.le_of_ble_eq_true rfl) (Nat.le_of_ble_eq_true rfl))
        · refine mj_aload_n dX0_work_40 0 rfl ?_
          refine mj_iload_n dX0_work_41 1 rfl ?_
          refine t_putIK dX0_work_42 F_X0_74 qf_334_13 rfl (fun s1 ws1 => t_letE hk ws1 (fun hk => ?_))
          refine mj_aload_n dX0_work_45 0 rfl ?_
          refine t_getR 335 dX0_work_46 F_X0_9 qr_334_0 ?_
          refine mj_iload_n dX0_work_49 1 rfl ?_
          refine t_iald dX0_work_50 qa_335 (t_ixv c0) ?_
          refine mj_istore_n 3 (lv2 := [(3, .int (s1.1 335 (l2.toNatClampNeg))), (0, .ref 334), (2, .int l2)]) dX0_work_51 rfl (by decide) rfl ?_
          refine mj_iload_n dX0_work_52 0 rfl ?_
          refine mj_bipush (v := 8) dX0_work_53 (by decide) ?_
          refine mj_icmp_gt 72 dX0_work_55 (by decide) (fun z => t_posK hk z (fun hk => ?_)) (fun z => t_negK hk z (fun hk => ?_))
          · refine mj_iload_n dX0_work_72 0 rfl ?_
            refine mj_bipush (v := 14) dX0_work_73 (by decide) ?_
            refine mj_icmp_gt 92 dX0_work_75 (by decide) (fun z => t_posK hk z (fun hk => ?_)) (fun z => t_negK hk z (fun hk => ?_))
            · refine mj_iload_n dX0_work_92 0 rfl ?_
              refine mj_bipush (v := 27) dX0_work_93 (by decide) ?_
              refine mj_icmp_gt 106 dX0_work_95 (by decide) (fun z => t_posK hk z (fun hk => ?_)) (fun z => t_negK hk z (fun hk => ?_))
              · refine mj_iload_n dX0_work_106 0 rfl ?_
                refine mj_bipush (v := 29) dX0_work_107 (by decide) ?_
                refine mj_icmp_gt 126 dX0_work_109 (by decide) (fun z => t_posK hk z (fun hk => ?_)) (fun z => t_negK hk z (fun hk => ?_))
                · refine mj_iload_n dX0_work_126 0 rfl ?_
                  refine mj_bipush (v := 36) dX0_work_127 (by decide) ?_
                  refine mj_icmp_ne 145 dX0_work_129 (by decide) (fun z => t_negK hk z (fun hk => ?_)) (fun z => t_posK hk z (fun hk => ?_))
                  · refine mj_aload_n dX0_work_145 1 rfl ?_
                    refine mj_iload_n dX0_work_146 0 rfl ?_
                    refine mj_iload_n dX0_work_147 2 rfl ?_
                    refine t_bndK hk (fun r2 er2 hk => ?_)
                    refine t_callVvE dX0_work_148 M_X0_gather (C_X0_gather _ _ _ _ er2) ML_X0_99 IM_X0_gather SE_X0_gather qc_334 rfl (As := [.int (s1.1 335 (l2.toNatClampNeg)), .int l2]) rfl rfl (Nat.le_of_ble_eq_true rfl) (Nat.le_of_ble_eq_true rfl) (Nat.le_of_ble_eq_true rfl) (Nat.le_of_ble_eq_true rfl) ?_
                    refine mj_sublv [(0, .ref 334), (2, .int l2)] [1, 2] rfl ?_
                    exact B_X0_work_151 _ _ _ (fun y0 y1 hx => Hb12 y0 y1 hx) hk
                  · refine mj_aload_n dX0_work_132 1 rfl ?_
                    refine mj_aload_n dX0_work_133 1 rfl ?_
                    refine t_getR 336 dX0_work_134 F_X0_13 qr_334_1 ?_
                    refine mj_iload_n dX0_work_137 2 rfl ?_
                    refine t_iald dX0_work_138 qa_336 (t_ixv c0) ?_
                    refine t_bndK hk (fun r3 er3 hk => ?_)
                    refine t_callVvE dX0_work_139 M_X0_hold (C_X0_hold _ _ _ er3) ML_X0_96 IM_X0_hold SE_X0_hold qc_334 rfl (As := [.int (s1.1 336 (l2.toNatClampNeg))]) rfl rfl (Nat.le_of_ble_eq_true rfl) (Nat.le_of_ble_eq_true rfl) (Nat.le_of_ble_eq_true rfl) (Nat.le_of_ble_eq_true rfl) ?_
                    refine mj_goto 151 dX0_work_142 (by decide) ?_
                    refine mj_sublv [(0, .ref 334), (2, .int l2)] [1, 2] rfl ?_
                    exact B_X0_work_151 _ _ _ (fun y0 y1 hx => Hb12 y0 y1 hx) hk
                · refine mj_iload_n dX0_work_112 2 rfl ?_
                  refine mj_aload_n dX0_work_113 1 rfl ?_
                  refine mj_iload_n dX0_work_114 0 rfl ?_
                  refine mj_iload_n dX0_work_115 2 rfl ?_
                  refine t_bndK hk (fun r4 er4 hk => ?_)
                  refine t_callViE dX0_work_116 M_X0_jump (C_X0_jump _ _ _ _ er4) ML_X0_87 IM_X0_jump SE_X0_jump qc_334 rfl (As := [.int (s1.1 335 (l2.toNatClampNeg)), .int l2]) rfl rfl (Nat.le_of_ble_eq_true rfl) (Nat.le_of_ble_eq_true rfl) (Nat.le_of_ble_eq_true rfl) (Nat.le_of_ble_eq_true rfl) ?_
                  refine mj_imax dX0_work_119 MM_max_X0_91 (Nat.le_of_ble_eq_true rfl) (Nat.le_of_ble_eq_true rfl) (Nat.le_of_ble_eq_true rfl) (Nat.le_of_ble_eq_true rfl) ?_
                  refine mj_istore_n 2 (lv2 := [(2, .int (if l2 < r4.1 then r4.1 else l2)), (3, .int (s1.1 335 (l2.toNatClampNeg))), (0, .ref 334)]) dX0_work_122 rfl (by decide) rfl ?_
                  refine mj_goto 151 dX0_work_123 (by decide) ?_
                  refine mj_sublv [(0, .ref 334), (2, .int (if l2 < r4.1 then r4.1 else l2))] [2, 0] rfl ?_
                  exact B_X0_work_151 _ _ _ (fun y0 y1 hx => Hb12 y0 y1 hx) hk
              · refine mj_aload_n dX0_work_98 1 rfl ?_
                refine mj_iload_n dX0_work_99 0 rfl ?_
                refine t_bndK hk (fun r5 er5 hk => ?_)
                refine t_callVvE dX0_work_100 M_X0_binary (C_X0_binary _ _ _ er5) ML_X0_84 IM_X0_binary SE_X0_binary qc_334 rfl (As := [.int (s1.1 335 (l2.toNatClampNeg))]) rfl rfl (Nat.le_of_ble_eq_true rfl) (Nat.le_of_ble_eq_true rfl) (Nat.le_of_ble_eq_true rfl) (Nat.le_of_ble_eq_true rfl) ?_
                refine mj_goto 151 dX0_work_103 (by decide) ?_
                refine mj_sublv [(0, .ref 334), (2, .int l2)] [1, 2] rfl ?_
                exact B_X0_work_151 _ _ _ (fun y0 y1 hx => Hb12 y0 y1 hx) hk
            · refine mj_aload_n dX0_work_78 1 rfl ?_
              refine mj_iload_n dX0_work_79 0 rfl ?_
              refine mj_aload_n dX0_work_80 1 rfl ?_
              refine t_getR 336 dX0_work_81 F_X0_13 qr_334_1 ?_
              refine mj_iload_n dX0_work_84 2 rfl ?_
              refine t_iald dX0_work_85 qa_336 (t_ixv c0) ?_
              refine t_bndK hk (fun r6 er6 hk => ?_)
              refine t_callVvE dX0_work_86 M_X0_unary (C_X0_unary _ _ _ _ er6) ML_X0_81 IM_X0_unary SE_X0_unary qc_334 rfl (As := [.int (s1.1 335 (l2.toNatClampNeg)), .int (s1.1 336 (l2.toNatClampNeg))]) rfl rfl (Nat.le_of_ble_eq_true rfl) (Nat.le_of_ble_eq_true rfl) (Nat.le_of_ble_eq_true rfl) (Nat.le_of_ble_eq_true rfl) ?_
              refine mj_goto 151 dX0_work_89 (by decide) ?_
              refine mj_sublv [(0, .ref 334), (2, .int l2)] [1, 2] rfl ?_
              exact B_X0_work_151 _ _ _ (fun y0 y1 hx => Hb12 y0 y1 hx) hk
          · refine mj_aload_n dX0_work_58 1 rfl ?_
            refine mj_iload_n dX0_work_59 0 rfl ?_
            refine mj_aload_n dX0_work_60 1 rfl ?_
            refine t_getR 336 dX0_work_61 F_X0_13 qr_334_1 ?_
            refine mj_iload_n dX0_work_64 2 rfl ?_
            refine t_iald dX0_work_65 qa_336 (t_ixv c0) ?_
            refine t_bndK hk (fun r7 er7 hk => ?_)
            refine t_callVvE dX0_work_66 M_X0_load (C_X0_load _ _ _ _ er7) ML_X0_77 IM_X0_load SE_X0_load qc_334 rfl (As := [.int (s1.1 335 (l2.toNatClampNeg)), .int (s1.1 336 (l2.toNatClampNeg))]) rfl rfl (Nat.le_of_ble_eq_true rfl) (Nat.le_of_ble_eq_true rfl) (Nat.le_of_ble_eq_true rfl) (Nat.le_of_ble_eq_true rfl) ?_
            refine mj_goto 151 dX0_work_69 (by decide) ?_
            refine mj_sublv [(0, .ref 334), (2, .int l2)] [1, 2] rfl ?_
            exact B_X0_work_151 _ _ _ (fun y0 y1 hx => Hb12 y0 y1 hx) hk
noncomputable def b_X0_work_12 (x : Int32 × t_S) : Option ((Int32 × t_S) ⊕ (Int32 × t_S)) := k_X0_work_12 x.1 x.2
set_option maxRecDepth 4000 in
set_option maxHeartbeats 1000000 in
theorem LH_X0_work_12 {D : va_G} {cy : Nat → ClassId} {ad : Nat → Nat} {bs : Nat} {X : State → Heap → Prop} : ∀ (n : Nat) (y0 : Int32) (y1 : t_S) (Q : Int32 × t_S → Prop) (hk : t_hk (t_loop (b_X0_work_12) n (y0, y1)) Q), mj_G D cy ad bs X cX0_work 4 yX0_work.cls (some .int) yX0_work.name 405 0 0 1065 (t_P (fun v s' => ∃ x, v = some (.int x) ∧ Q ((x, s')))) 12 [(0, .ref 334), (2, .int (y0))] [] (t_m y1) 1065 0 0 := by
  intro n
  induction n with
  | zero => intro y0 y1 Q hk; obtain ⟨r, hr, _⟩ := hk; cases hr
  | succ n ih =>
    intro y0 y1 Q hk
    exact B_X0_work_12 y0 y1 (fun y => t_lq (b_X0_work_12) n Q y) (fun y0' y1' hy => ih y0' y1' Q hy) (t_lp hk)
noncomputable def f_X0_work (x1 : Int32) (s : t_S) : Option (Int32 × t_S) :=
 t_let (t_setI s 334 12 (0 : Int32)) (fun s1 =>
 t_let (t_setI s1 334 13 x1) (fun s2 =>
 t_loop (b_X0_work_12) t_N (x1, s2)))
set_option maxRecDepth 4000 in
set_option maxHeartbeats 1000000 in
theorem C_X0_work (x1 : Int32) (s : t_S) (r : Int32 × t_S) (hr : f_X0_work x1 s = some r) : t_C yX0_work cX0_work 4 (some .int) 405 [.ref 334, .int x1] s (fun v s' => v = some (.int r.1) ∧ s' = r.2) := by
  refine t_C.imp (P := fun v s' => ∃ x, v = some (.int x) ∧ (fun q => q = r) ((x, s'))) (t_C.of (by decide +kernel) (Nat.le_of_ble_eq_true rfl) ?_) (fun v s' hp => by obtain ⟨x, rfl, rfl⟩ := hp; exact ⟨rfl, rfl⟩)
  intro D cy ad bs X
  have hk : t_hk (f_X0_work x1 s) (fun q => q = r) := ⟨r, hr, rfl⟩
  show mj_G D cy ad bs X cX0_work 4 yX0_work.cls (some .int) yX0_work.name 405 0 0 1065 (t_P (fun v s' => ∃ x, v = some (.int x) ∧ (fun q => q = r) ((x, s')))) 0 [(0, .ref 334), (1, .int x1)] [] (t_m s) 1065 0 0
  refine mj_aload_n dX0_work_0 0 rfl ?_
  refine mj_iconst (v := 0) dX0_work_1 (by decide) ?_
  refine t_putIK dX0_work_2 F_X0_71 qf_334_12 rfl (fun s1 ws1 => t_letE hk ws1 (fun hk => ?_))
  refine mj_aload_n dX0_work_5 0 rfl ?_
  refine mj_iload_n dX0_work_6 1 rfl ?_
  refine t_putIK dX0_work_7 F_X0_74 qf_334_13 rfl (fun s2 ws2 => t_letE hk ws2 (fun hk => ?_))
  refine mj_iload_n dX0_work_10 1 rfl ?_
  refine mj_istore_n 2 (lv2 := [(2, .int x1), (0, .ref 334), (1, .int x1)]) dX0_work_11 rfl (by decide) rfl ?_
  refine mj_sublv [(0, .ref 334), (2, .int x1)] [1, 0] rfl ?_
  exact LH_X0_work_12 _ x1 s2 _ hk

theorem dX10_add_0 : decode cX10_add 0 = .ok (.aload_n 0, 1) := by decide +kernel
theorem dX10_add_1 : decode cX10_add 1 = .ok (.getfield 70, 3) := by decide +kernel
theorem dX10_add_10 : decode cX10_add 10 = .ok (.sipush 6099, 3) := by decide +kernel
theorem dX10_add_13 : decode cX10_add 13 = .ok (.ireturn, 1) := by decide +kernel
theorem dX10_add_14 : decode cX10_add 14 = .ok (.aload_n 0, 1) := by decide +kernel
theorem dX10_add_15 : decode cX10_add 15 = .ok (.getfield 70, 3) := by decide +kernel
theorem dX10_add_18 : decode cX10_add 18 = .ok (.istore_n 2, 1) := by decide +kernel
theorem dX10_add_19 : decode cX10_add 19 = .ok (.aload_n 0, 1) := by decide +kernel
theorem dX10_add_20 : decode cX10_add 20 = .ok (.dup, 1) := by decide +kernel
theorem dX10_add_21 : decode cX10_add 21 = .ok (.getfield 70, 3) := by decide +kernel
theorem dX10_add_24 : decode cX10_add 24 = .ok (.iconst 1, 1) := by decide +kernel
theorem dX10_add_25 : decode cX10_add 25 = .ok (.iadd, 1) := by decide +kernel
theorem dX10_add_26 : decode cX10_add 26 = .ok (.putfield 70, 3) := by decide +kernel
theorem dX10_add_29 : decode cX10_add 29 = .ok (.aload_n 0, 1) := by decide +kernel
theorem dX10_add_30 : decode cX10_add 30 = .ok (.getfield 11, 3) := by decide +kernel
theorem dX10_add_33 : decode cX10_add 33 = .ok (.iload_n 2, 1) := by decide +kernel
theorem dX10_add_34 : decode cX10_add 34 = .ok (.iconst 1, 1) := by decide +kernel
theorem dX10_add_35 : decode cX10_add 35 = .ok (.iastore, 1) := by decide +kernel
theorem dX10_add_36 : decode cX10_add 36 = .ok (.aload_n 0, 1) := by decide +kernel
theorem dX10_add_37 : decode cX10_add 37 = .ok (.getfield 15, 3) := by decide +kernel
theorem dX10_add_4 : decode cX10_add 4 = .ok (.sipush 6100, 3) := by decide +kernel
theorem dX10_add_40 : decode cX10_add 40 = .ok (.iload_n 2, 1) := by decide +kernel
theorem dX10_add_41 : decode cX10_add 41 = .ok (.iconst (-1), 1) := by decide +kernel
theorem dX10_add_42 : decode cX10_add 42 = .ok (.iastore, 1) := by decide +kernel
theorem dX10_add_43 : decode cX10_add 43 = .ok (.aload_n 0, 1) := by decide +kernel
theorem dX10_add_44 : decode cX10_add 44 = .ok (.getfield 18, 3) := by decide +kernel
theorem dX10_add_47 : decode cX10_add 47 = .ok (.iload_n 2, 1) := by decide +kernel
theorem dX10_add_48 : decode cX10_add 48 = .ok (.iconst (-1), 1) := by decide +kernel
theorem dX10_add_49 : decode cX10_add 49 = .ok (.iastore, 1) := by decide +kernel
theorem dX10_add_50 : decode cX10_add 50 = .ok (.aload_n 0, 1) := by decide +kernel
theorem dX10_add_51 : decode cX10_add 51 = .ok (.getfield 21, 3) := by decide +kernel
theorem dX10_add_54 : decode cX10_add 54 = .ok (.iload_n 2, 1) := by decide +kernel
theorem dX10_add_55 : decode cX10_add 55 = .ok (.iconst (-1), 1) := by decide +kernel
theorem dX10_add_56 : decode cX10_add 56 = .ok (.iastore, 1) := by decide +kernel
theorem dX10_add_57 : decode cX10_add 57 = .ok (.aload_n 0, 1) := by decide +kernel
theorem dX10_add_58 : decode cX10_add 58 = .ok (.getfield 24, 3) := by decide +kernel
theorem dX10_add_61 : decode cX10_add 61 = .ok (.iload_n 2, 1) := by decide +kernel
theorem dX10_add_62 : decode cX10_add 62 = .ok (.iload_n 1, 1) := by decide +kernel
theorem dX10_add_63 : decode cX10_add 63 = .ok (.iastore, 1) := by decide +kernel
theorem dX10_add_64 : decode cX10_add 64 = .ok (.aload_n 0, 1) := by decide +kernel
theorem dX10_add_65 : decode cX10_add 65 = .ok (.getfield 27, 3) := by decide +kernel
theorem dX10_add_68 : decode cX10_add 68 = .ok (.iload_n 2, 1) := by decide +kernel
theorem dX10_add_69 : decode cX10_add 69 = .ok (.iconst 0, 1) := by decide +kernel
theorem dX10_add_7 : decode cX10_add 7 = .ok (.if_icmp .lt 7, 3) := by decide +kernel
theorem dX10_add_70 : decode cX10_add 70 = .ok (.iastore, 1) := by decide +kernel
theorem dX10_add_71 : decode cX10_add 71 = .ok (.aload_n 0, 1) := by decide +kernel
theorem dX10_add_72 : decode cX10_add 72 = .ok (.getfield 30, 3) := by decide +kernel
theorem dX10_add_75 : decode cX10_add 75 = .ok (.iload_n 2, 1) := by decide +kernel
theorem dX10_add_76 : decode cX10_add 76 = .ok (.iconst 0, 1) := by decide +kernel
theorem dX10_add_77 : decode cX10_add 77 = .ok (.bastore, 1) := by decide +kernel
theorem dX10_add_78 : decode cX10_add 78 = .ok (.aload_n 0, 1) := by decide +kernel
theorem dX10_add_79 : decode cX10_add 79 = .ok (.getfield 34, 3) := by decide +kernel
theorem dX10_add_82 : decode cX10_add 82 = .ok (.iload_n 2, 1) := by decide +kernel
theorem dX10_add_83 : decode cX10_add 83 = .ok (.lconst 0, 1) := by decide +kernel
theorem dX10_add_84 : decode cX10_add 84 = .ok (.lastore, 1) := by decide +kernel
theorem dX10_add_85 : decode cX10_add 85 = .ok (.aload_n 0, 1) := by decide +kernel
theorem dX10_add_86 : decode cX10_add 86 = .ok (.getfield 38, 3) := by decide +kernel
theorem dX10_add_89 : decode cX10_add 89 = .ok (.iload_n 2, 1) := by decide +kernel
theorem dX10_add_90 : decode cX10_add 90 = .ok (.lconst 0, 1) := by decide +kernel
theorem dX10_add_91 : decode cX10_add 91 = .ok (.lastore, 1) := by decide +kernel
theorem dX10_add_92 : decode cX10_add 92 = .ok (.iload_n 2, 1) := by decide +kernel
theorem dX10_add_93 : decode cX10_add 93 = .ok (.ireturn, 1) := by decide +kernel
noncomputable def f_X10_add (x1 : Int32) (s : t_S) : Option (Int32 × t_S) :=
 if (s.1 353 9) < (6100 : Int32) then (t_let (t_setI s 353 9 ((s.1 353 9) + (1 : Int32))) (fun s1 =>
 if t_ix (s.1 353 9) 6100 = true then
  t_let (t_setI s1 354 ((s.1 353 9).toNatClampNeg) (1 : Int32)) (fun s2 =>
 t_let (t_setI s2 355 ((s.1 353 9).toNatClampNeg) (-1 : Int32)) (fun s3 =>
 t_let (t_setI s3 356 ((s.1 353 9).toNatClampNeg) (-1 : Int32)) (fun s4 =>
 t_let (t_setI s4 357 ((s.1 353 9).toNatClampNeg) (-1 : Int32)) (fun s5 =>
 t_let (t_setI s5 358 ((s.1 353 9).toNatClampNeg) x1) (fun s6 =>
 t_let (t_setI s6 359 ((s.1 353 9).toNatClampNeg) (0 : Int32)) (fun s7 =>
 t_let (t_setI s7 360 ((s.1 353 9).toNatClampNeg) (0 : Int32)) (fun s8 =>
 t_let (t_setJ s8 361 ((s.1 353 9).toNatClampNeg) (0 : Int64)) (fun s9 =>
 t_let (t_setJ s9 362 ((s.1 353 9).toNatClampNeg) (0 : Int64)) (fun s10 =>
 some ((s.1 353 9), s10))))))))))
else none))
 else (some ((6099 : Int32), s))
set_option maxRecDepth 4000 in
set_option maxHeartbeats 1000000 in
theorem C_X10_add (x1 : Int32) (s : t_S) (r : Int32 × t_S) (hr : f_X10_add x1 s = some r) : t_C yX10_add cX10_add 3 (some .int) 0 [.ref 353, .int x1] s (fun v s' => v = some (.int r.1) ∧ s' = r.2) := by
  refine t_C.imp (P := fun v s' => ∃ x, v = some (.int x) ∧ (fun q => q = r) ((x, s'))) (t_C.of (by decide +kernel) (Nat.le_of_ble_eq_true rfl) ?_) (fun v s' hp => by obtain ⟨x, rfl, rfl⟩ := hp; exact ⟨rfl, rfl⟩)
  intro D cy ad bs X
  have hk : t_hk (f_X10_add x1 s) (fun q => q = r) := ⟨r, hr, rfl⟩
  show mj_G D cy ad bs X cX10_add 3 yX10_add.cls (some .int) yX10_add.name 0 0 0 1065 (t_P (fun v s' => ∃ x, v = some (.int x) ∧ (fun q => q = r) ((x, s')))) 0 [(0, .ref 353), (1, .int x1)] [] (t_m s) 1065 0 0
  refine mj_aload_n dX10_add_0 0 rfl ?_
  refine t_getI dX10_add_1 F_X10_70 qf_353_9 ?_
  refine mj_sipush (v := 6100) dX10_add_4 (by decide) ?_
  refine mj_icmp_lt 14 dX10_add_7 (by decide) (fun z => t_posK hk z (fun hk => ?_)) (fun z => t_negK hk z (fun hk => ?_))
  · refine mj_aload_n dX10_add_14 0 rfl ?_
    refine t_getI dX10_add_15 F_X10_70 qf_353_9 ?_
    refine mj_istore_n 2 (lv2 := [(2, .int (s.1 353 9)), (0, .ref 353), (1, .int x1)]) dX10_add_18 rfl (by decide) rfl ?_
    refine mj_aload_n dX10_add_19 1 rfl ?_
    refine mj_dup dX10_add_20 rfl ?_
    refine t_getI dX10_add_21 F_X10_70 qf_353_9 ?_
    refine mj_iconst (v := 1) dX10_add_24 (by decide) ?_
    refine mj_iadd dX10_add_25 ?_
    refine t_putIK dX10_add_26 F_X10_70 qf_353_9 rfl (fun s1 ws1 => t_letE hk ws1 (fun hk => ?_))
    refine mj_aload_n dX10_add_29 1 rfl ?_
    refine t_getR 354 dX10_add_30 F_X10_11 qr_353_0 ?_
    refine mj_iload_n dX10_add_33 0 rfl ?_
    refine mj_iconst (v := 1) dX10_add_34 (by decide) ?_
    refine t_chkK hk (fun c0 hk => ?_)
    refine t_iastK dX10_add_35 qa_354 (t_ixv c0) (fun s2 ws2 => t_letE hk ws2 (fun hk => ?_))
    refine mj_aload_n dX10_add_36 1 rfl ?_
    refine t_getR 355 dX10_add_37 F_X10_15 qr_353_1 ?_
    refine mj_iload_n dX10_add_40 0 rfl ?_
    refine mj_iconst (v := (-1)) dX10_add_41 (by decide) ?_
    refine t_iastK dX10_add_42 qa_355 (t_ixv c0) (fun s3 ws3 => t_letE hk ws3 (fun hk => ?_))
    refine mj_aload_n dX10_add_43 1 rfl ?_
    refine t_getR 356 dX10_add_44 F_X10_18 qr_353_2 ?_
    refine mj_iload_n dX10_add_47 0 rfl ?_
    refine mj_iconst (v := (-1)) dX10_add_48 (by decide) ?_
    refine t_iastK dX10_add_49 qa_356 (t_ixv c0) (fun s4 ws4 => t_letE hk ws4 (fun hk => ?_))
    refine mj_aload_n dX10_add_50 1 rfl ?_
    refine t_getR 357 dX10_add_51 F_X10_21 qr_353_3 ?_
    refine mj_iload_n dX10_add_54 0 rfl ?_
    refine mj_iconst (v := (-1)) dX10_add_55 (by decide) ?_
    refine t_iastK dX10_add_56 qa_357 (t_ixv c0) (fun s5 ws5 => t_letE hk ws5 (fun hk => ?_))
    refine mj_aload_n dX10_add_57 1 rfl ?_
    refine t_getR 358 dX10_add_58 F_X10_24 qr_353_4 ?_
    refine mj_iload_n dX10_add_61 0 rfl ?_
    refine mj_iload_n dX10_add_62 2 rfl ?_
    refine t_iastK dX10_add_63 qa_358 (t_ixv c0) (fun s6 ws6 => t_letE hk ws6 (fun hk => ?_))
    refine mj_aload_n dX10_add_64 1 rfl ?_
    refine t_getR 359 dX10_add_65 F_X10_27 qr_353_5 ?_
    refine mj_iload_n dX10_add_68 0 rfl ?_
    refine mj_iconst (v := 0) dX10_add_69 (by decide) ?_
    refine t_iastK dX10_add_70 qa_359 (t_ixv c0) (fun s7 ws7 => t_letE hk ws7 (fun hk => ?_))
    refine mj_aload_n dX10_add_71 1 rfl ?_
    refine t_getR 360 dX10_add_72 F_X10_30 qr_353_6 ?_
    refine mj_iload_n dX10_add_75 0 rfl ?_
    refine mj_iconst (v := 0) dX10_add_76 (by decide) ?_
    refine t_zastK dX10_add_77 qa_360 (t_ixv c0) (by decide) (fun s8 ws8 => t_letE hk ws8 (fun hk => ?_))
    refine mj_aload_n dX10_add_78 1 rfl ?_
    refine t_getR 361 dX10_add_79 F_X10_34 qr_353_7 ?_
    refine mj_iload_n dX10_add_82 0 rfl ?_
    refine mj_lconst (v := 0) dX10_add_83 (by decide) ?_
    refine t_lastK dX10_add_84 qa_361 (t_ixv c0) (fun s9 ws9 => t_letE hk ws9 (fun hk => ?_))
    refine mj_aload_n dX10_add_85 1 rfl ?_
    refine t_getR 362 dX10_add_86 F_X10_38 qr_353_8 ?_
    refine mj_iload_n dX10_add_89 0 rfl ?_
    refine mj_lconst (v := 0) dX10_add_90 (by decide) ?_
    refine t_lastK dX10_add_91 qa_362 (t_ixv c0) (fun s10 ws10 => t_letE hk ws10 (fun hk => ?_))
    refine mj_iload_n dX10_add_92 0 rfl ?_
    exact t_somK hk (fun hf => t_iret dX10_add_93 rfl rfl ⟨_, rfl, hf⟩ (Nat.le_of_ble_eq_true rfl) (Nat.le_of_ble_eq_true rfl))
  · refine mj_sipush (v := 6099) dX10_add_10 (by decide) ?_
    exact t_somK hk (fun hf => t_iret dX10_add_13 rfl rfl ⟨_, rfl, hf⟩ (Nat.le_of_ble_eq_true rfl) (Nat.le_of_ble_eq_true rfl))

theorem dX10_clear_0 : decode cX10_clear 0 = .ok (.aload_n 0, 1) := by decide +kernel
theorem dX10_clear_1 : decode cX10_clear 1 = .ok (.iconst 0, 1) := by decide +kernel
theorem dX10_clear_10 : decode cX10_clear 10 = .ok (.return_, 1) := by decide +kernel
theorem dX10_clear_2 : decode cX10_clear 2 = .ok (.putfield 70, 3) := by decide +kernel
theorem dX10_clear_5 : decode cX10_clear 5 = .ok (.aload_n 0, 1) := by decide +kernel
theorem dX10_clear_6 : decode cX10_clear 6 = .ok (.iconst 0, 1) := by decide +kernel
theorem dX10_clear_7 : decode cX10_clear 7 = .ok (.putfield 74, 3) := by decide +kernel
noncomputable def f_X10_clear (s : t_S) : Option (t_S) :=
 t_let (t_setI s 353 9 (0 : Int32)) (fun s1 =>
 t_let (t_setI s1 353 11 (0 : Int32)) (fun s2 =>
 some (s2)))
set_option maxRecDepth 4000 in
set_option maxHeartbeats 1000000 in
theorem C_X10_clear (s : t_S) (r : t_S) (hr : f_X10_clear s = some r) : t_C yX10_clear cX10_clear 1 none 0 [.ref 353] s (fun v s' => v = none ∧ s' = r) := by
  refine t_C.imp (P := fun v s' => v = none ∧ (fun q => q = r) (s')) (t_C.of (by decide +kernel) (Nat.le_of_ble_eq_true rfl) ?_) (fun v s' hp => hp)
  intro D cy ad bs X
  have hk : t_hk (f_X10_clear s) (fun q => q = r) := ⟨r, hr, rfl⟩
  show mj_G D cy ad bs X cX10_clear 1 yX10_clear.cls none yX10_clear.name 0 0 0 1065 (t_P (fun v s' => v = none ∧ (fun q => q = r) (s'))) 0 [(0, .ref 353)] [] (t_m s) 1065 0 0
  refine mj_aload_n dX10_clear_0 0 rfl ?_
  refine mj_iconst (v := 0) dX10_clear_1 (by decide) ?_
  refine t_putIK dX10_clear_2 F_X10_70 qf_353_9 rfl (fun s1 ws1 => t_letE hk ws1 (fun hk => ?_))
  refine mj_aload_n dX10_clear_5 0 rfl ?_
  refine mj_iconst (v := 0) dX10_clear_6 (by decide) ?_
  refine t_putIK dX10_clear_7 F_X10_74 qf_353_11 rfl (fun s2 ws2 => t_letE hk ws2 (fun hk => ?_))
  exact t_somK hk (fun hf => t_vret dX10_clear_10 rfl ⟨rfl, hf⟩ (Nat.le_of_ble_eq_true rfl) (Nat.le_of_ble_eq_true rfl))

theorem dX10_depthOf_0 : decode cX10_depthOf 0 = .ok (.aload_n 0, 1) := by decide +kernel
theorem dX10_depthOf_1 : decode cX10_depthOf 1 = .ok (.getfield 43, 3) := by decide +kernel
theorem dX10_depthOf_10 : decode cX10_depthOf 10 = .ok (.aload_n 0, 1) := by decide +kernel
theorem dX10_depthOf_11 : decode cX10_depthOf 11 = .ok (.getfield 43, 3) := by decide +kernel
theorem dX10_depthOf_14 : decode cX10_depthOf 14 = .ok (.iload_n 1, 1) := by decide +kernel
theorem dX10_depthOf_15 : decode cX10_depthOf 15 = .ok (.aaload, 1) := by decide +kernel
theorem dX10_depthOf_16 : decode cX10_depthOf 16 = .ok (.iconst 3, 1) := by decide +kernel
theorem dX10_depthOf_17 : decode cX10_depthOf 17 = .ok (.iaload, 1) := by decide +kernel
theorem dX10_depthOf_18 : decode cX10_depthOf 18 = .ok (.istore_n 3, 1) := by decide +kernel
theorem dX10_depthOf_19 : decode cX10_depthOf 19 = .ok (.iload_n 3, 1) := by decide +kernel
theorem dX10_depthOf_20 : decode cX10_depthOf 20 = .ok (.aload_n 0, 1) := by decide +kernel
theorem dX10_depthOf_21 : decode cX10_depthOf 21 = .ok (.getfield 43, 3) := by decide +kernel
theorem dX10_depthOf_24 : decode cX10_depthOf 24 = .ok (.iload_n 1, 1) := by decide +kernel
theorem dX10_depthOf_25 : decode cX10_depthOf 25 = .ok (.aaload, 1) := by decide +kernel
theorem dX10_depthOf_26 : decode cX10_depthOf 26 = .ok (.iconst 4, 1) := by decide +kernel
theorem dX10_depthOf_27 : decode cX10_depthOf 27 = .ok (.iaload, 1) := by decide +kernel
theorem dX10_depthOf_28 : decode cX10_depthOf 28 = .ok (.if_icmp .ge 64, 3) := by decide +kernel
theorem dX10_depthOf_31 : decode cX10_depthOf 31 = .ok (.aload_n 0, 1) := by decide +kernel
theorem dX10_depthOf_32 : decode cX10_depthOf 32 = .ok (.getfield 24, 3) := by decide +kernel
theorem dX10_depthOf_35 : decode cX10_depthOf 35 = .ok (.iload_n 3, 1) := by decide +kernel
theorem dX10_depthOf_36 : decode cX10_depthOf 36 = .ok (.iaload, 1) := by decide +kernel
theorem dX10_depthOf_37 : decode cX10_depthOf 37 = .ok (.istore 4, 2) := by decide +kernel
theorem dX10_depthOf_39 : decode cX10_depthOf 39 = .ok (.aload_n 0, 1) := by decide +kernel
theorem dX10_depthOf_4 : decode cX10_depthOf 4 = .ok (.iload_n 1, 1) := by decide +kernel
theorem dX10_depthOf_40 : decode cX10_depthOf 40 = .ok (.getfield 11, 3) := by decide +kernel
theorem dX10_depthOf_43 : decode cX10_depthOf 43 = .ok (.iload_n 3, 1) := by decide +kernel
theorem dX10_depthOf_44 : decode cX10_depthOf 44 = .ok (.iaload, 1) := by decide +kernel
theorem dX10_depthOf_45 : decode cX10_depthOf 45 = .ok (.bipush 7, 2) := by decide +kernel
theorem dX10_depthOf_47 : decode cX10_depthOf 47 = .ok (.if_icmp .ne 27, 3) := by decide +kernel
theorem dX10_depthOf_5 : decode cX10_depthOf 5 = .ok (.aaload, 1) := by decide +kernel
theorem dX10_depthOf_50 : decode cX10_depthOf 50 = .ok (.iload 4, 2) := by decide +kernel
theorem dX10_depthOf_52 : decode cX10_depthOf 52 = .ok (.ifCond .le 22, 3) := by decide +kernel
theorem dX10_depthOf_55 : decode cX10_depthOf 55 = .ok (.iload 4, 2) := by decide +kernel
theorem dX10_depthOf_57 : decode cX10_depthOf 57 = .ok (.aload_n 0, 1) := by decide +kernel
theorem dX10_depthOf_58 : decode cX10_depthOf 58 = .ok (.getfield 43, 3) := by decide +kernel
theorem dX10_depthOf_6 : decode cX10_depthOf 6 = .ok (.bipush 6, 2) := by decide +kernel
theorem dX10_depthOf_61 : decode cX10_depthOf 61 = .ok (.aload_n 0, 1) := by decide +kernel
theorem dX10_depthOf_62 : decode cX10_depthOf 62 = .ok (.getfield 21, 3) := by decide +kernel
theorem dX10_depthOf_65 : decode cX10_depthOf 65 = .ok (.iload_n 3, 1) := by decide +kernel
theorem dX10_depthOf_66 : decode cX10_depthOf 66 = .ok (.iaload, 1) := by decide +kernel
theorem dX10_depthOf_67 : decode cX10_depthOf 67 = .ok (.aaload, 1) := by decide +kernel
theorem dX10_depthOf_68 : decode cX10_depthOf 68 = .ok (.bipush 6, 2) := by decide +kernel
theorem dX10_depthOf_70 : decode cX10_depthOf 70 = .ok (.iaload, 1) := by decide +kernel
theorem dX10_depthOf_71 : decode cX10_depthOf 71 = .ok (.iadd, 1) := by decide +kernel
theorem dX10_depthOf_72 : decode cX10_depthOf 72 = .ok (.istore 4, 2) := by decide +kernel
theorem dX10_depthOf_74 : decode cX10_depthOf 74 = .ok (.iload_n 2, 1) := by decide +kernel
theorem dX10_depthOf_75 : decode cX10_depthOf 75 = .ok (.iload 4, 2) := by decide +kernel
theorem dX10_depthOf_77 : decode cX10_depthOf 77 = .ok (.bipush 61, 2) := by decide +kernel
theorem dX10_depthOf_79 : decode cX10_depthOf 79 = .ok (.invokestatic 81, 3) := by decide +kernel
theorem dX10_depthOf_8 : decode cX10_depthOf 8 = .ok (.iaload, 1) := by decide +kernel
theorem dX10_depthOf_82 : decode cX10_depthOf 82 = .ok (.invokestatic 87, 3) := by decide +kernel
theorem dX10_depthOf_85 : decode cX10_depthOf 85 = .ok (.istore_n 2, 1) := by decide +kernel
theorem dX10_depthOf_86 : decode cX10_depthOf 86 = .ok (.iinc 3 1, 3) := by decide +kernel
theorem dX10_depthOf_89 : decode cX10_depthOf 89 = .ok (.goto (-70), 3) := by decide +kernel
theorem dX10_depthOf_9 : decode cX10_depthOf 9 = .ok (.istore_n 2, 1) := by decide +kernel
theorem dX10_depthOf_92 : decode cX10_depthOf 92 = .ok (.iload_n 2, 1) := by decide +kernel
theorem dX10_depthOf_93 : decode cX10_depthOf 93 = .ok (.ireturn, 1) := by decide +kernel
noncomputable def k_X10_depthOf_74 (l1 : Int32) (l2 : Int32) (l3 : Int32) (l4 : Int32) (s : t_S) : Option ((Int32 × Int32 × Int32) ⊕ (Int32)) :=
 some (.inl (l1, (if l2 < (if (61 : Int32) < l4 then (61 : Int32) else l4) then (if (61 : Int32) < l4 then (61 : Int32) else l4) else l2), (l3 + 1)))
set_option maxRecDepth 4000 in
set_option maxHeartbeats 1000000 in
theorem B_X10_depthOf_74 {D : va_G} {cy : Nat → ClassId} {ad : Nat → Nat} {bs : Nat} {X : State → Heap → Prop} (l1 : Int32) (l2 : Int32) (l3 : Int32) (l4 : Int32) (s : t_S) (Q : (Int32 × Int32 × Int32) ⊕ (Int32) → Prop) (Hb19 : ∀ (y0 : Int32) (y1 : Int32) (y2 : Int32), Q (.inl (y0, y1, y2)) → mj_G D cy ad bs X cX10_depthOf 5 yX10_depthOf.cls (some .int) yX10_depthOf.name 1 0 0 1065 (t_P (fun v s' => s' = s ∧ ∃ x, v = some (.int x) ∧ Q (.inr (x)))) 19 [(0, .ref 353), (1, .int (y0)), (2, .int (y1)), (3, .int (y2))] [] (t_m s) 1065 0 0) (hk : t_hk (k_X10_depthOf_74 l1 l2 l3 l4 s) Q) : mj_G D cy ad bs X cX10_depthOf 5 yX10_depthOf.cls (some .int) yX10_depthOf.name 1 0 0 1065 (t_P (fun v s' => s' = s ∧ ∃ x, v = some (.int x) ∧ Q (.inr (x)))) 74 [(0, .ref 353), (1, .int l1), (2, .int l2), (3, .int l3), (4, .int l4)] [] (t_m s) 1065 0 0 := by
  refine mj_iload_n dX10_depthOf_74 2 rfl ?_
  refine mj_iload dX10_depthOf_75 4 rfl ?_
  refine mj_bipush (v := 61) dX10_depthOf_77 (by decide) ?_
  refine mj_imin dX10_depthOf_79 MM_min_X10_81 (Nat.le_of_ble_eq_true rfl) (Nat.le_of_ble_eq_true rfl) (Nat.le_of_ble_eq_true rfl) (Nat.le_of_ble_eq_true rfl) ?_
  refine mj_imax dX10_depthOf_82 MM_max_X10_87 (Nat.le_of_ble_eq_true rfl) (Nat.le_of_ble_eq_true rfl) (Nat.le_of_ble_eq_true rfl) (Nat.le_of_ble_eq_true rfl) ?_
  refine mj_istore_n 2 (lv2 := [(2, .int (if l2 < (if (61 : Int32) < l4 then (61 : Int32) else l4) then (if (61 : Int32) < l4 then (61 : Int32) else l4) else l2)), (0, .ref 353), (1, .int l1), (3, .int l3), (4, .int l4)]) dX10_depthOf_85 rfl (by decide) rfl ?_
  refine mj_iinc (k := 3) (v := (l3 + 1)) (lv2 := [(3, .int (l3 + 1)), (2, .int (if l2 < (if (61 : Int32) < l4 then (61 : Int32) else l4) then (if (61 : Int32) < l4 then (61 : Int32) else l4) else l2)), (0, .ref 353), (1, .int l1), (4, .int l4)]) dX10_depthOf_86 rfl rfl (by decide) rfl ?_
  refine mj_goto 19 dX10_depthOf_89 (by decide) ?_
  refine mj_sublv [(0, .ref 353), (1, .int l1), (2, .int (if l2 < (if (61 : Int32) < l4 then (61 : Int32) else l4) then (if (61 : Int32) < l4 then (61 : Int32) else l4) else l2)), (3, .int (l3 + 1))] [2, 3, 1, 0] rfl ?_
  exact t_somK hk (fun hf => Hb19 l1 (if l2 < (if (61 : Int32) < l4 then (61 : Int32) else l4) then (if (61 : Int32) < l4 then (61 : Int32) else l4) else l2) (l3 + 1) hf)
noncomputable def k_X10_depthOf_19 (l1 : Int32) (l2 : Int32) (l3 : Int32) (s : t_S) : Option ((Int32 × Int32 × Int32) ⊕ (Int32)) :=
 if t_ix l1 60 = true then
  if (s.1 (364 + 1 * (l1.toNatClampNeg)) ((4 : Int32).toNatClampNeg)) ≤ l3 then ((some (l2)).map Sum.inr)
 else (if t_ix l3 6100 = true then
  if (s.1 354 (l3.toNatClampNeg)) = (7 : Int32) then (if (s.1 358 (l3.toNatClampNeg)) ≤ (0 : Int32) then (k_X10_depthOf_74 l1 l2 l3 (s.1 358 (l3.toNatClampNeg)) s)
 else (if t_ix (s.1 357 (l3.toNatClampNeg)) 60 = true then
  k_X10_depthOf_74 l1 l2 l3 ((s.1 358 (l3.toNatClampNeg)) + (s.1 (364 + 1 * ((s.1 357 (l3.toNatClampNeg)).toNatClampNeg)) ((6 : Int32).toNatClampNeg))) s
else none))
 else (k_X10_depthOf_74 l1 l2 l3 (s.1 358 (l3.toNatClampNeg)) s)
else none)
else none
set_option maxRecDepth 4000 in
set_option maxHeartbeats 1000000 in
theorem B_X10_depthOf_19 {D : va_G} {cy : Nat → ClassId} {ad : Nat → Nat} {bs : Nat} {X : State → Heap → Prop} (l1 : Int32) (l2 : Int32) (l3 : Int32) (s : t_S) (Q : (Int32 × Int32 × Int32) ⊕ (Int32) → Prop) (Hb19 : ∀ (y0 : Int32) (y1 : Int32) (y2 : Int32), Q (.inl (y0, y1, y2)) → mj_G D cy ad bs X cX10_depthOf 5 yX10_depthOf.cls (some .int) yX10_depthOf.name 1 0 0 1065 (t_P (fun v s' => s' = s ∧ ∃ x, v = some (.int x) ∧ Q (.inr (x)))) 19 [(0, .ref 353), (1, .int (y0)), (2, .int (y1)), (3, .int (y2))] [] (t_m s) 1065 0 0) (hk : t_hk (k_X10_depthOf_19 l1 l2 l3 s) Q) : mj_G D cy ad bs X cX10_depthOf 5 yX10_depthOf.cls (some .int) yX10_depthOf.name 1 0 0 1065 (t_P (fun v s' => s' = s ∧ ∃ x, v = some (.int x) ∧ Q (.inr (x)))) 19 [(0, .ref 353), (1, .int l1), (2, .int l2), (3, .int l3)] [] (t_m s) 1065 0 0 := by
  refine mj_iload_n dX10_depthOf_19 3 rfl ?_
  refine mj_aload_n dX10_depthOf_20 0 rfl ?_
  refine t_getR 363 dX10_depthOf_21 F_X10_43 qr_353_10 ?_
  refine mj_iload_n dX10_depthOf_24 1 rfl ?_
  refine t_chkK hk (fun c0 hk => ?_)
  refine t_aaldI dX10_depthOf_25 qq_363 (t_ixv c0) ?_
  refine mj_iconst (v := 4) dX10_depthOf_26 (by decide) ?_
  refine t_iald dX10_depthOf_27 (t_row364 (t_ixn c0)) (by unfold vp_in; decide) ?_
  refine mj_icmp_ge 92 dX10_depthOf_28 (by decide) (fun z => t_posK hk z (fun hk => ?_)) (fun z => t_negK hk z (fun hk => ?_))
  · refine t_mapK hk (fun hk => ?_)
    refine mj_iload_n dX10_depthOf_92 2 rfl ?_
    exact t_somK hk (fun hf => t_iret dX10_depthOf_93 rfl rfl ⟨rfl, _, rfl, hf⟩ (Nat.le_of_ble_eq_true rfl) (Nat.le_of_ble_eq_true rfl))
  · refine mj_aload_n dX10_depthOf_31 0 rfl ?_
    refine t_getR 358 dX10_depthOf_32 F_X10_24 qr_353_4 ?_
    refine mj_iload_n dX10_depthOf_35 3 rfl ?_
    refine t_chkK hk (fun c1 hk => ?_)
    refine t_iald dX10_depthOf_36 qa_358 (t_ixv c1) ?_
    refine mj_istore (lv2 := [(4, .int (s.1 358 (l3.toNatClampNeg))), (0, .ref 353), (1, .int l1), (2, .int l2), (3, .int l3)]) dX10_depthOf_37 (by decide) rfl ?_
    refine mj_aload_n dX10_depthOf_39 1 rfl ?_
    refine t_getR 354 dX10_depthOf_40 F_X10_11 qr_353_0 ?_
    refine mj_iload_n dX10_depthOf_43 4 rfl ?_
    refine t_iald dX10_depthOf_44 qa_354 (t_ixv c1) ?_
    refine mj_bipush (v := 7) dX10_depthOf_45 (by decide) ?_
    refine mj_icmp_ne 74 dX10_depthOf_47 (by decide) (fun z => t_negK hk z (fun hk => ?_)) (fun z => t_posK hk z (fun hk => ?_))
    · refine mj_sublv [(0, .ref 353), (1, .int l1), (2, .int l2), (3, .int l3), (4, .int (s.1 358 (l3.toNatClampNeg)))] [1, 2, 3, 4, 0] rfl ?_
      exact B_X10_depthOf_74 _ _ _ _ _ _ (fun y0 y1 y2 hx => Hb19 y0 y1 y2 hx) hk
    · refine mj_iload dX10_depthOf_50 0 rfl ?_
      refine mj_if_le 74 dX10_depthOf_52 (by decide) (fun z => t_posK hk z (fun hk => ?_)) (fun z => t_negK hk z (fun hk => ?_))
      · refine mj_sublv [(0, .ref 353), (1, .int l1), (2, .int l2), (3, .int l3), (4, .int (s.1 358 (l3.toNatClampNeg)))] [1, 2, 3, 4, 0] rfl ?_
        exact B_X10_depthOf_74 _ _ _ _ _ _ (fun y0 y1 y2 hx => Hb19 y0 y1 y2 hx) hk
      · refine mj_iload dX10_depthOf_55 0 rfl ?_
        refine mj_aload_n dX10_depthOf_57 1 rfl ?_
        refine t_getR 363 dX10_depthOf_58 F_X10_43 qr_353_10 ?_
        refine mj_aload_n dX10_depthOf_61 1 rfl ?_
        refine t_getR 357 dX10_depthOf_62 F_X10_21 qr_353_3 ?_
        refine mj_iload_n dX10_depthOf_65 4 rfl ?_
        refine t_iald dX10_depthOf_66 qa_357 (t_ixv c1) ?_
        refine t_chkK hk (fun c2 hk => ?_)
        refine t_aaldI dX10_depthOf_67 qq_363 (t_ixv c2) ?_
        refine mj_bipush (v := 6) dX10_depthOf_68 (by decide) ?_
        refine t_iald dX10_depthOf_70 (t_row364 (t_ixn c2)) (by unfold vp_in; decide) ?_
        refine mj_iadd dX10_depthOf_71 ?_
        refine mj_istore (lv2 := [(4, .int ((s.1 358 (l3.toNatClampNeg)) + (s.1 (364 + 1 * ((s.1 357 (l3.toNatClampNeg)).toNatClampNeg)) ((6 : Int32).toNatClampNeg)))), (0, .ref 353), (1, .int l1), (2, .int l2), (3, .int l3)]) dX10_depthOf_72 (by decide) rfl ?_
        refine mj_sublv [(0, .ref 353), (1, .int l1), (2, .int l2), (3, .int l3), (4, .int ((s.1 358 (l3.toNatClampNeg)) + (s.1 (364 + 1 * ((s.1 357 (l3.toNatClampNeg)).toNatClampNeg)) ((6 : Int32).toNatClampNeg))))] [1, 2, 3, 4, 0] rfl ?_
        exact B_X10_depthOf_74 _ _ _ _ _ _ (fun y0 y1 y2 hx => Hb19 y0 y1 y2 hx) hk
noncomputable def b_X10_depthOf_19 (s : t_S) (x : Int32 × Int32 × Int32) : Option ((Int32 × Int32 × Int32) ⊕ (Int32)) := k_X10_depthOf_19 x.1 x.2.1 x.2.2 s
set_option maxRecDepth 4000 in
set_option maxHeartbeats 1000000 in
theorem LH_X10_depthOf_19 {D : va_G} {cy : Nat → ClassId} {ad : Nat → Nat} {bs : Nat} {X : State → Heap → Prop} (s : t_S) : ∀ (n : Nat) (y0 : Int32) (y1 : Int32) (y2 : Int32) (Q : Int32 → Prop) (hk : t_hk (t_loop (b_X10_depthOf_19 s) n (y0, y1, y2)) Q), mj_G D cy ad bs X cX10_depthOf 5 yX10_depthOf.cls (some .int) yX10_depthOf.name 1 0 0 1065 (t_P (fun v s' => s' = s ∧ ∃ x, v = some (.int x) ∧ Q (x))) 19 [(0, .ref 353), (1, .int (y0)), (2, .int (y1)), (3, .int (y2))] [] (t_m s) 1065 0 0 := by
  intro n
  induction n with
  | zero => intro y0 y1 y2 Q hk; obtain ⟨r, hr, _⟩ := hk; cases hr
  | succ n ih =>
    intro y0 y1 y2 Q hk
    exact B_X10_depthOf_19 y0 y1 y2 s (fun y => t_lq (b_X10_depthOf_19 s) n Q y) (fun y0' y1' y2' hy => ih y0' y1' y2' Q hy) (t_lp hk)
noncomputable def f_X10_depthOf (x1 : Int32) (s : t_S) : Option (Int32) :=
 if t_ix x1 60 = true then
  t_loop (b_X10_depthOf_19 s) t_N (x1, (s.1 (364 + 1 * (x1.toNatClampNeg)) ((6 : Int32).toNatClampNeg)), (s.1 (364 + 1 * (x1.toNatClampNeg)) ((3 : Int32).toNatClampNeg)))
else none
set_option maxRecDepth 4000 in
set_option maxHeartbeats 1000000 in
theorem C_X10_depthOf (x1 : Int32) (s : t_S) (r : Int32) (hr : f_X10_depthOf x1 s = some r) : t_C yX10_depthOf cX10_depthOf 5 (some .int) 1 [.ref 353, .int x1] s (fun v s' => v = some (.int r) ∧ s' = s) := by
  refine t_C.imp (P := fun v s' => s' = s ∧ ∃ x, v = some (.int x) ∧ (fun q => q = r) (x)) (t_C.of (by decide +kernel) (Nat.le_of_ble_eq_true rfl) ?_) (fun v s' hp => by obtain ⟨rfl, x, rfl, rfl⟩ := hp; exact ⟨rfl, rfl⟩)
  intro D cy ad bs X
  have hk : t_hk (f_X10_depthOf x1 s) (fun q => q = r) := ⟨r, hr, rfl⟩
  show mj_G D cy ad bs X cX10_depthOf 5 yX10_depthOf.cls (some .int) yX10_depthOf.name 1 0 0 1065 (t_P (fun v s' => s' = s ∧ ∃ x, v = some (.int x) ∧ (fun q => q = r) (x))) 0 [(0, .ref 353), (1, .int x1)] [] (t_m s) 1065 0 0
  refine mj_aload_n dX10_depthOf_0 0 rfl ?_
  refine t_getR 363 dX10_depthOf_1 F_X10_43 qr_353_10 ?_
  refine mj_iload_n dX10_depthOf_4 1 rfl ?_
  refine t_chkK hk (fun c0 hk => ?_)
  refine t_aaldI dX10_depthOf_5 qq_363 (t_ixv c0) ?_
  refine mj_bipush (v := 6) dX10_depthOf_6 (by decide) ?_
  refine t_iald dX10_depthOf_8 (t_row364 (t_ixn c0)) (by unfold vp_in; decide) ?_
  refine mj_istore_n 2 (lv2 := [(2, .int (s.1 (364 + 1 * (x1.toNatClampNeg)) ((6 : Int32).toNatClampNeg))), (0, .ref 353), (1, .int x1)]) dX10_depthOf_9 rfl (by decide) rfl ?_
  refine mj_aload_n dX10_depthOf_10 1 rfl ?_
  refine t_getR 363 dX10_depthOf_11 F_X10_43 qr_353_10 ?_
  refine mj_iload_n dX10_depthOf_14 2 rfl ?_
  refine t_aaldI dX10_depthOf_15 qq_363 (t_ixv c0) ?_
  refine mj_iconst (v := 3) dX10_depthOf_16 (by decide) ?_
  refine t_iald dX10_depthOf_17 (t_row364 (t_ixn c0)) (by unfold vp_in; decide) ?_
  refine mj_istore_n 3 (lv2 := [(3, .int (s.1 (364 + 1 * (x1.toNatClampNeg)) ((3 : Int32).toNatClampNeg))), (2, .int (s.1 (364 + 1 * (x1.toNatClampNeg)) ((6 : Int32).toNatClampNeg))), (0, .ref 353), (1, .int x1)]) dX10_depthOf_18 rfl (by decide) rfl ?_
  refine mj_sublv [(0, .ref 353), (1, .int x1), (2, .int (s.1 (364 + 1 * (x1.toNatClampNeg)) ((6 : Int32).toNatClampNeg))), (3, .int (s.1 (364 + 1 * (x1.toNatClampNeg)) ((3 : Int32).toNatClampNeg)))] [2, 3, 1, 0] rfl ?_
  exact LH_X10_depthOf_19 _ _ x1 (s.1 (364 + 1 * (x1.toNatClampNeg)) ((6 : Int32).toNatClampNeg)) (s.1 (364 + 1 * (x1.toNatClampNeg)) ((3 : Int32).toNatClampNeg)) _ hk

theorem dX10_step_0 : decode cX10_step 0 = .ok (.aload_n 0, 1) := by decide +kernel
theorem dX10_step_1 : decode cX10_step 1 = .ok (.getfield 224, 3) := by decide +kernel
theorem dX10_step_12 : decode cX10_step 12 = .ok (.aload_n 0, 1) := by decide +kernel
theorem dX10_step_13 : decode cX10_step 13 = .ok (.getfield 49, 3) := by decide +kernel
theorem dX10_step_16 : decode cX10_step 16 = .ok (.aload_n 0, 1) := by decide +kernel
theorem dX10_step_17 : decode cX10_step 17 = .ok (.getfield 224, 3) := by decide +kernel
theorem dX10_step_20 : decode cX10_step 20 = .ok (.iload_n 1, 1) := by decide +kernel
theorem dX10_step_21 : decode cX10_step 21 = .ok (.iastore, 1) := by decide +kernel
theorem dX10_step_22 : decode cX10_step 22 = .ok (.aload_n 0, 1) := by decide +kernel
theorem dX10_step_23 : decode cX10_step 23 = .ok (.dup, 1) := by decide +kernel
theorem dX10_step_24 : decode cX10_step 24 = .ok (.getfield 224, 3) := by decide +kernel
theorem dX10_step_27 : decode cX10_step 27 = .ok (.iconst 1, 1) := by decide +kernel
theorem dX10_step_28 : decode cX10_step 28 = .ok (.iadd, 1) := by decide +kernel
theorem dX10_step_29 : decode cX10_step 29 = .ok (.putfield 224, 3) := by decide +kernel
theorem dX10_step_32 : decode cX10_step 32 = .ok (.return_, 1) := by decide +kernel
theorem dX10_step_4 : decode cX10_step 4 = .ok (.aload_n 0, 1) := by decide +kernel
theorem dX10_step_5 : decode cX10_step 5 = .ok (.getfield 49, 3) := by decide +kernel
theorem dX10_step_8 : decode cX10_step 8 = .ok (.arraylength, 1) := by decide +kernel
theorem dX10_step_9 : decode cX10_step 9 = .ok (.if_icmp .ge 23, 3) := by decide +kernel
noncomputable def f_X10_step (x1 : Int32) (s : t_S) : Option (t_S) :=
 if (240 : Int32) ≤ (s.1 353 17) then (some (s))
 else (if t_ix (s.1 353 17) 240 = true then
  t_let (t_setI s 425 ((s.1 353 17).toNatClampNeg) x1) (fun s1 =>
 t_let (t_setI s1 353 17 ((s1.1 353 17) + (1 : Int32))) (fun s2 =>
 some (s2)))
else none)
set_option maxRecDepth 4000 in
set_option maxHeartbeats 1000000 in
theorem C_X10_step (x1 : Int32) (s : t_S) (r : t_S) (hr : f_X10_step x1 s = some r) : t_C yX10_step cX10_step 2 none 0 [.ref 353, .int x1] s (fun v s' => v = none ∧ s' = r) := by
  refine t_C.imp (P := fun v s' => v = none ∧ (fun q => q = r) (s')) (t_C.of (by decide +kernel) (Nat.le_of_ble_eq_true rfl) ?_) (fun v s' hp => hp)
  intro D cy ad bs X
  have hk : t_hk (f_X10_step x1 s) (fun q => q = r) := ⟨r, hr, rfl⟩
  show mj_G D cy ad bs X cX10_step 2 yX10_step.cls none yX10_step.name 0 0 0 1065 (t_P (fun v s' => v = none ∧ (fun q => q = r) (s'))) 0 [(0, .ref 353), (1, .int x1)] [] (t_m s) 1065 0 0
  refine mj_aload_n dX10_step_0 0 rfl ?_
  refine t_getI dX10_step_1 F_X10_224 qf_353_17 ?_
  refine mj_aload_n dX10_step_4 0 rfl ?_
  refine t_getR 425 dX10_step_5 F_X10_49 qr_353_16 ?_
  refine t_alen1 (v := 240) dX10_step_8 qa_425 (by decide) ?_
  refine mj_icmp_ge 32 dX10_step_9 (by decide) (fun z => t_posK hk z (fun hk => ?_)) (fun z => t_negK hk z (fun hk => ?_))
  · exact t_somK hk (fun hf => t_vret dX10_step_32 rfl ⟨rfl, hf⟩ (Nat.le_of_ble_eq_true rfl) (Nat.le_of_ble_eq_true rfl))
  · refine mj_aload_n dX10_step_12 0 rfl ?_
    refine t_getR 425 dX10_step_13 F_X10_49 qr_353_16 ?_
    refine mj_aload_n dX10_step_16 0 rfl ?_
    refine t_getI dX10_step_17 F_X10_224 qf_353_17 ?_
    refine mj_iload_n dX10_step_20 1 rfl ?_
    refine t_chkK hk (fun c0 hk => ?_)
    refine t_iastK dX10_step_21 qa_425 (t_ixv c0) (fun s1 ws1 => t_letE hk ws1 (fun hk => ?_))
    refine mj_aload_n dX10_step_22 0 rfl ?_
    refine mj_dup dX10_step_23 rfl ?_
    refine t_getI dX10_step_24 F_X10_224 qf_353_17 ?_
    refine mj_iconst (v := 1) dX10_step_27 (by decide) ?_
    refine mj_iadd dX10_step_28 ?_
    refine t_putIK dX10_step_29 F_X10_224 qf_353_17 rfl (fun s2 ws2 => t_letE hk ws2 (fun hk => ?_))
    exact t_somK hk (fun hf => t_vret dX10_step_32 rfl ⟨rfl, hf⟩ (Nat.le_of_ble_eq_true rfl) (Nat.le_of_ble_eq_true rfl))

