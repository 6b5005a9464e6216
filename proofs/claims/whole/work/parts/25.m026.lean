/-! Methods as functions, 26: X6_pushWaiting, X6_pushOperator, X2_take, X3_add, X5_placeOf, X6_home, X6_emitWord, X6_link, X2_signOfText, X6_poolText, X6_isOpen, X6_takeFieldName, X6_beginsTempl -/
theorem qa_440 : t_oka 440 1 40 = true := by decide +kernel
theorem qa_855 : t_oka 855 1 288 = true := by decide +kernel
theorem qf_845_12 : t_okf 845 6 12 0 = true := by decide +kernel
theorem qf_845_13 : t_okf 845 6 13 0 = true := by decide +kernel
theorem qf_845_16 : t_okf 845 6 16 0 = true := by decide +kernel
theorem qf_845_9 : t_okf 845 6 9 0 = true := by decide +kernel
theorem qr_428_13 : t_okr 428 5 13 440 = true := by decide +kernel
theorem qr_428_15 : t_okr 428 5 15 442 = true := by decide +kernel
theorem qr_845_4 : t_okr 845 6 4 428 = true := by decide +kernel
theorem qr_845_8 : t_okr 845 6 8 855 = true := by decide +kernel
theorem dX6_pushWaiting_0 : decode cX6_pushWaiting 0 = .ok (.aload_n 0, 1) := by decide +kernel
theorem dX6_pushWaiting_1 : decode cX6_pushWaiting 1 = .ok (.getfield 128, 3) := by decide +kernel
theorem dX6_pushWaiting_10 : decode cX6_pushWaiting 10 = .ok (.return_, 1) := by decide +kernel
theorem dX6_pushWaiting_11 : decode cX6_pushWaiting 11 = .ok (.aload_n 0, 1) := by decide +kernel
theorem dX6_pushWaiting_12 : decode cX6_pushWaiting 12 = .ok (.getfield 11, 3) := by decide +kernel
theorem dX6_pushWaiting_15 : decode cX6_pushWaiting 15 = .ok (.iconst 2, 1) := by decide +kernel
theorem dX6_pushWaiting_16 : decode cX6_pushWaiting 16 = .ok (.aload_n 0, 1) := by decide +kernel
theorem dX6_pushWaiting_17 : decode cX6_pushWaiting 17 = .ok (.getfield 128, 3) := by decide +kernel
theorem dX6_pushWaiting_20 : decode cX6_pushWaiting 20 = .ok (.imul, 1) := by decide +kernel
theorem dX6_pushWaiting_21 : decode cX6_pushWaiting 21 = .ok (.iload_n 1, 1) := by decide +kernel
theorem dX6_pushWaiting_22 : decode cX6_pushWaiting 22 = .ok (.iastore, 1) := by decide +kernel
theorem dX6_pushWaiting_23 : decode cX6_pushWaiting 23 = .ok (.aload_n 0, 1) := by decide +kernel
theorem dX6_pushWaiting_24 : decode cX6_pushWaiting 24 = .ok (.getfield 11, 3) := by decide +kernel
theorem dX6_pushWaiting_27 : decode cX6_pushWaiting 27 = .ok (.iconst 2, 1) := by decide +kernel
theorem dX6_pushWaiting_28 : decode cX6_pushWaiting 28 = .ok (.aload_n 0, 1) := by decide +kernel
theorem dX6_pushWaiting_29 : decode cX6_pushWaiting 29 = .ok (.getfield 128, 3) := by decide +kernel
theorem dX6_pushWaiting_32 : decode cX6_pushWaiting 32 = .ok (.imul, 1) := by decide +kernel
theorem dX6_pushWaiting_33 : decode cX6_pushWaiting 33 = .ok (.iconst 1, 1) := by decide +kernel
theorem dX6_pushWaiting_34 : decode cX6_pushWaiting 34 = .ok (.iadd, 1) := by decide +kernel
theorem dX6_pushWaiting_35 : decode cX6_pushWaiting 35 = .ok (.iload_n 2, 1) := by decide +kernel
theorem dX6_pushWaiting_36 : decode cX6_pushWaiting 36 = .ok (.iastore, 1) := by decide +kernel
theorem dX6_pushWaiting_37 : decode cX6_pushWaiting 37 = .ok (.aload_n 0, 1) := by decide +kernel
theorem dX6_pushWaiting_38 : decode cX6_pushWaiting 38 = .ok (.dup, 1) := by decide +kernel
theorem dX6_pushWaiting_39 : decode cX6_pushWaiting 39 = .ok (.getfield 128, 3) := by decide +kernel
theorem dX6_pushWaiting_4 : decode cX6_pushWaiting 4 = .ok (.sipush 3000, 3) := by decide +kernel
theorem dX6_pushWaiting_42 : decode cX6_pushWaiting 42 = .ok (.iconst 1, 1) := by decide +kernel
theorem dX6_pushWaiting_43 : decode cX6_pushWaiting 43 = .ok (.iadd, 1) := by decide +kernel
theorem dX6_pushWaiting_44 : decode cX6_pushWaiting 44 = .ok (.putfield 128, 3) := by decide +kernel
theorem dX6_pushWaiting_47 : decode cX6_pushWaiting 47 = .ok (.return_, 1) := by decide +kernel
theorem dX6_pushWaiting_7 : decode cX6_pushWaiting 7 = .ok (.if_icmp .le 4, 3) := by decide +kernel
noncomputable def f_X6_pushWaiting (x1 : Int32) (x2 : Int32) (s : t_S) : Option (t_S) :=
 if (s.1 845 7) ≤ (3000 : Int32) then (if t_ix ((2 : Int32) * (s.1 845 7)) 6004 = true then
  t_let (t_setI s 854 (((2 : Int32) * (s.1 845 7)).toNatClampNeg) x1) (fun s1 =>
 if t_ix (((2 : Int32) * (s1.1 845 7)) + (1 : Int32)) 6004 = true then
  t_let (t_setI s1 854 ((((2 : Int32) * (s1.1 845 7)) + (1 : Int32)).toNatClampNeg) x2) (fun s2 =>
 t_let (t_setI s2 845 7 ((s2.1 845 7) + (1 : Int32))) (fun s3 =>
 some (s3)))
else none)
else none)
 else (some (s))
set_option maxRecDepth 4000 in
set_option maxHeartbeats 1000000 in
theorem C_X6_pushWaiting (x1 : Int32) (x2 : Int32) (s : t_S) (r : t_S) (hr : f_X6_pushWaiting x1 x2 s = some r) : t_C yX6_pushWaiting cX6_pushWaiting 3 none 0 [.ref 845, .int x1, .int x2] s (fun v s' => v = none ∧ s' = r) := by
  refine t_C.imp (P := fun v s' => v = none ∧ (fun q => q = r) (s')) (t_C.of (by decide +kernel) (Nat.le_of_ble_eq_true rfl) ?_) (fun v s' hp => hp)
  intro D cy ad bs X
  have hk : t_hk (f_X6_pushWaiting x1 x2 s) (fun q => q = r) := ⟨r, hr, rfl⟩
  show mj_G D cy ad bs X cX6_pushWaiting 3 yX6_pushWaiting.cls none yX6_pushWaiting.name 0 0 0 1065 (t_P (fun v s' => v = none ∧ (fun q => q = r) (s'))) 0 [(0, .ref 845), (1, .int x1), (2, .int x2)] [] (t_m s) 1065 0 0
  refine mj_aload_n dX6_pushWaiting_0 0 rfl ?_
  refine t_getI dX6_pushWaiting_1 F_X6_128 qf_845_7 ?_
  refine mj_sipush (v := 3000) dX6_pushWaiting_4 (by decide) ?_
  refine mj_icmp_le 11 dX6_pushWaiting_7 (by decide) (fun z => t_posK hk z (fun hk => ?_)) (fun z => t_negK hk z (fun hk => ?_))
  · refine mj_aload_n dX6_pushWaiting_11 0 rfl ?_
    refine t_getR 854 dX6_pushWaiting_12 F_X6_11 qr_845_6 ?_
    refine mj_iconst (v := 2) dX6_pushWaiting_15 (by decide) ?_
    refine mj_aload_n dX6_pushWaiting_16 0 rfl ?_
    refine t_getI dX6_pushWaiting_17 F_X6_128 qf_845_7 ?_
    refine mj_imul dX6_pushWaiting_20 ?_
    refine mj_iload_n dX6_pushWaiting_21 1 rfl ?_
    refine t_chkK hk (fun c0 hk => ?_)
    refine t_iastK dX6_pushWaiting_22 qa_854 (t_ixv c0) (fun s1 ws1 => t_letE hk ws1 (fun hk => ?_))
    refine mj_aload_n dX6_pushWaiting_23 0 rfl ?_
    refine t_getR 854 dX6_pushWaiting_24 F_X6_11 qr_845_6 ?_
    refine mj_iconst (v := 2) dX6_pushWaiting_27 (by decide) ?_
    refine mj_aload_n dX6_pushWaiting_28 0 rfl ?_
    refine t_getI dX6_pushWaiting_29 F_X6_128 qf_845_7 ?_
    refine mj_imul dX6_pushWaiting_32 ?_
    refine mj_iconst (v := 1) dX6_pushWaiting_33 (by decide) ?_
    refine mj_iadd dX6_pushWaiting_34 ?_
    refine mj_iload_n dX6_pushWaiting_35 2 rfl ?_
    refine t_chkK hk (fun c1 hk => ?_)
    refine t_iastK dX6_pushWaiting_36 qa_854 (t_ixv c1) (fun s2 ws2 => t_letE hk ws2 (fun hk => ?_))
    refine mj_aload_n dX6_pushWaiting_37 0 rfl ?_
    refine mj_dup dX6_pushWaiting_38 rfl ?_
    refine t_getI dX6_pushWaiting_39 F_X6_128 qf_845_7 ?_
    refine mj_iconst (v := 1) dX6_pushWaiting_42 (by decide) ?_
    refine mj_iadd dX6_pushWaiting_43 ?_
    refine t_putIK dX6_pushWaiting_44 F_X6_128 qf_845_7 rfl (fun s3 ws3 => t_letE hk ws3 (fun hk => ?_))
    exact t_somK hk (fun hf => t_vret dX6_pushWaiting_47 rfl ⟨rfl, hf⟩ (Nat.le_of_ble_eq_true rfl) (Nat.le_of_ble_eq_true rfl))
  · exact t_somK hk (fun hf => t_vret dX6_pushWaiting_10 rfl ⟨rfl, hf⟩ (Nat.le_of_ble_eq_true rfl) (Nat.le_of_ble_eq_true rfl))

theorem dX6_pushOperator_0 : decode cX6_pushOperator 0 = .ok (.iconst 0, 1) := by decide +kernel
theorem dX6_pushOperator_1 : decode cX6_pushOperator 1 = .ok (.istore_n 2, 1) := by decide +kernel
theorem dX6_pushOperator_12 : decode cX6_pushOperator 12 = .ok (.bipush 28, 2) := by decide +kernel
theorem dX6_pushOperator_14 : decode cX6_pushOperator 14 = .ok (.iconst 0, 1) := by decide +kernel
theorem dX6_pushOperator_15 : decode cX6_pushOperator 15 = .ok (.invokevirtual 202, 3) := by decide +kernel
theorem dX6_pushOperator_18 : decode cX6_pushOperator 18 = .ok (.istore_n 2, 1) := by decide +kernel
theorem dX6_pushOperator_19 : decode cX6_pushOperator 19 = .ok (.iload_n 1, 1) := by decide +kernel
theorem dX6_pushOperator_2 : decode cX6_pushOperator 2 = .ok (.iload_n 1, 1) := by decide +kernel
theorem dX6_pushOperator_20 : decode cX6_pushOperator 20 = .ok (.bipush 17, 2) := by decide +kernel
theorem dX6_pushOperator_22 : decode cX6_pushOperator 22 = .ok (.if_icmp .ne 14, 3) := by decide +kernel
theorem dX6_pushOperator_25 : decode cX6_pushOperator 25 = .ok (.aload_n 0, 1) := by decide +kernel
theorem dX6_pushOperator_26 : decode cX6_pushOperator 26 = .ok (.getfield 43, 3) := by decide +kernel
theorem dX6_pushOperator_29 : decode cX6_pushOperator 29 = .ok (.bipush 29, 2) := by decide +kernel
theorem dX6_pushOperator_3 : decode cX6_pushOperator 3 = .ok (.bipush 16, 2) := by decide +kernel
theorem dX6_pushOperator_31 : decode cX6_pushOperator 31 = .ok (.iconst 0, 1) := by decide +kernel
theorem dX6_pushOperator_32 : decode cX6_pushOperator 32 = .ok (.invokevirtual 202, 3) := by decide +kernel
theorem dX6_pushOperator_35 : decode cX6_pushOperator 35 = .ok (.istore_n 2, 1) := by decide +kernel
theorem dX6_pushOperator_36 : decode cX6_pushOperator 36 = .ok (.aload_n 0, 1) := by decide +kernel
theorem dX6_pushOperator_37 : decode cX6_pushOperator 37 = .ok (.iload_n 1, 1) := by decide +kernel
theorem dX6_pushOperator_38 : decode cX6_pushOperator 38 = .ok (.iload_n 2, 1) := by decide +kernel
theorem dX6_pushOperator_39 : decode cX6_pushOperator 39 = .ok (.invokevirtual 476, 3) := by decide +kernel
theorem dX6_pushOperator_42 : decode cX6_pushOperator 42 = .ok (.return_, 1) := by decide +kernel
theorem dX6_pushOperator_5 : decode cX6_pushOperator 5 = .ok (.if_icmp .ne 14, 3) := by decide +kernel
theorem dX6_pushOperator_8 : decode cX6_pushOperator 8 = .ok (.aload_n 0, 1) := by decide +kernel
theorem dX6_pushOperator_9 : decode cX6_pushOperator 9 = .ok (.getfield 43, 3) := by decide +kernel
noncomputable def k_X6_pushOperator_36 (l1 : Int32) (l2 : Int32) (s : t_S) : Option (t_S) :=
 (f_X6_pushWaiting l1 l2 s).bind (fun r1 =>
 some (r1))
set_option maxRecDepth 4000 in
set_option maxHeartbeats 1000000 in
theorem B_X6_pushOperator_36 {D : va_G} {cy : Nat → ClassId} {ad : Nat → Nat} {bs : Nat} {X : State → Heap → Prop} (l1 : Int32) (l2 : Int32) (s : t_S) (Q : t_S → Prop) (hk : t_hk (k_X6_pushOperator_36 l1 l2 s) Q) : mj_G D cy ad bs X cX6_pushOperator 3 yX6_pushOperator.cls none yX6_pushOperator.name 1 0 0 1065 (t_P (fun v s' => v = none ∧ Q (s'))) 36 [(0, .ref 845), (1, .int l1), (2, .int l2)] [] (t_m s) 1065 0 0 := by
  refine mj_aload_n dX6_pushOperator_36 0 rfl ?_
  refine mj_iload_n dX6_pushOperator_37 1 rfl ?_
  refine mj_iload_n dX6_pushOperator_38 2 rfl ?_
  refine t_bndK hk (fun r1 er1 hk => ?_)
  refine t_callVvE dX6_pushOperator_39 M_X6_pushWaiting (C_X6_pushWaiting _ _ _ _ er1) ML_X6_476 IM_X6_pushWaiting SE_X6_pushWaiting qc_845 rfl (As := [.int l1, .int l2]) rfl rfl (Nat.le_of_ble_eq_true rfl) (Nat.le_of_ble_eq_true rfl) (Nat.le_of_ble_eq_true rfl) (Nat.le_of_ble_eq_true rfl) ?_
  exact t_somK hk (fun hf => t_vret dX6_pushOperator_42 rfl ⟨rfl, hf⟩ (Nat.le_of_ble_eq_true rfl) (Nat.le_of_ble_eq_true rfl))
noncomputable def k_X6_pushOperator_19 (l1 : Int32) (l2 : Int32) (s : t_S) : Option (t_S) :=
 if l1 = (17 : Int32) then ((f_X0_emit (29 : Int32) (0 : Int32) s).bind (fun r1 =>
 k_X6_pushOperator_36 l1 r1.1 r1.2))
 else (k_X6_pushOperator_36 l1 l2 s)
set_option maxRecDepth 4000 in
set_option maxHeartbeats 1000000 in
theorem B_X6_pushOperator_19 {D : va_G} {cy : Nat → ClassId} {ad : Nat → Nat} {bs : Nat} {X : State → Heap → Prop} (l1 : Int32) (l2 : Int32) (s : t_S) (Q : t_S → Prop) (hk : t_hk (k_X6_pushOperator_19 l1 l2 s) Q) : mj_G D cy ad bs X cX6_pushOperator 3 yX6_pushOperator.cls none yX6_pushOperator.name 1 0 0 1065 (t_P (fun v s' => v = none ∧ Q (s'))) 19 [(0, .ref 845), (1, .int l1), (2, .int l2)] [] (t_m s) 1065 0 0 := by
  refine mj_iload_n dX6_pushOperator_19 1 rfl ?_
  refine mj_bipush (v := 17) dX6_pushOperator_20 (by decide) ?_
  refine mj_icmp_ne 36 dX6_pushOperator_22 (by decide) (fun z => t_negK hk z (fun hk => ?_)) (fun z => t_posK hk z (fun hk => ?_))
  · exact B_X6_pushOperator_36 _ _ _ _ hk
  · refine mj_aload_n dX6_pushOperator_25 0 rfl ?_
    refine t_getR 334 dX6_pushOperator_26 F_X6_43 qr_845_3 ?_
    refine mj_bipush (v := 29) dX6_pushOperator_29 (by decide) ?_
    refine mj_iconst (v := 0) dX6_pushOperator_31 (by decide) ?_
    refine t_bndK hk (fun r1 er1 hk => ?_)
    refine t_callViE dX6_pushOperator_32 M_X0_emit (C_X0_emit _ _ _ _ er1) ML_X6_202 IM_X0_emit SE_X0_emit qc_334 rfl (As := [.int 29, .int 0]) rfl rfl (Nat.le_of_ble_eq_true rfl) (Nat.le_of_ble_eq_true rfl) (Nat.le_of_ble_eq_true rfl) (Nat.le_of_ble_eq_true rfl) ?_
    refine mj_istore_n 2 (lv2 := [(2, .int r1.1), (0, .ref 845), (1, .int l1)]) dX6_pushOperator_35 rfl (by decide) rfl ?_
    refine mj_sublv [(0, .ref 845), (1, .int l1), (2, .int r1.1)] [1, 2, 0] rfl ?_
    exact B_X6_pushOperator_36 _ _ _ _ hk
noncomputable def f_X6_pushOperator (x1 : Int32) (s : t_S) : Option (t_S) :=
 if x1 = (16 : Int32) then ((f_X0_emit (28 : Int32) (0 : Int32) s).bind (fun r1 =>
 k_X6_pushOperator_19 x1 r1.1 r1.2))
 else (k_X6_pushOperator_19 x1 0 s)
set_option maxRecDepth 4000 in
set_option maxHeartbeats 1000000 in
theorem C_X6_pushOperator (x1 : Int32) (s : t_S) (r : t_S) (hr : f_X6_pushOperator x1 s = some r) : t_C yX6_pushOperator cX6_pushOperator 3 none 1 [.ref 845, .int x1] s (fun v s' => v = none ∧ s' = r) := by
  refine t_C.imp (P := fun v s' => v = none ∧ (fun q => q = r) (s')) (t_C.of (by decide +kernel) (Nat.le_of_ble_eq_true rfl) ?_) (fun v s' hp => hp)
  intro D cy ad bs X
  have hk : t_hk (f_X6_pushOperator x1 s) (fun q => q = r) := ⟨r, hr, rfl⟩
  show mj_G D cy ad bs X cX6_pushOperator 3 yX6_pushOperator.cls none yX6_pushOperator.name 1 0 0 1065 (t_P (fun v s' => v = none ∧ (fun q => q = r) (s'))) 0 [(0, .ref 845), (1, .int x1)] [] (t_m s) 1065 0 0
  refine mj_iconst (v := 0) dX6_pushOperator_0 (by decide) ?_
  refine mj_istore_n 2 (lv2 := [(2, .int 0), (0, .ref 845), (1, .int x1)]) dX6_pushOperator_1 rfl (by decide) rfl ?_
  refine mj_iload_n dX6_pushOperator_2 2 rfl ?_
  refine mj_bipush (v := 16) dX6_pushOperator_3 (by decide) ?_
  refine mj_icmp_ne 19 dX6_pushOperator_5 (by decide) (fun z => t_negK hk z (fun hk => ?_)) (fun z => t_posK hk z (fun hk => ?_))
  · refine mj_sublv [(0, .ref 845), (1, .int x1), (2, .int 0)] [1, 2, 0] rfl ?_
    exact B_X6_pushOperator_19 _ _ _ _ hk
  · refine mj_aload_n dX6_pushOperator_8 1 rfl ?_
    refine t_getR 334 dX6_pushOperator_9 F_X6_43 qr_845_3 ?_
    refine mj_bipush (v := 28) dX6_pushOperator_12 (by decide) ?_
    refine mj_iconst (v := 0) dX6_pushOperator_14 (by decide) ?_
    refine t_bndK hk (fun r1 er1 hk => ?_)
    refine t_callViE dX6_pushOperator_15 M_X0_emit (C_X0_emit _ _ _ _ er1) ML_X6_202 IM_X0_emit SE_X0_emit qc_334 rfl (As := [.int 28, .int 0]) rfl rfl (Nat.le_of_ble_eq_true rfl) (Nat.le_of_ble_eq_true rfl) (Nat.le_of_ble_eq_true rfl) (Nat.le_of_ble_eq_true rfl) ?_
    refine mj_istore_n 2 (lv2 := [(2, .int r1.1), (0, .ref 845), (1, .int x1)]) dX6_pushOperator_18 rfl (by decide) rfl ?_
    refine mj_sublv [(0, .ref 845), (1, .int x1), (2, .int r1.1)] [1, 2, 0] rfl ?_
    exact B_X6_pushOperator_19 _ _ _ _ hk

theorem dX2_take_0 : decode cX2_take 0 = .ok (.aload_n 0, 1) := by decide +kernel
theorem dX2_take_1 : decode cX2_take 1 = .ok (.getfield 74, 3) := by decide +kernel
theorem dX2_take_10 : decode cX2_take 10 = .ok (.aload_n 0, 1) := by decide +kernel
theorem dX2_take_11 : decode cX2_take 11 = .ok (.invokevirtual 80, 3) := by decide +kernel
theorem dX2_take_14 : decode cX2_take 14 = .ok (.iconst 1, 1) := by decide +kernel
theorem dX2_take_15 : decode cX2_take 15 = .ok (.ireturn, 1) := by decide +kernel
theorem dX2_take_4 : decode cX2_take 4 = .ok (.iload_n 1, 1) := by decide +kernel
theorem dX2_take_5 : decode cX2_take 5 = .ok (.if_icmp .eq 5, 3) := by decide +kernel
theorem dX2_take_8 : decode cX2_take 8 = .ok (.iconst 0, 1) := by decide +kernel
theorem dX2_take_9 : decode cX2_take 9 = .ok (.ireturn, 1) := by decide +kernel
noncomputable def f_X2_take (x1 : Int32) (s : t_S) : Option (Int32 × t_S) :=
 if (s.1 1 8) = x1 then ((f_X2_advance s).bind (fun r1 =>
 some ((1 : Int32), r1)))
 else (some ((0 : Int32), s))
set_option maxRecDepth 4000 in
set_option maxHeartbeats 1000000 in
theorem C_X2_take (x1 : Int32) (s : t_S) (r : Int32 × t_S) (hr : f_X2_take x1 s = some r) : t_C yX2_take cX2_take 2 (some .boolean) 1 [.ref 1, .int x1] s (fun v s' => v = some (.int r.1) ∧ s' = r.2) := by
  refine t_C.imp (P := fun v s' => ∃ x, v = some (.int x) ∧ (fun q => q = r) ((x, s'))) (t_C.of (by decide +kernel) (Nat.le_of_ble_eq_true rfl) ?_) (fun v s' hp => by obtain ⟨x, rfl, rfl⟩ := hp; exact ⟨rfl, rfl⟩)
  intro D cy ad bs X
  have hk : t_hk (f_X2_take x1 s) (fun q => q = r) := ⟨r, hr, rfl⟩
  show mj_G D cy ad bs X cX2_take 2 yX2_take.cls (some .boolean) yX2_take.name 1 0 0 1065 (t_P (fun v s' => ∃ x, v = some (.int x) ∧ (fun q => q = r) ((x, s')))) 0 [(0, .ref 1), (1, .int x1)] [] (t_m s) 1065 0 0
  refine mj_aload_n dX2_take_0 0 rfl ?_
  refine t_getI dX2_take_1 F_X2_74 qf_1_8 ?_
  refine mj_iload_n dX2_take_4 1 rfl ?_
  refine mj_icmp_eq 10 dX2_take_5 (by decide) (fun z => t_posK hk z (fun hk => ?_)) (fun z => t_negK hk z (fun hk => ?_))
  · refine mj_aload_n dX2_take_10 0 rfl ?_
    refine t_bndK hk (fun r1 er1 hk => ?_)
    refine t_callVvE dX2_take_11 M_X2_advance (C_X2_advance _ _ er1) ML_X2_80 IM_X2_advance SE_X2_advance qc_1 rfl (As := []) rfl rfl (Nat.le_of_ble_eq_true rfl) (Nat.le_of_ble_eq_true rfl) (Nat.le_of_ble_eq_true rfl) (Nat.le_of_ble_eq_true rfl) ?_
    refine mj_iconst (v := 1) dX2_take_14 (by decide) ?_
    exact t_somK hk (fun hf => t_iret dX2_take_15 rfl (by decide) ⟨_, rfl, hf⟩ (Nat.le_of_ble_eq_true rfl) (Nat.le_of_ble_eq_true rfl))
  · refine mj_iconst (v := 0) dX2_take_8 (by decide) ?_
    exact t_somK hk (fun hf => t_iret dX2_take_9 rfl (by decide) ⟨_, rfl, hf⟩ (Nat.le_of_ble_eq_true rfl) (Nat.le_of_ble_eq_true rfl))

theorem dX3_add_0 : decode cX3_add 0 = .ok (.aload_n 0, 1) := by decide +kernel
theorem dX3_add_1 : decode cX3_add 1 = .ok (.getfield 34, 3) := by decide +kernel
theorem dX3_add_10 : decode cX3_add 10 = .ok (.return_, 1) := by decide +kernel
theorem dX3_add_11 : decode cX3_add 11 = .ok (.aload_n 0, 1) := by decide +kernel
theorem dX3_add_12 : decode cX3_add 12 = .ok (.getfield 11, 3) := by decide +kernel
theorem dX3_add_15 : decode cX3_add 15 = .ok (.iconst 0, 1) := by decide +kernel
theorem dX3_add_16 : decode cX3_add 16 = .ok (.aaload, 1) := by decide +kernel
theorem dX3_add_17 : decode cX3_add 17 = .ok (.aload_n 0, 1) := by decide +kernel
theorem dX3_add_18 : decode cX3_add 18 = .ok (.getfield 34, 3) := by decide +kernel
theorem dX3_add_21 : decode cX3_add 21 = .ok (.iload_n 2, 1) := by decide +kernel
theorem dX3_add_22 : decode cX3_add 22 = .ok (.iastore, 1) := by decide +kernel
theorem dX3_add_23 : decode cX3_add 23 = .ok (.aload_n 0, 1) := by decide +kernel
theorem dX3_add_24 : decode cX3_add 24 = .ok (.getfield 11, 3) := by decide +kernel
theorem dX3_add_27 : decode cX3_add 27 = .ok (.iconst 1, 1) := by decide +kernel
theorem dX3_add_28 : decode cX3_add 28 = .ok (.aaload, 1) := by decide +kernel
theorem dX3_add_29 : decode cX3_add 29 = .ok (.aload_n 0, 1) := by decide +kernel
theorem dX3_add_30 : decode cX3_add 30 = .ok (.getfield 34, 3) := by decide +kernel
theorem dX3_add_33 : decode cX3_add 33 = .ok (.iload_n 1, 1) := by decide +kernel
theorem dX3_add_34 : decode cX3_add 34 = .ok (.iastore, 1) := by decide +kernel
theorem dX3_add_35 : decode cX3_add 35 = .ok (.aload_n 0, 1) := by decide +kernel
theorem dX3_add_36 : decode cX3_add 36 = .ok (.getfield 11, 3) := by decide +kernel
theorem dX3_add_39 : decode cX3_add 39 = .ok (.iconst 2, 1) := by decide +kernel
theorem dX3_add_4 : decode cX3_add 4 = .ok (.sipush 6002, 3) := by decide +kernel
theorem dX3_add_40 : decode cX3_add 40 = .ok (.aaload, 1) := by decide +kernel
theorem dX3_add_41 : decode cX3_add 41 = .ok (.aload_n 0, 1) := by decide +kernel
theorem dX3_add_42 : decode cX3_add 42 = .ok (.getfield 34, 3) := by decide +kernel
theorem dX3_add_45 : decode cX3_add 45 = .ok (.iload_n 3, 1) := by decide +kernel
theorem dX3_add_46 : decode cX3_add 46 = .ok (.iastore, 1) := by decide +kernel
theorem dX3_add_47 : decode cX3_add 47 = .ok (.aload_n 0, 1) := by decide +kernel
theorem dX3_add_48 : decode cX3_add 48 = .ok (.getfield 11, 3) := by decide +kernel
theorem dX3_add_51 : decode cX3_add 51 = .ok (.iconst 3, 1) := by decide +kernel
theorem dX3_add_52 : decode cX3_add 52 = .ok (.aaload, 1) := by decide +kernel
theorem dX3_add_53 : decode cX3_add 53 = .ok (.aload_n 0, 1) := by decide +kernel
theorem dX3_add_54 : decode cX3_add 54 = .ok (.getfield 34, 3) := by decide +kernel
theorem dX3_add_57 : decode cX3_add 57 = .ok (.iload 4, 2) := by decide +kernel
theorem dX3_add_59 : decode cX3_add 59 = .ok (.iastore, 1) := by decide +kernel
theorem dX3_add_60 : decode cX3_add 60 = .ok (.aload_n 0, 1) := by decide +kernel
theorem dX3_add_61 : decode cX3_add 61 = .ok (.getfield 11, 3) := by decide +kernel
theorem dX3_add_64 : decode cX3_add 64 = .ok (.iconst 4, 1) := by decide +kernel
theorem dX3_add_65 : decode cX3_add 65 = .ok (.aaload, 1) := by decide +kernel
theorem dX3_add_66 : decode cX3_add 66 = .ok (.aload_n 0, 1) := by decide +kernel
theorem dX3_add_67 : decode cX3_add 67 = .ok (.getfield 34, 3) := by decide +kernel
theorem dX3_add_7 : decode cX3_add 7 = .ok (.if_icmp .lt 4, 3) := by decide +kernel
theorem dX3_add_70 : decode cX3_add 70 = .ok (.iload 5, 2) := by decide +kernel
theorem dX3_add_72 : decode cX3_add 72 = .ok (.iastore, 1) := by decide +kernel
theorem dX3_add_73 : decode cX3_add 73 = .ok (.aload_n 0, 1) := by decide +kernel
theorem dX3_add_74 : decode cX3_add 74 = .ok (.getfield 11, 3) := by decide +kernel
theorem dX3_add_77 : decode cX3_add 77 = .ok (.iconst 5, 1) := by decide +kernel
theorem dX3_add_78 : decode cX3_add 78 = .ok (.aaload, 1) := by decide +kernel
theorem dX3_add_79 : decode cX3_add 79 = .ok (.aload_n 0, 1) := by decide +kernel
theorem dX3_add_80 : decode cX3_add 80 = .ok (.getfield 34, 3) := by decide +kernel
theorem dX3_add_83 : decode cX3_add 83 = .ok (.iload 6, 2) := by decide +kernel
theorem dX3_add_85 : decode cX3_add 85 = .ok (.iastore, 1) := by decide +kernel
theorem dX3_add_86 : decode cX3_add 86 = .ok (.aload_n 0, 1) := by decide +kernel
theorem dX3_add_87 : decode cX3_add 87 = .ok (.dup, 1) := by decide +kernel
theorem dX3_add_88 : decode cX3_add 88 = .ok (.getfield 34, 3) := by decide +kernel
theorem dX3_add_91 : decode cX3_add 91 = .ok (.iconst 1, 1) := by decide +kernel
theorem dX3_add_92 : decode cX3_add 92 = .ok (.iadd, 1) := by decide +kernel
theorem dX3_add_93 : decode cX3_add 93 = .ok (.putfield 34, 3) := by decide +kernel
theorem dX3_add_96 : decode cX3_add 96 = .ok (.return_, 1) := by decide +kernel
noncomputable def f_X3_add (x1 : Int32) (x2 : Int32) (x3 : Int32) (x4 : Int32) (x5 : Int32) (x6 : Int32) (s : t_S) : Option (t_S) :=
 if (s.1 846 6) < (6002 : Int32) then (if t_ix (s.1 846 6) 6002 = true then
  t_let (t_setI s (848 + 1 * ((0 : Int32).toNatClampNeg)) ((s.1 846 6).toNatClampNeg) x2) (fun s1 =>
 if t_ix (s1.1 846 6) 6002 = true then
  t_let (t_setI s1 (848 + 1 * ((1 : Int32).toNatClampNeg)) ((s1.1 846 6).toNatClampNeg) x1) (fun s2 =>
 if t_ix (s2.1 846 6) 6002 = true then
  t_let (t_setI s2 (848 + 1 * ((2 : Int32).toNatClampNeg)) ((s2.1 846 6).toNatClampNeg) x3) (fun s3 =>
 if t_ix (s3.1 846 6) 6002 = true then
  t_let (t_setI s3 (848 + 1 * ((3 : Int32).toNatClampNeg)) ((s3.1 846 6).toNatClampNeg) x4) (fun s4 =>
 if t_ix (s4.1 846 6) 6002 = true then
  t_let (t_setI s4 (848 + 1 * ((4 : Int32).toNatClampNeg)) ((s4.1 846 6).toNatClampNeg) x5) (fun s5 =>
 if t_ix (s5.1 846 6) 6002 = true then
  t_let (t_setI s5 (848 + 1 * ((5 : Int32).toNatClampNeg)) ((s5.1 846 6).toNatClampNeg) x6) (fun s6 =>
 t_let (t_setI s6 846 6 ((s6.1 846 6) + (1 : Int32))) (fun s7 =>
 some (s7)))
else none)
else none)
else none)
else none)
else none)
else none)
 else (some (s))
set_option maxRecDepth 4000 in
set_option maxHeartbeats 1000000 in
theorem C_X3_add (x1 : Int32) (x2 : Int32) (x3 : Int32) (x4 : Int32) (x5 : Int32) (x6 : Int32) (s : t_S) (r : t_S) (hr : f_X3_add x1 x2 x3 x4 x5 x6 s = some r) : t_C yX3_add cX3_add 7 none 0 [.ref 846, .int x1, .int x2, .int x3, .int x4, .int x5, .int x6] s (fun v s' => v = none ∧ s' = r) := by
  refine t_C.imp (P := fun v s' => v = none ∧ (fun q => q = r) (s')) (t_C.of (by decide +kernel) (Nat.le_of_ble_eq_true rfl) ?_) (fun v s' hp => hp)
  intro D cy ad bs X
  have hk : t_hk (f_X3_add x1 x2 x3 x4 x5 x6 s) (fun q => q = r) := ⟨r, hr, rfl⟩
  show mj_G D cy ad bs X cX3_add 7 yX3_add.cls none yX3_add.name 0 0 0 1065 (t_P (fun v s' => v = none ∧ (fun q => q = r) (s'))) 0 [(0, .ref 846), (1, .int x1), (2, .int x2), (3, .int x3), (4, .int x4), (5, .int x5), (6, .int x6)] [] (t_m s) 1065 0 0
  refine mj_aload_n dX3_add_0 0 rfl ?_
  refine t_getI dX3_add_1 F_X3_34 qf_846_6 ?_
  refine mj_sipush (v := 6002) dX3_add_4 (by decide) ?_
  refine mj_icmp_lt 11 dX3_add_7 (by decide) (fun z => t_posK hk z (fun hk => ?_)) (fun z => t_negK hk z (fun hk => ?_))
  · refine mj_aload_n dX3_add_11 0 rfl ?_
    refine t_getR 847 dX3_add_12 F_X3_11 qr_846_5 ?_
    refine mj_iconst (v := 0) dX3_add_15 (by decide) ?_
    refine t_aaldI dX3_add_16 qq_847 (by unfold vp_in; decide) ?_
    refine mj_aload_n dX3_add_17 0 rfl ?_
    refine t_getI dX3_add_18 F_X3_34 qf_846_6 ?_
    refine mj_iload_n dX3_add_21 2 rfl ?_
    refine t_chkK hk (fun c0 hk => ?_)
    refine t_iastK dX3_add_22 (t_row848 (by decide)) (t_ixv c0) (fun s1 ws1 => t_letE hk ws1 (fun hk => ?_))
    refine mj_aload_n dX3_add_23 0 rfl ?_
    refine t_getR 847 dX3_add_24 F_X3_11 qr_846_5 ?_
    refine mj_iconst (v := 1) dX3_add_27 (by decide) ?_
    refine t_aaldI dX3_add_28 qq_847 (by unfold vp_in; decide) ?_
    refine mj_aload_n dX3_add_29 0 rfl ?_
    refine t_getI dX3_add_30 F_X3_34 qf_846_6 ?_
    refine mj_iload_n dX3_add_33 1 rfl ?_
    refine t_chkK hk (fun c1 hk => ?_)
    refine t_iastK dX3_add_34 (t_row848 (by decide)) (t_ixv c1) (fun s2 ws2 => t_letE hk ws2 (fun hk => ?_))
    refine mj_aload_n dX3_add_35 0 rfl ?_
    refine t_getR 847 dX3_add_36 F_X3_11 qr_846_5 ?_
    refine mj_iconst (v := 2) dX3_add_39 (by decide) ?_
    refine t_aaldI dX3_add_40 qq_847 (by unfold vp_in; decide) ?_
    refine mj_aload_n dX3_add_41 0 rfl ?_
    refine t_getI dX3_add_42 F_X3_34 qf_846_6 ?_
    refine mj_iload_n dX3_add_45 3 rfl ?_
    refine t_chkK hk (fun c2 hk => ?_)
    refine t_iastK dX3_add_46 (t_row848 (by decide)) (t_ixv c2) (fun s3 ws3 => t_letE hk ws3 (fun hk => ?_))
    refine mj_aload_n dX3_add_47 0 rfl ?_
    refine t_getR 847 dX3_add_48 F_X3_11 qr_846_5 ?_
    refine mj_iconst (v := 3) dX3_add_51 (by decide) ?_
    refine t_aaldI dX3_add_52 qq_847 (by unfold vp_in; decide) ?_
    refine mj_aload_n dX3_add_53 0 rfl ?_
    refine t_getI dX3_add_54 F_X3_34 qf_846_6 ?_
    refine mj_iload dX3_add_57 4 rfl ?_
    refine t_chkK hk (fun c3 hk => ?_)
    refine t_iastK dX3_add_59 (t_row848 (by decide)) (t_ixv c3) (fun s4 ws4 => t_letE hk ws4 (fun hk => ?_))
    refine mj_aload_n dX3_add_60 0 rfl ?_
    refine t_getR 847 dX3_add_61 F_X3_11 qr_846_5 ?_
    refine mj_iconst (v := 4) dX3_add_64 (by decide) ?_
    refine t_aaldI dX3_add_65 qq_847 (by unfold vp_in; decide) ?_
    refine mj_aload_n dX3_add_66 0 rfl ?_
    refine t_getI dX3_add_67 F_X3_34 qf_846_6 ?_
    refine mj_iload dX3_add_70 5 rfl ?_
    refine t_chkK hk (fun c4 hk => ?_)
    refine t_iastK dX3_add_72 (t_row848 (by decide)) (t_ixv c4) (fun s5 ws5 => t_letE hk ws5 (fun hk => ?_))
    refine mj_aload_n dX3_add_73 0 rfl ?_
    refine t_getR 847 dX3_add_74 F_X3_11 qr_846_5 ?_
    refine mj_iconst (v := 5) dX3_add_77 (by decide) ?_
    refine t_aaldI dX3_add_78 qq_847 (by unfold vp_in; decide) ?_
    refine mj_aload_n dX3_add_79 0 rfl ?_
    refine t_getI dX3_add_80 F_X3_34 qf_846_6 ?_
    refine mj_iload dX3_add_83 6 rfl ?_
    refine t_chkK hk (fun c5 hk => ?_)
    refine t_iastK dX3_add_85 (t_row848 (by decide)) (t_ixv c5) (fun s6 ws6 => t_letE hk ws6 (fun hk => ?_))
    refine mj_aload_n dX3_add_86 0 rfl ?_
    refine mj_dup dX3_add_87 rfl ?_
    refine t_getI dX3_add_88 F_X3_34 qf_846_6 ?_
    refine mj_iconst (v := 1) dX3_add_91 (by decide) ?_
    refine mj_iadd dX3_add_92 ?_
    refine t_putIK dX3_add_93 F_X3_34 qf_846_6 rfl (fun s7 ws7 => t_letE hk ws7 (fun hk => ?_))
    exact t_somK hk (fun hf => t_vret dX3_add_96 rfl ⟨rfl, hf⟩ (Nat.le_of_ble_eq_true rfl) (Nat.le_of_ble_eq_true rfl))
  · exact t_somK hk (fun hf => t_vret dX3_add_10 rfl ⟨rfl, hf⟩ (Nat.le_of_ble_eq_true rfl) (Nat.le_of_ble_eq_true rfl))

theorem dX5_placeOf_0 : decode cX5_placeOf 0 = .ok (.iload_n 1, 1) := by decide +kernel
theorem dX5_placeOf_1 : decode cX5_placeOf 1 = .ok (.ifCond .ge 7, 3) := by decide +kernel
theorem dX5_placeOf_12 : decode cX5_placeOf 12 = .ok (.iload_n 1, 1) := by decide +kernel
theorem dX5_placeOf_13 : decode cX5_placeOf 13 = .ok (.bipush 8, 2) := by decide +kernel
theorem dX5_placeOf_15 : decode cX5_placeOf 15 = .ok (.imul, 1) := by decide +kernel
theorem dX5_placeOf_16 : decode cX5_placeOf 16 = .ok (.aload_n 0, 1) := by decide +kernel
theorem dX5_placeOf_17 : decode cX5_placeOf 17 = .ok (.getfield 43, 3) := by decide +kernel
theorem dX5_placeOf_20 : decode cX5_placeOf 20 = .ok (.iload_n 1, 1) := by decide +kernel
theorem dX5_placeOf_21 : decode cX5_placeOf 21 = .ok (.iaload, 1) := by decide +kernel
theorem dX5_placeOf_22 : decode cX5_placeOf 22 = .ok (.iload_n 2, 1) := by decide +kernel
theorem dX5_placeOf_23 : decode cX5_placeOf 23 = .ok (.invokestatic 76, 3) := by decide +kernel
theorem dX5_placeOf_26 : decode cX5_placeOf 26 = .ok (.ireturn, 1) := by decide +kernel
theorem dX5_placeOf_4 : decode cX5_placeOf 4 = .ok (.iconst (-1), 1) := by decide +kernel
theorem dX5_placeOf_5 : decode cX5_placeOf 5 = .ok (.goto 21, 3) := by decide +kernel
theorem dX5_placeOf_8 : decode cX5_placeOf 8 = .ok (.aload_n 0, 1) := by decide +kernel
theorem dX5_placeOf_9 : decode cX5_placeOf 9 = .ok (.getfield 49, 3) := by decide +kernel
noncomputable def f_X5_placeOf (x1 : Int32) (x2 : Int32) (s : t_S) : Option (Int32) :=
 if (0 : Int32) ≤ x1 then (if t_ix x1 40 = true then
  (f_X5_find 442 (x1 * (8 : Int32)) (s.1 440 (x1.toNatClampNeg)) x2 s).bind (fun r2 =>
 some (r2))
else none)
 else (some (-1 : Int32))
set_option maxRecDepth 4000 in
set_option maxHeartbeats 1000000 in
theorem C_X5_placeOf (x1 : Int32) (x2 : Int32) (s : t_S) (r : Int32) (hr : f_X5_placeOf x1 x2 s = some r) : t_C yX5_placeOf cX5_placeOf 3 (some .int) 1 [.ref 428, .int x1, .int x2] s (fun v s' => v = some (.int r) ∧ s' = s) := by
  refine t_C.imp (P := fun v s' => s' = s ∧ ∃ x, v = some (.int x) ∧ (fun q => q = r) (x)) (t_C.of (by decide +kernel) (Nat.le_of_ble_eq_true rfl) ?_) (fun v s' hp => by obtain ⟨rfl, x, rfl, rfl⟩ := hp; exact ⟨rfl, rfl⟩)
  intro D cy ad bs X
  have hk : t_hk (f_X5_placeOf x1 x2 s) (fun q => q = r) := ⟨r, hr, rfl⟩
  show mj_G D cy ad bs X cX5_placeOf 3 yX5_placeOf.cls (some .int) yX5_placeOf.name 1 0 0 1065 (t_P (fun v s' => s' = s ∧ ∃ x, v = some (.int x) ∧ (fun q => q = r) (x))) 0 [(0, .ref 428), (1, .int x1), (2, .int x2)] [] (t_m s) 1065 0 0
  refine mj_iload_n dX5_placeOf_0 1 rfl ?_
  refine mj_if_ge 8 dX5_placeOf_1 (by decide) (fun z => t_posK hk z (fun hk => ?_)) (fun z => t_negK hk z (fun hk => ?_))
  · refine mj_aload_n dX5_placeOf_8 0 rfl ?_
    refine t_getR 442 dX5_placeOf_9 F_X5_49 qr_428_15 ?_
    refine mj_iload_n dX5_placeOf_12 1 rfl ?_
    refine mj_bipush (v := 8) dX5_placeOf_13 (by decide) ?_
    refine mj_imul dX5_placeOf_15 ?_
    refine mj_aload_n dX5_placeOf_16 0 rfl ?_
    refine t_getR 440 dX5_placeOf_17 F_X5_43 qr_428_13 ?_
    refine mj_iload_n dX5_placeOf_20 1 rfl ?_
    refine t_chkK hk (fun c0 hk => ?_)
    refine t_iald dX5_placeOf_21 qa_440 (t_ixv c0) ?_
    refine mj_iload_n dX5_placeOf_22 2 rfl ?_
    refine t_bndK hk (fun r2 er2 hk => ?_)
    refine t_callSiP dX5_placeOf_23 M_X5_find (C_X5_find _ _ _ _ _ _ er2) ML_X5_76 SM_X5_find (As := [.ref 442, .int (x1 * (8 : Int32)), .int (s.1 440 (x1.toNatClampNeg)), .int x2]) rfl rfl (Nat.le_of_ble_eq_true rfl) (Nat.le_of_ble_eq_true rfl) (Nat.le_of_ble_eq_true rfl) (Nat.le_of_ble_eq_true rfl) ?_
    exact t_somK hk (fun hf => t_iret dX5_placeOf_26 rfl rfl ⟨rfl, _, rfl, hf⟩ (Nat.le_of_ble_eq_true rfl) (Nat.le_of_ble_eq_true rfl))
  · refine mj_iconst (v := (-1)) dX5_placeOf_4 (by decide) ?_
    refine mj_goto 26 dX5_placeOf_5 (by decide) ?_
    exact t_somK hk (fun hf => t_iret dX5_placeOf_26 rfl rfl ⟨rfl, _, rfl, hf⟩ (Nat.le_of_ble_eq_true rfl) (Nat.le_of_ble_eq_true rfl))

theorem dX6_home_0 : decode cX6_home 0 = .ok (.aload_n 0, 1) := by decide +kernel
theorem dX6_home_1 : decode cX6_home 1 = .ok (.getfield 134, 3) := by decide +kernel
theorem dX6_home_11 : decode cX6_home 11 = .ok (.goto 21, 3) := by decide +kernel
theorem dX6_home_14 : decode cX6_home 14 = .ok (.aload_n 0, 1) := by decide +kernel
theorem dX6_home_15 : decode cX6_home 15 = .ok (.getfield 137, 3) := by decide +kernel
theorem dX6_home_18 : decode cX6_home 18 = .ok (.ifCond .lt 13, 3) := by decide +kernel
theorem dX6_home_21 : decode cX6_home 21 = .ok (.bipush (-2), 2) := by decide +kernel
theorem dX6_home_23 : decode cX6_home 23 = .ok (.aload_n 0, 1) := by decide +kernel
theorem dX6_home_24 : decode cX6_home 24 = .ok (.getfield 137, 3) := by decide +kernel
theorem dX6_home_27 : decode cX6_home 27 = .ok (.isub, 1) := by decide +kernel
theorem dX6_home_28 : decode cX6_home 28 = .ok (.goto 4, 3) := by decide +kernel
theorem dX6_home_31 : decode cX6_home 31 = .ok (.iconst (-1), 1) := by decide +kernel
theorem dX6_home_32 : decode cX6_home 32 = .ok (.ireturn, 1) := by decide +kernel
theorem dX6_home_4 : decode cX6_home 4 = .ok (.ifCond .lt 10, 3) := by decide +kernel
theorem dX6_home_7 : decode cX6_home 7 = .ok (.aload_n 0, 1) := by decide +kernel
theorem dX6_home_8 : decode cX6_home 8 = .ok (.getfield 134, 3) := by decide +kernel
noncomputable def f_X6_home (s : t_S) : Int32 :=
 if (s.1 845 12) < (0 : Int32) then (if (s.1 845 13) < (0 : Int32) then ((-1 : Int32))
 else (((-2 : Int32) - (s.1 845 13))))
 else ((s.1 845 12))
set_option maxRecDepth 4000 in
set_option maxHeartbeats 1000000 in
theorem C_X6_home (s : t_S) : t_C yX6_home cX6_home 1 (some .int) 0 [.ref 845] s (fun v s' => v = some (.int (f_X6_home s)) ∧ s' = s) := by
  refine t_C.imp (P := fun v s' => s' = s ∧ ∃ x, v = some (.int x) ∧ (fun r => r = f_X6_home s) (x)) (t_C.of (by decide +kernel) (Nat.le_of_ble_eq_true rfl) ?_) (fun v s' hp => by obtain ⟨rfl, x, rfl, rfl⟩ := hp; exact ⟨rfl, rfl⟩)
  intro D cy ad bs X
  have hk : t_ht (f_X6_home s) (fun r => r = f_X6_home s) := rfl
  show mj_G D cy ad bs X cX6_home 1 yX6_home.cls (some .int) yX6_home.name 0 0 0 1065 (t_P (fun v s' => s' = s ∧ ∃ x, v = some (.int x) ∧ (fun r => r = f_X6_home s) (x))) 0 [(0, .ref 845)] [] (t_m s) 1065 0 0
  refine mj_aload_n dX6_home_0 0 rfl ?_
  refine t_getI dX6_home_1 F_X6_134 qf_845_12 ?_
  refine mj_if_lt 14 dX6_home_4 (by decide) (fun z => t_posTK hk z (fun hk => ?_)) (fun z => t_negTK hk z (fun hk => ?_))
  · refine mj_aload_n dX6_home_14 0 rfl ?_
    refine t_getI dX6_home_15 F_X6_137 qf_845_13 ?_
    refine mj_if_lt 31 dX6_home_18 (by decide) (fun z => t_posTK hk z (fun hk => ?_)) (fun z => t_negTK hk z (fun hk => ?_))
    · refine mj_iconst (v := (-1)) dX6_home_31 (by decide) ?_
      exact t_iret dX6_home_32 rfl rfl ⟨rfl, _, rfl, hk⟩ (Nat.le_of_ble_eq_true rfl) (Nat.le_of_ble_eq_true rfl)
    · refine mj_bipush (v := (-2)) dX6_home_21 (by decide) ?_
      refine mj_aload_n dX6_home_23 0 rfl ?_
      refine t_getI dX6_home_24 F_X6_137 qf_845_13 ?_
      refine mj_isub dX6_home_27 ?_
      refine mj_goto 32 dX6_home_28 (by decide) ?_
      exact t_iret dX6_home_32 rfl rfl ⟨rfl, _, rfl, hk⟩ (Nat.le_of_ble_eq_true rfl) (Nat.le_of_ble_eq_true rfl)
  · refine mj_aload_n dX6_home_7 0 rfl ?_
    refine t_getI dX6_home_8 F_X6_134 qf_845_12 ?_
    refine mj_goto 32 dX6_home_11 (by decide) ?_
    exact t_iret dX6_home_32 rfl rfl ⟨rfl, _, rfl, hk⟩ (Nat.le_of_ble_eq_true rfl) (Nat.le_of_ble_eq_true rfl)

theorem dX6_emitWord_0 : decode cX6_emitWord 0 = .ok (.aload_n 0, 1) := by decide +kernel
theorem dX6_emitWord_1 : decode cX6_emitWord 1 = .ok (.getfield 28, 3) := by decide +kernel
theorem dX6_emitWord_100 : decode cX6_emitWord 100 = .ok (.getfield 183, 3) := by decide +kernel
theorem dX6_emitWord_103 : decode cX6_emitWord 103 = .ok (.iload_n 1, 1) := by decide +kernel
theorem dX6_emitWord_104 : decode cX6_emitWord 104 = .ok (.aload_n 0, 1) := by decide +kernel
theorem dX6_emitWord_105 : decode cX6_emitWord 105 = .ok (.invokevirtual 254, 3) := by decide +kernel
theorem dX6_emitWord_108 : decode cX6_emitWord 108 = .ok (.aload_n 0, 1) := by decide +kernel
theorem dX6_emitWord_109 : decode cX6_emitWord 109 = .ok (.getfield 43, 3) := by decide +kernel
theorem dX6_emitWord_112 : decode cX6_emitWord 112 = .ok (.iconst 2, 1) := by decide +kernel
theorem dX6_emitWord_113 : decode cX6_emitWord 113 = .ok (.iload_n 1, 1) := by decide +kernel
theorem dX6_emitWord_114 : decode cX6_emitWord 114 = .ok (.invokevirtual 202, 3) := by decide +kernel
theorem dX6_emitWord_117 : decode cX6_emitWord 117 = .ok (.iconst 0, 1) := by decide +kernel
theorem dX6_emitWord_118 : decode cX6_emitWord 118 = .ok (.invokevirtual 257, 3) := by decide +kernel
theorem dX6_emitWord_12 : decode cX6_emitWord 12 = .ok (.ifCond .lt 18, 3) := by decide +kernel
theorem dX6_emitWord_121 : decode cX6_emitWord 121 = .ok (.return_, 1) := by decide +kernel
theorem dX6_emitWord_15 : decode cX6_emitWord 15 = .ok (.aload_n 0, 1) := by decide +kernel
theorem dX6_emitWord_16 : decode cX6_emitWord 16 = .ok (.getfield 48, 3) := by decide +kernel
theorem dX6_emitWord_19 : decode cX6_emitWord 19 = .ok (.aload_n 0, 1) := by decide +kernel
theorem dX6_emitWord_20 : decode cX6_emitWord 20 = .ok (.getfield 134, 3) := by decide +kernel
theorem dX6_emitWord_23 : decode cX6_emitWord 23 = .ok (.iload_n 1, 1) := by decide +kernel
theorem dX6_emitWord_24 : decode cX6_emitWord 24 = .ok (.invokevirtual 286, 3) := by decide +kernel
theorem dX6_emitWord_27 : decode cX6_emitWord 27 = .ok (.goto 4, 3) := by decide +kernel
theorem dX6_emitWord_30 : decode cX6_emitWord 30 = .ok (.iconst (-1), 1) := by decide +kernel
theorem dX6_emitWord_31 : decode cX6_emitWord 31 = .ok (.istore_n 2, 1) := by decide +kernel
theorem dX6_emitWord_32 : decode cX6_emitWord 32 = .ok (.aload_n 0, 1) := by decide +kernel
theorem dX6_emitWord_33 : decode cX6_emitWord 33 = .ok (.getfield 137, 3) := by decide +kernel
theorem dX6_emitWord_36 : decode cX6_emitWord 36 = .ok (.ifCond .lt 18, 3) := by decide +kernel
theorem dX6_emitWord_39 : decode cX6_emitWord 39 = .ok (.aload_n 0, 1) := by decide +kernel
theorem dX6_emitWord_4 : decode cX6_emitWord 4 = .ok (.invokevirtual 166, 3) := by decide +kernel
theorem dX6_emitWord_40 : decode cX6_emitWord 40 = .ok (.getfield 48, 3) := by decide +kernel
theorem dX6_emitWord_43 : decode cX6_emitWord 43 = .ok (.aload_n 0, 1) := by decide +kernel
theorem dX6_emitWord_44 : decode cX6_emitWord 44 = .ok (.getfield 137, 3) := by decide +kernel
theorem dX6_emitWord_47 : decode cX6_emitWord 47 = .ok (.iload_n 1, 1) := by decide +kernel
theorem dX6_emitWord_48 : decode cX6_emitWord 48 = .ok (.invokevirtual 512, 3) := by decide +kernel
theorem dX6_emitWord_51 : decode cX6_emitWord 51 = .ok (.goto 4, 3) := by decide +kernel
theorem dX6_emitWord_54 : decode cX6_emitWord 54 = .ok (.iconst (-1), 1) := by decide +kernel
theorem dX6_emitWord_55 : decode cX6_emitWord 55 = .ok (.istore_n 3, 1) := by decide +kernel
theorem dX6_emitWord_56 : decode cX6_emitWord 56 = .ok (.iload_n 2, 1) := by decide +kernel
theorem dX6_emitWord_57 : decode cX6_emitWord 57 = .ok (.ifCond .lt 16, 3) := by decide +kernel
theorem dX6_emitWord_60 : decode cX6_emitWord 60 = .ok (.aload_n 0, 1) := by decide +kernel
theorem dX6_emitWord_61 : decode cX6_emitWord 61 = .ok (.getfield 43, 3) := by decide +kernel
theorem dX6_emitWord_64 : decode cX6_emitWord 64 = .ok (.iconst 3, 1) := by decide +kernel
theorem dX6_emitWord_65 : decode cX6_emitWord 65 = .ok (.iload_n 2, 1) := by decide +kernel
theorem dX6_emitWord_66 : decode cX6_emitWord 66 = .ok (.invokevirtual 202, 3) := by decide +kernel
theorem dX6_emitWord_69 : decode cX6_emitWord 69 = .ok (.pop, 1) := by decide +kernel
theorem dX6_emitWord_7 : decode cX6_emitWord 7 = .ok (.istore_n 1, 1) := by decide +kernel
theorem dX6_emitWord_70 : decode cX6_emitWord 70 = .ok (.goto 51, 3) := by decide +kernel
theorem dX6_emitWord_73 : decode cX6_emitWord 73 = .ok (.iload_n 3, 1) := by decide +kernel
theorem dX6_emitWord_74 : decode cX6_emitWord 74 = .ok (.ifCond .lt 16, 3) := by decide +kernel
theorem dX6_emitWord_77 : decode cX6_emitWord 77 = .ok (.aload_n 0, 1) := by decide +kernel
theorem dX6_emitWord_78 : decode cX6_emitWord 78 = .ok (.getfield 43, 3) := by decide +kernel
theorem dX6_emitWord_8 : decode cX6_emitWord 8 = .ok (.aload_n 0, 1) := by decide +kernel
theorem dX6_emitWord_81 : decode cX6_emitWord 81 = .ok (.iconst 4, 1) := by decide +kernel
theorem dX6_emitWord_82 : decode cX6_emitWord 82 = .ok (.iload_n 3, 1) := by decide +kernel
theorem dX6_emitWord_83 : decode cX6_emitWord 83 = .ok (.invokevirtual 202, 3) := by decide +kernel
theorem dX6_emitWord_86 : decode cX6_emitWord 86 = .ok (.pop, 1) := by decide +kernel
theorem dX6_emitWord_87 : decode cX6_emitWord 87 = .ok (.goto 34, 3) := by decide +kernel
theorem dX6_emitWord_9 : decode cX6_emitWord 9 = .ok (.getfield 134, 3) := by decide +kernel
theorem dX6_emitWord_90 : decode cX6_emitWord 90 = .ok (.aload_n 0, 1) := by decide +kernel
theorem dX6_emitWord_91 : decode cX6_emitWord 91 = .ok (.getfield 18, 3) := by decide +kernel
theorem dX6_emitWord_94 : decode cX6_emitWord 94 = .ok (.bipush 12, 2) := by decide +kernel
theorem dX6_emitWord_96 : decode cX6_emitWord 96 = .ok (.aload_n 0, 1) := by decide +kernel
theorem dX6_emitWord_97 : decode cX6_emitWord 97 = .ok (.getfield 28, 3) := by decide +kernel
noncomputable def k_X6_emitWord_55 (l1 : Int32) (l2 : Int32) (k0 : Int32) (s : t_S) : Option (t_S) :=
 if l2 < (0 : Int32) then (if k0 < (0 : Int32) then ((f_X0_emit (2 : Int32) l1 s).bind (fun r2 =>
 (f_X3_add (12 : Int32) (s.1 1 9) l1 (f_X6_home s) r2.1 (0 : Int32) r2.2).bind (fun r3 =>
 some (r3))))
 else ((f_X0_emit (4 : Int32) k0 s).bind (fun r4 =>
 some (r4.2))))
 else ((f_X0_emit (3 : Int32) l2 s).bind (fun r5 =>
 some (r5.2)))
set_option maxRecDepth 4000 in
set_option maxHeartbeats 1000000 in
theorem B_X6_emitWord_55 {D : va_G} {cy : Nat → ClassId} {ad : Nat → Nat} {bs : Nat} {X : State → Heap → Prop} (l1 : Int32) (l2 : Int32) (k0 : Int32) (s : t_S) (Q : t_S → Prop) (hk : t_hk (k_X6_emitWord_55 l1 l2 k0 s) Q) : mj_G D cy ad bs X cX6_emitWord 4 yX6_emitWord.cls none yX6_emitWord.name 2 0 0 1065 (t_P (fun v s' => v = none ∧ Q (s'))) 55 [(0, .ref 845), (1, .int l1), (2, .int l2)] [.int k0] (t_m s) 1065 0 0 := by
  refine mj_istore_n 3 (lv2 := [(3, .int k0), (0, .ref 845), (1, .int l1), (2, .int l2)]) dX6_emitWord_55 rfl (by decide) rfl ?_
  refine mj_iload_n dX6_emitWord_56 3 rfl ?_
  refine mj_if_lt 73 dX6_emitWord_57 (by decide) (fun z => t_posK hk z (fun hk => ?_)) (fun z => t_negK hk z (fun hk => ?_))
  · refine mj_iload_n dX6_emitWord_73 0 rfl ?_
    refine mj_if_lt 90 dX6_emitWord_74 (by decide) (fun z => t_posK hk z (fun hk => ?_)) (fun z => t_negK hk z (fun hk => ?_))
    · refine mj_aload_n dX6_emitWord_90 1 rfl ?_
      refine t_getR 846 dX6_emitWord_91 F_X6_18 qr_845_5 ?_
      refine mj_bipush (v := 12) dX6_emitWord_94 (by decide) ?_
      refine mj_aload_n dX6_emitWord_96 1 rfl ?_
      refine t_getR 1 dX6_emitWord_97 F_X6_28 qr_845_0 ?_
      refine t_getI dX6_emitWord_100 F_X6_183 qf_1_9 ?_
      refine mj_iload_n dX6_emitWord_103 2 rfl ?_
      refine mj_aload_n dX6_emitWord_104 1 rfl ?_
      refine t_callViP dX6_emitWord_105 M_X6_home (C_X6_home _) ML_X6_254 IM_X6_home SE_X6_home qc_845 rfl (As := []) rfl rfl (Nat.le_of_ble_eq_true rfl) (Nat.le_of_ble_eq_true rfl) (Nat.le_of_ble_eq_true rfl) (Nat.le_of_ble_eq_true rfl) ?_
      refine mj_aload_n dX6_emitWord_108 1 rfl ?_
      refine t_getR 334 dX6_emitWord_109 F_X6_43 qr_845_3 ?_
      refine mj_iconst (v := 2) dX6_emitWord_112 (by decide) ?_
      refine mj_iload_n dX6_emitWord_113 2 rfl ?_
      refine t_bndK hk (fun r2 er2 hk => ?_)
      refine t_callViE dX6_emitWord_114 M_X0_emit (C_X0_emit _ _ _ _ er2) ML_X6_202 IM_X0_emit SE_X0_emit qc_334 rfl (As := [.int 2, .int l1]) rfl rfl (Nat.le_of_ble_eq_true rfl) (Nat.le_of_ble_eq_true rfl) (Nat.le_of_ble_eq_true rfl) (Nat.le_of_ble_eq_true rfl) ?_
      refine mj_iconst (v := 0) dX6_emitWord_117 (by decide) ?_
      refine t_bndK hk (fun r3 er3 hk => ?_)
      refine t_callVvE dX6_emitWord_118 M_X3_add (C_X3_add _ _ _ _ _ _ _ _ er3) ML_X6_257 IM_X3_add SE_X3_add qc_846 rfl (As := [.int 12, .int (s.1 1 9), .int l1, .int (f_X6_home s), .int r2.1, .int 0]) rfl rfl (Nat.le_of_ble_eq_true rfl) (Nat.le_of_ble_eq_true rfl) (Nat.le_of_ble_eq_true rfl) (Nat.le_of_ble_eq_true rfl) ?_
      exact t_somK hk (fun hf => t_vret dX6_emitWord_121 rfl ⟨rfl, hf⟩ (Nat.le_of_ble_eq_true rfl) (Nat.le_of_ble_eq_true rfl))
    · refine mj_aload_n dX6_emitWord_77 1 rfl ?_
      refine t_getR 334 dX6_emitWord_78 F_X6_43 qr_845_3 ?_
      refine mj_iconst (v := 4) dX6_emitWord_81 (by decide) ?_
      refine mj_iload_n dX6_emitWord_82 0 rfl ?_
      refine t_bndK hk (fun r4 er4 hk => ?_)
      refine t_callViE dX6_emitWord_83 M_X0_emit (C_X0_emit _ _ _ _ er4) ML_X6_202 IM_X0_emit SE_X0_emit qc_334 rfl (As := [.int 4, .int k0]) rfl rfl (Nat.le_of_ble_eq_true rfl) (Nat.le_of_ble_eq_true rfl) (Nat.le_of_ble_eq_true rfl) (Nat.le_of_ble_eq_true rfl) ?_
      refine mj_pop dX6_emitWord_86 rfl ?_
      refine mj_goto 121 dX6_emitWord_87 (by decide) ?_
      exact t_somK hk (fun hf => t_vret dX6_emitWord_121 rfl ⟨rfl, hf⟩ (Nat.le_of_ble_eq_true rfl) (Nat.le_of_ble_eq_true rfl))
  · refine mj_aload_n dX6_emitWord_60 1 rfl ?_
    refine t_getR 334 dX6_emitWord_61 F_X6_43 qr_845_3 ?_
    refine mj_iconst (v := 3) dX6_emitWord_64 (by decide) ?_
    refine mj_iload_n dX6_emitWord_65 3 rfl ?_
    refine t_bndK hk (fun r5 er5 hk => ?_)
    refine t_callViE dX6_emitWord_66 M_X0_emit (C_X0_emit _ _ _ _ er5) ML_X6_202 IM_X0_emit SE_X0_emit qc_334 rfl (As := [.int 3, .int l2]) rfl rfl (Nat.le_of_ble_eq_true rfl) (Nat.le_of_ble_eq_true rfl) (Nat.le_of_ble_eq_true rfl) (Nat.le_of_ble_eq_true rfl) ?_
    refine mj_pop dX6_emitWord_69 rfl ?_
    refine mj_goto 121 dX6_emitWord_70 (by decide) ?_
    exact t_somK hk (fun hf => t_vret dX6_emitWord_121 rfl ⟨rfl, hf⟩ (Nat.le_of_ble_eq_true rfl) (Nat.le_of_ble_eq_true rfl))
noncomputable def k_X6_emitWord_31 (l1 : Int32) (k0 : Int32) (s : t_S) : Option (t_S) :=
 if (s.1 845 13) < (0 : Int32) then (k_X6_emitWord_55 l1 k0 (-1) s)
 else ((f_X5_varOf (s.1 845 13) l1 s).bind (fun r1 =>
 k_X6_emitWord_55 l1 k0 r1 s))
set_option maxRecDepth 4000 in
set_option maxHeartbeats 1000000 in
theorem B_X6_emitWord_31 {D : va_G} {cy : Nat → ClassId} {ad : Nat → Nat} {bs : Nat} {X : State → Heap → Prop} (l1 : Int32) (k0 : Int32) (s : t_S) (Q : t_S → Prop) (hk : t_hk (k_X6_emitWord_31 l1 k0 s) Q) : mj_G D cy ad bs X cX6_emitWord 4 yX6_emitWord.cls none yX6_emitWord.name 2 0 0 1065 (t_P (fun v s' => v = none ∧ Q (s'))) 31 [(0, .ref 845), (1, .int l1)] [.int k0] (t_m s) 1065 0 0 := by
  refine mj_istore_n 2 (lv2 := [(2, .int k0), (0, .ref 845), (1, .int l1)]) dX6_emitWord_31 rfl (by decide) rfl ?_
  refine mj_aload_n dX6_emitWord_32 1 rfl ?_
  refine t_getI dX6_emitWord_33 F_X6_137 qf_845_13 ?_
  refine mj_if_lt 54 dX6_emitWord_36 (by decide) (fun z => t_posK hk z (fun hk => ?_)) (fun z => t_negK hk z (fun hk => ?_))
  · refine mj_iconst (v := (-1)) dX6_emitWord_54 (by decide) ?_
    refine mj_sublv [(0, .ref 845), (1, .int l1), (2, .int k0)] [1, 2, 0] rfl ?_
    exact B_X6_emitWord_55 _ _ _ _ _ hk
  · refine mj_aload_n dX6_emitWord_39 1 rfl ?_
    refine t_getR 428 dX6_emitWord_40 F_X6_48 qr_845_4 ?_
    refine mj_aload_n dX6_emitWord_43 1 rfl ?_
    refine t_getI dX6_emitWord_44 F_X6_137 qf_845_13 ?_
    refine mj_iload_n dX6_emitWord_47 2 rfl ?_
    refine t_bndK hk (fun r1 er1 hk => ?_)
    refine t_callViP dX6_emitWord_48 M_X5_varOf (C_X5_varOf _ _ _ _ er1) ML_X6_512 IM_X5_varOf SE_X5_varOf qc_428 rfl (As := [.int (s.1 845 13), .int l1]) rfl rfl (Nat.le_of_ble_eq_true rfl) (Nat.le_of_ble_eq_true rfl) (Nat.le_of_ble_eq_true rfl) (Nat.le_of_ble_eq_true rfl) ?_
    refine mj_goto 55 dX6_emitWord_51 (by decide) ?_
    refine mj_sublv [(0, .ref 845), (1, .int l1), (2, .int k0)] [1, 2, 0] rfl ?_
    exact B_X6_emitWord_55 _ _ _ _ _ hk
noncomputable def f_X6_emitWord (s : t_S) : Option (t_S) :=
 if (s.1 845 12) < (0 : Int32) then (k_X6_emitWord_31 (f_X2_word s) (-1) s)
 else ((f_X5_placeOf (s.1 845 12) (f_X2_word s) s).bind (fun r2 =>
 k_X6_emitWord_31 (f_X2_word s) r2 s))
set_option maxRecDepth 4000 in
set_option maxHeartbeats 1000000 in
theorem C_X6_emitWord (s : t_S) (r : t_S) (hr : f_X6_emitWord s = some r) : t_C yX6_emitWord cX6_emitWord 4 none 2 [.ref 845] s (fun v s' => v = none ∧ s' = r) := by
  refine t_C.imp (P := fun v s' => v = none ∧ (fun q => q = r) (s')) (t_C.of (by decide +kernel) (Nat.le_of_ble_eq_true rfl) ?_) (fun v s' hp => hp)
  intro D cy ad bs X
  have hk : t_hk (f_X6_emitWord s) (fun q => q = r) := ⟨r, hr, rfl⟩
  show mj_G D cy ad bs X cX6_emitWord 4 yX6_emitWord.cls none yX6_emitWord.name 2 0 0 1065 (t_P (fun v s' => v = none ∧ (fun q => q = r) (s'))) 0 [(0, .ref 845)] [] (t_m s) 1065 0 0
  refine mj_aload_n dX6_emitWord_0 0 rfl ?_
  refine t_getR 1 dX6_emitWord_1 F_X6_28 qr_845_0 ?_
  refine t_callViP dX6_emitWord_4 M_X2_word (C_X2_word _) ML_X6_166 IM_X2_word SE_X2_word qc_1 rfl (As := []) rfl rfl (Nat.le_of_ble_eq_true rfl) (Nat.le_of_ble_eq_true rfl) (Nat.le_of_ble_eq_true rfl) (Nat.le_of_ble_eq_true rfl) ?_
  refine mj_istore_n 1 (lv2 := [(1, .int (f_X2_word s)), (0, .ref 845)]) dX6_emitWord_7 rfl (by decide) rfl ?_
  refine mj_aload_n dX6_emitWord_8 1 rfl ?_
  refine t_getI dX6_emitWord_9 F_X6_134 qf_845_12 ?_
  refine mj_if_lt 30 dX6_emitWord_12 (by decide) (fun z => t_posK hk z (fun hk => ?_)) (fun z => t_negK hk z (fun hk => ?_))
  · refine mj_iconst (v := (-1)) dX6_emitWord_30 (by decide) ?_
    refine mj_sublv [(0, .ref 845), (1, .int (f_X2_word s))] [1, 0] rfl ?_
    exact B_X6_emitWord_31 _ _ _ _ hk
  · refine mj_aload_n dX6_emitWord_15 1 rfl ?_
    refine t_getR 428 dX6_emitWord_16 F_X6_48 qr_845_4 ?_
    refine mj_aload_n dX6_emitWord_19 1 rfl ?_
    refine t_getI dX6_emitWord_20 F_X6_134 qf_845_12 ?_
    refine mj_iload_n dX6_emitWord_23 0 rfl ?_
    refine t_bndK hk (fun r2 er2 hk => ?_)
    refine t_callViP dX6_emitWord_24 M_X5_placeOf (C_X5_placeOf _ _ _ _ er2) ML_X6_286 IM_X5_placeOf SE_X5_placeOf qc_428 rfl (As := [.int (s.1 845 12), .int (f_X2_word s)]) rfl rfl (Nat.le_of_ble_eq_true rfl) (Nat.le_of_ble_eq_true rfl) (Nat.le_of_ble_eq_true rfl) (Nat.le_of_ble_eq_true rfl) ?_
    refine mj_goto 31 dX6_emitWord_27 (by decide) ?_
    refine mj_sublv [(0, .ref 845), (1, .int (f_X2_word s))] [1, 0] rfl ?_
    exact B_X6_emitWord_31 _ _ _ _ hk

theorem dX6_link_0 : decode cX6_link 0 = .ok (.aload_n 0, 1) := by decide +kernel
theorem dX6_link_1 : decode cX6_link 1 = .ok (.getfield 28, 3) := by decide +kernel
theorem dX6_link_11 : decode cX6_link 11 = .ok (.aload_n 0, 1) := by decide +kernel
theorem dX6_link_12 : decode cX6_link 12 = .ok (.getfield 28, 3) := by decide +kernel
theorem dX6_link_15 : decode cX6_link 15 = .ok (.iconst 2, 1) := by decide +kernel
theorem dX6_link_16 : decode cX6_link 16 = .ok (.invokevirtual 100, 3) := by decide +kernel
theorem dX6_link_19 : decode cX6_link 19 = .ok (.return_, 1) := by decide +kernel
theorem dX6_link_20 : decode cX6_link 20 = .ok (.aload_n 0, 1) := by decide +kernel
theorem dX6_link_21 : decode cX6_link 21 = .ok (.getfield 18, 3) := by decide +kernel
theorem dX6_link_24 : decode cX6_link 24 = .ok (.iload_n 1, 1) := by decide +kernel
theorem dX6_link_25 : decode cX6_link 25 = .ok (.aload_n 0, 1) := by decide +kernel
theorem dX6_link_26 : decode cX6_link 26 = .ok (.getfield 28, 3) := by decide +kernel
theorem dX6_link_29 : decode cX6_link 29 = .ok (.getfield 183, 3) := by decide +kernel
theorem dX6_link_32 : decode cX6_link 32 = .ok (.aload_n 0, 1) := by decide +kernel
theorem dX6_link_33 : decode cX6_link 33 = .ok (.getfield 28, 3) := by decide +kernel
theorem dX6_link_36 : decode cX6_link 36 = .ok (.invokevirtual 166, 3) := by decide +kernel
theorem dX6_link_39 : decode cX6_link 39 = .ok (.aload_n 0, 1) := by decide +kernel
theorem dX6_link_4 : decode cX6_link 4 = .ok (.getfield 85, 3) := by decide +kernel
theorem dX6_link_40 : decode cX6_link 40 = .ok (.invokevirtual 254, 3) := by decide +kernel
theorem dX6_link_43 : decode cX6_link 43 = .ok (.iload_n 2, 1) := by decide +kernel
theorem dX6_link_44 : decode cX6_link 44 = .ok (.iload_n 3, 1) := by decide +kernel
theorem dX6_link_45 : decode cX6_link 45 = .ok (.invokevirtual 257, 3) := by decide +kernel
theorem dX6_link_48 : decode cX6_link 48 = .ok (.aload_n 0, 1) := by decide +kernel
theorem dX6_link_49 : decode cX6_link 49 = .ok (.getfield 28, 3) := by decide +kernel
theorem dX6_link_52 : decode cX6_link 52 = .ok (.invokevirtual 170, 3) := by decide +kernel
theorem dX6_link_55 : decode cX6_link 55 = .ok (.return_, 1) := by decide +kernel
theorem dX6_link_7 : decode cX6_link 7 = .ok (.iconst 1, 1) := by decide +kernel
theorem dX6_link_8 : decode cX6_link 8 = .ok (.if_icmp .eq 12, 3) := by decide +kernel
noncomputable def f_X6_link (x1 : Int32) (x2 : Int32) (x3 : Int32) (s : t_S) : Option (t_S) :=
 if (s.1 1 8) = (1 : Int32) then ((f_X3_add x1 (s.1 1 9) (f_X2_word s) (f_X6_home s) x2 x3 s).bind (fun r3 =>
 (f_X2_advance r3).bind (fun r4 =>
 some (r4))))
 else ((f_X2_fail (2 : Int32) s).bind (fun r5 =>
 some (r5)))
set_option maxRecDepth 4000 in
set_option maxHeartbeats 1000000 in
theorem C_X6_link (x1 : Int32) (x2 : Int32) (x3 : Int32) (s : t_S) (r : t_S) (hr : f_X6_link x1 x2 x3 s = some r) : t_C yX6_link cX6_link 4 none 1 [.ref 845, .int x1, .int x2, .int x3] s (fun v s' => v = none ∧ s' = r) := by
  refine t_C.imp (P := fun v s' => v = none ∧ (fun q => q = r) (s')) (t_C.of (by decide +kernel) (Nat.le_of_ble_eq_true rfl) ?_) (fun v s' hp => hp)
  intro D cy ad bs X
  have hk : t_hk (f_X6_link x1 x2 x3 s) (fun q => q = r) := ⟨r, hr, rfl⟩
  show mj_G D cy ad bs X cX6_link 4 yX6_link.cls none yX6_link.name 1 0 0 1065 (t_P (fun v s' => v = none ∧ (fun q => q = r) (s'))) 0 [(0, .ref 845), (1, .int x1), (2, .int x2), (3, .int x3)] [] (t_m s) 1065 0 0
  refine mj_aload_n dX6_link_0 0 rfl ?_
  refine t_getR 1 dX6_link_1 F_X6_28 qr_845_0 ?_
  refine t_getI dX6_link_4 F_X6_85 qf_1_8 ?_
  refine mj_iconst (v := 1) dX6_link_7 (by decide) ?_
  refine mj_icmp_eq 20 dX6_link_8 (by decide) (fun z => t_posK hk z (fun hk => ?_)) (fun z => t_negK hk z (fun hk => ?_))
  · refine mj_aload_n dX6_link_20 0 rfl ?_
    refine t_getR 846 dX6_link_21 F_X6_18 qr_845_5 ?_
    refine mj_iload_n dX6_link_24 1 rfl ?_
    refine mj_aload_n dX6_link_25 0 rfl ?_
    refine t_getR 1 dX6_link_26 F_X6_28 qr_845_0 ?_
    refine t_getI dX6_link_29 F_X6_183 qf_1_9 ?_
    refine mj_aload_n dX6_link_32 0 rfl ?_
    refine t_getR 1 dX6_link_33 F_X6_28 qr_845_0 ?_
    refine t_callViP dX6_link_36 M_X2_word (C_X2_word _) ML_X6_166 IM_X2_word SE_X2_word qc_1 rfl (As := []) rfl rfl (Nat.le_of_ble_eq_true rfl) (Nat.le_of_ble_eq_true rfl) (Nat.le_of_ble_eq_true rfl) (Nat.le_of_ble_eq_true rfl) ?_
    refine mj_aload_n dX6_link_39 0 rfl ?_
    refine t_callViP dX6_link_40 M_X6_home (C_X6_home _) ML_X6_254 IM_X6_home SE_X6_home qc_845 rfl (As := []) rfl rfl (Nat.le_of_ble_eq_true rfl) (Nat.le_of_ble_eq_true rfl) (Nat.le_of_ble_eq_true rfl) (Nat.le_of_ble_eq_true rfl) ?_
    refine mj_iload_n dX6_link_43 2 rfl ?_
    refine mj_iload_n dX6_link_44 3 rfl ?_
    refine t_bndK hk (fun r3 er3 hk => ?_)
    refine t_callVvE dX6_link_45 M_X3_add (C_X3_add _ _ _ _ _ _ _ _ er3) ML_X6_257 IM_X3_add SE_X3_add qc_846 rfl (As := [.int x1, .int (s.1 1 9), .int (f_X2_word s), .int (f_X6_home s), .int x2, .int x3]) rfl rfl (Nat.le_of_ble_eq_true rfl) (Nat.le_of_ble_eq_true rfl) (Nat.le_of_ble_eq_true rfl) (Nat.le_of_ble_eq_true rfl) ?_
    refine mj_aload_n dX6_link_48 0 rfl ?_
    refine t_getR 1 dX6_link_49 F_X6_28 qr_845_0 ?_
    refine t_bndK hk (fun r4 er4 hk => ?_)
    refine t_callVvE dX6_link_52 M_X2_advance (C_X2_advance _ _ er4) ML_X6_170 IM_X2_advance SE_X2_advance qc_1 rfl (As := []) rfl rfl (Nat.le_of_ble_eq_true rfl) (Nat.le_of_ble_eq_true rfl) (Nat.le_of_ble_eq_true rfl) (Nat.le_of_ble_eq_true rfl) ?_
    exact t_somK hk (fun hf => t_vret dX6_link_55 rfl ⟨rfl, hf⟩ (Nat.le_of_ble_eq_true rfl) (Nat.le_of_ble_eq_true rfl))
  · refine mj_aload_n dX6_link_11 0 rfl ?_
    refine t_getR 1 dX6_link_12 F_X6_28 qr_845_0 ?_
    refine mj_iconst (v := 2) dX6_link_15 (by decide) ?_
    refine t_bndK hk (fun r5 er5 hk => ?_)
    refine t_callVvE dX6_link_16 M_X2_fail (C_X2_fail _ _ _ er5) ML_X6_100 IM_X2_fail SE_X2_fail qc_1 rfl (As := [.int 2]) rfl rfl (Nat.le_of_ble_eq_true rfl) (Nat.le_of_ble_eq_true rfl) (Nat.le_of_ble_eq_true rfl) (Nat.le_of_ble_eq_true rfl) ?_
    exact t_somK hk (fun hf => t_vret dX6_link_19 rfl ⟨rfl, hf⟩ (Nat.le_of_ble_eq_true rfl) (Nat.le_of_ble_eq_true rfl))

theorem dX2_signOfText_0 : decode cX2_signOfText 0 = .ok (.aload_n 0, 1) := by decide +kernel
theorem dX2_signOfText_1 : decode cX2_signOfText 1 = .ok (.getfield 112, 3) := by decide +kernel
theorem dX2_signOfText_10 : decode cX2_signOfText 10 = .ok (.ifCond .lt 22, 3) := by decide +kernel
theorem dX2_signOfText_13 : decode cX2_signOfText 13 = .ok (.iload_n 2, 1) := by decide +kernel
theorem dX2_signOfText_14 : decode cX2_signOfText 14 = .ok (.sipush 12000, 3) := by decide +kernel
theorem dX2_signOfText_17 : decode cX2_signOfText 17 = .ok (.if_icmp .ge 15, 3) := by decide +kernel
theorem dX2_signOfText_20 : decode cX2_signOfText 20 = .ok (.aload_n 0, 1) := by decide +kernel
theorem dX2_signOfText_21 : decode cX2_signOfText 21 = .ok (.getfield 11, 3) := by decide +kernel
theorem dX2_signOfText_24 : decode cX2_signOfText 24 = .ok (.iload_n 2, 1) := by decide +kernel
theorem dX2_signOfText_25 : decode cX2_signOfText 25 = .ok (.baload, 1) := by decide +kernel
theorem dX2_signOfText_26 : decode cX2_signOfText 26 = .ok (.bipush 127, 2) := by decide +kernel
theorem dX2_signOfText_28 : decode cX2_signOfText 28 = .ok (.iand, 1) := by decide +kernel
theorem dX2_signOfText_29 : decode cX2_signOfText 29 = .ok (.goto 5, 3) := by decide +kernel
theorem dX2_signOfText_32 : decode cX2_signOfText 32 = .ok (.bipush 32, 2) := by decide +kernel
theorem dX2_signOfText_34 : decode cX2_signOfText 34 = .ok (.ireturn, 1) := by decide +kernel
theorem dX2_signOfText_4 : decode cX2_signOfText 4 = .ok (.iconst 1, 1) := by decide +kernel
theorem dX2_signOfText_5 : decode cX2_signOfText 5 = .ok (.iadd, 1) := by decide +kernel
theorem dX2_signOfText_6 : decode cX2_signOfText 6 = .ok (.iload_n 1, 1) := by decide +kernel
theorem dX2_signOfText_7 : decode cX2_signOfText 7 = .ok (.iadd, 1) := by decide +kernel
theorem dX2_signOfText_8 : decode cX2_signOfText 8 = .ok (.istore_n 2, 1) := by decide +kernel
theorem dX2_signOfText_9 : decode cX2_signOfText 9 = .ok (.iload_n 2, 1) := by decide +kernel
noncomputable def f_X2_signOfText (x1 : Int32) (s : t_S) : Option (Int32) :=
 if (((s.1 1 9) + (1 : Int32)) + x1) < (0 : Int32) then (some (32 : Int32))
 else (if (12000 : Int32) ≤ (((s.1 1 9) + (1 : Int32)) + x1) then (some (32 : Int32))
 else (if t_ix (((s.1 1 9) + (1 : Int32)) + x1) 12000 = true then
  some ((s.1 2 ((((s.1 1 9) + (1 : Int32)) + x1).toNatClampNeg)) &&& (127 : Int32))
else none))
set_option maxRecDepth 4000 in
set_option maxHeartbeats 1000000 in
theorem C_X2_signOfText (x1 : Int32) (s : t_S) (r : Int32) (hr : f_X2_signOfText x1 s = some r) : t_C yX2_signOfText cX2_signOfText 3 (some .int) 0 [.ref 1, .int x1] s (fun v s' => v = some (.int r) ∧ s' = s) := by
  refine t_C.imp (P := fun v s' => s' = s ∧ ∃ x, v = some (.int x) ∧ (fun q => q = r) (x)) (t_C.of (by decide +kernel) (Nat.le_of_ble_eq_true rfl) ?_) (fun v s' hp => by obtain ⟨rfl, x, rfl, rfl⟩ := hp; exact ⟨rfl, rfl⟩)
  intro D cy ad bs X
  have hk : t_hk (f_X2_signOfText x1 s) (fun q => q = r) := ⟨r, hr, rfl⟩
  show mj_G D cy ad bs X cX2_signOfText 3 yX2_signOfText.cls (some .int) yX2_signOfText.name 0 0 0 1065 (t_P (fun v s' => s' = s ∧ ∃ x, v = some (.int x) ∧ (fun q => q = r) (x))) 0 [(0, .ref 1), (1, .int x1)] [] (t_m s) 1065 0 0
  refine mj_aload_n dX2_signOfText_0 0 rfl ?_
  refine t_getI dX2_signOfText_1 F_X2_112 qf_1_9 ?_
  refine mj_iconst (v := 1) dX2_signOfText_4 (by decide) ?_
  refine mj_iadd dX2_signOfText_5 ?_
  refine mj_iload_n dX2_signOfText_6 1 rfl ?_
  refine mj_iadd dX2_signOfText_7 ?_
  refine mj_istore_n 2 (lv2 := [(2, .int (((s.1 1 9) + (1 : Int32)) + x1)), (0, .ref 1), (1, .int x1)]) dX2_signOfText_8 rfl (by decide) rfl ?_
  refine mj_iload_n dX2_signOfText_9 0 rfl ?_
  refine mj_if_lt 32 dX2_signOfText_10 (by decide) (fun z => t_posK hk z (fun hk => ?_)) (fun z => t_negK hk z (fun hk => ?_))
  · refine mj_bipush (v := 32) dX2_signOfText_32 (by decide) ?_
    exact t_somK hk (fun hf => t_iret dX2_signOfText_34 rfl rfl ⟨rfl, _, rfl, hf⟩ (Nat.le_of_ble_eq_true rfl) (Nat.le_of_ble_eq_true rfl))
  · refine mj_iload_n dX2_signOfText_13 0 rfl ?_
    refine mj_sipush (v := 12000) dX2_signOfText_14 (by decide) ?_
    refine mj_icmp_ge 32 dX2_signOfText_17 (by decide) (fun z => t_posK hk z (fun hk => ?_)) (fun z => t_negK hk z (fun hk => ?_))
    · refine mj_bipush (v := 32) dX2_signOfText_32 (by decide) ?_
      exact t_somK hk (fun hf => t_iret dX2_signOfText_34 rfl rfl ⟨rfl, _, rfl, hf⟩ (Nat.le_of_ble_eq_true rfl) (Nat.le_of_ble_eq_true rfl))
    · refine mj_aload_n dX2_signOfText_20 1 rfl ?_
      refine t_getR 2 dX2_signOfText_21 F_X2_11 qr_1_0 ?_
      refine mj_iload_n dX2_signOfText_24 0 rfl ?_
      refine t_chkK hk (fun c0 hk => ?_)
      refine t_bald dX2_signOfText_25 qa_2 (t_ixv c0) ?_
      refine mj_bipush (v := 127) dX2_signOfText_26 (by decide) ?_
      refine mj_iand dX2_signOfText_28 ?_
      refine mj_goto 34 dX2_signOfText_29 (by decide) ?_
      exact t_somK hk (fun hf => t_iret dX2_signOfText_34 rfl rfl ⟨rfl, _, rfl, hf⟩ (Nat.le_of_ble_eq_true rfl) (Nat.le_of_ble_eq_true rfl))

theorem dX6_poolText_0 : decode cX6_poolText 0 = .ok (.aload_n 0, 1) := by decide +kernel
theorem dX6_poolText_1 : decode cX6_poolText 1 = .ok (.getfield 43, 3) := by decide +kernel
theorem dX6_poolText_11 : decode cX6_poolText 11 = .ok (.l2i, 1) := by decide +kernel
theorem dX6_poolText_12 : decode cX6_poolText 12 = .ok (.invokevirtual 433, 3) := by decide +kernel
theorem dX6_poolText_15 : decode cX6_poolText 15 = .ok (.istore_n 1, 1) := by decide +kernel
theorem dX6_poolText_16 : decode cX6_poolText 16 = .ok (.iconst 0, 1) := by decide +kernel
theorem dX6_poolText_17 : decode cX6_poolText 17 = .ok (.istore_n 2, 1) := by decide +kernel
theorem dX6_poolText_18 : decode cX6_poolText 18 = .ok (.iload_n 2, 1) := by decide +kernel
theorem dX6_poolText_19 : decode cX6_poolText 19 = .ok (.i2l, 1) := by decide +kernel
theorem dX6_poolText_20 : decode cX6_poolText 20 = .ok (.aload_n 0, 1) := by decide +kernel
theorem dX6_poolText_21 : decode cX6_poolText 21 = .ok (.getfield 28, 3) := by decide +kernel
theorem dX6_poolText_24 : decode cX6_poolText 24 = .ok (.getfield 338, 3) := by decide +kernel
theorem dX6_poolText_27 : decode cX6_poolText 27 = .ok (.lcmp, 1) := by decide +kernel
theorem dX6_poolText_28 : decode cX6_poolText 28 = .ok (.ifCond .ge 29, 3) := by decide +kernel
theorem dX6_poolText_31 : decode cX6_poolText 31 = .ok (.aload_n 0, 1) := by decide +kernel
theorem dX6_poolText_32 : decode cX6_poolText 32 = .ok (.getfield 43, 3) := by decide +kernel
theorem dX6_poolText_35 : decode cX6_poolText 35 = .ok (.getfield 435, 3) := by decide +kernel
theorem dX6_poolText_38 : decode cX6_poolText 38 = .ok (.iload_n 1, 1) := by decide +kernel
theorem dX6_poolText_39 : decode cX6_poolText 39 = .ok (.iload_n 2, 1) := by decide +kernel
theorem dX6_poolText_4 : decode cX6_poolText 4 = .ok (.aload_n 0, 1) := by decide +kernel
theorem dX6_poolText_40 : decode cX6_poolText 40 = .ok (.aload_n 0, 1) := by decide +kernel
theorem dX6_poolText_41 : decode cX6_poolText 41 = .ok (.getfield 28, 3) := by decide +kernel
theorem dX6_poolText_44 : decode cX6_poolText 44 = .ok (.iload_n 2, 1) := by decide +kernel
theorem dX6_poolText_45 : decode cX6_poolText 45 = .ok (.invokevirtual 438, 3) := by decide +kernel
theorem dX6_poolText_48 : decode cX6_poolText 48 = .ok (.invokestatic 441, 3) := by decide +kernel
theorem dX6_poolText_5 : decode cX6_poolText 5 = .ok (.getfield 28, 3) := by decide +kernel
theorem dX6_poolText_51 : decode cX6_poolText 51 = .ok (.iinc 2 1, 3) := by decide +kernel
theorem dX6_poolText_54 : decode cX6_poolText 54 = .ok (.goto (-36), 3) := by decide +kernel
theorem dX6_poolText_57 : decode cX6_poolText 57 = .ok (.iload_n 1, 1) := by decide +kernel
theorem dX6_poolText_58 : decode cX6_poolText 58 = .ok (.ireturn, 1) := by decide +kernel
theorem dX6_poolText_8 : decode cX6_poolText 8 = .ok (.getfield 338, 3) := by decide +kernel
noncomputable def k_X6_poolText_18 (l1 : Int32) (l2 : Int32) (s : t_S) : Option ((Int32 × Int32 × t_S) ⊕ (Int32 × t_S)) :=
 if (0 : Int32) ≤ (lg_cmp l2.toInt64 (s.2.1 1 10)) then ((some (l1, s)).map Sum.inr)
 else ((f_X2_signOfText l2 s).bind (fun r1 =>
 (f_X8_putSign 337 l1 l2 r1 s).bind (fun r2 =>
 some (.inl (l1, (l2 + 1), r2)))))
set_option maxRecDepth 4000 in
set_option maxHeartbeats 1000000 in
theorem B_X6_poolText_18 {D : va_G} {cy : Nat → ClassId} {ad : Nat → Nat} {bs : Nat} {X : State → Heap → Prop} (l1 : Int32) (l2 : Int32) (s : t_S) (Q : (Int32 × Int32 × t_S) ⊕ (Int32 × t_S) → Prop) (Hb18 : ∀ (y0 : Int32) (y1 : Int32) (y2 : t_S), Q (.inl (y0, y1, y2)) → mj_G D cy ad bs X cX6_poolText 3 yX6_poolText.cls (some .int) yX6_poolText.name 2 0 0 1065 (t_P (fun v s' => ∃ x, v = some (.int x) ∧ Q (.inr ((x, s'))))) 18 [(0, .ref 845), (1, .int (y0)), (2, .int (y1))] [] (t_m y2) 1065 0 0) (hk : t_hk (k_X6_poolText_18 l1 l2 s) Q) : mj_G D cy ad bs X cX6_poolText 3 yX6_poolText.cls (some .int) yX6_poolText.name 2 0 0 1065 (t_P (fun v s' => ∃ x, v = some (.int x) ∧ Q (.inr ((x, s'))))) 18 [(0, .ref 845), (1, .int l1), (2, .int l2)] [] (t_m s) 1065 0 0 := by
  refine mj_iload_n dX6_poolText_18 2 rfl ?_
  refine mj_i2l (v := l2.toInt64) dX6_poolText_19 rfl ?_
  refine mj_aload_n dX6_poolText_20 0 rfl ?_
  refine t_getR 1 dX6_poolText_21 F_X6_28 qr_845_0 ?_
  refine t_getJ dX6_poolText_24 F_X6_338 qf_1_10 ?_
  refine mj_lcmp dX6_poolText_27 ?_
  refine mj_if_ge 57 dX6_poolText_28 (by decide) (fun z => t_posK hk z (fun hk => ?_)) (fun z => t_negK hk z (fun hk => ?_))
  · refine t_mapK hk (fun hk => ?_)
    refine mj_iload_n dX6_poolText_57 1 rfl ?_
    exact t_somK hk (fun hf => t_iret dX6_poolText_58 rfl rfl ⟨_, rfl, hf⟩ (Nat.le_of_ble_eq_true rfl) (Nat.le_of_ble_eq_true rfl))
  · refine mj_aload_n dX6_poolText_31 0 rfl ?_
    refine t_getR 334 dX6_poolText_32 F_X6_43 qr_845_3 ?_
    refine t_getR 337 dX6_poolText_35 F_X6_435 qr_334_3 ?_
    refine mj_iload_n dX6_poolText_38 1 rfl ?_
    refine mj_iload_n dX6_poolText_39 2 rfl ?_
    refine mj_aload_n dX6_poolText_40 0 rfl ?_
    refine t_getR 1 dX6_poolText_41 F_X6_28 qr_845_0 ?_
    refine mj_iload_n dX6_poolText_44 2 rfl ?_
    refine t_bndK hk (fun r1 er1 hk => ?_)
    refine t_callViP dX6_poolText_45 M_X2_signOfText (C_X2_signOfText _ _ _ er1) ML_X6_438 IM_X2_signOfText SE_X2_signOfText qc_1 rfl (As := [.int l2]) rfl rfl (Nat.le_of_ble_eq_true rfl) (Nat.le_of_ble_eq_true rfl) (Nat.le_of_ble_eq_true rfl) (Nat.le_of_ble_eq_true rfl) ?_
    refine t_bndK hk (fun r2 er2 hk => ?_)
    refine t_callSvE dX6_poolText_48 M_X8_putSign (C_X8_putSign _ _ _ _ _ _ er2) ML_X6_441 SM_X8_putSign (As := [.ref 337, .int l1, .int l2, .int r1]) rfl rfl (Nat.le_of_ble_eq_true rfl) (Nat.le_of_ble_eq_true rfl) (Nat.le_of_ble_eq_true rfl) (Nat.le_of_ble_eq_true rfl) ?_
    refine mj_iinc (k := 2) (v := (l2 + 1)) (lv2 := [(2, .int (l2 + 1)), (0, .ref 845), (1, .int l1)]) dX6_poolText_51 rfl rfl (by decide) rfl ?_
    refine mj_goto 18 dX6_poolText_54 (by decide) ?_
    refine mj_sublv [(0, .ref 845), (1, .int l1), (2, .int (l2 + 1))] [1, 2, 0] rfl ?_
    exact t_somK hk (fun hf => Hb18 l1 (l2 + 1) r2 hf)
noncomputable def b_X6_poolText_18 (x : Int32 × Int32 × t_S) : Option ((Int32 × Int32 × t_S) ⊕ (Int32 × t_S)) := k_X6_poolText_18 x.1 x.2.1 x.2.2
set_option maxRecDepth 4000 in
set_option maxHeartbeats 1000000 in
theorem LH_X6_poolText_18 {D : va_G} {cy : Nat → ClassId} {ad : Nat → Nat} {bs : Nat} {X : State → Heap → Prop} : ∀ (n : Nat) (y0 : Int32) (y1 : Int32) (y2 : t_S) (Q : Int32 × t_S → Prop) (hk : t_hk (t_loop (b_X6_poolText_18) n (y0, y1, y2)) Q), mj_G D cy ad bs X cX6_poolText 3 yX6_poolText.cls (some .int) yX6_poolText.name 2 0 0 1065 (t_P (fun v s' => ∃ x, v = some (.int x) ∧ Q ((x, s')))) 18 [(0, .ref 845), (1, .int (y0)), (2, .int (y1))] [] (t_m y2) 1065 0 0 := by
  intro n
  induction n with
  | zero => intro y0 y1 y2 Q hk; obtain ⟨r, hr, _⟩ := hk; cases hr
  | succ n ih =>
    intro y0 y1 y2 Q hk
    exact B_X6_poolText_18 y0 y1 y2 (fun y => t_lq (b_X6_poolText_18) n Q y) (fun y0' y1' y2' hy => ih y0' y1' y2' Q hy) (t_lp hk)
noncomputable def f_X6_poolText (s : t_S) : Option (Int32 × t_S) :=
 (f_X0_poolText ((s.2.1 1 10).toInt32) s).bind (fun r1 =>
 t_loop (b_X6_poolText_18) t_N (r1.1, 0, r1.2))
set_option maxRecDepth 4000 in
set_option maxHeartbeats 1000000 in
theorem C_X6_poolText (s : t_S) (r : Int32 × t_S) (hr : f_X6_poolText s = some r) : t_C yX6_poolText cX6_poolText 3 (some .int) 2 [.ref 845] s (fun v s' => v = some (.int r.1) ∧ s' = r.2) := by
  refine t_C.imp (P := fun v s' => ∃ x, v = some (.int x) ∧ (fun q => q = r) ((x, s'))) (t_C.of (by decide +kernel) (Nat.le_of_ble_eq_true rfl) ?_) (fun v s' hp => by obtain ⟨x, rfl, rfl⟩ := hp; exact ⟨rfl, rfl⟩)
  intro D cy ad bs X
  have hk : t_hk (f_X6_poolText s) (fun q => q = r) := ⟨r, hr, rfl⟩
  show mj_G D cy ad bs X cX6_poolText 3 yX6_poolText.cls (some .int) yX6_poolText.name 2 0 0 1065 (t_P (fun v s' => ∃ x, v = some (.int x) ∧ (fun q => q = r) ((x, s')))) 0 [(0, .ref 845)] [] (t_m s) 1065 0 0
  refine mj_aload_n dX6_poolText_0 0 rfl ?_
  refine t_getR 334 dX6_poolText_1 F_X6_43 qr_845_3 ?_
  refine mj_aload_n dX6_poolText_4 0 rfl ?_
  refine t_getR 1 dX6_poolText_5 F_X6_28 qr_845_0 ?_
  refine t_getJ dX6_poolText_8 F_X6_338 qf_1_10 ?_
  refine mj_l2i (v := (s.2.1 1 10).toInt32) dX6_poolText_11 rfl ?_
  refine t_bndK hk (fun r1 er1 hk => ?_)
  refine t_callViE dX6_poolText_12 M_X0_poolText (C_X0_poolText _ _ _ er1) ML_X6_433 IM_X0_poolText SE_X0_poolText qc_334 rfl (As := [.int ((s.2.1 1 10).toInt32)]) rfl rfl (Nat.le_of_ble_eq_true rfl) (Nat.le_of_ble_eq_true rfl) (Nat.le_of_ble_eq_true rfl) (Nat.le_of_ble_eq_true rfl) ?_
  refine mj_istore_n 1 (lv2 := [(1, .int r1.1), (0, .ref 845)]) dX6_poolText_15 rfl (by decide) rfl ?_
  refine mj_iconst (v := 0) dX6_poolText_16 (by decide) ?_
  refine mj_istore_n 2 (lv2 := [(2, .int 0), (1, .int r1.1), (0, .ref 845)]) dX6_poolText_17 rfl (by decide) rfl ?_
  refine mj_sublv [(0, .ref 845), (1, .int r1.1), (2, .int 0)] [2, 1, 0] rfl ?_
  exact LH_X6_poolText_18 _ r1.1 0 r1.2 _ hk

theorem dX6_isOpen_0 : decode cX6_isOpen 0 = .ok (.iload_n 1, 1) := by decide +kernel
theorem dX6_isOpen_1 : decode cX6_isOpen 1 = .ok (.istore_n 3, 1) := by decide +kernel
theorem dX6_isOpen_10 : decode cX6_isOpen 10 = .ok (.aload_n 0, 1) := by decide +kernel
theorem dX6_isOpen_11 : decode cX6_isOpen 11 = .ok (.getfield 15, 3) := by decide +kernel
theorem dX6_isOpen_14 : decode cX6_isOpen 14 = .ok (.iload_n 3, 1) := by decide +kernel
theorem dX6_isOpen_15 : decode cX6_isOpen 15 = .ok (.iaload, 1) := by decide +kernel
theorem dX6_isOpen_16 : decode cX6_isOpen 16 = .ok (.iload_n 2, 1) := by decide +kernel
theorem dX6_isOpen_17 : decode cX6_isOpen 17 = .ok (.if_icmp .ne 5, 3) := by decide +kernel
theorem dX6_isOpen_2 : decode cX6_isOpen 2 = .ok (.iload_n 3, 1) := by decide +kernel
theorem dX6_isOpen_20 : decode cX6_isOpen 20 = .ok (.iconst 1, 1) := by decide +kernel
theorem dX6_isOpen_21 : decode cX6_isOpen 21 = .ok (.ireturn, 1) := by decide +kernel
theorem dX6_isOpen_22 : decode cX6_isOpen 22 = .ok (.iinc 3 1, 3) := by decide +kernel
theorem dX6_isOpen_25 : decode cX6_isOpen 25 = .ok (.goto (-23), 3) := by decide +kernel
theorem dX6_isOpen_28 : decode cX6_isOpen 28 = .ok (.iconst 0, 1) := by decide +kernel
theorem dX6_isOpen_29 : decode cX6_isOpen 29 = .ok (.ireturn, 1) := by decide +kernel
theorem dX6_isOpen_3 : decode cX6_isOpen 3 = .ok (.aload_n 0, 1) := by decide +kernel
theorem dX6_isOpen_4 : decode cX6_isOpen 4 = .ok (.getfield 131, 3) := by decide +kernel
theorem dX6_isOpen_7 : decode cX6_isOpen 7 = .ok (.if_icmp .ge 21, 3) := by decide +kernel
noncomputable def k_X6_isOpen_2 (l2 : Int32) (l3 : Int32) (s : t_S) : Option ((Int32 × Int32) ⊕ (Int32)) :=
 if (s.1 845 9) ≤ l3 then ((some (0 : Int32)).map Sum.inr)
 else (if t_ix l3 288 = true then
  if (s.1 855 (l3.toNatClampNeg)) = l2 then ((some (1 : Int32)).map Sum.inr)
 else (some (.inl (l2, (l3 + 1))))
else none)
set_option maxRecDepth 4000 in
set_option maxHeartbeats 1000000 in
theorem B_X6_isOpen_2 {D : va_G} {cy : Nat → ClassId} {ad : Nat → Nat} {bs : Nat} {X : State → Heap → Prop} (l2 : Int32) (l3 : Int32) (s : t_S) (Q : (Int32 × Int32) ⊕ (Int32) → Prop) (Hb2 : ∀ (y0 : Int32) (y1 : Int32), Q (.inl (y0, y1)) → mj_G D cy ad bs X cX6_isOpen 4 yX6_isOpen.cls (some .boolean) yX6_isOpen.name 0 0 0 1065 (t_P (fun v s' => s' = s ∧ ∃ x, v = some (.int x) ∧ Q (.inr (x)))) 2 [(0, .ref 845), (2, .int (y0)), (3, .int (y1))] [] (t_m s) 1065 0 0) (hk : t_hk (k_X6_isOpen_2 l2 l3 s) Q) : mj_G D cy ad bs X cX6_isOpen 4 yX6_isOpen.cls (some .boolean) yX6_isOpen.name 0 0 0 1065 (t_P (fun v s' => s' = s ∧ ∃ x, v = some (.int x) ∧ Q (.inr (x)))) 2 [(0, .ref 845), (2, .int l2), (3, .int l3)] [] (t_m s) 1065 0 0 := by
  refine mj_iload_n dX6_isOpen_2 2 rfl ?_
  refine mj_aload_n dX6_isOpen_3 0 rfl ?_
  refine t_getI dX6_isOpen_4 F_X6_131 qf_845_9 ?_
  refine mj_icmp_ge 28 dX6_isOpen_7 (by decide) (fun z => t_posK hk z (fun hk => ?_)) (fun z => t_negK hk z (fun hk => ?_))
  · refine t_mapK hk (fun hk => ?_)
    refine mj_iconst (v := 0) dX6_isOpen_28 (by decide) ?_
    exact t_somK hk (fun hf => t_iret dX6_isOpen_29 rfl (by decide) ⟨rfl, _, rfl, hf⟩ (Nat.le_of_ble_eq_true rfl) (Nat.le_of_ble_eq_true rfl))
  · refine mj_aload_n dX6_isOpen_10 0 rfl ?_
    refine t_getR 855 dX6_isOpen_11 F_X6_15 qr_845_8 ?_
    refine mj_iload_n dX6_isOpen_14 2 rfl ?_
    refine t_chkK hk (fun c0 hk => ?_)
    refine t_iald dX6_isOpen_15 qa_855 (t_ixv c0) ?_
    refine mj_iload_n dX6_isOpen_16 1 rfl ?_
    refine mj_icmp_ne 22 dX6_isOpen_17 (by decide) (fun z => t_negK hk z (fun hk => ?_)) (fun z => t_posK hk z (fun hk => ?_))
    · refine mj_iinc (k := 2) (v := (l3 + 1)) (lv2 := [(3, .int (l3 + 1)), (0, .ref 845), (2, .int l2)]) dX6_isOpen_22 rfl rfl (by decide) rfl ?_
      refine mj_goto 2 dX6_isOpen_25 (by decide) ?_
      refine mj_sublv [(0, .ref 845), (2, .int l2), (3, .int (l3 + 1))] [1, 2, 0] rfl ?_
      exact t_somK hk (fun hf => Hb2 l2 (l3 + 1) hf)
    · refine t_mapK hk (fun hk => ?_)
      refine mj_iconst (v := 1) dX6_isOpen_20 (by decide) ?_
      exact t_somK hk (fun hf => t_iret dX6_isOpen_21 rfl (by decide) ⟨rfl, _, rfl, hf⟩ (Nat.le_of_ble_eq_true rfl) (Nat.le_of_ble_eq_true rfl))
noncomputable def b_X6_isOpen_2 (s : t_S) (x : Int32 × Int32) : Option ((Int32 × Int32) ⊕ (Int32)) := k_X6_isOpen_2 x.1 x.2 s
set_option maxRecDepth 4000 in
set_option maxHeartbeats 1000000 in
theorem LH_X6_isOpen_2 {D : va_G} {cy : Nat → ClassId} {ad : Nat → Nat} {bs : Nat} {X : State → Heap → Prop} (s : t_S) : ∀ (n : Nat) (y0 : Int32) (y1 : Int32) (Q : Int32 → Prop) (hk : t_hk (t_loop (b_X6_isOpen_2 s) n (y0, y1)) Q), mj_G D cy ad bs X cX6_isOpen 4 yX6_isOpen.cls (some .boolean) yX6_isOpen.name 0 0 0 1065 (t_P (fun v s' => s' = s ∧ ∃ x, v = some (.int x) ∧ Q (x))) 2 [(0, .ref 845), (2, .int (y0)), (3, .int (y1))] [] (t_m s) 1065 0 0 := by
  intro n
  induction n with
  | zero => intro y0 y1 Q hk; obtain ⟨r, hr, _⟩ := hk; cases hr
  | succ n ih =>
    intro y0 y1 Q hk
    exact B_X6_isOpen_2 y0 y1 s (fun y => t_lq (b_X6_isOpen_2 s) n Q y) (fun y0' y1' hy => ih y0' y1' Q hy) (t_lp hk)
noncomputable def f_X6_isOpen (x1 : Int32) (x2 : Int32) (s : t_S) : Option (Int32) :=
 t_loop (b_X6_isOpen_2 s) t_N (x2, x1)
set_option maxRecDepth 4000 in
set_option maxHeartbeats 1000000 in
theorem C_X6_isOpen (x1 : Int32) (x2 : Int32) (s : t_S) (r : Int32) (hr : f_X6_isOpen x1 x2 s = some r) : t_C yX6_isOpen cX6_isOpen 4 (some .boolean) 0 [.ref 845, .int x1, .int x2] s (fun v s' => v = some (.int r) ∧ s' = s) := by
  refine t_C.imp (P := fun v s' => s' = s ∧ ∃ x, v = some (.int x) ∧ (fun q => q = r) (x)) (t_C.of (by decide +kernel) (Nat.le_of_ble_eq_true rfl) ?_) (fun v s' hp => by obtain ⟨rfl, x, rfl, rfl⟩ := hp; exact ⟨rfl, rfl⟩)
  intro D cy ad bs X
  have hk : t_hk (f_X6_isOpen x1 x2 s) (fun q => q = r) := ⟨r, hr, rfl⟩
  show mj_G D cy ad bs X cX6_isOpen 4 yX6_isOpen.cls (some .boolean) yX6_isOpen.name 0 0 0 1065 (t_P (fun v s' => s' = s ∧ ∃ x, v = some (.int x) ∧ (fun q => q = r) (x))) 0 [(0, .ref 845), (1, .int x1), (2, .int x2)] [] (t_m s) 1065 0 0
  refine mj_iload_n dX6_isOpen_0 1 rfl ?_
  refine mj_istore_n 3 (lv2 := [(3, .int x1), (0, .ref 845), (1, .int x1), (2, .int x2)]) dX6_isOpen_1 rfl (by decide) rfl ?_
  refine mj_sublv [(0, .ref 845), (2, .int x2), (3, .int x1)] [1, 3, 0] rfl ?_
  exact LH_X6_isOpen_2 _ _ x2 x1 _ hk

theorem dX6_takeFieldName_0 : decode cX6_takeFieldName 0 = .ok (.aload_n 0, 1) := by decide +kernel
theorem dX6_takeFieldName_1 : decode cX6_takeFieldName 1 = .ok (.getfield 28, 3) := by decide +kernel
theorem dX6_takeFieldName_11 : decode cX6_takeFieldName 11 = .ok (.aload_n 0, 1) := by decide +kernel
theorem dX6_takeFieldName_12 : decode cX6_takeFieldName 12 = .ok (.getfield 28, 3) := by decide +kernel
theorem dX6_takeFieldName_15 : decode cX6_takeFieldName 15 = .ok (.iconst 2, 1) := by decide +kernel
theorem dX6_takeFieldName_16 : decode cX6_takeFieldName 16 = .ok (.invokevirtual 100, 3) := by decide +kernel
theorem dX6_takeFieldName_19 : decode cX6_takeFieldName 19 = .ok (.aload_n 0, 1) := by decide +kernel
theorem dX6_takeFieldName_20 : decode cX6_takeFieldName 20 = .ok (.getfield 28, 3) := by decide +kernel
theorem dX6_takeFieldName_23 : decode cX6_takeFieldName 23 = .ok (.getfield 82, 3) := by decide +kernel
theorem dX6_takeFieldName_26 : decode cX6_takeFieldName 26 = .ok (.ifCond .eq 5, 3) := by decide +kernel
theorem dX6_takeFieldName_29 : decode cX6_takeFieldName 29 = .ok (.iconst 0, 1) := by decide +kernel
theorem dX6_takeFieldName_30 : decode cX6_takeFieldName 30 = .ok (.ireturn, 1) := by decide +kernel
theorem dX6_takeFieldName_31 : decode cX6_takeFieldName 31 = .ok (.aload_n 0, 1) := by decide +kernel
theorem dX6_takeFieldName_32 : decode cX6_takeFieldName 32 = .ok (.getfield 28, 3) := by decide +kernel
theorem dX6_takeFieldName_35 : decode cX6_takeFieldName 35 = .ok (.invokevirtual 166, 3) := by decide +kernel
theorem dX6_takeFieldName_38 : decode cX6_takeFieldName 38 = .ok (.istore_n 1, 1) := by decide +kernel
theorem dX6_takeFieldName_39 : decode cX6_takeFieldName 39 = .ok (.iload_n 1, 1) := by decide +kernel
theorem dX6_takeFieldName_4 : decode cX6_takeFieldName 4 = .ok (.getfield 85, 3) := by decide +kernel
theorem dX6_takeFieldName_40 : decode cX6_takeFieldName 40 = .ok (.aload_n 0, 1) := by decide +kernel
theorem dX6_takeFieldName_41 : decode cX6_takeFieldName 41 = .ok (.getfield 76, 3) := by decide +kernel
theorem dX6_takeFieldName_44 : decode cX6_takeFieldName 44 = .ok (.if_icmp .lt 18, 3) := by decide +kernel
theorem dX6_takeFieldName_47 : decode cX6_takeFieldName 47 = .ok (.aload_n 0, 1) := by decide +kernel
theorem dX6_takeFieldName_48 : decode cX6_takeFieldName 48 = .ok (.getfield 18, 3) := by decide +kernel
theorem dX6_takeFieldName_51 : decode cX6_takeFieldName 51 = .ok (.iconst 4, 1) := by decide +kernel
theorem dX6_takeFieldName_52 : decode cX6_takeFieldName 52 = .ok (.aload_n 0, 1) := by decide +kernel
theorem dX6_takeFieldName_53 : decode cX6_takeFieldName 53 = .ok (.getfield 28, 3) := by decide +kernel
theorem dX6_takeFieldName_56 : decode cX6_takeFieldName 56 = .ok (.getfield 183, 3) := by decide +kernel
theorem dX6_takeFieldName_59 : decode cX6_takeFieldName 59 = .ok (.invokevirtual 491, 3) := by decide +kernel
theorem dX6_takeFieldName_62 : decode cX6_takeFieldName 62 = .ok (.aload_n 0, 1) := by decide +kernel
theorem dX6_takeFieldName_63 : decode cX6_takeFieldName 63 = .ok (.getfield 28, 3) := by decide +kernel
theorem dX6_takeFieldName_66 : decode cX6_takeFieldName 66 = .ok (.invokevirtual 170, 3) := by decide +kernel
theorem dX6_takeFieldName_69 : decode cX6_takeFieldName 69 = .ok (.iload_n 1, 1) := by decide +kernel
theorem dX6_takeFieldName_7 : decode cX6_takeFieldName 7 = .ok (.iconst 1, 1) := by decide +kernel
theorem dX6_takeFieldName_70 : decode cX6_takeFieldName 70 = .ok (.ireturn, 1) := by decide +kernel
theorem dX6_takeFieldName_8 : decode cX6_takeFieldName 8 = .ok (.if_icmp .eq 11, 3) := by decide +kernel
noncomputable def k_X6_takeFieldName_62 (l1 : Int32) (s : t_S) : Option (Int32 × t_S) :=
 (f_X2_advance s).bind (fun r1 =>
 some (l1, r1))
set_option maxRecDepth 4000 in
set_option maxHeartbeats 1000000 in
theorem B_X6_takeFieldName_62 {D : va_G} {cy : Nat → ClassId} {ad : Nat → Nat} {bs : Nat} {X : State → Heap → Prop} (l1 : Int32) (s : t_S) (Q : Int32 × t_S → Prop) (hk : t_hk (k_X6_takeFieldName_62 l1 s) Q) : mj_G D cy ad bs X cX6_takeFieldName 2 yX6_takeFieldName.cls (some .int) yX6_takeFieldName.name 1 0 0 1065 (t_P (fun v s' => ∃ x, v = some (.int x) ∧ Q ((x, s')))) 62 [(0, .ref 845), (1, .int l1)] [] (t_m s) 1065 0 0 := by
  refine mj_aload_n dX6_takeFieldName_62 0 rfl ?_
  refine t_getR 1 dX6_takeFieldName_63 F_X6_28 qr_845_0 ?_
  refine t_bndK hk (fun r1 er1 hk => ?_)
  refine t_callVvE dX6_takeFieldName_66 M_X2_advance (C_X2_advance _ _ er1) ML_X6_170 IM_X2_advance SE_X2_advance qc_1 rfl (As := []) rfl rfl (Nat.le_of_ble_eq_true rfl) (Nat.le_of_ble_eq_true rfl) (Nat.le_of_ble_eq_true rfl) (Nat.le_of_ble_eq_true rfl) ?_
  refine mj_iload_n dX6_takeFieldName_69 1 rfl ?_
  exact t_somK hk (fun hf => t_iret dX6_takeFieldName_70 rfl rfl ⟨_, rfl, hf⟩ (Nat.le_of_ble_eq_true rfl) (Nat.le_of_ble_eq_true rfl))
noncomputable def k_X6_takeFieldName_19 (s : t_S) : Option (Int32 × t_S) :=
 if (s.1 1 11) = (0 : Int32) then (if (f_X2_word s) < (s.1 845 16) then (k_X6_takeFieldName_62 (f_X2_word s) s)
 else ((f_X3_late (4 : Int32) (s.1 1 9) s).bind (fun r2 =>
 k_X6_takeFieldName_62 (f_X2_word s) r2)))
 else (some ((0 : Int32), s))
set_option maxRecDepth 4000 in
set_option maxHeartbeats 1000000 in
theorem B_X6_takeFieldName_19 {D : va_G} {cy : Nat → ClassId} {ad : Nat → Nat} {bs : Nat} {X : State → Heap → Prop} (s : t_S) (Q : Int32 × t_S → Prop) (hk : t_hk (k_X6_takeFieldName_19 s) Q) : mj_G D cy ad bs X cX6_takeFieldName 2 yX6_takeFieldName.cls (some .int) yX6_takeFieldName.name 1 0 0 1065 (t_P (fun v s' => ∃ x, v = some (.int x) ∧ Q ((x, s')))) 19 [(0, .ref 845)] [] (t_m s) 1065 0 0 := by
  refine mj_aload_n dX6_takeFieldName_19 0 rfl ?_
  refine t_getR 1 dX6_takeFieldName_20 F_X6_28 qr_845_0 ?_
  refine t_getI dX6_takeFieldName_23 F_X6_82 qf_1_11 ?_
  refine mj_if_eq 31 dX6_takeFieldName_26 (by decide) (fun z => t_posK hk z (fun hk => ?_)) (fun z => t_negK hk z (fun hk => ?_))
  · refine mj_aload_n dX6_takeFieldName_31 0 rfl ?_
    refine t_getR 1 dX6_takeFieldName_32 F_X6_28 qr_845_0 ?_
    refine t_callViP dX6_takeFieldName_35 M_X2_word (C_X2_word _) ML_X6_166 IM_X2_word SE_X2_word qc_1 rfl (As := []) rfl rfl (Nat.le_of_ble_eq_true rfl) (Nat.le_of_ble_eq_true rfl) (Nat.le_of_ble_eq_true rfl) (Nat.le_of_ble_eq_true rfl) ?_
    refine mj_istore_n 1 (lv2 := [(1, .int (f_X2_word s)), (0, .ref 845)]) dX6_takeFieldName_38 rfl (by decide) rfl ?_
    refine mj_iload_n dX6_takeFieldName_39 0 rfl ?_
    refine mj_aload_n dX6_takeFieldName_40 1 rfl ?_
    refine t_getI dX6_takeFieldName_41 F_X6_76 qf_845_16 ?_
    refine mj_icmp_lt 62 dX6_takeFieldName_44 (by decide) (fun z => t_posK hk z (fun hk => ?_)) (fun z => t_negK hk z (fun hk => ?_))
    · refine mj_sublv [(0, .ref 845), (1, .int (f_X2_word s))] [1, 0] rfl ?_
      exact B_X6_takeFieldName_62 _ _ _ hk
    · refine mj_aload_n dX6_takeFieldName_47 1 rfl ?_
      refine t_getR 846 dX6_takeFieldName_48 F_X6_18 qr_845_5 ?_
      refine mj_iconst (v := 4) dX6_takeFieldName_51 (by decide) ?_
      refine mj_aload_n dX6_takeFieldName_52 1 rfl ?_
      refine t_getR 1 dX6_takeFieldName_53 F_X6_28 qr_845_0 ?_
      refine t_getI dX6_takeFieldName_56 F_X6_183 qf_1_9 ?_
      refine t_bndK hk (fun r2 er2 hk => ?_)
      refine t_callVvE dX6_takeFieldName_59 M_X3_late (C_X3_late _ _ _ _ er2) ML_X6_491 IM_X3_late SE_X3_late qc_846 rfl (As := [.int 4, .int (s.1 1 9)]) rfl rfl (Nat.le_of_ble_eq_true rfl) (Nat.le_of_ble_eq_true rfl) (Nat.le_of_ble_eq_true rfl) (Nat.le_of_ble_eq_true rfl) ?_
      refine mj_sublv [(0, .ref 845), (1, .int (f_X2_word s))] [1, 0] rfl ?_
      exact B_X6_takeFieldName_62 _ _ _ hk
  · refine mj_iconst (v := 0) dX6_takeFieldName_29 (by decide) ?_
    exact t_somK hk (fun hf => t_iret dX6_takeFieldName_30 rfl rfl ⟨_, rfl, hf⟩ (Nat.le_of_ble_eq_true rfl) (Nat.le_of_ble_eq_true rfl))
noncomputable def f_X6_takeFieldName (s : t_S) : Option (Int32 × t_S) :=
 if (s.1 1 8) = (1 : Int32) then (k_X6_takeFieldName_19 s)
 else ((f_X2_fail (2 : Int32) s).bind (fun r1 =>
 k_X6_takeFieldName_19 r1))
set_option maxRecDepth 4000 in
set_option maxHeartbeats 1000000 in
theorem C_X6_takeFieldName (s : t_S) (r : Int32 × t_S) (hr : f_X6_takeFieldName s = some r) : t_C yX6_takeFieldName cX6_takeFieldName 2 (some .int) 1 [.ref 845] s (fun v s' => v = some (.int r.1) ∧ s' = r.2) := by
  refine t_C.imp (P := fun v s' => ∃ x, v = some (.int x) ∧ (fun q => q = r) ((x, s'))) (t_C.of (by decide +kernel) (Nat.le_of_ble_eq_true rfl) ?_) (fun v s' hp => by obtain ⟨x, rfl, rfl⟩ := hp; exact ⟨rfl, rfl⟩)
  intro D cy ad bs X
  have hk : t_hk (f_X6_takeFieldName s) (fun q => q = r) := ⟨r, hr, rfl⟩
  show mj_G D cy ad bs X cX6_takeFieldName 2 yX6_takeFieldName.cls (some .int) yX6_takeFieldName.name 1 0 0 1065 (t_P (fun v s' => ∃ x, v = some (.int x) ∧ (fun q => q = r) ((x, s')))) 0 [(0, .ref 845)] [] (t_m s) 1065 0 0
  refine mj_aload_n dX6_takeFieldName_0 0 rfl ?_
  refine t_getR 1 dX6_takeFieldName_1 F_X6_28 qr_845_0 ?_
  refine t_getI dX6_takeFieldName_4 F_X6_85 qf_1_8 ?_
  refine mj_iconst (v := 1) dX6_takeFieldName_7 (by decide) ?_
  refine mj_icmp_eq 19 dX6_takeFieldName_8 (by decide) (fun z => t_posK hk z (fun hk => ?_)) (fun z => t_negK hk z (fun hk => ?_))
  · exact B_X6_takeFieldName_19 _ _ hk
  · refine mj_aload_n dX6_takeFieldName_11 0 rfl ?_
    refine t_getR 1 dX6_takeFieldName_12 F_X6_28 qr_845_0 ?_
    refine mj_iconst (v := 2) dX6_takeFieldName_15 (by decide) ?_
    refine t_bndK hk (fun r1 er1 hk => ?_)
    refine t_callVvE dX6_takeFieldName_16 M_X2_fail (C_X2_fail _ _ _ er1) ML_X6_100 IM_X2_fail SE_X2_fail qc_1 rfl (As := [.int 2]) rfl rfl (Nat.le_of_ble_eq_true rfl) (Nat.le_of_ble_eq_true rfl) (Nat.le_of_ble_eq_true rfl) (Nat.le_of_ble_eq_true rfl) ?_
    exact B_X6_takeFieldName_19 _ _ hk

theorem dX6_beginsTempl_0 : decode cX6_beginsTempl 0 = .ok (.iload_n 0, 1) := by decide +kernel
theorem dX6_beginsTempl_1 : decode cX6_beginsTempl 1 = .ok (.lookupswitch 165 #[(1, 163), (2, 163), (3, 163), (40, 163), (42, 163), (45, 163), (61, 163), (63, 163), (64, 163), (91, 163), (123, 163), (221, 163), (222, 163), (223, 163), (224, 163), (225, 163), (226, 163), (227, 163), (228, 163)], 163) := by decide +kernel
theorem dX6_beginsTempl_164 : decode cX6_beginsTempl 164 = .ok (.iconst 1, 1) := by decide +kernel
theorem dX6_beginsTempl_165 : decode cX6_beginsTempl 165 = .ok (.ireturn, 1) := by decide +kernel
theorem dX6_beginsTempl_166 : decode cX6_beginsTempl 166 = .ok (.iconst 0, 1) := by decide +kernel
theorem dX6_beginsTempl_167 : decode cX6_beginsTempl 167 = .ok (.ireturn, 1) := by decide +kernel
noncomputable def f_X6_beginsTempl (x1 : Int32) (s : t_S) : Int32 :=
 if x1.toInt = 1 then ((1 : Int32))
 else if x1.toInt = 2 then ((1 : Int32))
 else if x1.toInt = 3 then ((1 : Int32))
 else if x1.toInt = 40 then ((1 : Int32))
 else if x1.toInt = 42 then ((1 : Int32))
 else if x1.toInt = 45 then ((1 : Int32))
 else if x1.toInt = 61 then ((1 : Int32))
 else if x1.toInt = 63 then ((1 : Int32))
 else if x1.toInt = 64 then ((1 : Int32))
 else if x1.toInt = 91 then ((1 : Int32))
 else if x1.toInt = 123 then ((1 : Int32))
 else if x1.toInt = 221 then ((1 : Int32))
 else if x1.toInt = 222 then ((1 : Int32))
 else if x1.toInt = 223 then ((1 : Int32))
 else if x1.toInt = 224 then ((1 : Int32))
 else if x1.toInt = 225 then ((1 : Int32))
 else if x1.toInt = 226 then ((1 : Int32))
 else if x1.toInt = 227 then ((1 : Int32))
 else if x1.toInt = 228 then ((1 : Int32))
 else ((0 : Int32))
set_option maxRecDepth 4000 in
set_option maxHeartbeats 1000000 in
theorem C_X6_beginsTempl (x1 : Int32) (s : t_S) : t_C yX6_beginsTempl cX6_beginsTempl 1 (some .boolean) 0 [.int x1] s (fun v s' => v = some (.int (f_X6_beginsTempl x1 s)) ∧ s' = s) := by
  refine t_C.imp (P := fun v s' => s' = s ∧ ∃ x, v = some (.int x) ∧ (fun r => r = f_X6_beginsTempl x1 s) (x)) (t_C.of (by decide +kernel) (Nat.le_of_ble_eq_true rfl) ?_) (fun v s' hp => by obtain ⟨rfl, x, rfl, rfl⟩ := hp; exact ⟨rfl, rfl⟩)
  intro D cy ad bs X
  have hk : t_ht (f_X6_beginsTempl x1 s) (fun r => r = f_X6_beginsTempl x1 s) := rfl
  show mj_G D cy ad bs X cX6_beginsTempl 1 yX6_beginsTempl.cls (some .boolean) yX6_beginsTempl.name 0 0 0 1065 (t_P (fun v s' => s' = s ∧ ∃ x, v = some (.int x) ∧ (fun r => r = f_X6_beginsTempl x1 s) (x))) 0 [(0, .int x1)] [] (t_m s) 1065 0 0
  refine mj_iload_n dX6_beginsTempl_0 0 rfl ?_
  by_cases h0 : x1.toInt = 1
  · replace hk := t_posT hk h0
    refine mj_lookup 164 dX6_beginsTempl_1 (by decide) (by rw [h0] <;> rfl) (by decide) ?_
    refine mj_iconst (v := 1) dX6_beginsTempl_164 (by decide) ?_
    exact t_iret dX6_beginsTempl_165 rfl (by decide) ⟨rfl, _, rfl, hk⟩ (Nat.le_of_ble_eq_true rfl) (Nat.le_of_ble_eq_true rfl)
  replace hk := t_negT hk h0
  by_cases h1 : x1.toInt = 2
  · replace hk := t_posT hk h1
    refine mj_lookup 164 dX6_beginsTempl_1 (by decide) (by rw [h1] <;> rfl) (by decide) ?_
    refine mj_iconst (v := 1) dX6_beginsTempl_164 (by decide) ?_
    exact t_iret dX6_beginsTempl_165 rfl (by decide) ⟨rfl, _, rfl, hk⟩ (Nat.le_of_ble_eq_true rfl) (Nat.le_of_ble_eq_true rfl)
  replace hk := t_negT hk h1
  by_cases h2 : x1.toInt = 3
  · replace hk := t_posT hk h2
    refine mj_lookup 164 dX6_beginsTempl_1 (by decide) (by rw [h2] <;> rfl) (by decide) ?_
    refine mj_iconst (v := 1) dX6_beginsTempl_164 (by decide) ?_
    exact t_iret dX6_beginsTempl_165 rfl (by decide) ⟨rfl, _, rfl, hk⟩ (Nat.le_of_ble_eq_true rfl) (Nat.le_of_ble_eq_true rfl)
  replace hk := t_negT hk h2
  by_cases h3 : x1.toInt = 40
  · replace hk := t_posT hk h3
    refine mj_lookup 164 dX6_beginsTempl_1 (by decide) (by rw [h3] <;> rfl) (by decide) ?_
    refine mj_iconst (v := 1) dX6_beginsTempl_164 (by decide) ?_
    exact t_iret dX6_beginsTempl_165 rfl (by decide) ⟨rfl, _, rfl, hk⟩ (Nat.le_of_ble_eq_true rfl) (Nat.le_of_ble_eq_true rfl)
  replace hk := t_negT hk h3
  by_cases h4 : x1.toInt = 42
  · replace hk := t_posT hk h4
    refine mj_lookup 164 dX6_beginsTempl_1 (by decide) (by rw [h4] <;> rfl) (by decide) ?_
    refine mj_iconst (v := 1) dX6_beginsTempl_164 (by decide) ?_
    exact t_iret dX6_beginsTempl_165 rfl (by decide) ⟨rfl, _, rfl, hk⟩ (Nat.le_of_ble_eq_true rfl) (Nat.le_of_ble_eq_true rfl)
  replace hk := t_negT hk h4
  by_cases h5 : x1.toInt = 45
  · replace hk := t_posT hk h5
    refine mj_lookup 164 dX6_beginsTempl_1 (by decide) (by rw [h5] <;> rfl) (by decide) ?_
    refine mj_iconst (v := 1) dX6_beginsTempl_164 (by decide) ?_
    exact t_iret dX6_beginsTempl_165 rfl (by decide) ⟨rfl, _, rfl, hk⟩ (Nat.le_of_ble_eq_true rfl) (Nat.le_of_ble_eq_true rfl)
  replace hk := t_negT hk h5
  by_cases h6 : x1.toInt = 61
  · replace hk := t_posT hk h6
    refine mj_lookup 164 dX6_beginsTempl_1 (by decide) (by rw [h6] <;> rfl) (by decide) ?_
    refine mj_iconst (v := 1) dX6_beginsTempl_164 (by decide) ?_
    exact t_iret dX6_beginsTempl_165 rfl (by decide) ⟨rfl, _, rfl, hk⟩ (Nat.le_of_ble_eq_true rfl) (Nat.le_of_ble_eq_true rfl)
  replace hk := t_negT hk h6
  by_cases h7 : x1.toInt = 63
  · replace hk := t_posT hk h7
    refine mj_lookup 164 dX6_beginsTempl_1 (by decide) (by rw [h7] <;> rfl) (by decide) ?_
    refine mj_iconst (v := 1) dX6_beginsTempl_164 (by decide) ?_
    exact t_iret dX6_beginsTempl_165 rfl (by decide) ⟨rfl, _, rfl, hk⟩ (Nat.le_of_ble_eq_true rfl) (Nat.le_of_ble_eq_true rfl)
  replace hk := t_negT hk h7
  by_cases h8 : x1.toInt = 64
  · replace hk := t_posT hk h8
    refine mj_lookup 164 dX6_beginsTempl_1 (by decide) (by rw [h8] <;> rfl) (by decide) ?_
    refine mj_iconst (v := 1) dX6_beginsTempl_164 (by decide) ?_
    exact t_iret dX6_beginsTempl_165 rfl (by decide) ⟨rfl, _, rfl, hk⟩ (Nat.le_of_ble_eq_true rfl) (Nat.le_of_ble_eq_true rfl)
  replace hk := t_negT hk h8
  by_cases h9 : x1.toInt = 91
  · replace hk := t_posT hk h9
    refine mj_lookup 164 dX6_beginsTempl_1 (by decide) (by rw [h9] <;> rfl) (by decide) ?_
    refine mj_iconst (v := 1) dX6_beginsTempl_164 (by decide) ?_
    exact t_iret dX6_beginsTempl_165 rfl (by decide) ⟨rfl, _, rfl, hk⟩ (Nat.le_of_ble_eq_true rfl) (Nat.le_of_ble_eq_true rfl)
  replace hk := t_negT hk h9
  by_cases h10 : x1.toInt = 123
  · replace hk := t_posT hk h10
    refine mj_lookup 164 dX6_beginsTempl_1 (by decide) (by rw [h10] <;> rfl) (by decide) ?_
    refine mj_iconst (v := 1) dX6_beginsTempl_164 (by decide) ?_
    exact t_iret dX6_beginsTempl_165 rfl (by decide) ⟨rfl, _, rfl, hk⟩ (Nat.le_of_ble_eq_true rfl) (Nat.le_of_ble_eq_true rfl)
  replace hk := t_negT hk h10
  by_cases h11 : x1.toInt = 221
  · replace hk := t_posT hk h11
    refine mj_lookup 164 dX6_beginsTempl_1 (by decide) (by rw [h11] <;> rfl) (by decide) ?_
    refine mj_iconst (v := 1) dX6_beginsTempl_164 (by decide) ?_
    exact t_iret dX6_beginsTempl_165 rfl (by decide) ⟨rfl, _, rfl, hk⟩ (Nat.le_of_ble_eq_true rfl) (Nat.le_of_ble_eq_true rfl)
  replace hk := t_negT hk h11
  by_cases h12 : x1.toInt = 222
  · replace hk := t_posT hk h12
    refine mj_lookup 164 dX6_beginsTempl_1 (by decide) (by rw [h12] <;> rfl) (by decide) ?_
    refine mj_iconst (v := 1) dX6_beginsTempl_164 (by decide) ?_
    exact t_iret dX6_beginsTempl_165 rfl (by decide) ⟨rfl, _, rfl, hk⟩ (Nat.le_of_ble_eq_true rfl) (Nat.le_of_ble_eq_true rfl)
  replace hk := t_negT hk h12
  by_cases h13 : x1.toInt = 223
  · replace hk := t_posT hk h13
    refine mj_lookup 164 dX6_beginsTempl_1 (by decide) (by rw [h13] <;> rfl) (by decide) ?_
    refine mj_iconst (v := 1) dX6_beginsTempl_164 (by decide) ?_
    exact t_iret dX6_beginsTempl_165 rfl (by decide) ⟨rfl, _, rfl, hk⟩ (Nat.le_of_ble_eq_true rfl) (Nat.le_of_ble_eq_true rfl)
  replace hk := t_negT hk h13
  by_cases h14 : x1.toInt = 224
  · replace hk := t_posT hk h14
    refine mj_lookup 164 dX6_beginsTempl_1 (by decide) (by rw [h14] <;> rfl) (by decide) ?_
    refine mj_iconst (v := 1) dX6_beginsTempl_164 (by decide) ?_
    exact t_iret dX6_beginsTempl_165 rfl (by decide) ⟨rfl, _, rfl, hk⟩ (Nat.le_of_ble_eq_true rfl) (Nat.le_of_ble_eq_true rfl)
  replace hk := t_negT hk h14
  by_cases h15 : x1.toInt = 225
  · replace hk := t_posT hk h15
    refine mj_lookup 164 dX6_beginsTempl_1 (by decide) (by rw [h15] <;> rfl) (by decide) ?_
    refine mj_iconst (v := 1) dX6_beginsTempl_164 (by decide) ?_
    exact t_iret dX6_beginsTempl_165 rfl (by decide) ⟨rfl, _, rfl, hk⟩ (Nat.le_of_ble_eq_true rfl) (Nat.le_of_ble_eq_true rfl)
  replace hk := t_negT hk h15
  by_cases h16 : x1.toInt = 226
  · replace hk := t_posT hk h16
    refine mj_lookup 164 dX6_beginsTempl_1 (by decide) (by rw [h16] <;> rfl) (by decide) ?_
    refine mj_iconst (v := 1) dX6_beginsTempl_164 (by decide) ?_
    exact t_iret dX6_beginsTempl_165 rfl (by decide) ⟨rfl, _, rfl, hk⟩ (Nat.le_of_ble_eq_true rfl) (Nat.le_of_ble_eq_true rfl)
  replace hk := t_negT hk h16
  by_cases h17 : x1.toInt = 227
  · replace hk := t_posT hk h17
    refine mj_lookup 164 dX6_beginsTempl_1 (by decide) (by rw [h17] <;> rfl) (by decide) ?_
    refine mj_iconst (v := 1) dX6_beginsTempl_164 (by decide) ?_
    exact t_iret dX6_beginsTempl_165 rfl (by decide) ⟨rfl, _, rfl, hk⟩ (Nat.le_of_ble_eq_true rfl) (Nat.le_of_ble_eq_true rfl)
  replace hk := t_negT hk h17
  by_cases h18 : x1.toInt = 228
  · replace hk := t_posT hk h18
    refine mj_lookup 164 dX6_beginsTempl_1 (by decide) (by rw [h18] <;> rfl) (by decide) ?_
    refine mj_iconst (v := 1) dX6_beginsTempl_164 (by decide) ?_
    exact t_iret dX6_beginsTempl_165 rfl (by decide) ⟨rfl, _, rfl, hk⟩ (Nat.le_of_ble_eq_true rfl) (Nat.le_of_ble_eq_true rfl)
  replace hk := t_negT hk h18
  refine mj_lookup 166 dX6_beginsTempl_1 (by decide) (t_lk0 _ (And.intro h0 (And.intro h1 (And.intro h2 (And.intro h3 (And.intro h4 (And.intro h5 (And.intro h6 (And.intro h7 (And.intro h8 (And.intro h9 (And.intro h10 (And.intro h11 (And.intro h12 (And.intro h13 (And.intro h14 (And.intro h15 (And.intro h16 (And.intro h17 (And.intro h18 trivial)))))))))))))))))))) (by decide) ?_
  refine mj_iconst (v := 0) dX6_beginsTempl_166 (by decide) ?_
  exact t_iret dX6_beginsTempl_167 rfl (by decide) ⟨rfl, _, rfl, hk⟩ (Nat.le_of_ble_eq_true rfl) (Nat.le_of_ble_eq_true rfl)

