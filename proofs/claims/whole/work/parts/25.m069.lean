/-! Methods as functions, 69: X13_span, X13_num, X13_numberTone -/
theorem qf_950_32 : t_okf 950 13 32 0 = true := by decide +kernel
theorem qf_950_33 : t_okf 950 13 33 0 = true := by decide +kernel
theorem qf_950_34 : t_okf 950 13 34 0 = true := by decide +kernel
theorem dX13_span_0 : decode cX13_span 0 = .ok (.aload_n 0, 1) := by decide +kernel
theorem dX13_span_1 : decode cX13_span 1 = .ok (.invokevirtual 452, 3) := by decide +kernel
theorem dX13_span_10 : decode cX13_span 10 = .ok (.iload_n 2, 1) := by decide +kernel
theorem dX13_span_11 : decode cX13_span 11 = .ok (.lconst 0, 1) := by decide +kernel
theorem dX13_span_12 : decode cX13_span 12 = .ok (.invokevirtual 531, 3) := by decide +kernel
theorem dX13_span_15 : decode cX13_span 15 = .ok (.lastore, 1) := by decide +kernel
theorem dX13_span_16 : decode cX13_span 16 = .ok (.aload_n 0, 1) := by decide +kernel
theorem dX13_span_17 : decode cX13_span 17 = .ok (.getfield 36, 3) := by decide +kernel
theorem dX13_span_20 : decode cX13_span 20 = .ok (.iload_n 1, 1) := by decide +kernel
theorem dX13_span_21 : decode cX13_span 21 = .ok (.aload_n 0, 1) := by decide +kernel
theorem dX13_span_22 : decode cX13_span 22 = .ok (.getfield 32, 3) := by decide +kernel
theorem dX13_span_25 : decode cX13_span 25 = .ok (.iload_n 1, 1) := by decide +kernel
theorem dX13_span_26 : decode cX13_span 26 = .ok (.laload, 1) := by decide +kernel
theorem dX13_span_27 : decode cX13_span 27 = .ok (.lastore, 1) := by decide +kernel
theorem dX13_span_28 : decode cX13_span 28 = .ok (.aload_n 0, 1) := by decide +kernel
theorem dX13_span_29 : decode cX13_span 29 = .ok (.sipush 11822, 3) := by decide +kernel
theorem dX13_span_32 : decode cX13_span 32 = .ok (.invokevirtual 449, 3) := by decide +kernel
theorem dX13_span_35 : decode cX13_span 35 = .ok (.ifCond .eq 24, 3) := by decide +kernel
theorem dX13_span_38 : decode cX13_span 38 = .ok (.aload_n 0, 1) := by decide +kernel
theorem dX13_span_39 : decode cX13_span 39 = .ok (.invokevirtual 452, 3) := by decide +kernel
theorem dX13_span_4 : decode cX13_span 4 = .ok (.aload_n 0, 1) := by decide +kernel
theorem dX13_span_42 : decode cX13_span 42 = .ok (.aload_n 0, 1) := by decide +kernel
theorem dX13_span_43 : decode cX13_span 43 = .ok (.getfield 36, 3) := by decide +kernel
theorem dX13_span_46 : decode cX13_span 46 = .ok (.iload_n 1, 1) := by decide +kernel
theorem dX13_span_47 : decode cX13_span 47 = .ok (.aload_n 0, 1) := by decide +kernel
theorem dX13_span_48 : decode cX13_span 48 = .ok (.iload_n 2, 1) := by decide +kernel
theorem dX13_span_49 : decode cX13_span 49 = .ok (.aload_n 0, 1) := by decide +kernel
theorem dX13_span_5 : decode cX13_span 5 = .ok (.getfield 32, 3) := by decide +kernel
theorem dX13_span_50 : decode cX13_span 50 = .ok (.getfield 32, 3) := by decide +kernel
theorem dX13_span_53 : decode cX13_span 53 = .ok (.iload_n 1, 1) := by decide +kernel
theorem dX13_span_54 : decode cX13_span 54 = .ok (.laload, 1) := by decide +kernel
theorem dX13_span_55 : decode cX13_span 55 = .ok (.invokevirtual 531, 3) := by decide +kernel
theorem dX13_span_58 : decode cX13_span 58 = .ok (.lastore, 1) := by decide +kernel
theorem dX13_span_59 : decode cX13_span 59 = .ok (.aload_n 0, 1) := by decide +kernel
theorem dX13_span_60 : decode cX13_span 60 = .ok (.bipush 41, 2) := by decide +kernel
theorem dX13_span_62 : decode cX13_span 62 = .ok (.invokevirtual 528, 3) := by decide +kernel
theorem dX13_span_65 : decode cX13_span 65 = .ok (.return_, 1) := by decide +kernel
theorem dX13_span_8 : decode cX13_span 8 = .ok (.iload_n 1, 1) := by decide +kernel
theorem dX13_span_9 : decode cX13_span 9 = .ok (.aload_n 0, 1) := by decide +kernel
noncomputable def k_X13_span_59 (s : t_S) : Option (t_S) :=
 (f_X13_mustBe (41 : Int32) s).bind (fun r1 =>
 some (r1))
set_option maxRecDepth 4000 in
set_option maxHeartbeats 1000000 in
theorem B_X13_span_59 {D : va_G} {cy : Nat → ClassId} {ad : Nat → Nat} {bs : Nat} {X : State → Heap → Prop} (s : t_S) (Q : t_S → Prop) (hk : t_hk (k_X13_span_59 s) Q) : mj_G D cy ad bs X cX13_span 3 yX13_span.cls none yX13_span.name 7 0 0 1065 (t_P (fun v s' => v = none ∧ Q (s'))) 59 [(0, .ref 950)] [] (t_m s) 1065 0 0 := by
  refine mj_aload_n dX13_span_59 0 rfl ?_
  refine mj_bipush (v := 41) dX13_span_60 (by decide) ?_
  refine t_bndK hk (fun r1 er1 hk => ?_)
  refine t_callVvE dX13_span_62 M_X13_mustBe (C_X13_mustBe _ _ _ er1) ML_X13_528 IM_X13_mustBe SE_X13_mustBe qc_950 rfl (As := [.int 41]) rfl rfl (Nat.le_of_ble_eq_true rfl) (Nat.le_of_ble_eq_true rfl) (Nat.le_of_ble_eq_true rfl) (Nat.le_of_ble_eq_true rfl) ?_
  exact t_somK hk (fun hf => t_vret dX13_span_65 rfl ⟨rfl, hf⟩ (Nat.le_of_ble_eq_true rfl) (Nat.le_of_ble_eq_true rfl))
noncomputable def f_X13_span (x1 : Int32) (x2 : Int32) (s : t_S) : Option (t_S) :=
 (f_X13_next s).bind (fun r1 =>
 (f_X13_bounded x2 (0 : Int64) r1).bind (fun r2 =>
 if t_ix x1 13000 = true then
  t_let (t_setJ r2.2 957 (x1.toNatClampNeg) r2.1) (fun s1 =>
 t_let (t_setJ s1 958 (x1.toNatClampNeg) (s1.2.1 957 (x1.toNatClampNeg))) (fun s2 =>
 if (f_X13_is (11822 : Int32) s2) = (0 : Int32) then (k_X13_span_59 s2)
 else ((f_X13_next s2).bind (fun r5 =>
 (f_X13_bounded x2 (r5.2.1 957 (x1.toNatClampNeg)) r5).bind (fun r6 =>
 t_let (t_setJ r6.2 958 (x1.toNatClampNeg) r6.1) (fun s3 =>
 k_X13_span_59 s3))))))
else none))
set_option maxRecDepth 4000 in
set_option maxHeartbeats 1000000 in
theorem C_X13_span (x1 : Int32) (x2 : Int32) (s : t_S) (r : t_S) (hr : f_X13_span x1 x2 s = some r) : t_C yX13_span cX13_span 3 none 7 [.ref 950, .int x1, .int x2] s (fun v s' => v = none ∧ s' = r) := by
  refine t_C.imp (P := fun v s' => v = none ∧ (fun q => q = r) (s')) (t_C.of (by decide +kernel) (Nat.le_of_ble_eq_true rfl) ?_) (fun v s' hp => hp)
  intro D cy ad bs X
  have hk : t_hk (f_X13_span x1 x2 s) (fun q => q = r) := ⟨r, hr, rfl⟩
  show mj_G D cy ad bs X cX13_span 3 yX13_span.cls none yX13_span.name 7 0 0 1065 (t_P (fun v s' => v = none ∧ (fun q => q = r) (s'))) 0 [(0, .ref 950), (1, .int x1), (2, .int x2)] [] (t_m s) 1065 0 0
  refine mj_aload_n dX13_span_0 0 rfl ?_
  refine t_bndK hk (fun r1 er1 hk => ?_)
  refine t_callVvE dX13_span_1 M_X13_next (C_X13_next _ _ er1) ML_X13_452 IM_X13_next SE_X13_next qc_950 rfl (As := []) rfl rfl (Nat.le_of_ble_eq_true rfl) (Nat.le_of_ble_eq_true rfl) (Nat.le_of_ble_eq_true rfl) (Nat.le_of_ble_eq_true rfl) ?_
  refine mj_aload_n dX13_span_4 0 rfl ?_
  refine t_getR 957 dX13_span_5 F_X13_32 qr_950_19 ?_
  refine mj_iload_n dX13_span_8 1 rfl ?_
  refine mj_aload_n dX13_span_9 0 rfl ?_
  refine mj_iload_n dX13_span_10 2 rfl ?_
  refine mj_lconst (v := 0) dX13_span_11 (by decide) ?_
  refine t_bndK hk (fun r2 er2 hk => ?_)
  refine t_callVlE dX13_span_12 M_X13_bounded (C_X13_bounded _ _ _ _ er2) ML_X13_531 IM_X13_bounded SE_X13_bounded qc_950 rfl (As := [.int x2, .long 0]) rfl rfl (Nat.le_of_ble_eq_true rfl) (Nat.le_of_ble_eq_true rfl) (Nat.le_of_ble_eq_true rfl) (Nat.le_of_ble_eq_true rfl) ?_
  refine t_chkK hk (fun c2 hk => ?_)
  refine t_lastK dX13_span_15 qa_957 (t_ixv c2) (fun s1 ws1 => t_letE hk ws1 (fun hk => ?_))
  refine mj_aload_n dX13_span_16 0 rfl ?_
  refine t_getR 958 dX13_span_17 F_X13_36 qr_950_20 ?_
  refine mj_iload_n dX13_span_20 1 rfl ?_
  refine mj_aload_n dX13_span_21 0 rfl ?_
  refine t_getR 957 dX13_span_22 F_X13_32 qr_950_19 ?_
  refine mj_iload_n dX13_span_25 1 rfl ?_
  refine t_lald dX13_span_26 qa_957 (t_ixv c2) ?_
  refine t_lastK dX13_span_27 qa_958 (t_ixv c2) (fun s2 ws2 => t_letE hk ws2 (fun hk => ?_))
  refine mj_aload_n dX13_span_28 0 rfl ?_
  refine mj_sipush (v := 11822) dX13_span_29 (by decide) ?_
  refine t_callViP dX13_span_32 M_X13_is (C_X13_is _ _) ML_X13_449 IM_X13_is SE_X13_is qc_950 rfl (As := [.int 11822]) rfl rfl (Nat.le_of_ble_eq_true rfl) (Nat.le_of_ble_eq_true rfl) (Nat.le_of_ble_eq_true rfl) (Nat.le_of_ble_eq_true rfl) ?_
  refine mj_if_eq 59 dX13_span_35 (by decide) (fun z => t_posK hk z (fun hk => ?_)) (fun z => t_negK hk z (fun hk => ?_))
  · refine mj_sublv [(0, .ref 950)] [0] rfl ?_
    exact B_X13_span_59 _ _ hk
  · refine mj_aload_n dX13_span_38 0 rfl ?_
    refine t_bndK hk (fun r5 er5 hk => ?_)
    refine t_callVvE dX13_span_39 M_X13_next (C_X13_next _ _ er5) ML_X13_452 IM_X13_next SE_X13_next qc_950 rfl (As := []) rfl rfl (Nat.le_of_ble_eq_true rfl) (Nat.le_of_ble_eq_true rfl) (Nat.le_of_ble_eq_true rfl) (Nat.le_of_ble_eq_true rfl) ?_
    refine mj_aload_n dX13_span_42 0 rfl ?_
    refine t_getR 958 dX13_span_43 F_X13_36 qr_950_20 ?_
    refine mj_iload_n dX13_span_46 1 rfl ?_
    refine mj_aload_n dX13_span_47 0 rfl ?_
    refine mj_iload_n dX13_span_48 2 rfl ?_
    refine mj_aload_n dX13_span_49 0 rfl ?_
    refine t_getR 957 dX13_span_50 F_X13_32 qr_950_19 ?_
    refine mj_iload_n dX13_span_53 1 rfl ?_
    refine t_lald dX13_span_54 qa_957 (t_ixv c2) ?_
    refine t_bndK hk (fun r6 er6 hk => ?_)
    refine t_callVlE dX13_span_55 M_X13_bounded (C_X13_bounded _ _ _ _ er6) ML_X13_531 IM_X13_bounded SE_X13_bounded qc_950 rfl (As := [.int x2, .long (r5.2.1 957 (x1.toNatClampNeg))]) rfl rfl (Nat.le_of_ble_eq_true rfl) (Nat.le_of_ble_eq_true rfl) (Nat.le_of_ble_eq_true rfl) (Nat.le_of_ble_eq_true rfl) ?_
    refine t_lastK dX13_span_58 qa_958 (t_ixv c2) (fun s3 ws3 => t_letE hk ws3 (fun hk => ?_))
    refine mj_sublv [(0, .ref 950)] [0] rfl ?_
    exact B_X13_span_59 _ _ hk

theorem dX13_num_0 : decode cX13_num 0 = .ok (.aload_n 0, 1) := by decide +kernel
theorem dX13_num_1 : decode cX13_num 1 = .ok (.bipush 45, 2) := by decide +kernel
theorem dX13_num_11 : decode cX13_num 11 = .ok (.aload_n 0, 1) := by decide +kernel
theorem dX13_num_12 : decode cX13_num 12 = .ok (.invokevirtual 452, 3) := by decide +kernel
theorem dX13_num_15 : decode cX13_num 15 = .ok (.aload_n 0, 1) := by decide +kernel
theorem dX13_num_16 : decode cX13_num 16 = .ok (.getfield 385, 3) := by decide +kernel
theorem dX13_num_19 : decode cX13_num 19 = .ok (.iconst 2, 1) := by decide +kernel
theorem dX13_num_20 : decode cX13_num 20 = .ok (.if_icmp .eq 12, 3) := by decide +kernel
theorem dX13_num_23 : decode cX13_num 23 = .ok (.aload_n 0, 1) := by decide +kernel
theorem dX13_num_24 : decode cX13_num 24 = .ok (.iconst 2, 1) := by decide +kernel
theorem dX13_num_25 : decode cX13_num 25 = .ok (.aload_n 0, 1) := by decide +kernel
theorem dX13_num_26 : decode cX13_num 26 = .ok (.getfield 391, 3) := by decide +kernel
theorem dX13_num_29 : decode cX13_num 29 = .ok (.invokevirtual 411, 3) := by decide +kernel
theorem dX13_num_3 : decode cX13_num 3 = .ok (.invokevirtual 449, 3) := by decide +kernel
theorem dX13_num_32 : decode cX13_num 32 = .ok (.iload_n 3, 1) := by decide +kernel
theorem dX13_num_33 : decode cX13_num 33 = .ok (.ifCond .eq 11, 3) := by decide +kernel
theorem dX13_num_36 : decode cX13_num 36 = .ok (.aload_n 0, 1) := by decide +kernel
theorem dX13_num_37 : decode cX13_num 37 = .ok (.getfield 415, 3) := by decide +kernel
theorem dX13_num_40 : decode cX13_num 40 = .ok (.lneg, 1) := by decide +kernel
theorem dX13_num_41 : decode cX13_num 41 = .ok (.goto 7, 3) := by decide +kernel
theorem dX13_num_44 : decode cX13_num 44 = .ok (.aload_n 0, 1) := by decide +kernel
theorem dX13_num_45 : decode cX13_num 45 = .ok (.getfield 415, 3) := by decide +kernel
theorem dX13_num_48 : decode cX13_num 48 = .ok (.lstore 4, 2) := by decide +kernel
theorem dX13_num_50 : decode cX13_num 50 = .ok (.lload 4, 2) := by decide +kernel
theorem dX13_num_52 : decode cX13_num 52 = .ok (.lload_n 1, 1) := by decide +kernel
theorem dX13_num_53 : decode cX13_num 53 = .ok (.lcmp, 1) := by decide +kernel
theorem dX13_num_54 : decode cX13_num 54 = .ok (.ifCond .ge 12, 3) := by decide +kernel
theorem dX13_num_57 : decode cX13_num 57 = .ok (.aload_n 0, 1) := by decide +kernel
theorem dX13_num_58 : decode cX13_num 58 = .ok (.iconst 5, 1) := by decide +kernel
theorem dX13_num_59 : decode cX13_num 59 = .ok (.aload_n 0, 1) := by decide +kernel
theorem dX13_num_6 : decode cX13_num 6 = .ok (.istore_n 3, 1) := by decide +kernel
theorem dX13_num_60 : decode cX13_num 60 = .ok (.getfield 391, 3) := by decide +kernel
theorem dX13_num_63 : decode cX13_num 63 = .ok (.invokevirtual 411, 3) := by decide +kernel
theorem dX13_num_66 : decode cX13_num 66 = .ok (.aload_n 0, 1) := by decide +kernel
theorem dX13_num_67 : decode cX13_num 67 = .ok (.invokevirtual 452, 3) := by decide +kernel
theorem dX13_num_7 : decode cX13_num 7 = .ok (.iload_n 3, 1) := by decide +kernel
theorem dX13_num_70 : decode cX13_num 70 = .ok (.lload 4, 2) := by decide +kernel
theorem dX13_num_72 : decode cX13_num 72 = .ok (.lreturn, 1) := by decide +kernel
theorem dX13_num_8 : decode cX13_num 8 = .ok (.ifCond .eq 7, 3) := by decide +kernel
noncomputable def k_X13_num_66 (l4 : Int64) (s : t_S) : Option (Int64 × t_S) :=
 (f_X13_next s).bind (fun r1 =>
 some (l4, r1))
set_option maxRecDepth 4000 in
set_option maxHeartbeats 1000000 in
theorem B_X13_num_66 {D : va_G} {cy : Nat → ClassId} {ad : Nat → Nat} {bs : Nat} {X : State → Heap → Prop} (l4 : Int64) (s : t_S) (Q : Int64 × t_S → Prop) (hk : t_hk (k_X13_num_66 l4 s) Q) : mj_G D cy ad bs X cX13_num 6 yX13_num.cls (some .long) yX13_num.name 6 0 0 1065 (t_P (fun v s' => ∃ x, v = some (.long x) ∧ Q ((x, s')))) 66 [(0, .ref 950), (4, .long l4)] [] (t_m s) 1065 0 0 := by
  refine mj_aload_n dX13_num_66 0 rfl ?_
  refine t_bndK hk (fun r1 er1 hk => ?_)
  refine t_callVvE dX13_num_67 M_X13_next (C_X13_next _ _ er1) ML_X13_452 IM_X13_next SE_X13_next qc_950 rfl (As := []) rfl rfl (Nat.le_of_ble_eq_true rfl) (Nat.le_of_ble_eq_true rfl) (Nat.le_of_ble_eq_true rfl) (Nat.le_of_ble_eq_true rfl) ?_
  refine mj_lload dX13_num_70 1 rfl ?_
  exact t_somK hk (fun hf => t_lret dX13_num_72 rfl ⟨_, rfl, hf⟩ (Nat.le_of_ble_eq_true rfl) (Nat.le_of_ble_eq_true rfl))
noncomputable def k_X13_num_48 (l1 : Int64) (k0 : Int64) (s : t_S) : Option (Int64 × t_S) :=
 if (0 : Int32) ≤ (lg_cmp k0 l1) then (k_X13_num_66 k0 s)
 else ((f_X13_fail (5 : Int32) (s.1 950 6) s).bind (fun r1 =>
 k_X13_num_66 k0 r1))
set_option maxRecDepth 4000 in
set_option maxHeartbeats 1000000 in
theorem B_X13_num_48 {D : va_G} {cy : Nat → ClassId} {ad : Nat → Nat} {bs : Nat} {X : State → Heap → Prop} (l1 : Int64) (k0 : Int64) (s : t_S) (Q : Int64 × t_S → Prop) (hk : t_hk (k_X13_num_48 l1 k0 s) Q) : mj_G D cy ad bs X cX13_num 6 yX13_num.cls (some .long) yX13_num.name 6 0 0 1065 (t_P (fun v s' => ∃ x, v = some (.long x) ∧ Q ((x, s')))) 48 [(0, .ref 950), (1, .long l1)] [.long k0] (t_m s) 1065 0 0 := by
  refine mj_lstore (lv2 := [(4, .long k0), (0, .ref 950), (1, .long l1)]) dX13_num_48 (by decide) rfl ?_
  refine mj_lload dX13_num_50 0 rfl ?_
  refine mj_lload_n dX13_num_52 2 rfl ?_
  refine mj_lcmp dX13_num_53 ?_
  refine mj_if_ge 66 dX13_num_54 (by decide) (fun z => t_posK hk z (fun hk => ?_)) (fun z => t_negK hk z (fun hk => ?_))
  · refine mj_sublv [(0, .ref 950), (4, .long k0)] [1, 0] rfl ?_
    exact B_X13_num_66 _ _ _ hk
  · refine mj_aload_n dX13_num_57 1 rfl ?_
    refine mj_iconst (v := 5) dX13_num_58 (by decide) ?_
    refine mj_aload_n dX13_num_59 1 rfl ?_
    refine t_getI dX13_num_60 F_X13_391 qf_950_6 ?_
    refine t_bndK hk (fun r1 er1 hk => ?_)
    refine t_callVvE dX13_num_63 M_X13_fail (C_X13_fail _ _ _ _ er1) ML_X13_411 IM_X13_fail SE_X13_fail qc_950 rfl (As := [.int 5, .int (s.1 950 6)]) rfl rfl (Nat.le_of_ble_eq_true rfl) (Nat.le_of_ble_eq_true rfl) (Nat.le_of_ble_eq_true rfl) (Nat.le_of_ble_eq_true rfl) ?_
    refine mj_sublv [(0, .ref 950), (4, .long k0)] [1, 0] rfl ?_
    exact B_X13_num_66 _ _ _ hk
noncomputable def k_X13_num_32 (l1 : Int64) (l3 : Int32) (s : t_S) : Option (Int64 × t_S) :=
 if l3 = (0 : Int32) then (k_X13_num_48 l1 (s.2.1 950 8) s)
 else (k_X13_num_48 l1 (-(s.2.1 950 8)) s)
set_option maxRecDepth 4000 in
set_option maxHeartbeats 1000000 in
theorem B_X13_num_32 {D : va_G} {cy : Nat → ClassId} {ad : Nat → Nat} {bs : Nat} {X : State → Heap → Prop} (l1 : Int64) (l3 : Int32) (s : t_S) (Q : Int64 × t_S → Prop) (hk : t_hk (k_X13_num_32 l1 l3 s) Q) : mj_G D cy ad bs X cX13_num 6 yX13_num.cls (some .long) yX13_num.name 6 0 0 1065 (t_P (fun v s' => ∃ x, v = some (.long x) ∧ Q ((x, s')))) 32 [(0, .ref 950), (1, .long l1), (3, .int l3)] [] (t_m s) 1065 0 0 := by
  refine mj_iload_n dX13_num_32 2 rfl ?_
  refine mj_if_eq 44 dX13_num_33 (by decide) (fun z => t_posK hk z (fun hk => ?_)) (fun z => t_negK hk z (fun hk => ?_))
  · refine mj_aload_n dX13_num_44 0 rfl ?_
    refine t_getJ dX13_num_45 F_X13_415 qf_950_8 ?_
    refine mj_sublv [(0, .ref 950), (1, .long l1)] [0, 1] rfl ?_
    exact B_X13_num_48 _ _ _ _ hk
  · refine mj_aload_n dX13_num_36 0 rfl ?_
    refine t_getJ dX13_num_37 F_X13_415 qf_950_8 ?_
    refine mj_lneg dX13_num_40 ?_
    refine mj_goto 48 dX13_num_41 (by decide) ?_
    refine mj_sublv [(0, .ref 950), (1, .long l1)] [0, 1] rfl ?_
    exact B_X13_num_48 _ _ _ _ hk
noncomputable def k_X13_num_15 (l1 : Int64) (l3 : Int32) (s : t_S) : Option (Int64 × t_S) :=
 if (s.1 950 5) = (2 : Int32) then (k_X13_num_32 l1 l3 s)
 else ((f_X13_fail (2 : Int32) (s.1 950 6) s).bind (fun r1 =>
 k_X13_num_32 l1 l3 r1))
set_option maxRecDepth 4000 in
set_option maxHeartbeats 1000000 in
theorem B_X13_num_15 {D : va_G} {cy : Nat → ClassId} {ad : Nat → Nat} {bs : Nat} {X : State → Heap → Prop} (l1 : Int64) (l3 : Int32) (s : t_S) (Q : Int64 × t_S → Prop) (hk : t_hk (k_X13_num_15 l1 l3 s) Q) : mj_G D cy ad bs X cX13_num 6 yX13_num.cls (some .long) yX13_num.name 6 0 0 1065 (t_P (fun v s' => ∃ x, v = some (.long x) ∧ Q ((x, s')))) 15 [(0, .ref 950), (1, .long l1), (3, .int l3)] [] (t_m s) 1065 0 0 := by
  refine mj_aload_n dX13_num_15 0 rfl ?_
  refine t_getI dX13_num_16 F_X13_385 qf_950_5 ?_
  refine mj_iconst (v := 2) dX13_num_19 (by decide) ?_
  refine mj_icmp_eq 32 dX13_num_20 (by decide) (fun z => t_posK hk z (fun hk => ?_)) (fun z => t_negK hk z (fun hk => ?_))
  · exact B_X13_num_32 _ _ _ _ hk
  · refine mj_aload_n dX13_num_23 0 rfl ?_
    refine mj_iconst (v := 2) dX13_num_24 (by decide) ?_
    refine mj_aload_n dX13_num_25 0 rfl ?_
    refine t_getI dX13_num_26 F_X13_391 qf_950_6 ?_
    refine t_bndK hk (fun r1 er1 hk => ?_)
    refine t_callVvE dX13_num_29 M_X13_fail (C_X13_fail _ _ _ _ er1) ML_X13_411 IM_X13_fail SE_X13_fail qc_950 rfl (As := [.int 2, .int (s.1 950 6)]) rfl rfl (Nat.le_of_ble_eq_true rfl) (Nat.le_of_ble_eq_true rfl) (Nat.le_of_ble_eq_true rfl) (Nat.le_of_ble_eq_true rfl) ?_
    exact B_X13_num_32 _ _ _ _ hk
noncomputable def f_X13_num (x1 : Int64) (s : t_S) : Option (Int64 × t_S) :=
 if (f_X13_is (45 : Int32) s) = (0 : Int32) then (k_X13_num_15 x1 (f_X13_is (45 : Int32) s) s)
 else ((f_X13_next s).bind (fun r2 =>
 k_X13_num_15 x1 (f_X13_is (45 : Int32) s) r2))
set_option maxRecDepth 4000 in
set_option maxHeartbeats 1000000 in
theorem C_X13_num (x1 : Int64) (s : t_S) (r : Int64 × t_S) (hr : f_X13_num x1 s = some r) : t_C yX13_num cX13_num 6 (some .long) 6 [.ref 950, .long x1] s (fun v s' => v = some (.long r.1) ∧ s' = r.2) := by
  refine t_C.imp (P := fun v s' => ∃ x, v = some (.long x) ∧ (fun q => q = r) ((x, s'))) (t_C.of (by decide +kernel) (Nat.le_of_ble_eq_true rfl) ?_) (fun v s' hp => by obtain ⟨x, rfl, rfl⟩ := hp; exact ⟨rfl, rfl⟩)
  intro D cy ad bs X
  have hk : t_hk (f_X13_num x1 s) (fun q => q = r) := ⟨r, hr, rfl⟩
  show mj_G D cy ad bs X cX13_num 6 yX13_num.cls (some .long) yX13_num.name 6 0 0 1065 (t_P (fun v s' => ∃ x, v = some (.long x) ∧ (fun q => q = r) ((x, s')))) 0 [(0, .ref 950), (1, .long x1)] [] (t_m s) 1065 0 0
  refine mj_aload_n dX13_num_0 0 rfl ?_
  refine mj_bipush (v := 45) dX13_num_1 (by decide) ?_
  refine t_callViP dX13_num_3 M_X13_is (C_X13_is _ _) ML_X13_449 IM_X13_is SE_X13_is qc_950 rfl (As := [.int 45]) rfl rfl (Nat.le_of_ble_eq_true rfl) (Nat.le_of_ble_eq_true rfl) (Nat.le_of_ble_eq_true rfl) (Nat.le_of_ble_eq_true rfl) ?_
  refine mj_istore_n 3 (lv2 := [(3, .int (f_X13_is (45 : Int32) s)), (0, .ref 950), (1, .long x1)]) dX13_num_6 rfl (by decide) rfl ?_
  refine mj_iload_n dX13_num_7 0 rfl ?_
  refine mj_if_eq 15 dX13_num_8 (by decide) (fun z => t_posK hk z (fun hk => ?_)) (fun z => t_negK hk z (fun hk => ?_))
  · refine mj_sublv [(0, .ref 950), (1, .long x1), (3, .int (f_X13_is (45 : Int32) s))] [1, 2, 0] rfl ?_
    exact B_X13_num_15 _ _ _ _ hk
  · refine mj_aload_n dX13_num_11 1 rfl ?_
    refine t_bndK hk (fun r2 er2 hk => ?_)
    refine t_callVvE dX13_num_12 M_X13_next (C_X13_next _ _ er2) ML_X13_452 IM_X13_next SE_X13_next qc_950 rfl (As := []) rfl rfl (Nat.le_of_ble_eq_true rfl) (Nat.le_of_ble_eq_true rfl) (Nat.le_of_ble_eq_true rfl) (Nat.le_of_ble_eq_true rfl) ?_
    refine mj_sublv [(0, .ref 950), (1, .long x1), (3, .int (f_X13_is (45 : Int32) s))] [1, 2, 0] rfl ?_
    exact B_X13_num_15 _ _ _ _ hk

theorem dX13_numberTone_0 : decode cX13_numberTone 0 = .ok (.aload_n 0, 1) := by decide +kernel
theorem dX13_numberTone_1 : decode cX13_numberTone 1 = .ok (.bipush 22, 2) := by decide +kernel
theorem dX13_numberTone_12 : decode cX13_numberTone 12 = .ok (.iload_n 1, 1) := by decide +kernel
theorem dX13_numberTone_13 : decode cX13_numberTone 13 = .ok (.aload_n 0, 1) := by decide +kernel
theorem dX13_numberTone_14 : decode cX13_numberTone 14 = .ok (.ldc2_w 522, 3) := by decide +kernel
theorem dX13_numberTone_17 : decode cX13_numberTone 17 = .ok (.invokevirtual 524, 3) := by decide +kernel
theorem dX13_numberTone_20 : decode cX13_numberTone 20 = .ok (.lastore, 1) := by decide +kernel
theorem dX13_numberTone_21 : decode cX13_numberTone 21 = .ok (.aload_n 0, 1) := by decide +kernel
theorem dX13_numberTone_22 : decode cX13_numberTone 22 = .ok (.getfield 36, 3) := by decide +kernel
theorem dX13_numberTone_25 : decode cX13_numberTone 25 = .ok (.iload_n 1, 1) := by decide +kernel
theorem dX13_numberTone_26 : decode cX13_numberTone 26 = .ok (.aload_n 0, 1) := by decide +kernel
theorem dX13_numberTone_27 : decode cX13_numberTone 27 = .ok (.getfield 32, 3) := by decide +kernel
theorem dX13_numberTone_3 : decode cX13_numberTone 3 = .ok (.iconst 1, 1) := by decide +kernel
theorem dX13_numberTone_30 : decode cX13_numberTone 30 = .ok (.iload_n 1, 1) := by decide +kernel
theorem dX13_numberTone_31 : decode cX13_numberTone 31 = .ok (.laload, 1) := by decide +kernel
theorem dX13_numberTone_32 : decode cX13_numberTone 32 = .ok (.lastore, 1) := by decide +kernel
theorem dX13_numberTone_33 : decode cX13_numberTone 33 = .ok (.aload_n 0, 1) := by decide +kernel
theorem dX13_numberTone_34 : decode cX13_numberTone 34 = .ok (.sipush 11822, 3) := by decide +kernel
theorem dX13_numberTone_37 : decode cX13_numberTone 37 = .ok (.invokevirtual 449, 3) := by decide +kernel
theorem dX13_numberTone_4 : decode cX13_numberTone 4 = .ok (.invokevirtual 510, 3) := by decide +kernel
theorem dX13_numberTone_40 : decode cX13_numberTone 40 = .ok (.ifCond .eq 31, 3) := by decide +kernel
theorem dX13_numberTone_43 : decode cX13_numberTone 43 = .ok (.aload_n 0, 1) := by decide +kernel
theorem dX13_numberTone_44 : decode cX13_numberTone 44 = .ok (.invokevirtual 452, 3) := by decide +kernel
theorem dX13_numberTone_47 : decode cX13_numberTone 47 = .ok (.aload_n 0, 1) := by decide +kernel
theorem dX13_numberTone_48 : decode cX13_numberTone 48 = .ok (.getfield 26, 3) := by decide +kernel
theorem dX13_numberTone_51 : decode cX13_numberTone 51 = .ok (.iload_n 1, 1) := by decide +kernel
theorem dX13_numberTone_52 : decode cX13_numberTone 52 = .ok (.bipush 23, 2) := by decide +kernel
theorem dX13_numberTone_54 : decode cX13_numberTone 54 = .ok (.iastore, 1) := by decide +kernel
theorem dX13_numberTone_55 : decode cX13_numberTone 55 = .ok (.aload_n 0, 1) := by decide +kernel
theorem dX13_numberTone_56 : decode cX13_numberTone 56 = .ok (.getfield 36, 3) := by decide +kernel
theorem dX13_numberTone_59 : decode cX13_numberTone 59 = .ok (.iload_n 1, 1) := by decide +kernel
theorem dX13_numberTone_60 : decode cX13_numberTone 60 = .ok (.aload_n 0, 1) := by decide +kernel
theorem dX13_numberTone_61 : decode cX13_numberTone 61 = .ok (.aload_n 0, 1) := by decide +kernel
theorem dX13_numberTone_62 : decode cX13_numberTone 62 = .ok (.getfield 32, 3) := by decide +kernel
theorem dX13_numberTone_65 : decode cX13_numberTone 65 = .ok (.iload_n 1, 1) := by decide +kernel
theorem dX13_numberTone_66 : decode cX13_numberTone 66 = .ok (.laload, 1) := by decide +kernel
theorem dX13_numberTone_67 : decode cX13_numberTone 67 = .ok (.invokevirtual 524, 3) := by decide +kernel
theorem dX13_numberTone_7 : decode cX13_numberTone 7 = .ok (.istore_n 1, 1) := by decide +kernel
theorem dX13_numberTone_70 : decode cX13_numberTone 70 = .ok (.lastore, 1) := by decide +kernel
theorem dX13_numberTone_71 : decode cX13_numberTone 71 = .ok (.iload_n 1, 1) := by decide +kernel
theorem dX13_numberTone_72 : decode cX13_numberTone 72 = .ok (.ireturn, 1) := by decide +kernel
theorem dX13_numberTone_8 : decode cX13_numberTone 8 = .ok (.aload_n 0, 1) := by decide +kernel
theorem dX13_numberTone_9 : decode cX13_numberTone 9 = .ok (.getfield 32, 3) := by decide +kernel
noncomputable def f_X13_numberTone (s : t_S) : Option (Int32 × t_S) :=
 (f_X13_node (22 : Int32) (1 : Int32) s).bind (fun r1 =>
 (f_X13_num (-1000000000000000 : Int64) r1.2).bind (fun r2 =>
 if t_ix r1.1 13000 = true then
  t_let (t_setJ r2.2 957 (r1.1.toNatClampNeg) r2.1) (fun s1 =>
 t_let (t_setJ s1 958 (r1.1.toNatClampNeg) (s1.2.1 957 (r1.1.toNatClampNeg))) (fun s2 =>
 if (f_X13_is (11822 : Int32) s2) = (0 : Int32) then (some (r1.1, s2))
 else ((f_X13_next s2).bind (fun r5 =>
 t_let (t_setI r5 955 (r1.1.toNatClampNeg) (23 : Int32)) (fun s3 =>
 (f_X13_num (s3.2.1 957 (r1.1.toNatClampNeg)) s3).bind (fun r6 =>
 t_let (t_setJ r6.2 958 (r1.1.toNatClampNeg) r6.1) (fun s4 =>
 some (r1.1, s4))))))))
else none))
set_option maxRecDepth 4000 in
set_option maxHeartbeats 1000000 in
theorem C_X13_numberTone (s : t_S) (r : Int32 × t_S) (hr : f_X13_numberTone s = some r) : t_C yX13_numberTone cX13_numberTone 2 (some .int) 7 [.ref 950] s (fun v s' => v = some (.int r.1) ∧ s' = r.2) := by
  refine t_C.imp (P := fun v s' => ∃ x, v = some (.int x) ∧ (fun q => q = r) ((x, s'))) (t_C.of (by decide +kernel) (Nat.le_of_ble_eq_true rfl) ?_) (fun v s' hp => by obtain ⟨x, rfl, rfl⟩ := hp; exact ⟨rfl, rfl⟩)
  intro D cy ad bs X
  have hk : t_hk (f_X13_numberTone s) (fun q => q = r) := ⟨r, hr, rfl⟩
  show mj_G D cy ad bs X cX13_numberTone 2 yX13_numberTone.cls (some .int) yX13_numberTone.name 7 0 0 1065 (t_P (fun v s' => ∃ x, v = some (.int x) ∧ (fun q => q = r) ((x, s')))) 0 [(0, .ref 950)] [] (t_m s) 1065 0 0
  refine mj_aload_n dX13_numberTone_0 0 rfl ?_
  refine mj_bipush (v := 22) dX13_numberTone_1 (by decide) ?_
  refine mj_iconst (v := 1) dX13_numberTone_3 (by decide) ?_
  refine t_bndK hk (fun r1 er1 hk => ?_)
  refine t_callViE dX13_numberTone_4 M_X13_node (C_X13_node _ _ _ _ er1) ML_X13_510 IM_X13_node SE_X13_node qc_950 rfl (As := [.int 22, .int 1]) rfl rfl (Nat.le_of_ble_eq_true rfl) (Nat.le_of_ble_eq_true rfl) (Nat.le_of_ble_eq_true rfl) (Nat.le_of_ble_eq_true rfl) ?_
  refine mj_istore_n 1 (lv2 := [(1, .int r1.1), (0, .ref 950)]) dX13_numberTone_7 rfl (by decide) rfl ?_
  refine mj_aload_n dX13_numberTone_8 1 rfl ?_
  refine t_getR 957 dX13_numberTone_9 F_X13_32 qr_950_19 ?_
  refine mj_iload_n dX13_numberTone_12 0 rfl ?_
  refine mj_aload_n dX13_numberTone_13 1 rfl ?_
  refine mj_ldc2 dX13_numberTone_14 K_X13_522 ?_
  refine t_bndK hk (fun r2 er2 hk => ?_)
  refine t_callVlE dX13_numberTone_17 M_X13_num (C_X13_num _ _ _ er2) ML_X13_524 IM_X13_num SE_X13_num qc_950 rfl (As := [.long (-1000000000000000)]) rfl rfl (Nat.le_of_ble_eq_true rfl) (Nat.le_of_ble_eq_true rfl) (Nat.le_of_ble_eq_true rfl) (Nat.le_of_ble_eq_true rfl) ?_
  refine t_chkK hk (fun c2 hk => ?_)
  refine t_lastK dX13_numberTone_20 qa_957 (t_ixv c2) (fun s1 ws1 => t_letE hk ws1 (fun hk => ?_))
  refine mj_aload_n dX13_numberTone_21 1 rfl ?_
  refine t_getR 958 dX13_numberTone_22 F_X13_36 qr_950_20 ?_
  refine mj_iload_n dX13_numberTone_25 0 rfl ?_
  refine mj_aload_n dX13_numberTone_26 1 rfl ?_
  refine t_getR 957 dX13_numberTone_27 F_X13_32 qr_950_19 ?_
  refine mj_iload_n dX13_numberTone_30 0 rfl ?_
  refine t_lald dX13_numberTone_31 qa_957 (t_ixv c2) ?_
  refine t_lastK dX13_numberTone_32 qa_958 (t_ixv c2) (fun s2 ws2 => t_letE hk ws2 (fun hk => ?_))
  refine mj_aload_n dX13_numberTone_33 1 rfl ?_
  refine mj_sipush (v := 11822) dX13_numberTone_34 (by decide) ?_
  refine t_callViP dX13_numberTone_37 M_X13_is (C_X13_is _ _) ML_X13_449 IM_X13_is SE_X13_is qc_950 rfl (As := [.int 11822]) rfl rfl (Nat.le_of_ble_eq_true rfl) (Nat.le_of_ble_eq_true rfl) (Nat.le_of_ble_eq_true rfl) (Nat.le_of_ble_eq_true rfl) ?_
  refine mj_if_eq 71 dX13_numberTone_40 (by decide) (fun z => t_posK hk z (fun hk => ?_)) (fun z => t_negK hk z (fun hk => ?_))
  · refine mj_iload_n dX13_numberTone_71 0 rfl ?_
    exact t_somK hk (fun hf => t_iret dX13_numberTone_72 rfl rfl ⟨_, rfl, hf⟩ (Nat.le_of_ble_eq_true rfl) (Nat.le_of_ble_eq_true rfl))
  · refine mj_aload_n dX13_numberTone_43 1 rfl ?_
    refine t_bndK hk (fun r5 er5 hk => ?_)
    refine t_callVvE dX13_numberTone_44 M_X13_next (C_X13_next _ _ er5) ML_X13_452 IM_X13_next SE_X13_next qc_950 rfl (As := []) rfl rfl (Nat.le_of_ble_eq_true rfl) (Nat.le_of_ble_eq_true rfl) (Nat.le_of_ble_eq_true rfl) (Nat.le_of_ble_eq_true rfl) ?_
    refine mj_aload_n dX13_numberTone_47 1 rfl ?_
    refine t_getR 955 dX13_numberTone_48 F_X13_26 qr_950_17 ?_
    refine mj_iload_n dX13_numberTone_51 0 rfl ?_
    refine mj_bipush (v := 23) dX13_numberTone_52 (by decide) ?_
    refine t_iastK dX13_numberTone_54 qa_955 (t_ixv c2) (fun s3 ws3 => t_letE hk ws3 (fun hk => ?_))
    refine mj_aload_n dX13_numberTone_55 1 rfl ?_
    refine t_getR 958 dX13_numberTone_56 F_X13_36 qr_950_20 ?_
    refine mj_iload_n dX13_numberTone_59 0 rfl ?_
    refine mj_aload_n dX13_numberTone_60 1 rfl ?_
    refine mj_aload_n dX13_numberTone_61 1 rfl ?_
    refine t_getR 957 dX13_numberTone_62 F_X13_32 qr_950_19 ?_
    refine mj_iload_n dX13_numberTone_65 0 rfl ?_
    refine t_lald dX13_numberTone_66 qa_957 (t_ixv c2) ?_
    refine t_bndK hk (fun r6 er6 hk => ?_)
    refine t_callVlE dX13_numberTone_67 M_X13_num (C_X13_num _ _ _ er6) ML_X13_524 IM_X13_num SE_X13_num qc_950 rfl (As := [.long (s3.2.1 957 (r1.1.toNatClampNeg))]) rfl rfl (Nat.le_of_ble_eq_true rfl) (Nat.le_of_ble_eq_true rfl) (Nat.le_of_ble_eq_true rfl) (Nat.le_of_ble_eq_true rfl) ?_
    refine t_lastK dX13_numberTone_70 qa_958 (t_ixv c2) (fun s4 ws4 => t_letE hk ws4 (fun hk => ?_))
    refine mj_iload_n dX13_numberTone_71 0 rfl ?_
    exact t_somK hk (fun hf => t_iret dX13_numberTone_72 rfl rfl ⟨_, rfl, hf⟩ (Nat.le_of_ble_eq_true rfl) (Nat.le_of_ble_eq_true rfl))

