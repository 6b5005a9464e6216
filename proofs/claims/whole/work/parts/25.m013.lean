/-! Methods as functions, 13: X7_partAt, X7_wrong, X7_lookAtPart, X8_empty, X8_put, X7_putArguments -/
theorem qa_441 : t_oka 441 1 40 = true := by decide +kernel
theorem qc_864 : t_okc 864 7 = true := by decide +kernel
theorem qf_864_10 : t_okf 864 7 10 0 = true := by decide +kernel
theorem qf_864_11 : t_okf 864 7 11 0 = true := by decide +kernel
theorem qf_864_7 : t_okf 864 7 7 1 = true := by decide +kernel
theorem qf_864_9 : t_okf 864 7 9 0 = true := by decide +kernel
theorem qq_444 : t_okq 444 5 400 445 1 = true := by decide +kernel
theorem qr_428_14 : t_okr 428 5 14 441 = true := by decide +kernel
theorem qr_428_17 : t_okr 428 5 17 444 = true := by decide +kernel
theorem qr_864_0 : t_okr 864 7 0 12 = true := by decide +kernel
theorem qr_864_3 : t_okr 864 7 3 353 = true := by decide +kernel
theorem qr_864_4 : t_okr 864 7 4 428 = true := by decide +kernel
theorem dX7_partAt_0 : decode cX7_partAt 0 = .ok (.aload_n 0, 1) := by decide +kernel
theorem dX7_partAt_1 : decode cX7_partAt 1 = .ok (.getfield 23, 3) := by decide +kernel
theorem dX7_partAt_10 : decode cX7_partAt 10 = .ok (.invokestatic 309, 3) := by decide +kernel
theorem dX7_partAt_13 : decode cX7_partAt 13 = .ok (.lstore 4, 2) := by decide +kernel
theorem dX7_partAt_15 : decode cX7_partAt 15 = .ok (.lload_n 2, 1) := by decide +kernel
theorem dX7_partAt_16 : decode cX7_partAt 16 = .ok (.invokestatic 306, 3) := by decide +kernel
theorem dX7_partAt_19 : decode cX7_partAt 19 = .ok (.iconst 5, 1) := by decide +kernel
theorem dX7_partAt_20 : decode cX7_partAt 20 = .ok (.if_icmp .ne 32, 3) := by decide +kernel
theorem dX7_partAt_23 : decode cX7_partAt 23 = .ok (.lload 4, 2) := by decide +kernel
theorem dX7_partAt_25 : decode cX7_partAt 25 = .ok (.lconst 0, 1) := by decide +kernel
theorem dX7_partAt_26 : decode cX7_partAt 26 = .ok (.lcmp, 1) := by decide +kernel
theorem dX7_partAt_27 : decode cX7_partAt 27 = .ok (.ifCond .lt 25, 3) := by decide +kernel
theorem dX7_partAt_30 : decode cX7_partAt 30 = .ok (.lload 4, 2) := by decide +kernel
theorem dX7_partAt_32 : decode cX7_partAt 32 = .ok (.aload_n 0, 1) := by decide +kernel
theorem dX7_partAt_33 : decode cX7_partAt 33 = .ok (.getfield 42, 3) := by decide +kernel
theorem dX7_partAt_36 : decode cX7_partAt 36 = .ok (.i2l, 1) := by decide +kernel
theorem dX7_partAt_37 : decode cX7_partAt 37 = .ok (.lcmp, 1) := by decide +kernel
theorem dX7_partAt_38 : decode cX7_partAt 38 = .ok (.ifCond .ge 14, 3) := by decide +kernel
theorem dX7_partAt_4 : decode cX7_partAt 4 = .ok (.iload_n 1, 1) := by decide +kernel
theorem dX7_partAt_41 : decode cX7_partAt 41 = .ok (.aload_n 0, 1) := by decide +kernel
theorem dX7_partAt_42 : decode cX7_partAt 42 = .ok (.getfield 11, 3) := by decide +kernel
theorem dX7_partAt_45 : decode cX7_partAt 45 = .ok (.lload 4, 2) := by decide +kernel
theorem dX7_partAt_47 : decode cX7_partAt 47 = .ok (.l2i, 1) := by decide +kernel
theorem dX7_partAt_48 : decode cX7_partAt 48 = .ok (.aaload, 1) := by decide +kernel
theorem dX7_partAt_49 : decode cX7_partAt 49 = .ok (.goto 4, 3) := by decide +kernel
theorem dX7_partAt_5 : decode cX7_partAt 5 = .ok (.invokevirtual 338, 3) := by decide +kernel
theorem dX7_partAt_52 : decode cX7_partAt 52 = .ok (.aconst_null, 1) := by decide +kernel
theorem dX7_partAt_53 : decode cX7_partAt 53 = .ok (.areturn, 1) := by decide +kernel
theorem dX7_partAt_8 : decode cX7_partAt 8 = .ok (.lstore_n 2, 1) := by decide +kernel
theorem dX7_partAt_9 : decode cX7_partAt 9 = .ok (.lload_n 2, 1) := by decide +kernel
noncomputable def f_X7_partAt (x1 : Int32) (s : t_S) : Option (Nat) :=
 (f_X0_cellOf x1 s).bind (fun r1 =>
 if (f_X8_kind r1 s) = (5 : Int32) then (if (lg_cmp (f_X8_told r1 s) (0 : Int64)) < (0 : Int32) then (some (0))
 else (if (0 : Int32) ≤ (lg_cmp (f_X8_told r1 s) ((s.1 864 6).toInt64)) then (some (0))
 else (if t_ix ((f_X8_told r1 s).toInt32) 8 = true then
  some (866 + 10 * (((f_X8_told r1 s).toInt32).toNatClampNeg))
else none)))
 else (some (0)))
set_option maxRecDepth 4000 in
set_option maxHeartbeats 1000000 in
theorem C_X7_partAt (x1 : Int32) (s : t_S) (r : Nat) (hr : f_X7_partAt x1 s = some r) : t_C yX7_partAt cX7_partAt 6 (some (.object "MatchHouse$Part")) 1 [.ref 864, .int x1] s (fun v s' => v = some (t_pv r) ∧ s' = s) := by
  refine t_C.imp (P := fun v s' => s' = s ∧ ∃ x, v = some (t_pv x) ∧ (fun q => q = r) (x)) (t_C.of (by decide +kernel) (Nat.le_of_ble_eq_true rfl) ?_) (fun v s' hp => by obtain ⟨rfl, x, rfl, rfl⟩ := hp; exact ⟨rfl, rfl⟩)
  intro D cy ad bs X
  have hk : t_hk (f_X7_partAt x1 s) (fun q => q = r) := ⟨r, hr, rfl⟩
  show mj_G D cy ad bs X cX7_partAt 6 yX7_partAt.cls (some (.object "MatchHouse$Part")) yX7_partAt.name 1 0 0 1065 (t_P (fun v s' => s' = s ∧ ∃ x, v = some (t_pv x) ∧ (fun q => q = r) (x))) 0 [(0, .ref 864), (1, .int x1)] [] (t_m s) 1065 0 0
  refine mj_aload_n dX7_partAt_0 0 rfl ?_
  refine t_getR 334 dX7_partAt_1 F_X7_23 qr_864_2 ?_
  refine mj_iload_n dX7_partAt_4 1 rfl ?_
  refine t_bndK hk (fun r1 er1 hk => ?_)
  refine t_callVlP dX7_partAt_5 M_X0_cellOf (C_X0_cellOf _ _ _ er1) ML_X7_338 IM_X0_cellOf SE_X0_cellOf qc_334 rfl (As := [.int x1]) rfl rfl (Nat.le_of_ble_eq_true rfl) (Nat.le_of_ble_eq_true rfl) (Nat.le_of_ble_eq_true rfl) (Nat.le_of_ble_eq_true rfl) ?_
  refine mj_lstore_n 2 (lv2 := [(2, .long r1), (0, .ref 864), (1, .int x1)]) dX7_partAt_8 rfl (by decide) rfl ?_
  refine mj_lload_n dX7_partAt_9 0 rfl ?_
  refine t_callSlP dX7_partAt_10 M_X8_told (C_X8_told _ _) ML_X7_309 SM_X8_told (As := [.long r1]) rfl rfl (Nat.le_of_ble_eq_true rfl) (Nat.le_of_ble_eq_true rfl) (Nat.le_of_ble_eq_true rfl) (Nat.le_of_ble_eq_true rfl) ?_
  refine mj_lstore (lv2 := [(4, .long (f_X8_told r1 s)), (2, .long r1), (0, .ref 864), (1, .int x1)]) dX7_partAt_13 (by decide) rfl ?_
  refine mj_lload_n dX7_partAt_15 1 rfl ?_
  refine t_callSiP dX7_partAt_16 M_X8_kind (C_X8_kind _ _) ML_X7_306 SM_X8_kind (As := [.long r1]) rfl rfl (Nat.le_of_ble_eq_true rfl) (Nat.le_of_ble_eq_true rfl) (Nat.le_of_ble_eq_true rfl) (Nat.le_of_ble_eq_true rfl) ?_
  refine mj_iconst (v := 5) dX7_partAt_19 (by decide) ?_
  refine mj_icmp_ne 52 dX7_partAt_20 (by decide) (fun z => t_negK hk z (fun hk => ?_)) (fun z => t_posK hk z (fun hk => ?_))
  · refine mj_null0 dX7_partAt_52 ?_
    exact t_somK hk (fun hf => t_aret dX7_partAt_53 rfl rfl ⟨rfl, _, rfl, hf⟩ (Nat.le_of_ble_eq_true rfl) (Nat.le_of_ble_eq_true rfl))
  · refine mj_lload dX7_partAt_23 0 rfl ?_
    refine mj_lconst (v := 0) dX7_partAt_25 (by decide) ?_
    refine mj_lcmp dX7_partAt_26 ?_
    refine mj_if_lt 52 dX7_partAt_27 (by decide) (fun z => t_posK hk z (fun hk => ?_)) (fun z => t_negK hk z (fun hk => ?_))
    · refine mj_null0 dX7_partAt_52 ?_
      exact t_somK hk (fun hf => t_aret dX7_partAt_53 rfl rfl ⟨rfl, _, rfl, hf⟩ (Nat.le_of_ble_eq_true rfl) (Nat.le_of_ble_eq_true rfl))
    · refine mj_lload dX7_partAt_30 0 rfl ?_
      refine mj_aload_n dX7_partAt_32 2 rfl ?_
      refine t_getI dX7_partAt_33 F_X7_42 qf_864_6 ?_
      refine mj_i2l (v := (s.1 864 6).toInt64) dX7_partAt_36 rfl ?_
      refine mj_lcmp dX7_partAt_37 ?_
      refine mj_if_ge 52 dX7_partAt_38 (by decide) (fun z => t_posK hk z (fun hk => ?_)) (fun z => t_negK hk z (fun hk => ?_))
      · refine mj_null0 dX7_partAt_52 ?_
        exact t_somK hk (fun hf => t_aret dX7_partAt_53 rfl rfl ⟨rfl, _, rfl, hf⟩ (Nat.le_of_ble_eq_true rfl) (Nat.le_of_ble_eq_true rfl))
      · refine mj_aload_n dX7_partAt_41 2 rfl ?_
        refine t_getR 865 dX7_partAt_42 F_X7_11 qr_864_5 ?_
        refine mj_lload dX7_partAt_45 0 rfl ?_
        refine mj_l2i (v := (f_X8_told r1 s).toInt32) dX7_partAt_47 rfl ?_
        refine t_chkK hk (fun c3 hk => ?_)
        refine t_aaldP dX7_partAt_48 qq_865 (t_ixv c3) ?_
        refine mj_goto 53 dX7_partAt_49 (by decide) ?_
        refine t_pvB (by omega) ?_
        exact t_somK hk (fun hf => t_aret dX7_partAt_53 rfl rfl ⟨rfl, _, rfl, hf⟩ (Nat.le_of_ble_eq_true rfl) (Nat.le_of_ble_eq_true rfl))

theorem dX7_wrong_0 : decode cX7_wrong 0 = .ok (.aload_n 0, 1) := by decide +kernel
theorem dX7_wrong_1 : decode cX7_wrong 1 = .ok (.getfield 23, 3) := by decide +kernel
theorem dX7_wrong_4 : decode cX7_wrong 4 = .ok (.iload_n 1, 1) := by decide +kernel
theorem dX7_wrong_5 : decode cX7_wrong 5 = .ok (.putfield 209, 3) := by decide +kernel
theorem dX7_wrong_8 : decode cX7_wrong 8 = .ok (.iconst 2, 1) := by decide +kernel
theorem dX7_wrong_9 : decode cX7_wrong 9 = .ok (.ireturn, 1) := by decide +kernel
noncomputable def f_X7_wrong (x1 : Int32) (s : t_S) : Option (Int32 × t_S) :=
 t_let (t_setI s 334 12 x1) (fun s1 =>
 some ((2 : Int32), s1))
set_option maxRecDepth 4000 in
set_option maxHeartbeats 1000000 in
theorem C_X7_wrong (x1 : Int32) (s : t_S) (r : Int32 × t_S) (hr : f_X7_wrong x1 s = some r) : t_C yX7_wrong cX7_wrong 2 (some .int) 0 [.ref 864, .int x1] s (fun v s' => v = some (.int r.1) ∧ s' = r.2) := by
  refine t_C.imp (P := fun v s' => ∃ x, v = some (.int x) ∧ (fun q => q = r) ((x, s'))) (t_C.of (by decide +kernel) (Nat.le_of_ble_eq_true rfl) ?_) (fun v s' hp => by obtain ⟨x, rfl, rfl⟩ := hp; exact ⟨rfl, rfl⟩)
  intro D cy ad bs X
  have hk : t_hk (f_X7_wrong x1 s) (fun q => q = r) := ⟨r, hr, rfl⟩
  show mj_G D cy ad bs X cX7_wrong 2 yX7_wrong.cls (some .int) yX7_wrong.name 0 0 0 1065 (t_P (fun v s' => ∃ x, v = some (.int x) ∧ (fun q => q = r) ((x, s')))) 0 [(0, .ref 864), (1, .int x1)] [] (t_m s) 1065 0 0
  refine mj_aload_n dX7_wrong_0 0 rfl ?_
  refine t_getR 334 dX7_wrong_1 F_X7_23 qr_864_2 ?_
  refine mj_iload_n dX7_wrong_4 1 rfl ?_
  refine t_putIK dX7_wrong_5 F_X7_209 qf_334_12 rfl (fun s1 ws1 => t_letE hk ws1 (fun hk => ?_))
  refine mj_iconst (v := 2) dX7_wrong_8 (by decide) ?_
  exact t_somK hk (fun hf => t_iret dX7_wrong_9 rfl rfl ⟨_, rfl, hf⟩ (Nat.le_of_ble_eq_true rfl) (Nat.le_of_ble_eq_true rfl))

theorem dX7_lookAtPart_0 : decode cX7_lookAtPart 0 = .ok (.aload_n 0, 1) := by decide +kernel
theorem dX7_lookAtPart_1 : decode cX7_lookAtPart 1 = .ok (.iconst 0, 1) := by decide +kernel
theorem dX7_lookAtPart_10 : decode cX7_lookAtPart 10 = .ok (.aload_n 0, 1) := by decide +kernel
theorem dX7_lookAtPart_11 : decode cX7_lookAtPart 11 = .ok (.iconst 1, 1) := by decide +kernel
theorem dX7_lookAtPart_12 : decode cX7_lookAtPart 12 = .ok (.invokevirtual 365, 3) := by decide +kernel
theorem dX7_lookAtPart_15 : decode cX7_lookAtPart 15 = .ok (.ireturn, 1) := by decide +kernel
theorem dX7_lookAtPart_16 : decode cX7_lookAtPart 16 = .ok (.aload_n 3, 1) := by decide +kernel
theorem dX7_lookAtPart_17 : decode cX7_lookAtPart 17 = .ok (.getfield 82, 3) := by decide +kernel
theorem dX7_lookAtPart_2 : decode cX7_lookAtPart 2 = .ok (.invokevirtual 342, 3) := by decide +kernel
theorem dX7_lookAtPart_20 : decode cX7_lookAtPart 20 = .ok (.iload_n 1, 1) := by decide +kernel
theorem dX7_lookAtPart_21 : decode cX7_lookAtPart 21 = .ok (.if_icmp .eq 11, 3) := by decide +kernel
theorem dX7_lookAtPart_24 : decode cX7_lookAtPart 24 = .ok (.aload_n 3, 1) := by decide +kernel
theorem dX7_lookAtPart_25 : decode cX7_lookAtPart 25 = .ok (.getfield 92, 3) := by decide +kernel
theorem dX7_lookAtPart_28 : decode cX7_lookAtPart 28 = .ok (.iload_n 2, 1) := by decide +kernel
theorem dX7_lookAtPart_29 : decode cX7_lookAtPart 29 = .ok (.if_icmp .ne 7, 3) := by decide +kernel
theorem dX7_lookAtPart_32 : decode cX7_lookAtPart 32 = .ok (.iconst 1, 1) := by decide +kernel
theorem dX7_lookAtPart_33 : decode cX7_lookAtPart 33 = .ok (.goto 4, 3) := by decide +kernel
theorem dX7_lookAtPart_36 : decode cX7_lookAtPart 36 = .ok (.iconst 0, 1) := by decide +kernel
theorem dX7_lookAtPart_37 : decode cX7_lookAtPart 37 = .ok (.ireturn, 1) := by decide +kernel
theorem dX7_lookAtPart_5 : decode cX7_lookAtPart 5 = .ok (.astore_n 3, 1) := by decide +kernel
theorem dX7_lookAtPart_6 : decode cX7_lookAtPart 6 = .ok (.aload_n 3, 1) := by decide +kernel
theorem dX7_lookAtPart_7 : decode cX7_lookAtPart 7 = .ok (.ifnonnull 9, 3) := by decide +kernel
noncomputable def k_X7_lookAtPart_32 (s : t_S) : Option (Int32 × t_S) :=
 some ((1 : Int32), s)
set_option maxRecDepth 4000 in
set_option maxHeartbeats 1000000 in
theorem B_X7_lookAtPart_32 {D : va_G} {cy : Nat → ClassId} {ad : Nat → Nat} {bs : Nat} {X : State → Heap → Prop} (s : t_S) (Q : Int32 × t_S → Prop) (hk : t_hk (k_X7_lookAtPart_32 s) Q) : mj_G D cy ad bs X cX7_lookAtPart 4 yX7_lookAtPart.cls (some .int) yX7_lookAtPart.name 2 0 0 1065 (t_P (fun v s' => ∃ x, v = some (.int x) ∧ Q ((x, s')))) 32 [] [] (t_m s) 1065 0 0 := by
  refine mj_iconst (v := 1) dX7_lookAtPart_32 (by decide) ?_
  refine mj_goto 37 dX7_lookAtPart_33 (by decide) ?_
  exact t_somK hk (fun hf => t_iret dX7_lookAtPart_37 rfl rfl ⟨_, rfl, hf⟩ (Nat.le_of_ble_eq_true rfl) (Nat.le_of_ble_eq_true rfl))
noncomputable def f_X7_lookAtPart (x1 : Int32) (x2 : Int32) (s : t_S) : Option (Int32 × t_S) :=
 (f_X7_partAt (0 : Int32) s).bind (fun r1 =>
 if r1 = 0 then ((f_X7_wrong (1 : Int32) s).bind (fun r3 =>
 some (r3.1, r3.2)))
 else (if t_isP r1 = true then
  if (s.1 r1 2) = x1 then (k_X7_lookAtPart_32 s)
 else (if (s.1 r1 0) = x2 then (k_X7_lookAtPart_32 s)
 else (some ((0 : Int32), s)))
else none))
set_option maxRecDepth 4000 in
set_option maxHeartbeats 1000000 in
theorem C_X7_lookAtPart (x1 : Int32) (x2 : Int32) (s : t_S) (r : Int32 × t_S) (hr : f_X7_lookAtPart x1 x2 s = some r) : t_C yX7_lookAtPart cX7_lookAtPart 4 (some .int) 2 [.ref 864, .int x1, .int x2] s (fun v s' => v = some (.int r.1) ∧ s' = r.2) := by
  refine t_C.imp (P := fun v s' => ∃ x, v = some (.int x) ∧ (fun q => q = r) ((x, s'))) (t_C.of (by decide +kernel) (Nat.le_of_ble_eq_true rfl) ?_) (fun v s' hp => by obtain ⟨x, rfl, rfl⟩ := hp; exact ⟨rfl, rfl⟩)
  intro D cy ad bs X
  have hk : t_hk (f_X7_lookAtPart x1 x2 s) (fun q => q = r) := ⟨r, hr, rfl⟩
  show mj_G D cy ad bs X cX7_lookAtPart 4 yX7_lookAtPart.cls (some .int) yX7_lookAtPart.name 2 0 0 1065 (t_P (fun v s' => ∃ x, v = some (.int x) ∧ (fun q => q = r) ((x, s')))) 0 [(0, .ref 864), (1, .int x1), (2, .int x2)] [] (t_m s) 1065 0 0
  refine mj_aload_n dX7_lookAtPart_0 0 rfl ?_
  refine mj_iconst (v := 0) dX7_lookAtPart_1 (by decide) ?_
  refine t_bndK hk (fun r1 er1 hk => ?_)
  refine t_callVaP dX7_lookAtPart_2 M_X7_partAt (C_X7_partAt _ _ _ er1) ML_X7_342 IM_X7_partAt SE_X7_partAt qc_864 rfl (As := [.int 0]) rfl rfl (Nat.le_of_ble_eq_true rfl) (Nat.le_of_ble_eq_true rfl) (Nat.le_of_ble_eq_true rfl) (Nat.le_of_ble_eq_true rfl) ?_
  refine t_pvStn 3 (lv2 := [(3, t_pv r1), (0, .ref 864), (1, .int x1), (2, .int x2)]) dX7_lookAtPart_5 rfl (by decide) rfl ?_
  refine t_pvLdn dX7_lookAtPart_6 0 rfl ?_
  refine mj_nonnull 16 dX7_lookAtPart_7 (by decide) (fun z => t_negK hk z (fun hk => ?_)) (fun z => t_posK hk z (fun hk => ?_))
  · refine t_pvLdn dX7_lookAtPart_16 0 rfl ?_
    refine t_chkK hk (fun c1 hk => ?_)
    refine t_pvG c1 ?_
    refine t_getI dX7_lookAtPart_17 F_X7_82 (t_pf2 c1) ?_
    refine mj_iload_n dX7_lookAtPart_20 2 rfl ?_
    refine mj_icmp_eq 32 dX7_lookAtPart_21 (by decide) (fun z => t_posK hk z (fun hk => ?_)) (fun z => t_negK hk z (fun hk => ?_))
    · refine mj_sublv [] [] rfl ?_
      exact B_X7_lookAtPart_32 _ _ hk
    · refine t_pvLdn dX7_lookAtPart_24 0 rfl ?_
      refine t_pvG c1 ?_
      refine t_getI dX7_lookAtPart_25 F_X7_92 (t_pf0 c1) ?_
      refine mj_iload_n dX7_lookAtPart_28 3 rfl ?_
      refine mj_icmp_ne 36 dX7_lookAtPart_29 (by decide) (fun z => t_negK hk z (fun hk => ?_)) (fun z => t_posK hk z (fun hk => ?_))
      · refine mj_iconst (v := 0) dX7_lookAtPart_36 (by decide) ?_
        exact t_somK hk (fun hf => t_iret dX7_lookAtPart_37 rfl rfl ⟨_, rfl, hf⟩ (Nat.le_of_ble_eq_true rfl) (Nat.le_of_ble_eq_true rfl))
      · refine mj_sublv [] [] rfl ?_
        exact B_X7_lookAtPart_32 _ _ hk
  · refine mj_aload_n dX7_lookAtPart_10 1 rfl ?_
    refine mj_iconst (v := 1) dX7_lookAtPart_11 (by decide) ?_
    refine t_bndK hk (fun r3 er3 hk => ?_)
    refine t_callViE dX7_lookAtPart_12 M_X7_wrong (C_X7_wrong _ _ _ er3) ML_X7_365 IM_X7_wrong SE_X7_wrong qc_864 rfl (As := [.int 1]) rfl rfl (Nat.le_of_ble_eq_true rfl) (Nat.le_of_ble_eq_true rfl) (Nat.le_of_ble_eq_true rfl) (Nat.le_of_ble_eq_true rfl) ?_
    exact t_somK hk (fun hf => t_iret dX7_lookAtPart_15 rfl rfl ⟨_, rfl, hf⟩ (Nat.le_of_ble_eq_true rfl) (Nat.le_of_ble_eq_true rfl))

theorem dX8_empty_0 : decode cX8_empty 0 = .ok (.iconst 0, 1) := by decide +kernel
theorem dX8_empty_1 : decode cX8_empty 1 = .ok (.istore_n 3, 1) := by decide +kernel
theorem dX8_empty_11 : decode cX8_empty 11 = .ok (.iload_n 1, 1) := by decide +kernel
theorem dX8_empty_12 : decode cX8_empty 12 = .ok (.iload_n 3, 1) := by decide +kernel
theorem dX8_empty_13 : decode cX8_empty 13 = .ok (.iadd, 1) := by decide +kernel
theorem dX8_empty_14 : decode cX8_empty 14 = .ok (.iconst 0, 1) := by decide +kernel
theorem dX8_empty_15 : decode cX8_empty 15 = .ok (.iastore, 1) := by decide +kernel
theorem dX8_empty_16 : decode cX8_empty 16 = .ok (.iinc 3 1, 3) := by decide +kernel
theorem dX8_empty_19 : decode cX8_empty 19 = .ok (.goto (-17), 3) := by decide +kernel
theorem dX8_empty_2 : decode cX8_empty 2 = .ok (.iload_n 3, 1) := by decide +kernel
theorem dX8_empty_22 : decode cX8_empty 22 = .ok (.return_, 1) := by decide +kernel
theorem dX8_empty_3 : decode cX8_empty 3 = .ok (.iload_n 2, 1) := by decide +kernel
theorem dX8_empty_4 : decode cX8_empty 4 = .ok (.if_icmp .ge 18, 3) := by decide +kernel
theorem dX8_empty_7 : decode cX8_empty 7 = .ok (.aload_n 0, 1) := by decide +kernel
theorem dX8_empty_8 : decode cX8_empty 8 = .ok (.getfield 16, 3) := by decide +kernel
noncomputable def k_X8_empty_2 (l1 : Int32) (l2 : Int32) (l3 : Int32) (s : t_S) : Option ((Int32 × Int32 × Int32 × t_S) ⊕ (t_S)) :=
 if l2 ≤ l3 then ((some (s)).map Sum.inr)
 else (if t_ix (l1 + l3) 1589 = true then
  t_let (t_setI s 14 ((l1 + l3).toNatClampNeg) (0 : Int32)) (fun s1 =>
 some (.inl (l1, l2, (l3 + 1), s1)))
else none)
set_option maxRecDepth 4000 in
set_option maxHeartbeats 1000000 in
theorem B_X8_empty_2 {D : va_G} {cy : Nat → ClassId} {ad : Nat → Nat} {bs : Nat} {X : State → Heap → Prop} (l1 : Int32) (l2 : Int32) (l3 : Int32) (s : t_S) (Q : (Int32 × Int32 × Int32 × t_S) ⊕ (t_S) → Prop) (Hb2 : ∀ (y0 : Int32) (y1 : Int32) (y2 : Int32) (y3 : t_S), Q (.inl (y0, y1, y2, y3)) → mj_G D cy ad bs X cX8_empty 4 yX8_empty.cls none yX8_empty.name 0 0 0 1065 (t_P (fun v s' => v = none ∧ Q (.inr (s')))) 2 [(0, .ref 12), (1, .int (y0)), (2, .int (y1)), (3, .int (y2))] [] (t_m y3) 1065 0 0) (hk : t_hk (k_X8_empty_2 l1 l2 l3 s) Q) : mj_G D cy ad bs X cX8_empty 4 yX8_empty.cls none yX8_empty.name 0 0 0 1065 (t_P (fun v s' => v = none ∧ Q (.inr (s')))) 2 [(0, .ref 12), (1, .int l1), (2, .int l2), (3, .int l3)] [] (t_m s) 1065 0 0 := by
  refine mj_iload_n dX8_empty_2 3 rfl ?_
  refine mj_iload_n dX8_empty_3 2 rfl ?_
  refine mj_icmp_ge 22 dX8_empty_4 (by decide) (fun z => t_posK hk z (fun hk => ?_)) (fun z => t_negK hk z (fun hk => ?_))
  · refine t_mapK hk (fun hk => ?_)
    exact t_somK hk (fun hf => t_vret dX8_empty_22 rfl ⟨rfl, hf⟩ (Nat.le_of_ble_eq_true rfl) (Nat.le_of_ble_eq_true rfl))
  · refine mj_aload_n dX8_empty_7 0 rfl ?_
    refine t_getR 14 dX8_empty_8 F_X8_16 qr_12_1 ?_
    refine mj_iload_n dX8_empty_11 1 rfl ?_
    refine mj_iload_n dX8_empty_12 3 rfl ?_
    refine mj_iadd dX8_empty_13 ?_
    refine mj_iconst (v := 0) dX8_empty_14 (by decide) ?_
    refine t_chkK hk (fun c0 hk => ?_)
    refine t_iastK dX8_empty_15 qa_14 (t_ixv c0) (fun s1 ws1 => t_letE hk ws1 (fun hk => ?_))
    refine mj_iinc (k := 3) (v := (l3 + 1)) (lv2 := [(3, .int (l3 + 1)), (0, .ref 12), (1, .int l1), (2, .int l2)]) dX8_empty_16 rfl rfl (by decide) rfl ?_
    refine mj_goto 2 dX8_empty_19 (by decide) ?_
    refine mj_sublv [(0, .ref 12), (1, .int l1), (2, .int l2), (3, .int (l3 + 1))] [1, 2, 3, 0] rfl ?_
    exact t_somK hk (fun hf => Hb2 l1 l2 (l3 + 1) s1 hf)
noncomputable def b_X8_empty_2 (x : Int32 × Int32 × Int32 × t_S) : Option ((Int32 × Int32 × Int32 × t_S) ⊕ (t_S)) := k_X8_empty_2 x.1 x.2.1 x.2.2.1 x.2.2.2
set_option maxRecDepth 4000 in
set_option maxHeartbeats 1000000 in
theorem LH_X8_empty_2 {D : va_G} {cy : Nat → ClassId} {ad : Nat → Nat} {bs : Nat} {X : State → Heap → Prop} : ∀ (n : Nat) (y0 : Int32) (y1 : Int32) (y2 : Int32) (y3 : t_S) (Q : t_S → Prop) (hk : t_hk (t_loop (b_X8_empty_2) n (y0, y1, y2, y3)) Q), mj_G D cy ad bs X cX8_empty 4 yX8_empty.cls none yX8_empty.name 0 0 0 1065 (t_P (fun v s' => v = none ∧ Q (s'))) 2 [(0, .ref 12), (1, .int (y0)), (2, .int (y1)), (3, .int (y2))] [] (t_m y3) 1065 0 0 := by
  intro n
  induction n with
  | zero => intro y0 y1 y2 y3 Q hk; obtain ⟨r, hr, _⟩ := hk; cases hr
  | succ n ih =>
    intro y0 y1 y2 y3 Q hk
    exact B_X8_empty_2 y0 y1 y2 y3 (fun y => t_lq (b_X8_empty_2) n Q y) (fun y0' y1' y2' y3' hy => ih y0' y1' y2' y3' Q hy) (t_lp hk)
noncomputable def f_X8_empty (x1 : Int32) (x2 : Int32) (s : t_S) : Option (t_S) :=
 t_loop (b_X8_empty_2) t_N (x1, x2, 0, s)
set_option maxRecDepth 4000 in
set_option maxHeartbeats 1000000 in
theorem C_X8_empty (x1 : Int32) (x2 : Int32) (s : t_S) (r : t_S) (hr : f_X8_empty x1 x2 s = some r) : t_C yX8_empty cX8_empty 4 none 0 [.ref 12, .int x1, .int x2] s (fun v s' => v = none ∧ s' = r) := by
  refine t_C.imp (P := fun v s' => v = none ∧ (fun q => q = r) (s')) (t_C.of (by decide +kernel) (Nat.le_of_ble_eq_true rfl) ?_) (fun v s' hp => hp)
  intro D cy ad bs X
  have hk : t_hk (f_X8_empty x1 x2 s) (fun q => q = r) := ⟨r, hr, rfl⟩
  show mj_G D cy ad bs X cX8_empty 4 yX8_empty.cls none yX8_empty.name 0 0 0 1065 (t_P (fun v s' => v = none ∧ (fun q => q = r) (s'))) 0 [(0, .ref 12), (1, .int x1), (2, .int x2)] [] (t_m s) 1065 0 0
  refine mj_iconst (v := 0) dX8_empty_0 (by decide) ?_
  refine mj_istore_n 3 (lv2 := [(3, .int 0), (0, .ref 12), (1, .int x1), (2, .int x2)]) dX8_empty_1 rfl (by decide) rfl ?_
  refine mj_sublv [(0, .ref 12), (1, .int x1), (2, .int x2), (3, .int 0)] [1, 2, 3, 0] rfl ?_
  exact LH_X8_empty_2 _ x1 x2 0 s _ hk

theorem dX8_put_0 : decode cX8_put 0 = .ok (.aload_n 2, 1) := by decide +kernel
theorem dX8_put_1 : decode cX8_put 1 = .ok (.iload_n 3, 1) := by decide +kernel
theorem dX8_put_10 : decode cX8_put 10 = .ok (.aload_n 0, 1) := by decide +kernel
theorem dX8_put_11 : decode cX8_put 11 = .ok (.getfield 12, 3) := by decide +kernel
theorem dX8_put_14 : decode cX8_put 14 = .ok (.iload_n 1, 1) := by decide +kernel
theorem dX8_put_15 : decode cX8_put 15 = .ok (.bipush 120, 2) := by decide +kernel
theorem dX8_put_17 : decode cX8_put 17 = .ok (.imul, 1) := by decide +kernel
theorem dX8_put_18 : decode cX8_put 18 = .ok (.iload 4, 2) := by decide +kernel
theorem dX8_put_2 : decode cX8_put 2 = .ok (.laload, 1) := by decide +kernel
theorem dX8_put_20 : decode cX8_put 20 = .ok (.invokestatic 57, 3) := by decide +kernel
theorem dX8_put_23 : decode cX8_put 23 = .ok (.aload_n 0, 1) := by decide +kernel
theorem dX8_put_24 : decode cX8_put 24 = .ok (.getfield 16, 3) := by decide +kernel
theorem dX8_put_27 : decode cX8_put 27 = .ok (.iload_n 1, 1) := by decide +kernel
theorem dX8_put_28 : decode cX8_put 28 = .ok (.iload 4, 2) := by decide +kernel
theorem dX8_put_3 : decode cX8_put 3 = .ok (.invokestatic 63, 3) := by decide +kernel
theorem dX8_put_30 : decode cX8_put 30 = .ok (.iastore, 1) := by decide +kernel
theorem dX8_put_31 : decode cX8_put 31 = .ok (.return_, 1) := by decide +kernel
theorem dX8_put_6 : decode cX8_put 6 = .ok (.istore 4, 2) := by decide +kernel
theorem dX8_put_8 : decode cX8_put 8 = .ok (.aload_n 2, 1) := by decide +kernel
theorem dX8_put_9 : decode cX8_put 9 = .ok (.iload_n 3, 1) := by decide +kernel
noncomputable def f_X8_put (x1 : Int32) (x2 : Nat) (x3 : Int32) (s : t_S) : Option (t_S) :=
 if t_oka x2 2 (t_ln x2) = true then
  if t_ix x3 (t_ln x2) = true then
  if t_cpok x3 (x1 * (120 : Int32)) (f_X8_size (s.2.1 x2 (x3.toNatClampNeg)) s) (t_ln x2) 190680 = true then
  t_let (t_cpJ s x2 13 x3 (x1 * (120 : Int32)) (f_X8_size (s.2.1 x2 (x3.toNatClampNeg)) s)) (fun s1 =>
 if t_ix x1 1589 = true then
  t_let (t_setI s1 14 (x1.toNatClampNeg) (f_X8_size (s.2.1 x2 (x3.toNatClampNeg)) s)) (fun s2 =>
 some (s2))
else none)
else none
else none
else none
set_option maxRecDepth 4000 in
set_option maxHeartbeats 1000000 in
theorem C_X8_put (x1 : Int32) (x2 : Nat) (x3 : Int32) (s : t_S) (r : t_S) (hr : f_X8_put x1 x2 x3 s = some r) : t_C yX8_put cX8_put 5 none 1 [.ref 12, .int x1, .ref x2, .int x3] s (fun v s' => v = none ∧ s' = r) := by
  refine t_C.imp (P := fun v s' => v = none ∧ (fun q => q = r) (s')) (t_C.of (by decide +kernel) (Nat.le_of_ble_eq_true rfl) ?_) (fun v s' hp => hp)
  intro D cy ad bs X
  have hk : t_hk (f_X8_put x1 x2 x3 s) (fun q => q = r) := ⟨r, hr, rfl⟩
  show mj_G D cy ad bs X cX8_put 5 yX8_put.cls none yX8_put.name 1 0 0 1065 (t_P (fun v s' => v = none ∧ (fun q => q = r) (s'))) 0 [(0, .ref 12), (1, .int x1), (2, .ref x2), (3, .int x3)] [] (t_m s) 1065 0 0
  refine mj_aload_n dX8_put_0 2 rfl ?_
  refine mj_iload_n dX8_put_1 3 rfl ?_
  refine t_chkK hk (fun c0 hk => ?_)
  refine t_chkK hk (fun c1 hk => ?_)
  refine t_lald dX8_put_2 c0 (t_ixv c1) ?_
  refine t_callSiP dX8_put_3 M_X8_size (C_X8_size _ _) ML_X8_63 SM_X8_size (As := [.long (s.2.1 x2 (x3.toNatClampNeg))]) rfl rfl (Nat.le_of_ble_eq_true rfl) (Nat.le_of_ble_eq_true rfl) (Nat.le_of_ble_eq_true rfl) (Nat.le_of_ble_eq_true rfl) ?_
  refine mj_istore (lv2 := [(4, .int (f_X8_size (s.2.1 x2 (x3.toNatClampNeg)) s)), (0, .ref 12), (1, .int x1), (2, .ref x2), (3, .int x3)]) dX8_put_6 (by decide) rfl ?_
  refine mj_aload_n dX8_put_8 3 rfl ?_
  refine mj_iload_n dX8_put_9 4 rfl ?_
  refine mj_aload_n dX8_put_10 1 rfl ?_
  refine t_getR 13 dX8_put_11 F_X8_12 qr_12_0 ?_
  refine mj_iload_n dX8_put_14 2 rfl ?_
  refine mj_bipush (v := 120) dX8_put_15 (by decide) ?_
  refine mj_imul dX8_put_17 ?_
  refine mj_iload dX8_put_18 0 rfl ?_
  refine t_chkK hk (fun c3 hk => ?_)
  refine t_copyK dX8_put_20 MA_X8_57 c0 qa_13 c3 (Nat.le_of_ble_eq_true rfl) (Nat.le_of_ble_eq_true rfl) (fun s1 ws1 => t_letE hk ws1 (fun hk => ?_))
  refine mj_aload_n dX8_put_23 1 rfl ?_
  refine t_getR 14 dX8_put_24 F_X8_16 qr_12_1 ?_
  refine mj_iload_n dX8_put_27 2 rfl ?_
  refine mj_iload dX8_put_28 0 rfl ?_
  refine t_chkK hk (fun c4 hk => ?_)
  refine t_iastK dX8_put_30 qa_14 (t_ixv c4) (fun s2 ws2 => t_letE hk ws2 (fun hk => ?_))
  exact t_somK hk (fun hf => t_vret dX8_put_31 rfl ⟨rfl, hf⟩ (Nat.le_of_ble_eq_true rfl) (Nat.le_of_ble_eq_true rfl))

theorem dX7_putArguments_0 : decode cX7_putArguments 0 = .ok (.aload_n 0, 1) := by decide +kernel
theorem dX7_putArguments_1 : decode cX7_putArguments 1 = .ok (.getfield 15, 3) := by decide +kernel
theorem dX7_putArguments_10 : decode cX7_putArguments 10 = .ok (.iconst 0, 1) := by decide +kernel
theorem dX7_putArguments_11 : decode cX7_putArguments 11 = .ok (.istore_n 3, 1) := by decide +kernel
theorem dX7_putArguments_12 : decode cX7_putArguments 12 = .ok (.iload_n 2, 1) := by decide +kernel
theorem dX7_putArguments_13 : decode cX7_putArguments 13 = .ok (.iload_n 3, 1) := by decide +kernel
theorem dX7_putArguments_14 : decode cX7_putArguments 14 = .ok (.iadd, 1) := by decide +kernel
theorem dX7_putArguments_15 : decode cX7_putArguments 15 = .ok (.aload_n 0, 1) := by decide +kernel
theorem dX7_putArguments_16 : decode cX7_putArguments 16 = .ok (.getfield 23, 3) := by decide +kernel
theorem dX7_putArguments_19 : decode cX7_putArguments 19 = .ok (.getfield 313, 3) := by decide +kernel
theorem dX7_putArguments_22 : decode cX7_putArguments 22 = .ok (.if_icmp .ge 43, 3) := by decide +kernel
theorem dX7_putArguments_25 : decode cX7_putArguments 25 = .ok (.iload_n 3, 1) := by decide +kernel
theorem dX7_putArguments_26 : decode cX7_putArguments 26 = .ok (.bipush 8, 2) := by decide +kernel
theorem dX7_putArguments_28 : decode cX7_putArguments 28 = .ok (.if_icmp .ge 37, 3) := by decide +kernel
theorem dX7_putArguments_31 : decode cX7_putArguments 31 = .ok (.aload_n 0, 1) := by decide +kernel
theorem dX7_putArguments_32 : decode cX7_putArguments 32 = .ok (.getfield 15, 3) := by decide +kernel
theorem dX7_putArguments_35 : decode cX7_putArguments 35 = .ok (.iload_n 1, 1) := by decide +kernel
theorem dX7_putArguments_36 : decode cX7_putArguments 36 = .ok (.iload_n 3, 1) := by decide +kernel
theorem dX7_putArguments_37 : decode cX7_putArguments 37 = .ok (.iadd, 1) := by decide +kernel
theorem dX7_putArguments_38 : decode cX7_putArguments 38 = .ok (.aload_n 0, 1) := by decide +kernel
theorem dX7_putArguments_39 : decode cX7_putArguments 39 = .ok (.getfield 23, 3) := by decide +kernel
theorem dX7_putArguments_4 : decode cX7_putArguments 4 = .ok (.iload_n 1, 1) := by decide +kernel
theorem dX7_putArguments_42 : decode cX7_putArguments 42 = .ok (.getfield 130, 3) := by decide +kernel
theorem dX7_putArguments_45 : decode cX7_putArguments 45 = .ok (.aload_n 0, 1) := by decide +kernel
theorem dX7_putArguments_46 : decode cX7_putArguments 46 = .ok (.getfield 23, 3) := by decide +kernel
theorem dX7_putArguments_49 : decode cX7_putArguments 49 = .ok (.getfield 316, 3) := by decide +kernel
theorem dX7_putArguments_5 : decode cX7_putArguments 5 = .ok (.bipush 8, 2) := by decide +kernel
theorem dX7_putArguments_52 : decode cX7_putArguments 52 = .ok (.iload_n 2, 1) := by decide +kernel
theorem dX7_putArguments_53 : decode cX7_putArguments 53 = .ok (.iload_n 3, 1) := by decide +kernel
theorem dX7_putArguments_54 : decode cX7_putArguments 54 = .ok (.iadd, 1) := by decide +kernel
theorem dX7_putArguments_55 : decode cX7_putArguments 55 = .ok (.iaload, 1) := by decide +kernel
theorem dX7_putArguments_56 : decode cX7_putArguments 56 = .ok (.invokevirtual 147, 3) := by decide +kernel
theorem dX7_putArguments_59 : decode cX7_putArguments 59 = .ok (.iinc 3 1, 3) := by decide +kernel
theorem dX7_putArguments_62 : decode cX7_putArguments 62 = .ok (.goto (-50), 3) := by decide +kernel
theorem dX7_putArguments_65 : decode cX7_putArguments 65 = .ok (.return_, 1) := by decide +kernel
theorem dX7_putArguments_7 : decode cX7_putArguments 7 = .ok (.invokevirtual 103, 3) := by decide +kernel
noncomputable def k_X7_putArguments_12 (l1 : Int32) (l2 : Int32) (l3 : Int32) (s : t_S) : Option ((Int32 × Int32 × Int32 × t_S) ⊕ (t_S)) :=
 if (s.1 334 7) ≤ (l2 + l3) then ((some (s)).map Sum.inr)
 else (if (8 : Int32) ≤ l3 then ((some (s)).map Sum.inr)
 else (if t_ix (l2 + l3) 3201 = true then
  (f_X8_put (l1 + l3) 338 (s.1 339 ((l2 + l3).toNatClampNeg)) s).bind (fun r2 =>
 some (.inl (l1, l2, (l3 + 1), r2)))
else none))
set_option maxRecDepth 4000 in
set_option maxHeartbeats 1000000 in
theorem B_X7_putArguments_12 {D : va_G} {cy : Nat → ClassId} {ad : Nat → Nat} {bs : Nat} {X : State → Heap → Prop} (l1 : Int32) (l2 : Int32) (l3 : Int32) (s : t_S) (Q : (Int32 × Int32 × Int32 × t_S) ⊕ (t_S) → Prop) (Hb12 : ∀ (y0 : Int32) (y1 : Int32) (y2 : Int32) (y3 : t_S), Q (.inl (y0, y1, y2, y3)) → mj_G D cy ad bs X cX7_putArguments 4 yX7_putArguments.cls none yX7_putArguments.name 2 0 0 1065 (t_P (fun v s' => v = none ∧ Q (.inr (s')))) 12 [(0, .ref 864), (1, .int (y0)), (2, .int (y1)), (3, .int (y2))] [] (t_m y3) 1065 0 0) (hk : t_hk (k_X7_putArguments_12 l1 l2 l3 s) Q) : mj_G D cy ad bs X cX7_putArguments 4 yX7_putArguments.cls none yX7_putArguments.name 2 0 0 1065 (t_P (fun v s' => v = none ∧ Q (.inr (s')))) 12 [(0, .ref 864), (1, .int l1), (2, .int l2), (3, .int l3)] [] (t_m s) 1065 0 0 := by
  refine mj_iload_n dX7_putArguments_12 2 rfl ?_
  refine mj_iload_n dX7_putArguments_13 3 rfl ?_
  refine mj_iadd dX7_putArguments_14 ?_
  refine mj_aload_n dX7_putArguments_15 0 rfl ?_
  refine t_getR 334 dX7_putArguments_16 F_X7_23 qr_864_2 ?_
  refine t_getI dX7_putArguments_19 F_X7_313 qf_334_7 ?_
  refine mj_icmp_ge 65 dX7_putArguments_22 (by decide) (fun z => t_posK hk z (fun hk => ?_)) (fun z => t_negK hk z (fun hk => ?_))
  · refine t_mapK hk (fun hk => ?_)
    exact t_somK hk (fun hf => t_vret dX7_putArguments_65 rfl ⟨rfl, hf⟩ (Nat.le_of_ble_eq_true rfl) (Nat.le_of_ble_eq_true rfl))
  · refine mj_iload_n dX7_putArguments_25 3 rfl ?_
    refine mj_bipush (v := 8) dX7_putArguments_26 (by decide) ?_
    refine mj_icmp_ge 65 dX7_putArguments_28 (by decide) (fun z => t_posK hk z (fun hk => ?_)) (fun z => t_negK hk z (fun hk => ?_))
    · refine t_mapK hk (fun hk => ?_)
      exact t_somK hk (fun hf => t_vret dX7_putArguments_65 rfl ⟨rfl, hf⟩ (Nat.le_of_ble_eq_true rfl) (Nat.le_of_ble_eq_true rfl))
    · refine mj_aload_n dX7_putArguments_31 0 rfl ?_
      refine t_getR 12 dX7_putArguments_32 F_X7_15 qr_864_0 ?_
      refine mj_iload_n dX7_putArguments_35 1 rfl ?_
      refine mj_iload_n dX7_putArguments_36 3 rfl ?_
      refine mj_iadd dX7_putArguments_37 ?_
      refine mj_aload_n dX7_putArguments_38 0 rfl ?_
      refine t_getR 334 dX7_putArguments_39 F_X7_23 qr_864_2 ?_
      refine t_getR 338 dX7_putArguments_42 F_X7_130 qr_334_5 ?_
      refine mj_aload_n dX7_putArguments_45 0 rfl ?_
      refine t_getR 334 dX7_putArguments_46 F_X7_23 qr_864_2 ?_
      refine t_getR 339 dX7_putArguments_49 F_X7_316 qr_334_6 ?_
      refine mj_iload_n dX7_putArguments_52 2 rfl ?_
      refine mj_iload_n dX7_putArguments_53 3 rfl ?_
      refine mj_iadd dX7_putArguments_54 ?_
      refine t_chkK hk (fun c0 hk => ?_)
      refine t_iald dX7_putArguments_55 qa_339 (t_ixv c0) ?_
      refine t_bndK hk (fun r2 er2 hk => ?_)
      refine t_callVvE dX7_putArguments_56 M_X8_put (C_X8_put _ _ _ _ _ er2) ML_X7_147 IM_X8_put SE_X8_put qc_12 rfl (As := [.int (l1 + l3), .ref 338, .int (s.1 339 ((l2 + l3).toNatClampNeg))]) rfl rfl (Nat.le_of_ble_eq_true rfl) (Nat.le_of_ble_eq_true rfl) (Nat.le_of_ble_eq_true rfl) (Nat.le_of_ble_eq_true rfl) ?_
      refine mj_iinc (k := 3) (v := (l3 + 1)) (lv2 := [(3, .int (l3 + 1)), (0, .ref 864), (1, .int l1), (2, .int l2)]) dX7_putArguments_59 rfl rfl (by decide) rfl ?_
      refine mj_goto 12 dX7_putArguments_62 (by decide) ?_
      refine mj_sublv [(0, .ref 864), (1, .int l1), (2, .int l2), (3, .int (l3 + 1))] [1, 2, 3, 0] rfl ?_
      exact t_somK hk (fun hf => Hb12 l1 l2 (l3 + 1) r2 hf)
noncomputable def b_X7_putArguments_12 (x : Int32 × Int32 × Int32 × t_S) : Option ((Int32 × Int32 × Int32 × t_S) ⊕ (t_S)) := k_X7_putArguments_12 x.1 x.2.1 x.2.2.1 x.2.2.2
set_option maxRecDepth 4000 in
set_option maxHeartbeats 1000000 in
theorem LH_X7_putArguments_12 {D : va_G} {cy : Nat → ClassId} {ad : Nat → Nat} {bs : Nat} {X : State → Heap → Prop} : ∀ (n : Nat) (y0 : Int32) (y1 : Int32) (y2 : Int32) (y3 : t_S) (Q : t_S → Prop) (hk : t_hk (t_loop (b_X7_putArguments_12) n (y0, y1, y2, y3)) Q), mj_G D cy ad bs X cX7_putArguments 4 yX7_putArguments.cls none yX7_putArguments.name 2 0 0 1065 (t_P (fun v s' => v = none ∧ Q (s'))) 12 [(0, .ref 864), (1, .int (y0)), (2, .int (y1)), (3, .int (y2))] [] (t_m y3) 1065 0 0 := by
  intro n
  induction n with
  | zero => intro y0 y1 y2 y3 Q hk; obtain ⟨r, hr, _⟩ := hk; cases hr
  | succ n ih =>
    intro y0 y1 y2 y3 Q hk
    exact B_X7_putArguments_12 y0 y1 y2 y3 (fun y => t_lq (b_X7_putArguments_12) n Q y) (fun y0' y1' y2' y3' hy => ih y0' y1' y2' y3' Q hy) (t_lp hk)
noncomputable def f_X7_putArguments (x1 : Int32) (x2 : Int32) (s : t_S) : Option (t_S) :=
 (f_X8_empty x1 (8 : Int32) s).bind (fun r1 =>
 t_loop (b_X7_putArguments_12) t_N (x1, x2, 0, r1))
set_option maxRecDepth 4000 in
set_option maxHeartbeats 1000000 in
theorem C_X7_putArguments (x1 : Int32) (x2 : Int32) (s : t_S) (r : t_S) (hr : f_X7_putArguments x1 x2 s = some r) : t_C yX7_putArguments cX7_putArguments 4 none 2 [.ref 864, .int x1, .int x2] s (fun v s' => v = none ∧ s' = r) := by
  refine t_C.imp (P := fun v s' => v = none ∧ (fun q => q = r) (s')) (t_C.of (by decide +kernel) (Nat.le_of_ble_eq_true rfl) ?_) (fun v s' hp => hp)
  intro D cy ad bs X
  have hk : t_hk (f_X7_putArguments x1 x2 s) (fun q => q = r) := ⟨r, hr, rfl⟩
  show mj_G D cy ad bs X cX7_putArguments 4 yX7_putArguments.cls none yX7_putArguments.name 2 0 0 1065 (t_P (fun v s' => v = none ∧ (fun q => q = r) (s'))) 0 [(0, .ref 864), (1, .int x1), (2, .int x2)] [] (t_m s) 1065 0 0
  refine mj_aload_n dX7_putArguments_0 0 rfl ?_
  refine t_getR 12 dX7_putArguments_1 F_X7_15 qr_864_0 ?_
  refine mj_iload_n dX7_putArguments_4 1 rfl ?_
  refine mj_bipush (v := 8) dX7_putArguments_5 (by decide) ?_
  refine t_bndK hk (fun r1 er1 hk => ?_)
  refine t_callVvE dX7_putArguments_7 M_X8_empty (C_X8_empty _ _ _ _ er1) ML_X7_103 IM_X8_empty SE_X8_empty qc_12 rfl (As := [.int x1, .int 8]) rfl rfl (Nat.le_of_ble_eq_true rfl) (Nat.le_of_ble_eq_true rfl) (Nat.le_of_ble_eq_true rfl) (Nat.le_of_ble_eq_true rfl) ?_
  refine mj_iconst (v := 0) dX7_putArguments_10 (by decide) ?_
  refine mj_istore_n 3 (lv2 := [(3, .int 0), (0, .ref 864), (1, .int x1), (2, .int x2)]) dX7_putArguments_11 rfl (by decide) rfl ?_
  refine mj_sublv [(0, .ref 864), (1, .int x1), (2, .int x2), (3, .int 0)] [1, 2, 3, 0] rfl ?_
  exact LH_X7_putArguments_12 _ x1 x2 0 r1 _ hk

