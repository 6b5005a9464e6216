/-! Methods as functions, 21: X12_event, X12_eventValue, X2_append4, X2_append, X12_feed, X12_fits, X12_isPart, X12_isPort, X4_enqueue, X7_arrive, X8_canBeGiven, X12_give, X12_letter, X12_lightest, X12_many -/
theorem qa_2 : t_oka 2 0 12000 = true := by decide +kernel
theorem qa_429 : t_oka 429 1 8 = true := by decide +kernel
theorem qa_857 : t_oka 857 0 4000 = true := by decide +kernel
theorem qf_856_3 : t_okf 856 1 3 0 = true := by decide +kernel
theorem qr_1_0 : t_okr 1 2 0 2 = true := by decide +kernel
theorem qr_428_1 : t_okr 428 5 1 429 = true := by decide +kernel
theorem qr_856_2 : t_okr 856 1 2 857 = true := by decide +kernel
theorem dX12_event_0 : decode cX12_event 0 = .ok (.aload_n 0, 1) := by decide +kernel
theorem dX12_event_1 : decode cX12_event 1 = .ok (.getfield 84, 3) := by decide +kernel
theorem dX12_event_10 : decode cX12_event 10 = .ok (.iload_n 1, 1) := by decide +kernel
theorem dX12_event_11 : decode cX12_event 11 = .ok (.ifCond .lt 29, 3) := by decide +kernel
theorem dX12_event_14 : decode cX12_event 14 = .ok (.iload_n 1, 1) := by decide +kernel
theorem dX12_event_15 : decode cX12_event 15 = .ok (.aload_n 0, 1) := by decide +kernel
theorem dX12_event_16 : decode cX12_event 16 = .ok (.getfield 19, 3) := by decide +kernel
theorem dX12_event_19 : decode cX12_event 19 = .ok (.getfield 331, 3) := by decide +kernel
theorem dX12_event_22 : decode cX12_event 22 = .ok (.sipush 300, 3) := by decide +kernel
theorem dX12_event_25 : decode cX12_event 25 = .ok (.invokestatic 367, 3) := by decide +kernel
theorem dX12_event_28 : decode cX12_event 28 = .ok (.if_icmp .ge 12, 3) := by decide +kernel
theorem dX12_event_31 : decode cX12_event 31 = .ok (.iload_n 2, 1) := by decide +kernel
theorem dX12_event_32 : decode cX12_event 32 = .ok (.ifCond .lt 8, 3) := by decide +kernel
theorem dX12_event_35 : decode cX12_event 35 = .ok (.iload_n 2, 1) := by decide +kernel
theorem dX12_event_36 : decode cX12_event 36 = .ok (.iconst 2, 1) := by decide +kernel
theorem dX12_event_37 : decode cX12_event 37 = .ok (.if_icmp .le 5, 3) := by decide +kernel
theorem dX12_event_4 : decode cX12_event 4 = .ok (.getfield 277, 3) := by decide +kernel
theorem dX12_event_40 : decode cX12_event 40 = .ok (.iconst (-1), 1) := by decide +kernel
theorem dX12_event_41 : decode cX12_event 41 = .ok (.ireturn, 1) := by decide +kernel
theorem dX12_event_42 : decode cX12_event 42 = .ok (.aload_n 0, 1) := by decide +kernel
theorem dX12_event_43 : decode cX12_event 43 = .ok (.getfield 19, 3) := by decide +kernel
theorem dX12_event_46 : decode cX12_event 46 = .ok (.getfield 370, 3) := by decide +kernel
theorem dX12_event_49 : decode cX12_event 49 = .ok (.iload_n 1, 1) := by decide +kernel
theorem dX12_event_50 : decode cX12_event 50 = .ok (.aaload, 1) := by decide +kernel
theorem dX12_event_51 : decode cX12_event 51 = .ok (.iload_n 2, 1) := by decide +kernel
theorem dX12_event_52 : decode cX12_event 52 = .ok (.iaload, 1) := by decide +kernel
theorem dX12_event_53 : decode cX12_event 53 = .ok (.ireturn, 1) := by decide +kernel
theorem dX12_event_7 : decode cX12_event 7 = .ok (.ifCond .eq 33, 3) := by decide +kernel
noncomputable def f_X12_event (x1 : Int32) (x2 : Int32) (s : t_S) : Option (Int32) :=
 if (s.1 864 8) = (0 : Int32) then (some (-1 : Int32))
 else (if x1 < (0 : Int32) then (some (-1 : Int32))
 else (if (if (300 : Int32) < (s.1 12 4) then (300 : Int32) else (s.1 12 4)) ≤ x1 then (some (-1 : Int32))
 else (if x2 < (0 : Int32) then (some (-1 : Int32))
 else (if x2 ≤ (2 : Int32) then (if t_ix x1 300 = true then
  if t_ix x2 3 = true then
  some (s.1 (16 + 1 * (x1.toNatClampNeg)) (x2.toNatClampNeg))
else none
else none)
 else (some (-1 : Int32))))))
set_option maxRecDepth 4000 in
set_option maxHeartbeats 1000000 in
theorem C_X12_event (x1 : Int32) (x2 : Int32) (s : t_S) (r : Int32) (hr : f_X12_event x1 x2 s = some r) : t_C yX12_event cX12_event 3 (some .int) 1 [.ref 0, .int x1, .int x2] s (fun v s' => v = some (.int r) ∧ s' = s) := by
  refine t_C.imp (P := fun v s' => s' = s ∧ ∃ x, v = some (.int x) ∧ (fun q => q = r) (x)) (t_C.of (by decide +kernel) (Nat.le_of_ble_eq_true rfl) ?_) (fun v s' hp => by obtain ⟨rfl, x, rfl, rfl⟩ := hp; exact ⟨rfl, rfl⟩)
  intro D cy ad bs X
  have hk : t_hk (f_X12_event x1 x2 s) (fun q => q = r) := ⟨r, hr, rfl⟩
  show mj_G D cy ad bs X cX12_event 3 yX12_event.cls (some .int) yX12_event.name 1 0 0 1065 (t_P (fun v s' => s' = s ∧ ∃ x, v = some (.int x) ∧ (fun q => q = r) (x))) 0 [(0, .ref 0), (1, .int x1), (2, .int x2)] [] (t_m s) 1065 0 0
  refine mj_aload_n dX12_event_0 0 rfl ?_
  refine t_getR 864 dX12_event_1 F_X12_84 qr_0_8 ?_
  refine t_getI dX12_event_4 F_X12_277 qf_864_8 ?_
  refine mj_if_eq 40 dX12_event_7 (by decide) (fun z => t_posK hk z (fun hk => ?_)) (fun z => t_negK hk z (fun hk => ?_))
  · refine mj_iconst (v := (-1)) dX12_event_40 (by decide) ?_
    exact t_somK hk (fun hf => t_iret dX12_event_41 rfl rfl ⟨rfl, _, rfl, hf⟩ (Nat.le_of_ble_eq_true rfl) (Nat.le_of_ble_eq_true rfl))
  · refine mj_iload_n dX12_event_10 1 rfl ?_
    refine mj_if_lt 40 dX12_event_11 (by decide) (fun z => t_posK hk z (fun hk => ?_)) (fun z => t_negK hk z (fun hk => ?_))
    · refine mj_iconst (v := (-1)) dX12_event_40 (by decide) ?_
      exact t_somK hk (fun hf => t_iret dX12_event_41 rfl rfl ⟨rfl, _, rfl, hf⟩ (Nat.le_of_ble_eq_true rfl) (Nat.le_of_ble_eq_true rfl))
    · refine mj_iload_n dX12_event_14 1 rfl ?_
      refine mj_aload_n dX12_event_15 0 rfl ?_
      refine t_getR 12 dX12_event_16 F_X12_19 qr_0_1 ?_
      refine t_getI dX12_event_19 F_X12_331 qf_12_4 ?_
      refine mj_sipush (v := 300) dX12_event_22 (by decide) ?_
      refine mj_imin dX12_event_25 MM_min_X12_367 (Nat.le_of_ble_eq_true rfl) (Nat.le_of_ble_eq_true rfl) (Nat.le_of_ble_eq_true rfl) (Nat.le_of_ble_eq_true rfl) ?_
      refine mj_icmp_ge 40 dX12_event_28 (by decide) (fun z => t_posK hk z (fun hk => ?_)) (fun z => t_negK hk z (fun hk => ?_))
      · refine mj_iconst (v := (-1)) dX12_event_40 (by decide) ?_
        exact t_somK hk (fun hf => t_iret dX12_event_41 rfl rfl ⟨rfl, _, rfl, hf⟩ (Nat.le_of_ble_eq_true rfl) (Nat.le_of_ble_eq_true rfl))
      · refine mj_iload_n dX12_event_31 2 rfl ?_
        refine mj_if_lt 40 dX12_event_32 (by decide) (fun z => t_posK hk z (fun hk => ?_)) (fun z => t_negK hk z (fun hk => ?_))
        · refine mj_iconst (v := (-1)) dX12_event_40 (by decide) ?_
          exact t_somK hk (fun hf => t_iret dX12_event_41 rfl rfl ⟨rfl, _, rfl, hf⟩ (Nat.le_of_ble_eq_true rfl) (Nat.le_of_ble_eq_true rfl))
        · refine mj_iload_n dX12_event_35 2 rfl ?_
          refine mj_iconst (v := 2) dX12_event_36 (by decide) ?_
          refine mj_icmp_le 42 dX12_event_37 (by decide) (fun z => t_posK hk z (fun hk => ?_)) (fun z => t_negK hk z (fun hk => ?_))
          · refine mj_aload_n dX12_event_42 0 rfl ?_
            refine t_getR 12 dX12_event_43 F_X12_19 qr_0_1 ?_
            refine t_getR 15 dX12_event_46 F_X12_370 qr_12_3 ?_
            refine mj_iload_n dX12_event_49 1 rfl ?_
            refine t_chkK hk (fun c0 hk => ?_)
            refine t_aaldI dX12_event_50 qq_15 (t_ixv c0) ?_
            refine mj_iload_n dX12_event_51 2 rfl ?_
            refine t_chkK hk (fun c1 hk => ?_)
            refine t_iald dX12_event_52 (t_row16 (t_ixn c0)) (t_ixv c1) ?_
            exact t_somK hk (fun hf => t_iret dX12_event_53 rfl rfl ⟨rfl, _, rfl, hf⟩ (Nat.le_of_ble_eq_true rfl) (Nat.le_of_ble_eq_true rfl))
          · refine mj_iconst (v := (-1)) dX12_event_40 (by decide) ?_
            exact t_somK hk (fun hf => t_iret dX12_event_41 rfl rfl ⟨rfl, _, rfl, hf⟩ (Nat.le_of_ble_eq_true rfl) (Nat.le_of_ble_eq_true rfl))

theorem dX12_eventValue_0 : decode cX12_eventValue 0 = .ok (.aload_n 0, 1) := by decide +kernel
theorem dX12_eventValue_1 : decode cX12_eventValue 1 = .ok (.getfield 84, 3) := by decide +kernel
theorem dX12_eventValue_10 : decode cX12_eventValue 10 = .ok (.iload_n 1, 1) := by decide +kernel
theorem dX12_eventValue_11 : decode cX12_eventValue 11 = .ok (.ifCond .lt 20, 3) := by decide +kernel
theorem dX12_eventValue_14 : decode cX12_eventValue 14 = .ok (.iload_n 1, 1) := by decide +kernel
theorem dX12_eventValue_15 : decode cX12_eventValue 15 = .ok (.aload_n 0, 1) := by decide +kernel
theorem dX12_eventValue_16 : decode cX12_eventValue 16 = .ok (.getfield 19, 3) := by decide +kernel
theorem dX12_eventValue_19 : decode cX12_eventValue 19 = .ok (.getfield 331, 3) := by decide +kernel
theorem dX12_eventValue_22 : decode cX12_eventValue 22 = .ok (.sipush 300, 3) := by decide +kernel
theorem dX12_eventValue_25 : decode cX12_eventValue 25 = .ok (.invokestatic 367, 3) := by decide +kernel
theorem dX12_eventValue_28 : decode cX12_eventValue 28 = .ok (.if_icmp .lt 6, 3) := by decide +kernel
theorem dX12_eventValue_31 : decode cX12_eventValue 31 = .ok (.bipush (-2), 2) := by decide +kernel
theorem dX12_eventValue_33 : decode cX12_eventValue 33 = .ok (.ireturn, 1) := by decide +kernel
theorem dX12_eventValue_34 : decode cX12_eventValue 34 = .ok (.sipush 1248, 3) := by decide +kernel
theorem dX12_eventValue_37 : decode cX12_eventValue 37 = .ok (.iload_n 1, 1) := by decide +kernel
theorem dX12_eventValue_38 : decode cX12_eventValue 38 = .ok (.iadd, 1) := by decide +kernel
theorem dX12_eventValue_39 : decode cX12_eventValue 39 = .ok (.istore_n 2, 1) := by decide +kernel
theorem dX12_eventValue_4 : decode cX12_eventValue 4 = .ok (.getfield 277, 3) := by decide +kernel
theorem dX12_eventValue_40 : decode cX12_eventValue 40 = .ok (.aload_n 0, 1) := by decide +kernel
theorem dX12_eventValue_41 : decode cX12_eventValue 41 = .ok (.getfield 19, 3) := by decide +kernel
theorem dX12_eventValue_44 : decode cX12_eventValue 44 = .ok (.getfield 364, 3) := by decide +kernel
theorem dX12_eventValue_47 : decode cX12_eventValue 47 = .ok (.iload_n 2, 1) := by decide +kernel
theorem dX12_eventValue_48 : decode cX12_eventValue 48 = .ok (.iaload, 1) := by decide +kernel
theorem dX12_eventValue_49 : decode cX12_eventValue 49 = .ok (.ifCond .ne 8, 3) := by decide +kernel
theorem dX12_eventValue_52 : decode cX12_eventValue 52 = .ok (.bipush (-2), 2) := by decide +kernel
theorem dX12_eventValue_54 : decode cX12_eventValue 54 = .ok (.goto 21, 3) := by decide +kernel
theorem dX12_eventValue_57 : decode cX12_eventValue 57 = .ok (.aload_n 0, 1) := by decide +kernel
theorem dX12_eventValue_58 : decode cX12_eventValue 58 = .ok (.getfield 19, 3) := by decide +kernel
theorem dX12_eventValue_61 : decode cX12_eventValue 61 = .ok (.aload_n 0, 1) := by decide +kernel
theorem dX12_eventValue_62 : decode cX12_eventValue 62 = .ok (.getfield 19, 3) := by decide +kernel
theorem dX12_eventValue_65 : decode cX12_eventValue 65 = .ok (.getfield 173, 3) := by decide +kernel
theorem dX12_eventValue_68 : decode cX12_eventValue 68 = .ok (.iload_n 2, 1) := by decide +kernel
theorem dX12_eventValue_69 : decode cX12_eventValue 69 = .ok (.bipush 120, 2) := by decide +kernel
theorem dX12_eventValue_7 : decode cX12_eventValue 7 = .ok (.ifCond .eq 24, 3) := by decide +kernel
theorem dX12_eventValue_71 : decode cX12_eventValue 71 = .ok (.imul, 1) := by decide +kernel
theorem dX12_eventValue_72 : decode cX12_eventValue 72 = .ok (.invokevirtual 162, 3) := by decide +kernel
theorem dX12_eventValue_75 : decode cX12_eventValue 75 = .ok (.ireturn, 1) := by decide +kernel
noncomputable def f_X12_eventValue (x1 : Int32) (s : t_S) : Option (Int32 × t_S) :=
 if (s.1 864 8) = (0 : Int32) then (some ((-2 : Int32), s))
 else (if x1 < (0 : Int32) then (some ((-2 : Int32), s))
 else (if x1 < (if (300 : Int32) < (s.1 12 4) then (300 : Int32) else (s.1 12 4)) then (if t_ix ((1248 : Int32) + x1) 1589 = true then
  if (s.1 14 (((1248 : Int32) + x1).toNatClampNeg)) = (0 : Int32) then (some ((-2 : Int32), s))
 else ((f_X8_keep 13 (((1248 : Int32) + x1) * (120 : Int32)) s).bind (fun r2 =>
 some (r2.1, r2.2)))
else none)
 else (some ((-2 : Int32), s))))
set_option maxRecDepth 4000 in
set_option maxHeartbeats 1000000 in
theorem C_X12_eventValue (x1 : Int32) (s : t_S) (r : Int32 × t_S) (hr : f_X12_eventValue x1 s = some r) : t_C yX12_eventValue cX12_eventValue 3 (some .int) 3 [.ref 0, .int x1] s (fun v s' => v = some (.int r.1) ∧ s' = r.2) := by
  refine t_C.imp (P := fun v s' => ∃ x, v = some (.int x) ∧ (fun q => q = r) ((x, s'))) (t_C.of (by decide +kernel) (Nat.le_of_ble_eq_true rfl) ?_) (fun v s' hp => by obtain ⟨x, rfl, rfl⟩ := hp; exact ⟨rfl, rfl⟩)
  intro D cy ad bs X
  have hk : t_hk (f_X12_eventValue x1 s) (fun q => q = r) := ⟨r, hr, rfl⟩
  show mj_G D cy ad bs X cX12_eventValue 3 yX12_eventValue.cls (some .int) yX12_eventValue.name 3 0 0 1065 (t_P (fun v s' => ∃ x, v = some (.int x) ∧ (fun q => q = r) ((x, s')))) 0 [(0, .ref 0), (1, .int x1)] [] (t_m s) 1065 0 0
  refine mj_aload_n dX12_eventValue_0 0 rfl ?_
  refine t_getR 864 dX12_eventValue_1 F_X12_84 qr_0_8 ?_
  refine t_getI dX12_eventValue_4 F_X12_277 qf_864_8 ?_
  refine mj_if_eq 31 dX12_eventValue_7 (by decide) (fun z => t_posK hk z (fun hk => ?_)) (fun z => t_negK hk z (fun hk => ?_))
  · refine mj_bipush (v := (-2)) dX12_eventValue_31 (by decide) ?_
    exact t_somK hk (fun hf => t_iret dX12_eventValue_33 rfl rfl ⟨_, rfl, hf⟩ (Nat.le_of_ble_eq_true rfl) (Nat.le_of_ble_eq_true rfl))
  · refine mj_iload_n dX12_eventValue_10 1 rfl ?_
    refine mj_if_lt 31 dX12_eventValue_11 (by decide) (fun z => t_posK hk z (fun hk => ?_)) (fun z => t_negK hk z (fun hk => ?_))
    · refine mj_bipush (v := (-2)) dX12_eventValue_31 (by decide) ?_
      exact t_somK hk (fun hf => t_iret dX12_eventValue_33 rfl rfl ⟨_, rfl, hf⟩ (Nat.le_of_ble_eq_true rfl) (Nat.le_of_ble_eq_true rfl))
    · refine mj_iload_n dX12_eventValue_14 1 rfl ?_
      refine mj_aload_n dX12_eventValue_15 0 rfl ?_
      refine t_getR 12 dX12_eventValue_16 F_X12_19 qr_0_1 ?_
      refine t_getI dX12_eventValue_19 F_X12_331 qf_12_4 ?_
      refine mj_sipush (v := 300) dX12_eventValue_22 (by decide) ?_
      refine mj_imin dX12_eventValue_25 MM_min_X12_367 (Nat.le_of_ble_eq_true rfl) (Nat.le_of_ble_eq_true rfl) (Nat.le_of_ble_eq_true rfl) (Nat.le_of_ble_eq_true rfl) ?_
      refine mj_icmp_lt 34 dX12_eventValue_28 (by decide) (fun z => t_posK hk z (fun hk => ?_)) (fun z => t_negK hk z (fun hk => ?_))
      · refine mj_sipush (v := 1248) dX12_eventValue_34 (by decide) ?_
        refine mj_iload_n dX12_eventValue_37 1 rfl ?_
        refine mj_iadd dX12_eventValue_38 ?_
        refine mj_istore_n 2 (lv2 := [(2, .int ((1248 : Int32) + x1)), (0, .ref 0), (1, .int x1)]) dX12_eventValue_39 rfl (by decide) rfl ?_
        refine mj_aload_n dX12_eventValue_40 1 rfl ?_
        refine t_getR 12 dX12_eventValue_41 F_X12_19 qr_0_1 ?_
        refine t_getR 14 dX12_eventValue_44 F_X12_364 qr_12_1 ?_
        refine mj_iload_n dX12_eventValue_47 0 rfl ?_
        refine t_chkK hk (fun c0 hk => ?_)
        refine t_iald dX12_eventValue_48 qa_14 (t_ixv c0) ?_
        refine mj_if_ne 57 dX12_eventValue_49 (by decide) (fun z => t_negK hk z (fun hk => ?_)) (fun z => t_posK hk z (fun hk => ?_))
        · refine mj_aload_n dX12_eventValue_57 1 rfl ?_
          refine t_getR 12 dX12_eventValue_58 F_X12_19 qr_0_1 ?_
          refine mj_aload_n dX12_eventValue_61 1 rfl ?_
          refine t_getR 12 dX12_eventValue_62 F_X12_19 qr_0_1 ?_
          refine t_getR 13 dX12_eventValue_65 F_X12_173 qr_12_0 ?_
          refine mj_iload_n dX12_eventValue_68 0 rfl ?_
          refine mj_bipush (v := 120) dX12_eventValue_69 (by decide) ?_
          refine mj_imul dX12_eventValue_71 ?_
          refine t_bndK hk (fun r2 er2 hk => ?_)
          refine t_callViE dX12_eventValue_72 M_X8_keep (C_X8_keep _ _ _ _ er2) ML_X12_162 IM_X8_keep SE_X8_keep qc_12 rfl (As := [.ref 13, .int (((1248 : Int32) + x1) * (120 : Int32))]) rfl rfl (Nat.le_of_ble_eq_true rfl) (Nat.le_of_ble_eq_true rfl) (Nat.le_of_ble_eq_true rfl) (Nat.le_of_ble_eq_true rfl) ?_
          exact t_somK hk (fun hf => t_iret dX12_eventValue_75 rfl rfl ⟨_, rfl, hf⟩ (Nat.le_of_ble_eq_true rfl) (Nat.le_of_ble_eq_true rfl))
        · refine mj_bipush (v := (-2)) dX12_eventValue_52 (by decide) ?_
          refine mj_goto 75 dX12_eventValue_54 (by decide) ?_
          exact t_somK hk (fun hf => t_iret dX12_eventValue_75 rfl rfl ⟨_, rfl, hf⟩ (Nat.le_of_ble_eq_true rfl) (Nat.le_of_ble_eq_true rfl))
      · refine mj_bipush (v := (-2)) dX12_eventValue_31 (by decide) ?_
        exact t_somK hk (fun hf => t_iret dX12_eventValue_33 rfl rfl ⟨_, rfl, hf⟩ (Nat.le_of_ble_eq_true rfl) (Nat.le_of_ble_eq_true rfl))

theorem dX2_append4_0 : decode cX2_append4 0 = .ok (.bipush 24, 2) := by decide +kernel
theorem dX2_append4_11 : decode cX2_append4 11 = .ok (.aload_n 0, 1) := by decide +kernel
theorem dX2_append4_12 : decode cX2_append4 12 = .ok (.getfield 61, 3) := by decide +kernel
theorem dX2_append4_15 : decode cX2_append4 15 = .ok (.iload_n 1, 1) := by decide +kernel
theorem dX2_append4_16 : decode cX2_append4 16 = .ok (.iload_n 2, 1) := by decide +kernel
theorem dX2_append4_17 : decode cX2_append4 17 = .ok (.iushr, 1) := by decide +kernel
theorem dX2_append4_18 : decode cX2_append4 18 = .ok (.i2b, 1) := by decide +kernel
theorem dX2_append4_19 : decode cX2_append4 19 = .ok (.bastore, 1) := by decide +kernel
theorem dX2_append4_2 : decode cX2_append4 2 = .ok (.istore_n 2, 1) := by decide +kernel
theorem dX2_append4_20 : decode cX2_append4 20 = .ok (.aload_n 0, 1) := by decide +kernel
theorem dX2_append4_21 : decode cX2_append4 21 = .ok (.dup, 1) := by decide +kernel
theorem dX2_append4_22 : decode cX2_append4 22 = .ok (.getfield 61, 3) := by decide +kernel
theorem dX2_append4_25 : decode cX2_append4 25 = .ok (.iconst 1, 1) := by decide +kernel
theorem dX2_append4_26 : decode cX2_append4 26 = .ok (.iadd, 1) := by decide +kernel
theorem dX2_append4_27 : decode cX2_append4 27 = .ok (.putfield 61, 3) := by decide +kernel
theorem dX2_append4_3 : decode cX2_append4 3 = .ok (.iload_n 2, 1) := by decide +kernel
theorem dX2_append4_30 : decode cX2_append4 30 = .ok (.iinc 2 (-8), 3) := by decide +kernel
theorem dX2_append4_33 : decode cX2_append4 33 = .ok (.goto (-30), 3) := by decide +kernel
theorem dX2_append4_36 : decode cX2_append4 36 = .ok (.return_, 1) := by decide +kernel
theorem dX2_append4_4 : decode cX2_append4 4 = .ok (.ifCond .lt 32, 3) := by decide +kernel
theorem dX2_append4_7 : decode cX2_append4 7 = .ok (.aload_n 0, 1) := by decide +kernel
theorem dX2_append4_8 : decode cX2_append4 8 = .ok (.getfield 11, 3) := by decide +kernel
noncomputable def k_X2_append4_3 (l1 : Int32) (l2 : Int32) (s : t_S) : Option ((Int32 × Int32 × t_S) ⊕ (t_S)) :=
 if l2 < (0 : Int32) then ((some (s)).map Sum.inr)
 else (if t_ix (s.1 1 1) 12000 = true then
  t_let (t_setI s 2 ((s.1 1 1).toNatClampNeg) ((((l1.toUInt32 >>> (l2.toUInt32 &&& Int32.toUInt32 31)).toInt32).toInt8.toInt32).toInt8.toInt32)) (fun s1 =>
 t_let (t_setI s1 1 1 ((s1.1 1 1) + (1 : Int32))) (fun s2 =>
 some (.inl (l1, (l2 + (-8)), s2))))
else none)
set_option maxRecDepth 4000 in
set_option maxHeartbeats 1000000 in
theorem B_X2_append4_3 {D : va_G} {cy : Nat → ClassId} {ad : Nat → Nat} {bs : Nat} {X : State → Heap → Prop} (l1 : Int32) (l2 : Int32) (s : t_S) (Q : (Int32 × Int32 × t_S) ⊕ (t_S) → Prop) (Hb3 : ∀ (y0 : Int32) (y1 : Int32) (y2 : t_S), Q (.inl (y0, y1, y2)) → mj_G D cy ad bs X cX2_append4 3 yX2_append4.cls none yX2_append4.name 0 0 0 1065 (t_P (fun v s' => v = none ∧ Q (.inr (s')))) 3 [(0, .ref 1), (1, .int (y0)), (2, .int (y1))] [] (t_m y2) 1065 0 0) (hk : t_hk (k_X2_append4_3 l1 l2 s) Q) : mj_G D cy ad bs X cX2_append4 3 yX2_append4.cls none yX2_append4.name 0 0 0 1065 (t_P (fun v s' => v = none ∧ Q (.inr (s')))) 3 [(0, .ref 1), (1, .int l1), (2, .int l2)] [] (t_m s) 1065 0 0 := by
  refine mj_iload_n dX2_append4_3 2 rfl ?_
  refine mj_if_lt 36 dX2_append4_4 (by decide) (fun z => t_posK hk z (fun hk => ?_)) (fun z => t_negK hk z (fun hk => ?_))
  · refine t_mapK hk (fun hk => ?_)
    exact t_somK hk (fun hf => t_vret dX2_append4_36 rfl ⟨rfl, hf⟩ (Nat.le_of_ble_eq_true rfl) (Nat.le_of_ble_eq_true rfl))
  · refine mj_aload_n dX2_append4_7 0 rfl ?_
    refine t_getR 2 dX2_append4_8 F_X2_11 qr_1_0 ?_
    refine mj_aload_n dX2_append4_11 0 rfl ?_
    refine t_getI dX2_append4_12 F_X2_61 qf_1_1 ?_
    refine mj_iload_n dX2_append4_15 1 rfl ?_
    refine mj_iload_n dX2_append4_16 2 rfl ?_
    refine mj_iushr dX2_append4_17 rfl ?_
    refine mj_i2b (v := ((l1.toUInt32 >>> (l2.toUInt32 &&& Int32.toUInt32 31)).toInt32).toInt8.toInt32) dX2_append4_18 rfl ?_
    refine t_chkK hk (fun c0 hk => ?_)
    refine t_bastK dX2_append4_19 qa_2 (t_ixv c0) (fun s1 ws1 => t_letE hk ws1 (fun hk => ?_))
    refine mj_aload_n dX2_append4_20 0 rfl ?_
    refine mj_dup dX2_append4_21 rfl ?_
    refine t_getI dX2_append4_22 F_X2_61 qf_1_1 ?_
    refine mj_iconst (v := 1) dX2_append4_25 (by decide) ?_
    refine mj_iadd dX2_append4_26 ?_
    refine t_putIK dX2_append4_27 F_X2_61 qf_1_1 rfl (fun s2 ws2 => t_letE hk ws2 (fun hk => ?_))
    refine mj_iinc (k := 2) (v := (l2 + (-8))) (lv2 := [(2, .int (l2 + (-8))), (0, .ref 1), (1, .int l1)]) dX2_append4_30 rfl rfl (by decide) rfl ?_
    refine mj_goto 3 dX2_append4_33 (by decide) ?_
    refine mj_sublv [(0, .ref 1), (1, .int l1), (2, .int (l2 + (-8)))] [1, 2, 0] rfl ?_
    exact t_somK hk (fun hf => Hb3 l1 (l2 + (-8)) s2 hf)
noncomputable def b_X2_append4_3 (x : Int32 × Int32 × t_S) : Option ((Int32 × Int32 × t_S) ⊕ (t_S)) := k_X2_append4_3 x.1 x.2.1 x.2.2
set_option maxRecDepth 4000 in
set_option maxHeartbeats 1000000 in
theorem LH_X2_append4_3 {D : va_G} {cy : Nat → ClassId} {ad : Nat → Nat} {bs : Nat} {X : State → Heap → Prop} : ∀ (n : Nat) (y0 : Int32) (y1 : Int32) (y2 : t_S) (Q : t_S → Prop) (hk : t_hk (t_loop (b_X2_append4_3) n (y0, y1, y2)) Q), mj_G D cy ad bs X cX2_append4 3 yX2_append4.cls none yX2_append4.name 0 0 0 1065 (t_P (fun v s' => v = none ∧ Q (s'))) 3 [(0, .ref 1), (1, .int (y0)), (2, .int (y1))] [] (t_m y2) 1065 0 0 := by
  intro n
  induction n with
  | zero => intro y0 y1 y2 Q hk; obtain ⟨r, hr, _⟩ := hk; cases hr
  | succ n ih =>
    intro y0 y1 y2 Q hk
    exact B_X2_append4_3 y0 y1 y2 (fun y => t_lq (b_X2_append4_3) n Q y) (fun y0' y1' y2' hy => ih y0' y1' y2' Q hy) (t_lp hk)
noncomputable def f_X2_append4 (x1 : Int32) (s : t_S) : Option (t_S) :=
 t_loop (b_X2_append4_3) t_N (x1, 24, s)
set_option maxRecDepth 4000 in
set_option maxHeartbeats 1000000 in
theorem C_X2_append4 (x1 : Int32) (s : t_S) (r : t_S) (hr : f_X2_append4 x1 s = some r) : t_C yX2_append4 cX2_append4 3 none 0 [.ref 1, .int x1] s (fun v s' => v = none ∧ s' = r) := by
  refine t_C.imp (P := fun v s' => v = none ∧ (fun q => q = r) (s')) (t_C.of (by decide +kernel) (Nat.le_of_ble_eq_true rfl) ?_) (fun v s' hp => hp)
  intro D cy ad bs X
  have hk : t_hk (f_X2_append4 x1 s) (fun q => q = r) := ⟨r, hr, rfl⟩
  show mj_G D cy ad bs X cX2_append4 3 yX2_append4.cls none yX2_append4.name 0 0 0 1065 (t_P (fun v s' => v = none ∧ (fun q => q = r) (s'))) 0 [(0, .ref 1), (1, .int x1)] [] (t_m s) 1065 0 0
  refine mj_bipush (v := 24) dX2_append4_0 (by decide) ?_
  refine mj_istore_n 2 (lv2 := [(2, .int 24), (0, .ref 1), (1, .int x1)]) dX2_append4_2 rfl (by decide) rfl ?_
  refine mj_sublv [(0, .ref 1), (1, .int x1), (2, .int 24)] [1, 2, 0] rfl ?_
  exact LH_X2_append4_3 _ x1 24 s _ hk

theorem dX2_append_0 : decode cX2_append 0 = .ok (.aload_n 0, 1) := by decide +kernel
theorem dX2_append_1 : decode cX2_append 1 = .ok (.getfield 61, 3) := by decide +kernel
theorem dX2_append_10 : decode cX2_append 10 = .ok (.if_icmp .le 6, 3) := by decide +kernel
theorem dX2_append_13 : decode cX2_append 13 = .ok (.bipush (-3), 2) := by decide +kernel
theorem dX2_append_15 : decode cX2_append 15 = .ok (.ireturn, 1) := by decide +kernel
theorem dX2_append_16 : decode cX2_append 16 = .ok (.aload_n 0, 1) := by decide +kernel
theorem dX2_append_17 : decode cX2_append 17 = .ok (.iload_n 1, 1) := by decide +kernel
theorem dX2_append_18 : decode cX2_append 18 = .ok (.invokevirtual 64, 3) := by decide +kernel
theorem dX2_append_21 : decode cX2_append 21 = .ok (.aload_n 0, 1) := by decide +kernel
theorem dX2_append_22 : decode cX2_append 22 = .ok (.iload_n 2, 1) := by decide +kernel
theorem dX2_append_23 : decode cX2_append 23 = .ok (.invokevirtual 64, 3) := by decide +kernel
theorem dX2_append_26 : decode cX2_append 26 = .ok (.aload_n 0, 1) := by decide +kernel
theorem dX2_append_27 : decode cX2_append 27 = .ok (.iload_n 3, 1) := by decide +kernel
theorem dX2_append_28 : decode cX2_append 28 = .ok (.invokevirtual 64, 3) := by decide +kernel
theorem dX2_append_31 : decode cX2_append 31 = .ok (.aload_n 0, 1) := by decide +kernel
theorem dX2_append_32 : decode cX2_append 32 = .ok (.iload 4, 2) := by decide +kernel
theorem dX2_append_34 : decode cX2_append 34 = .ok (.invokevirtual 64, 3) := by decide +kernel
theorem dX2_append_37 : decode cX2_append 37 = .ok (.aload_n 0, 1) := by decide +kernel
theorem dX2_append_38 : decode cX2_append 38 = .ok (.iload 5, 2) := by decide +kernel
theorem dX2_append_4 : decode cX2_append 4 = .ok (.bipush 20, 2) := by decide +kernel
theorem dX2_append_40 : decode cX2_append 40 = .ok (.invokevirtual 64, 3) := by decide +kernel
theorem dX2_append_43 : decode cX2_append 43 = .ok (.aload_n 0, 1) := by decide +kernel
theorem dX2_append_44 : decode cX2_append 44 = .ok (.getfield 61, 3) := by decide +kernel
theorem dX2_append_47 : decode cX2_append 47 = .ok (.ireturn, 1) := by decide +kernel
theorem dX2_append_6 : decode cX2_append 6 = .ok (.iadd, 1) := by decide +kernel
theorem dX2_append_7 : decode cX2_append 7 = .ok (.sipush 12000, 3) := by decide +kernel
noncomputable def f_X2_append (x1 : Int32) (x2 : Int32) (x3 : Int32) (x4 : Int32) (x5 : Int32) (s : t_S) : Option (Int32 × t_S) :=
 if ((s.1 1 1) + (20 : Int32)) ≤ (12000 : Int32) then ((f_X2_append4 x1 s).bind (fun r1 =>
 (f_X2_append4 x2 r1).bind (fun r2 =>
 (f_X2_append4 x3 r2).bind (fun r3 =>
 (f_X2_append4 x4 r3).bind (fun r4 =>
 (f_X2_append4 x5 r4).bind (fun r5 =>
 some ((r5.1 1 1), r5)))))))
 else (some ((-3 : Int32), s))
set_option maxRecDepth 4000 in
set_option maxHeartbeats 1000000 in
theorem C_X2_append (x1 : Int32) (x2 : Int32) (x3 : Int32) (x4 : Int32) (x5 : Int32) (s : t_S) (r : Int32 × t_S) (hr : f_X2_append x1 x2 x3 x4 x5 s = some r) : t_C yX2_append cX2_append 6 (some .int) 1 [.ref 1, .int x1, .int x2, .int x3, .int x4, .int x5] s (fun v s' => v = some (.int r.1) ∧ s' = r.2) := by
  refine t_C.imp (P := fun v s' => ∃ x, v = some (.int x) ∧ (fun q => q = r) ((x, s'))) (t_C.of (by decide +kernel) (Nat.le_of_ble_eq_true rfl) ?_) (fun v s' hp => by obtain ⟨x, rfl, rfl⟩ := hp; exact ⟨rfl, rfl⟩)
  intro D cy ad bs X
  have hk : t_hk (f_X2_append x1 x2 x3 x4 x5 s) (fun q => q = r) := ⟨r, hr, rfl⟩
  show mj_G D cy ad bs X cX2_append 6 yX2_append.cls (some .int) yX2_append.name 1 0 0 1065 (t_P (fun v s' => ∃ x, v = some (.int x) ∧ (fun q => q = r) ((x, s')))) 0 [(0, .ref 1), (1, .int x1), (2, .int x2), (3, .int x3), (4, .int x4), (5, .int x5)] [] (t_m s) 1065 0 0
  refine mj_aload_n dX2_append_0 0 rfl ?_
  refine t_getI dX2_append_1 F_X2_61 qf_1_1 ?_
  refine mj_bipush (v := 20) dX2_append_4 (by decide) ?_
  refine mj_iadd dX2_append_6 ?_
  refine mj_sipush (v := 12000) dX2_append_7 (by decide) ?_
  refine mj_icmp_le 16 dX2_append_10 (by decide) (fun z => t_posK hk z (fun hk => ?_)) (fun z => t_negK hk z (fun hk => ?_))
  · refine mj_aload_n dX2_append_16 0 rfl ?_
    refine mj_iload_n dX2_append_17 1 rfl ?_
    refine t_bndK hk (fun r1 er1 hk => ?_)
    refine t_callVvE dX2_append_18 M_X2_append4 (C_X2_append4 _ _ _ er1) ML_X2_64 IM_X2_append4 SE_X2_append4 qc_1 rfl (As := [.int x1]) rfl rfl (Nat.le_of_ble_eq_true rfl) (Nat.le_of_ble_eq_true rfl) (Nat.le_of_ble_eq_true rfl) (Nat.le_of_ble_eq_true rfl) ?_
    refine mj_aload_n dX2_append_21 0 rfl ?_
    refine mj_iload_n dX2_append_22 2 rfl ?_
    refine t_bndK hk (fun r2 er2 hk => ?_)
    refine t_callVvE dX2_append_23 M_X2_append4 (C_X2_append4 _ _ _ er2) ML_X2_64 IM_X2_append4 SE_X2_append4 qc_1 rfl (As := [.int x2]) rfl rfl (Nat.le_of_ble_eq_true rfl) (Nat.le_of_ble_eq_true rfl) (Nat.le_of_ble_eq_true rfl) (Nat.le_of_ble_eq_true rfl) ?_
    refine mj_aload_n dX2_append_26 0 rfl ?_
    refine mj_iload_n dX2_append_27 3 rfl ?_
    refine t_bndK hk (fun r3 er3 hk => ?_)
    refine t_callVvE dX2_append_28 M_X2_append4 (C_X2_append4 _ _ _ er3) ML_X2_64 IM_X2_append4 SE_X2_append4 qc_1 rfl (As := [.int x3]) rfl rfl (Nat.le_of_ble_eq_true rfl) (Nat.le_of_ble_eq_true rfl) (Nat.le_of_ble_eq_true rfl) (Nat.le_of_ble_eq_true rfl) ?_
    refine mj_aload_n dX2_append_31 0 rfl ?_
    refine mj_iload dX2_append_32 4 rfl ?_
    refine t_bndK hk (fun r4 er4 hk => ?_)
    refine t_callVvE dX2_append_34 M_X2_append4 (C_X2_append4 _ _ _ er4) ML_X2_64 IM_X2_append4 SE_X2_append4 qc_1 rfl (As := [.int x4]) rfl rfl (Nat.le_of_ble_eq_true rfl) (Nat.le_of_ble_eq_true rfl) (Nat.le_of_ble_eq_true rfl) (Nat.le_of_ble_eq_true rfl) ?_
    refine mj_aload_n dX2_append_37 0 rfl ?_
    refine mj_iload dX2_append_38 5 rfl ?_
    refine t_bndK hk (fun r5 er5 hk => ?_)
    refine t_callVvE dX2_append_40 M_X2_append4 (C_X2_append4 _ _ _ er5) ML_X2_64 IM_X2_append4 SE_X2_append4 qc_1 rfl (As := [.int x5]) rfl rfl (Nat.le_of_ble_eq_true rfl) (Nat.le_of_ble_eq_true rfl) (Nat.le_of_ble_eq_true rfl) (Nat.le_of_ble_eq_true rfl) ?_
    refine mj_aload_n dX2_append_43 0 rfl ?_
    refine t_getI dX2_append_44 F_X2_61 qf_1_1 ?_
    exact t_somK hk (fun hf => t_iret dX2_append_47 rfl rfl ⟨_, rfl, hf⟩ (Nat.le_of_ble_eq_true rfl) (Nat.le_of_ble_eq_true rfl))
  · refine mj_bipush (v := (-3)) dX2_append_13 (by decide) ?_
    exact t_somK hk (fun hf => t_iret dX2_append_15 rfl rfl ⟨_, rfl, hf⟩ (Nat.le_of_ble_eq_true rfl) (Nat.le_of_ble_eq_true rfl))

theorem dX12_feed_0 : decode cX12_feed 0 = .ok (.aload_n 0, 1) := by decide +kernel
theorem dX12_feed_1 : decode cX12_feed 1 = .ok (.getfield 10, 3) := by decide +kernel
theorem dX12_feed_11 : decode cX12_feed 11 = .ok (.invokevirtual 99, 3) := by decide +kernel
theorem dX12_feed_14 : decode cX12_feed 14 = .ok (.ireturn, 1) := by decide +kernel
theorem dX12_feed_4 : decode cX12_feed 4 = .ok (.iload_n 1, 1) := by decide +kernel
theorem dX12_feed_5 : decode cX12_feed 5 = .ok (.iload_n 2, 1) := by decide +kernel
theorem dX12_feed_6 : decode cX12_feed 6 = .ok (.iload_n 3, 1) := by decide +kernel
theorem dX12_feed_7 : decode cX12_feed 7 = .ok (.iload 4, 2) := by decide +kernel
theorem dX12_feed_9 : decode cX12_feed 9 = .ok (.iload 5, 2) := by decide +kernel
noncomputable def f_X12_feed (x1 : Int32) (x2 : Int32) (x3 : Int32) (x4 : Int32) (x5 : Int32) (s : t_S) : Option (Int32 × t_S) :=
 (f_X2_append x1 x2 x3 x4 x5 s).bind (fun r1 =>
 some (r1.1, r1.2))
set_option maxRecDepth 4000 in
set_option maxHeartbeats 1000000 in
theorem C_X12_feed (x1 : Int32) (x2 : Int32) (x3 : Int32) (x4 : Int32) (x5 : Int32) (s : t_S) (r : Int32 × t_S) (hr : f_X12_feed x1 x2 x3 x4 x5 s = some r) : t_C yX12_feed cX12_feed 6 (some .int) 2 [.ref 0, .int x1, .int x2, .int x3, .int x4, .int x5] s (fun v s' => v = some (.int r.1) ∧ s' = r.2) := by
  refine t_C.imp (P := fun v s' => ∃ x, v = some (.int x) ∧ (fun q => q = r) ((x, s'))) (t_C.of (by decide +kernel) (Nat.le_of_ble_eq_true rfl) ?_) (fun v s' hp => by obtain ⟨x, rfl, rfl⟩ := hp; exact ⟨rfl, rfl⟩)
  intro D cy ad bs X
  have hk : t_hk (f_X12_feed x1 x2 x3 x4 x5 s) (fun q => q = r) := ⟨r, hr, rfl⟩
  show mj_G D cy ad bs X cX12_feed 6 yX12_feed.cls (some .int) yX12_feed.name 2 0 0 1065 (t_P (fun v s' => ∃ x, v = some (.int x) ∧ (fun q => q = r) ((x, s')))) 0 [(0, .ref 0), (1, .int x1), (2, .int x2), (3, .int x3), (4, .int x4), (5, .int x5)] [] (t_m s) 1065 0 0
  refine mj_aload_n dX12_feed_0 0 rfl ?_
  refine t_getR 1 dX12_feed_1 F_X12_10 qr_0_0 ?_
  refine mj_iload_n dX12_feed_4 1 rfl ?_
  refine mj_iload_n dX12_feed_5 2 rfl ?_
  refine mj_iload_n dX12_feed_6 3 rfl ?_
  refine mj_iload dX12_feed_7 4 rfl ?_
  refine mj_iload dX12_feed_9 5 rfl ?_
  refine t_bndK hk (fun r1 er1 hk => ?_)
  refine t_callViE dX12_feed_11 M_X2_append (C_X2_append _ _ _ _ _ _ _ er1) ML_X12_99 IM_X2_append SE_X2_append qc_1 rfl (As := [.int x1, .int x2, .int x3, .int x4, .int x5]) rfl rfl (Nat.le_of_ble_eq_true rfl) (Nat.le_of_ble_eq_true rfl) (Nat.le_of_ble_eq_true rfl) (Nat.le_of_ble_eq_true rfl) ?_
  exact t_somK hk (fun hf => t_iret dX12_feed_14 rfl rfl ⟨_, rfl, hf⟩ (Nat.le_of_ble_eq_true rfl) (Nat.le_of_ble_eq_true rfl))

theorem dX12_fits_0 : decode cX12_fits 0 = .ok (.aload_n 0, 1) := by decide +kernel
theorem dX12_fits_1 : decode cX12_fits 1 = .ok (.iload_n 1, 1) := by decide +kernel
theorem dX12_fits_10 : decode cX12_fits 10 = .ok (.invokevirtual 196, 3) := by decide +kernel
theorem dX12_fits_13 : decode cX12_fits 13 = .ok (.ifCond .ne 5, 3) := by decide +kernel
theorem dX12_fits_16 : decode cX12_fits 16 = .ok (.iconst (-1), 1) := by decide +kernel
theorem dX12_fits_17 : decode cX12_fits 17 = .ok (.ireturn, 1) := by decide +kernel
theorem dX12_fits_18 : decode cX12_fits 18 = .ok (.aload_n 0, 1) := by decide +kernel
theorem dX12_fits_19 : decode cX12_fits 19 = .ok (.getfield 26, 3) := by decide +kernel
theorem dX12_fits_2 : decode cX12_fits 2 = .ok (.invokevirtual 169, 3) := by decide +kernel
theorem dX12_fits_22 : decode cX12_fits 22 = .ok (.aload_n 0, 1) := by decide +kernel
theorem dX12_fits_23 : decode cX12_fits 23 = .ok (.getfield 19, 3) := by decide +kernel
theorem dX12_fits_26 : decode cX12_fits 26 = .ok (.getfield 173, 3) := by decide +kernel
theorem dX12_fits_29 : decode cX12_fits 29 = .ok (.iload_n 1, 1) := by decide +kernel
theorem dX12_fits_30 : decode cX12_fits 30 = .ok (.invokestatic 176, 3) := by decide +kernel
theorem dX12_fits_33 : decode cX12_fits 33 = .ok (.aload_n 0, 1) := by decide +kernel
theorem dX12_fits_34 : decode cX12_fits 34 = .ok (.getfield 26, 3) := by decide +kernel
theorem dX12_fits_37 : decode cX12_fits 37 = .ok (.getfield 199, 3) := by decide +kernel
theorem dX12_fits_40 : decode cX12_fits 40 = .ok (.iload_n 2, 1) := by decide +kernel
theorem dX12_fits_41 : decode cX12_fits 41 = .ok (.iaload, 1) := by decide +kernel
theorem dX12_fits_42 : decode cX12_fits 42 = .ok (.invokevirtual 203, 3) := by decide +kernel
theorem dX12_fits_45 : decode cX12_fits 45 = .ok (.ifCond .eq 7, 3) := by decide +kernel
theorem dX12_fits_48 : decode cX12_fits 48 = .ok (.iconst 1, 1) := by decide +kernel
theorem dX12_fits_49 : decode cX12_fits 49 = .ok (.goto 4, 3) := by decide +kernel
theorem dX12_fits_5 : decode cX12_fits 5 = .ok (.ifCond .eq 11, 3) := by decide +kernel
theorem dX12_fits_52 : decode cX12_fits 52 = .ok (.iconst 0, 1) := by decide +kernel
theorem dX12_fits_53 : decode cX12_fits 53 = .ok (.ireturn, 1) := by decide +kernel
theorem dX12_fits_8 : decode cX12_fits 8 = .ok (.aload_n 0, 1) := by decide +kernel
theorem dX12_fits_9 : decode cX12_fits 9 = .ok (.iload_n 2, 1) := by decide +kernel
noncomputable def f_X12_fits (x1 : Int32) (x2 : Int32) (s : t_S) : Option (Int32 × t_S) :=
 if (f_X12_isKept x1 s) = (0 : Int32) then (some ((-1 : Int32), s))
 else (if (f_X12_isType x2 s) = (0 : Int32) then (some ((-1 : Int32), s))
 else (if t_ix x2 60 = true then
  (f_X11_holds 13 (f_X12_keptAt x1 s) (s.1 326 (x2.toNatClampNeg)) s).bind (fun r5 =>
 if r5.1 = (0 : Int32) then (some ((0 : Int32), r5.2))
 else (some ((1 : Int32), r5.2)))
else none))
set_option maxRecDepth 4000 in
set_option maxHeartbeats 1000000 in
theorem C_X12_fits (x1 : Int32) (x2 : Int32) (s : t_S) (r : Int32 × t_S) (hr : f_X12_fits x1 x2 s = some r) : t_C yX12_fits cX12_fits 3 (some .int) 4 [.ref 0, .int x1, .int x2] s (fun v s' => v = some (.int r.1) ∧ s' = r.2) := by
  refine t_C.imp (P := fun v s' => ∃ x, v = some (.int x) ∧ (fun q => q = r) ((x, s'))) (t_C.of (by decide +kernel) (Nat.le_of_ble_eq_true rfl) ?_) (fun v s' hp => by obtain ⟨x, rfl, rfl⟩ := hp; exact ⟨rfl, rfl⟩)
  intro D cy ad bs X
  have hk : t_hk (f_X12_fits x1 x2 s) (fun q => q = r) := ⟨r, hr, rfl⟩
  show mj_G D cy ad bs X cX12_fits 3 yX12_fits.cls (some .int) yX12_fits.name 4 0 0 1065 (t_P (fun v s' => ∃ x, v = some (.int x) ∧ (fun q => q = r) ((x, s')))) 0 [(0, .ref 0), (1, .int x1), (2, .int x2)] [] (t_m s) 1065 0 0
  refine mj_aload_n dX12_fits_0 0 rfl ?_
  refine mj_iload_n dX12_fits_1 1 rfl ?_
  refine t_callViP dX12_fits_2 M_X12_isKept (C_X12_isKept _ _) ML_X12_169 IM_X12_isKept SE_X12_isKept qc_0 rfl (As := [.int x1]) rfl rfl (Nat.le_of_ble_eq_true rfl) (Nat.le_of_ble_eq_true rfl) (Nat.le_of_ble_eq_true rfl) (Nat.le_of_ble_eq_true rfl) ?_
  refine mj_if_eq 16 dX12_fits_5 (by decide) (fun z => t_posK hk z (fun hk => ?_)) (fun z => t_negK hk z (fun hk => ?_))
  · refine mj_iconst (v := (-1)) dX12_fits_16 (by decide) ?_
    exact t_somK hk (fun hf => t_iret dX12_fits_17 rfl rfl ⟨_, rfl, hf⟩ (Nat.le_of_ble_eq_true rfl) (Nat.le_of_ble_eq_true rfl))
  · refine mj_aload_n dX12_fits_8 0 rfl ?_
    refine mj_iload_n dX12_fits_9 2 rfl ?_
    refine t_callViP dX12_fits_10 M_X12_isType (C_X12_isType _ _) ML_X12_196 IM_X12_isType SE_X12_isType qc_0 rfl (As := [.int x2]) rfl rfl (Nat.le_of_ble_eq_true rfl) (Nat.le_of_ble_eq_true rfl) (Nat.le_of_ble_eq_true rfl) (Nat.le_of_ble_eq_true rfl) ?_
    refine mj_if_ne 18 dX12_fits_13 (by decide) (fun z => t_negK hk z (fun hk => ?_)) (fun z => t_posK hk z (fun hk => ?_))
    · refine mj_aload_n dX12_fits_18 0 rfl ?_
      refine t_getR 316 dX12_fits_19 F_X12_26 qr_0_2 ?_
      refine mj_aload_n dX12_fits_22 0 rfl ?_
      refine t_getR 12 dX12_fits_23 F_X12_19 qr_0_1 ?_
      refine t_getR 13 dX12_fits_26 F_X12_173 qr_12_0 ?_
      refine mj_iload_n dX12_fits_29 1 rfl ?_
      refine t_callSiP dX12_fits_30 M_X12_keptAt (C_X12_keptAt _ _) ML_X12_176 SM_X12_keptAt (As := [.int x1]) rfl rfl (Nat.le_of_ble_eq_true rfl) (Nat.le_of_ble_eq_true rfl) (Nat.le_of_ble_eq_true rfl) (Nat.le_of_ble_eq_true rfl) ?_
      refine mj_aload_n dX12_fits_33 0 rfl ?_
      refine t_getR 316 dX12_fits_34 F_X12_26 qr_0_2 ?_
      refine t_getR 326 dX12_fits_37 F_X12_199 qr_316_11 ?_
      refine mj_iload_n dX12_fits_40 2 rfl ?_
      refine t_chkK hk (fun c3 hk => ?_)
      refine t_iald dX12_fits_41 qa_326 (t_ixv c3) ?_
      refine t_bndK hk (fun r5 er5 hk => ?_)
      refine t_callViE dX12_fits_42 M_X11_holds (C_X11_holds _ _ _ _ _ er5) ML_X12_203 IM_X11_holds SE_X11_holds qc_316 rfl (As := [.ref 13, .int (f_X12_keptAt x1 s), .int (s.1 326 (x2.toNatClampNeg))]) rfl rfl (Nat.le_of_ble_eq_true rfl) (Nat.le_of_ble_eq_true rfl) (Nat.le_of_ble_eq_true rfl) (Nat.le_of_ble_eq_true rfl) ?_
      refine mj_if_eq 52 dX12_fits_45 (by decide) (fun z => t_posK hk z (fun hk => ?_)) (fun z => t_negK hk z (fun hk => ?_))
      · refine mj_iconst (v := 0) dX12_fits_52 (by decide) ?_
        exact t_somK hk (fun hf => t_iret dX12_fits_53 rfl rfl ⟨_, rfl, hf⟩ (Nat.le_of_ble_eq_true rfl) (Nat.le_of_ble_eq_true rfl))
      · refine mj_iconst (v := 1) dX12_fits_48 (by decide) ?_
        refine mj_goto 53 dX12_fits_49 (by decide) ?_
        exact t_somK hk (fun hf => t_iret dX12_fits_53 rfl rfl ⟨_, rfl, hf⟩ (Nat.le_of_ble_eq_true rfl) (Nat.le_of_ble_eq_true rfl))
    · refine mj_iconst (v := (-1)) dX12_fits_16 (by decide) ?_
      exact t_somK hk (fun hf => t_iret dX12_fits_17 rfl rfl ⟨_, rfl, hf⟩ (Nat.le_of_ble_eq_true rfl) (Nat.le_of_ble_eq_true rfl))

theorem dX12_isPart_0 : decode cX12_isPart 0 = .ok (.aload_n 0, 1) := by decide +kernel
theorem dX12_isPart_1 : decode cX12_isPart 1 = .ok (.getfield 84, 3) := by decide +kernel
theorem dX12_isPart_10 : decode cX12_isPart 10 = .ok (.iload_n 1, 1) := by decide +kernel
theorem dX12_isPart_11 : decode cX12_isPart 11 = .ok (.ifCond .lt 18, 3) := by decide +kernel
theorem dX12_isPart_14 : decode cX12_isPart 14 = .ok (.iload_n 1, 1) := by decide +kernel
theorem dX12_isPart_15 : decode cX12_isPart 15 = .ok (.aload_n 0, 1) := by decide +kernel
theorem dX12_isPart_16 : decode cX12_isPart 16 = .ok (.getfield 84, 3) := by decide +kernel
theorem dX12_isPart_19 : decode cX12_isPart 19 = .ok (.getfield 325, 3) := by decide +kernel
theorem dX12_isPart_22 : decode cX12_isPart 22 = .ok (.if_icmp .ge 7, 3) := by decide +kernel
theorem dX12_isPart_25 : decode cX12_isPart 25 = .ok (.iconst 1, 1) := by decide +kernel
theorem dX12_isPart_26 : decode cX12_isPart 26 = .ok (.goto 4, 3) := by decide +kernel
theorem dX12_isPart_29 : decode cX12_isPart 29 = .ok (.iconst 0, 1) := by decide +kernel
theorem dX12_isPart_30 : decode cX12_isPart 30 = .ok (.ireturn, 1) := by decide +kernel
theorem dX12_isPart_4 : decode cX12_isPart 4 = .ok (.getfield 277, 3) := by decide +kernel
theorem dX12_isPart_7 : decode cX12_isPart 7 = .ok (.ifCond .eq 22, 3) := by decide +kernel
noncomputable def f_X12_isPart (x1 : Int32) (s : t_S) : Int32 :=
 if (s.1 864 8) = (0 : Int32) then ((0 : Int32))
 else (if x1 < (0 : Int32) then ((0 : Int32))
 else (if (s.1 864 6) ≤ x1 then ((0 : Int32))
 else ((1 : Int32))))
set_option maxRecDepth 4000 in
set_option maxHeartbeats 1000000 in
theorem C_X12_isPart (x1 : Int32) (s : t_S) : t_C yX12_isPart cX12_isPart 2 (some .boolean) 0 [.ref 0, .int x1] s (fun v s' => v = some (.int (f_X12_isPart x1 s)) ∧ s' = s) := by
  refine t_C.imp (P := fun v s' => s' = s ∧ ∃ x, v = some (.int x) ∧ (fun r => r = f_X12_isPart x1 s) (x)) (t_C.of (by decide +kernel) (Nat.le_of_ble_eq_true rfl) ?_) (fun v s' hp => by obtain ⟨rfl, x, rfl, rfl⟩ := hp; exact ⟨rfl, rfl⟩)
  intro D cy ad bs X
  have hk : t_ht (f_X12_isPart x1 s) (fun r => r = f_X12_isPart x1 s) := rfl
  show mj_G D cy ad bs X cX12_isPart 2 yX12_isPart.cls (some .boolean) yX12_isPart.name 0 0 0 1065 (t_P (fun v s' => s' = s ∧ ∃ x, v = some (.int x) ∧ (fun r => r = f_X12_isPart x1 s) (x))) 0 [(0, .ref 0), (1, .int x1)] [] (t_m s) 1065 0 0
  refine mj_aload_n dX12_isPart_0 0 rfl ?_
  refine t_getR 864 dX12_isPart_1 F_X12_84 qr_0_8 ?_
  refine t_getI dX12_isPart_4 F_X12_277 qf_864_8 ?_
  refine mj_if_eq 29 dX12_isPart_7 (by decide) (fun z => t_posTK hk z (fun hk => ?_)) (fun z => t_negTK hk z (fun hk => ?_))
  · refine mj_iconst (v := 0) dX12_isPart_29 (by decide) ?_
    exact t_iret dX12_isPart_30 rfl (by decide) ⟨rfl, _, rfl, hk⟩ (Nat.le_of_ble_eq_true rfl) (Nat.le_of_ble_eq_true rfl)
  · refine mj_iload_n dX12_isPart_10 1 rfl ?_
    refine mj_if_lt 29 dX12_isPart_11 (by decide) (fun z => t_posTK hk z (fun hk => ?_)) (fun z => t_negTK hk z (fun hk => ?_))
    · refine mj_iconst (v := 0) dX12_isPart_29 (by decide) ?_
      exact t_iret dX12_isPart_30 rfl (by decide) ⟨rfl, _, rfl, hk⟩ (Nat.le_of_ble_eq_true rfl) (Nat.le_of_ble_eq_true rfl)
    · refine mj_iload_n dX12_isPart_14 1 rfl ?_
      refine mj_aload_n dX12_isPart_15 0 rfl ?_
      refine t_getR 864 dX12_isPart_16 F_X12_84 qr_0_8 ?_
      refine t_getI dX12_isPart_19 F_X12_325 qf_864_6 ?_
      refine mj_icmp_ge 29 dX12_isPart_22 (by decide) (fun z => t_posTK hk z (fun hk => ?_)) (fun z => t_negTK hk z (fun hk => ?_))
      · refine mj_iconst (v := 0) dX12_isPart_29 (by decide) ?_
        exact t_iret dX12_isPart_30 rfl (by decide) ⟨rfl, _, rfl, hk⟩ (Nat.le_of_ble_eq_true rfl) (Nat.le_of_ble_eq_true rfl)
      · refine mj_iconst (v := 1) dX12_isPart_25 (by decide) ?_
        refine mj_goto 30 dX12_isPart_26 (by decide) ?_
        exact t_iret dX12_isPart_30 rfl (by decide) ⟨rfl, _, rfl, hk⟩ (Nat.le_of_ble_eq_true rfl) (Nat.le_of_ble_eq_true rfl)

theorem dX12_isPort_0 : decode cX12_isPort 0 = .ok (.aload_n 0, 1) := by decide +kernel
theorem dX12_isPort_1 : decode cX12_isPort 1 = .ok (.iload_n 1, 1) := by decide +kernel
theorem dX12_isPort_12 : decode cX12_isPort 12 = .ok (.iload_n 2, 1) := by decide +kernel
theorem dX12_isPort_13 : decode cX12_isPort 13 = .ok (.aload_n 0, 1) := by decide +kernel
theorem dX12_isPort_14 : decode cX12_isPort 14 = .ok (.getfield 52, 3) := by decide +kernel
theorem dX12_isPort_17 : decode cX12_isPort 17 = .ok (.getfield 390, 3) := by decide +kernel
theorem dX12_isPort_2 : decode cX12_isPort 2 = .ok (.invokevirtual 271, 3) := by decide +kernel
theorem dX12_isPort_20 : decode cX12_isPort 20 = .ok (.aload_n 0, 1) := by decide +kernel
theorem dX12_isPort_21 : decode cX12_isPort 21 = .ok (.getfield 84, 3) := by decide +kernel
theorem dX12_isPort_24 : decode cX12_isPort 24 = .ok (.getfield 292, 3) := by decide +kernel
theorem dX12_isPort_27 : decode cX12_isPort 27 = .ok (.iload_n 1, 1) := by decide +kernel
theorem dX12_isPort_28 : decode cX12_isPort 28 = .ok (.aaload, 1) := by decide +kernel
theorem dX12_isPort_29 : decode cX12_isPort 29 = .ok (.getfield 308, 3) := by decide +kernel
theorem dX12_isPort_32 : decode cX12_isPort 32 = .ok (.iaload, 1) := by decide +kernel
theorem dX12_isPort_33 : decode cX12_isPort 33 = .ok (.if_icmp .ge 7, 3) := by decide +kernel
theorem dX12_isPort_36 : decode cX12_isPort 36 = .ok (.iconst 1, 1) := by decide +kernel
theorem dX12_isPort_37 : decode cX12_isPort 37 = .ok (.goto 4, 3) := by decide +kernel
theorem dX12_isPort_40 : decode cX12_isPort 40 = .ok (.iconst 0, 1) := by decide +kernel
theorem dX12_isPort_41 : decode cX12_isPort 41 = .ok (.ireturn, 1) := by decide +kernel
theorem dX12_isPort_5 : decode cX12_isPort 5 = .ok (.ifCond .eq 35, 3) := by decide +kernel
theorem dX12_isPort_8 : decode cX12_isPort 8 = .ok (.iload_n 2, 1) := by decide +kernel
theorem dX12_isPort_9 : decode cX12_isPort 9 = .ok (.ifCond .lt 31, 3) := by decide +kernel
noncomputable def f_X12_isPort (x1 : Int32) (x2 : Int32) (s : t_S) : Option (Int32) :=
 if (f_X12_isPart x1 s) = (0 : Int32) then (some (0 : Int32))
 else (if x2 < (0 : Int32) then (some (0 : Int32))
 else (if t_ix x1 8 = true then
  if t_isP (866 + 10 * (x1.toNatClampNeg)) = true then
  if t_ix (s.1 (866 + 10 * (x1.toNatClampNeg)) 1) 8 = true then
  if (s.1 429 ((s.1 (866 + 10 * (x1.toNatClampNeg)) 1).toNatClampNeg)) ≤ x2 then (some (0 : Int32))
 else (some (1 : Int32))
else none
else none
else none))
set_option maxRecDepth 4000 in
set_option maxHeartbeats 1000000 in
theorem C_X12_isPort (x1 : Int32) (x2 : Int32) (s : t_S) (r : Int32) (hr : f_X12_isPort x1 x2 s = some r) : t_C yX12_isPort cX12_isPort 3 (some .boolean) 1 [.ref 0, .int x1, .int x2] s (fun v s' => v = some (.int r) ∧ s' = s) := by
  refine t_C.imp (P := fun v s' => s' = s ∧ ∃ x, v = some (.int x) ∧ (fun q => q = r) (x)) (t_C.of (by decide +kernel) (Nat.le_of_ble_eq_true rfl) ?_) (fun v s' hp => by obtain ⟨rfl, x, rfl, rfl⟩ := hp; exact ⟨rfl, rfl⟩)
  intro D cy ad bs X
  have hk : t_hk (f_X12_isPort x1 x2 s) (fun q => q = r) := ⟨r, hr, rfl⟩
  show mj_G D cy ad bs X cX12_isPort 3 yX12_isPort.cls (some .boolean) yX12_isPort.name 1 0 0 1065 (t_P (fun v s' => s' = s ∧ ∃ x, v = some (.int x) ∧ (fun q => q = r) (x))) 0 [(0, .ref 0), (1, .int x1), (2, .int x2)] [] (t_m s) 1065 0 0
  refine mj_aload_n dX12_isPort_0 0 rfl ?_
  refine mj_iload_n dX12_isPort_1 1 rfl ?_
  refine t_callViP dX12_isPort_2 M_X12_isPart (C_X12_isPart _ _) ML_X12_271 IM_X12_isPart SE_X12_isPart qc_0 rfl (As := [.int x1]) rfl rfl (Nat.le_of_ble_eq_true rfl) (Nat.le_of_ble_eq_true rfl) (Nat.le_of_ble_eq_true rfl) (Nat.le_of_ble_eq_true rfl) ?_
  refine mj_if_eq 40 dX12_isPort_5 (by decide) (fun z => t_posK hk z (fun hk => ?_)) (fun z => t_negK hk z (fun hk => ?_))
  · refine mj_iconst (v := 0) dX12_isPort_40 (by decide) ?_
    exact t_somK hk (fun hf => t_iret dX12_isPort_41 rfl (by decide) ⟨rfl, _, rfl, hf⟩ (Nat.le_of_ble_eq_true rfl) (Nat.le_of_ble_eq_true rfl))
  · refine mj_iload_n dX12_isPort_8 2 rfl ?_
    refine mj_if_lt 40 dX12_isPort_9 (by decide) (fun z => t_posK hk z (fun hk => ?_)) (fun z => t_negK hk z (fun hk => ?_))
    · refine mj_iconst (v := 0) dX12_isPort_40 (by decide) ?_
      exact t_somK hk (fun hf => t_iret dX12_isPort_41 rfl (by decide) ⟨rfl, _, rfl, hf⟩ (Nat.le_of_ble_eq_true rfl) (Nat.le_of_ble_eq_true rfl))
    · refine mj_iload_n dX12_isPort_12 2 rfl ?_
      refine mj_aload_n dX12_isPort_13 0 rfl ?_
      refine t_getR 428 dX12_isPort_14 F_X12_52 qr_0_5 ?_
      refine t_getR 429 dX12_isPort_17 F_X12_390 qr_428_1 ?_
      refine mj_aload_n dX12_isPort_20 0 rfl ?_
      refine t_getR 864 dX12_isPort_21 F_X12_84 qr_0_8 ?_
      refine t_getR 865 dX12_isPort_24 F_X12_292 qr_864_5 ?_
      refine mj_iload_n dX12_isPort_27 1 rfl ?_
      refine t_chkK hk (fun c1 hk => ?_)
      refine t_aaldP dX12_isPort_28 qq_865 (t_ixv c1) ?_
      refine t_chkK hk (fun c2 hk => ?_)
      refine t_getI dX12_isPort_29 F_X12_308 (t_pf1 c2) ?_
      refine t_chkK hk (fun c3 hk => ?_)
      refine t_iald dX12_isPort_32 qa_429 (t_ixv c3) ?_
      refine mj_icmp_ge 40 dX12_isPort_33 (by decide) (fun z => t_posK hk z (fun hk => ?_)) (fun z => t_negK hk z (fun hk => ?_))
      · refine mj_iconst (v := 0) dX12_isPort_40 (by decide) ?_
        exact t_somK hk (fun hf => t_iret dX12_isPort_41 rfl (by decide) ⟨rfl, _, rfl, hf⟩ (Nat.le_of_ble_eq_true rfl) (Nat.le_of_ble_eq_true rfl))
      · refine mj_iconst (v := 1) dX12_isPort_36 (by decide) ?_
        refine mj_goto 41 dX12_isPort_37 (by decide) ?_
        exact t_somK hk (fun hf => t_iret dX12_isPort_41 rfl (by decide) ⟨rfl, _, rfl, hf⟩ (Nat.le_of_ble_eq_true rfl) (Nat.le_of_ble_eq_true rfl))

theorem dX4_enqueue_0 : decode cX4_enqueue 0 = .ok (.aload_n 0, 1) := by decide +kernel
theorem dX4_enqueue_1 : decode cX4_enqueue 1 = .ok (.getfield 33, 3) := by decide +kernel
theorem dX4_enqueue_10 : decode cX4_enqueue 10 = .ok (.iload_n 1, 1) := by decide +kernel
theorem dX4_enqueue_11 : decode cX4_enqueue 11 = .ok (.iaload, 1) := by decide +kernel
theorem dX4_enqueue_12 : decode cX4_enqueue 12 = .ok (.invokevirtual 88, 3) := by decide +kernel
theorem dX4_enqueue_15 : decode cX4_enqueue 15 = .ok (.iload_n 2, 1) := by decide +kernel
theorem dX4_enqueue_16 : decode cX4_enqueue 16 = .ok (.iastore, 1) := by decide +kernel
theorem dX4_enqueue_17 : decode cX4_enqueue 17 = .ok (.aload_n 0, 1) := by decide +kernel
theorem dX4_enqueue_18 : decode cX4_enqueue 18 = .ok (.getfield 30, 3) := by decide +kernel
theorem dX4_enqueue_21 : decode cX4_enqueue 21 = .ok (.iload_n 1, 1) := by decide +kernel
theorem dX4_enqueue_22 : decode cX4_enqueue 22 = .ok (.dup2, 1) := by decide +kernel
theorem dX4_enqueue_23 : decode cX4_enqueue 23 = .ok (.iaload, 1) := by decide +kernel
theorem dX4_enqueue_24 : decode cX4_enqueue 24 = .ok (.iconst 1, 1) := by decide +kernel
theorem dX4_enqueue_25 : decode cX4_enqueue 25 = .ok (.iadd, 1) := by decide +kernel
theorem dX4_enqueue_26 : decode cX4_enqueue 26 = .ok (.iastore, 1) := by decide +kernel
theorem dX4_enqueue_27 : decode cX4_enqueue 27 = .ok (.aload_n 0, 1) := by decide +kernel
theorem dX4_enqueue_28 : decode cX4_enqueue 28 = .ok (.iload_n 1, 1) := by decide +kernel
theorem dX4_enqueue_29 : decode cX4_enqueue 29 = .ok (.aload_n 0, 1) := by decide +kernel
theorem dX4_enqueue_30 : decode cX4_enqueue 30 = .ok (.getfield 30, 3) := by decide +kernel
theorem dX4_enqueue_33 : decode cX4_enqueue 33 = .ok (.iload_n 1, 1) := by decide +kernel
theorem dX4_enqueue_34 : decode cX4_enqueue 34 = .ok (.iaload, 1) := by decide +kernel
theorem dX4_enqueue_35 : decode cX4_enqueue 35 = .ok (.iconst 1, 1) := by decide +kernel
theorem dX4_enqueue_36 : decode cX4_enqueue 36 = .ok (.isub, 1) := by decide +kernel
theorem dX4_enqueue_37 : decode cX4_enqueue 37 = .ok (.invokevirtual 91, 3) := by decide +kernel
theorem dX4_enqueue_4 : decode cX4_enqueue 4 = .ok (.aload_n 0, 1) := by decide +kernel
theorem dX4_enqueue_40 : decode cX4_enqueue 40 = .ok (.ireturn, 1) := by decide +kernel
theorem dX4_enqueue_5 : decode cX4_enqueue 5 = .ok (.iload_n 1, 1) := by decide +kernel
theorem dX4_enqueue_6 : decode cX4_enqueue 6 = .ok (.aload_n 0, 1) := by decide +kernel
theorem dX4_enqueue_7 : decode cX4_enqueue 7 = .ok (.getfield 30, 3) := by decide +kernel
noncomputable def f_X4_enqueue (p : Nat) (x1 : Int32) (x2 : Int32) (s : t_S) : Option (Int32 × t_S) :=
 if t_isP p = true then
  if t_ix x1 6 = true then
  (f_X4_queuePlace p x1 (s.1 (p + 7) (x1.toNatClampNeg)) s).bind (fun r3 =>
 if t_ix r3 48 = true then
  t_let (t_setI s (p + 8) (r3.toNatClampNeg) x2) (fun s1 =>
 t_let (t_setI s1 (p + 7) (x1.toNatClampNeg) ((s1.1 (p + 7) (x1.toNatClampNeg)) + (1 : Int32))) (fun s2 =>
 (f_X4_queueSlot p x1 ((s2.1 (p + 7) (x1.toNatClampNeg)) - (1 : Int32)) s2).bind (fun r5 =>
 some (r5, s2))))
else none)
else none
else none
set_option maxRecDepth 4000 in
set_option maxHeartbeats 1000000 in
theorem C_X4_enqueue (p : Nat) (x1 : Int32) (x2 : Int32) (s : t_S) (r : Int32 × t_S) (hr : f_X4_enqueue p x1 x2 s = some r) : t_C yX4_enqueue cX4_enqueue 3 (some .int) 2 [.ref p, .int x1, .int x2] s (fun v s' => v = some (.int r.1) ∧ s' = r.2) := by
  refine t_C.imp (P := fun v s' => ∃ x, v = some (.int x) ∧ (fun q => q = r) ((x, s'))) (t_C.of (by decide +kernel) (Nat.le_of_ble_eq_true rfl) ?_) (fun v s' hp => by obtain ⟨x, rfl, rfl⟩ := hp; exact ⟨rfl, rfl⟩)
  intro D cy ad bs X
  have hk : t_hk (f_X4_enqueue p x1 x2 s) (fun q => q = r) := ⟨r, hr, rfl⟩
  show mj_G D cy ad bs X cX4_enqueue 3 yX4_enqueue.cls (some .int) yX4_enqueue.name 2 0 0 1065 (t_P (fun v s' => ∃ x, v = some (.int x) ∧ (fun q => q = r) ((x, s')))) 0 [(0, .ref p), (1, .int x1), (2, .int x2)] [] (t_m s) 1065 0 0
  refine mj_aload_n dX4_enqueue_0 0 rfl ?_
  refine t_chkK hk (fun c0 hk => ?_)
  refine t_getR (p + 8) dX4_enqueue_1 F_X4_33 (t_pr15 c0) ?_
  refine mj_aload_n dX4_enqueue_4 0 rfl ?_
  refine mj_iload_n dX4_enqueue_5 1 rfl ?_
  refine mj_aload_n dX4_enqueue_6 0 rfl ?_
  refine t_getR (p + 7) dX4_enqueue_7 F_X4_30 (t_pr14 c0) ?_
  refine mj_iload_n dX4_enqueue_10 1 rfl ?_
  refine t_chkK hk (fun c1 hk => ?_)
  refine t_iald dX4_enqueue_11 (t_pa14 c0) (t_ixv c1) ?_
  refine t_bndK hk (fun r3 er3 hk => ?_)
  refine t_callViP dX4_enqueue_12 M_X4_queuePlace (C_X4_queuePlace _ _ _ _ _ er3) ML_X4_88 IM_X4_queuePlace SE_X4_queuePlace (t_pc c0) rfl (As := [.int x1, .int (s.1 (p + 7) (x1.toNatClampNeg))]) rfl rfl (Nat.le_of_ble_eq_true rfl) (Nat.le_of_ble_eq_true rfl) (Nat.le_of_ble_eq_true rfl) (Nat.le_of_ble_eq_true rfl) ?_
  refine mj_iload_n dX4_enqueue_15 2 rfl ?_
  refine t_chkK hk (fun c3 hk => ?_)
  refine t_iastK dX4_enqueue_16 (t_pa15 c0) (t_ixv c3) (fun s1 ws1 => t_letE hk ws1 (fun hk => ?_))
  refine mj_aload_n dX4_enqueue_17 0 rfl ?_
  refine t_getR (p + 7) dX4_enqueue_18 F_X4_30 (t_pr14 c0) ?_
  refine mj_iload_n dX4_enqueue_21 1 rfl ?_
  refine mj_dup2 dX4_enqueue_22 rfl rfl ?_
  refine t_iald dX4_enqueue_23 (t_pa14 c0) (t_ixv c1) ?_
  refine mj_iconst (v := 1) dX4_enqueue_24 (by decide) ?_
  refine mj_iadd dX4_enqueue_25 ?_
  refine t_iastK dX4_enqueue_26 (t_pa14 c0) (t_ixv c1) (fun s2 ws2 => t_letE hk ws2 (fun hk => ?_))
  refine mj_aload_n dX4_enqueue_27 0 rfl ?_
  refine mj_iload_n dX4_enqueue_28 1 rfl ?_
  refine mj_aload_n dX4_enqueue_29 0 rfl ?_
  refine t_getR (p + 7) dX4_enqueue_30 F_X4_30 (t_pr14 c0) ?_
  refine mj_iload_n dX4_enqueue_33 1 rfl ?_
  refine t_iald dX4_enqueue_34 (t_pa14 c0) (t_ixv c1) ?_
  refine mj_iconst (v := 1) dX4_enqueue_35 (by decide) ?_
  refine mj_isub dX4_enqueue_36 ?_
  refine t_bndK hk (fun r5 er5 hk => ?_)
  refine t_callViP dX4_enqueue_37 M_X4_queueSlot (C_X4_queueSlot _ _ _ _ _ er5) ML_X4_91 IM_X4_queueSlot SE_X4_queueSlot (t_pc c0) rfl (As := [.int x1, .int ((s2.1 (p + 7) (x1.toNatClampNeg)) - (1 : Int32))]) rfl rfl (Nat.le_of_ble_eq_true rfl) (Nat.le_of_ble_eq_true rfl) (Nat.le_of_ble_eq_true rfl) (Nat.le_of_ble_eq_true rfl) ?_
  exact t_somK hk (fun hf => t_iret dX4_enqueue_40 rfl rfl ⟨_, rfl, hf⟩ (Nat.le_of_ble_eq_true rfl) (Nat.le_of_ble_eq_true rfl))

theorem dX7_arrive_0 : decode cX7_arrive 0 = .ok (.aload_n 1, 1) := by decide +kernel
theorem dX7_arrive_1 : decode cX7_arrive 1 = .ok (.getfield 203, 3) := by decide +kernel
theorem dX7_arrive_11 : decode cX7_arrive 11 = .ok (.iconst 0, 1) := by decide +kernel
theorem dX7_arrive_12 : decode cX7_arrive 12 = .ok (.ireturn, 1) := by decide +kernel
theorem dX7_arrive_13 : decode cX7_arrive 13 = .ok (.aload_n 0, 1) := by decide +kernel
theorem dX7_arrive_14 : decode cX7_arrive 14 = .ok (.getfield 15, 3) := by decide +kernel
theorem dX7_arrive_17 : decode cX7_arrive 17 = .ok (.aload_n 1, 1) := by decide +kernel
theorem dX7_arrive_18 : decode cX7_arrive 18 = .ok (.iload_n 2, 1) := by decide +kernel
theorem dX7_arrive_19 : decode cX7_arrive 19 = .ok (.iload_n 3, 1) := by decide +kernel
theorem dX7_arrive_20 : decode cX7_arrive 20 = .ok (.invokevirtual 206, 3) := by decide +kernel
theorem dX7_arrive_23 : decode cX7_arrive 23 = .ok (.aload 4, 2) := by decide +kernel
theorem dX7_arrive_25 : decode cX7_arrive 25 = .ok (.iload 5, 2) := by decide +kernel
theorem dX7_arrive_27 : decode cX7_arrive 27 = .ok (.invokevirtual 147, 3) := by decide +kernel
theorem dX7_arrive_30 : decode cX7_arrive 30 = .ok (.iconst 1, 1) := by decide +kernel
theorem dX7_arrive_31 : decode cX7_arrive 31 = .ok (.ireturn, 1) := by decide +kernel
theorem dX7_arrive_4 : decode cX7_arrive 4 = .ok (.iload_n 2, 1) := by decide +kernel
theorem dX7_arrive_5 : decode cX7_arrive 5 = .ok (.iaload, 1) := by decide +kernel
theorem dX7_arrive_6 : decode cX7_arrive 6 = .ok (.bipush 8, 2) := by decide +kernel
theorem dX7_arrive_8 : decode cX7_arrive 8 = .ok (.if_icmp .lt 5, 3) := by decide +kernel
noncomputable def f_X7_arrive (x1 : Nat) (x2 : Int32) (x3 : Int32) (x4 : Nat) (x5 : Int32) (s : t_S) : Option (Int32 × t_S) :=
 if t_isP x1 = true then
  if t_ix x2 6 = true then
  if (s.1 (x1 + 7) (x2.toNatClampNeg)) < (8 : Int32) then ((f_X4_enqueue x1 x2 x3 s).bind (fun r3 =>
 (f_X8_put r3.1 x4 x5 r3.2).bind (fun r4 =>
 some ((1 : Int32), r4))))
 else (some ((0 : Int32), s))
else none
else none
set_option maxRecDepth 4000 in
set_option maxHeartbeats 1000000 in
theorem C_X7_arrive (x1 : Nat) (x2 : Int32) (x3 : Int32) (x4 : Nat) (x5 : Int32) (s : t_S) (r : Int32 × t_S) (hr : f_X7_arrive x1 x2 x3 x4 x5 s = some r) : t_C yX7_arrive cX7_arrive 6 (some .boolean) 3 [.ref 864, .ref x1, .int x2, .int x3, .ref x4, .int x5] s (fun v s' => v = some (.int r.1) ∧ s' = r.2) := by
  refine t_C.imp (P := fun v s' => ∃ x, v = some (.int x) ∧ (fun q => q = r) ((x, s'))) (t_C.of (by decide +kernel) (Nat.le_of_ble_eq_true rfl) ?_) (fun v s' hp => by obtain ⟨x, rfl, rfl⟩ := hp; exact ⟨rfl, rfl⟩)
  intro D cy ad bs X
  have hk : t_hk (f_X7_arrive x1 x2 x3 x4 x5 s) (fun q => q = r) := ⟨r, hr, rfl⟩
  show mj_G D cy ad bs X cX7_arrive 6 yX7_arrive.cls (some .boolean) yX7_arrive.name 3 0 0 1065 (t_P (fun v s' => ∃ x, v = some (.int x) ∧ (fun q => q = r) ((x, s')))) 0 [(0, .ref 864), (1, .ref x1), (2, .int x2), (3, .int x3), (4, .ref x4), (5, .int x5)] [] (t_m s) 1065 0 0
  refine mj_aload_n dX7_arrive_0 1 rfl ?_
  refine t_chkK hk (fun c0 hk => ?_)
  refine t_getR (x1 + 7) dX7_arrive_1 F_X7_203 (t_pr14 c0) ?_
  refine mj_iload_n dX7_arrive_4 2 rfl ?_
  refine t_chkK hk (fun c1 hk => ?_)
  refine t_iald dX7_arrive_5 (t_pa14 c0) (t_ixv c1) ?_
  refine mj_bipush (v := 8) dX7_arrive_6 (by decide) ?_
  refine mj_icmp_lt 13 dX7_arrive_8 (by decide) (fun z => t_posK hk z (fun hk => ?_)) (fun z => t_negK hk z (fun hk => ?_))
  · refine mj_aload_n dX7_arrive_13 0 rfl ?_
    refine t_getR 12 dX7_arrive_14 F_X7_15 qr_864_0 ?_
    refine mj_aload_n dX7_arrive_17 1 rfl ?_
    refine mj_iload_n dX7_arrive_18 2 rfl ?_
    refine mj_iload_n dX7_arrive_19 3 rfl ?_
    refine t_bndK hk (fun r3 er3 hk => ?_)
    refine t_callViE dX7_arrive_20 M_X4_enqueue (C_X4_enqueue _ _ _ _ _ er3) ML_X7_206 IM_X4_enqueue SE_X4_enqueue (t_pc c0) rfl (As := [.int x2, .int x3]) rfl rfl (Nat.le_of_ble_eq_true rfl) (Nat.le_of_ble_eq_true rfl) (Nat.le_of_ble_eq_true rfl) (Nat.le_of_ble_eq_true rfl) ?_
    refine mj_aload dX7_arrive_23 4 rfl ?_
    refine mj_iload dX7_arrive_25 5 rfl ?_
    refine t_bndK hk (fun r4 er4 hk => ?_)
    refine t_callVvE dX7_arrive_27 M_X8_put (C_X8_put _ _ _ _ _ er4) ML_X7_147 IM_X8_put SE_X8_put qc_12 rfl (As := [.int r3.1, .ref x4, .int x5]) rfl rfl (Nat.le_of_ble_eq_true rfl) (Nat.le_of_ble_eq_true rfl) (Nat.le_of_ble_eq_true rfl) (Nat.le_of_ble_eq_true rfl) ?_
    refine mj_iconst (v := 1) dX7_arrive_30 (by decide) ?_
    exact t_somK hk (fun hf => t_iret dX7_arrive_31 rfl (by decide) ⟨_, rfl, hf⟩ (Nat.le_of_ble_eq_true rfl) (Nat.le_of_ble_eq_true rfl))
  · refine mj_iconst (v := 0) dX7_arrive_11 (by decide) ?_
    exact t_somK hk (fun hf => t_iret dX7_arrive_12 rfl (by decide) ⟨_, rfl, hf⟩ (Nat.le_of_ble_eq_true rfl) (Nat.le_of_ble_eq_true rfl))

theorem dX8_canBeGiven_0 : decode cX8_canBeGiven 0 = .ok (.aload_n 0, 1) := by decide +kernel
theorem dX8_canBeGiven_1 : decode cX8_canBeGiven 1 = .ok (.getfield 12, 3) := by decide +kernel
theorem dX8_canBeGiven_10 : decode cX8_canBeGiven 10 = .ok (.aload_n 0, 1) := by decide +kernel
theorem dX8_canBeGiven_11 : decode cX8_canBeGiven 11 = .ok (.getfield 12, 3) := by decide +kernel
theorem dX8_canBeGiven_14 : decode cX8_canBeGiven 14 = .ok (.iload_n 1, 1) := by decide +kernel
theorem dX8_canBeGiven_15 : decode cX8_canBeGiven 15 = .ok (.laload, 1) := by decide +kernel
theorem dX8_canBeGiven_16 : decode cX8_canBeGiven 16 = .ok (.invokestatic 32, 3) := by decide +kernel
theorem dX8_canBeGiven_19 : decode cX8_canBeGiven 19 = .ok (.iconst 4, 1) := by decide +kernel
theorem dX8_canBeGiven_20 : decode cX8_canBeGiven 20 = .ok (.if_icmp .ne 5, 3) := by decide +kernel
theorem dX8_canBeGiven_23 : decode cX8_canBeGiven 23 = .ok (.iconst 0, 1) := by decide +kernel
theorem dX8_canBeGiven_24 : decode cX8_canBeGiven 24 = .ok (.ireturn, 1) := by decide +kernel
theorem dX8_canBeGiven_25 : decode cX8_canBeGiven 25 = .ok (.iconst 0, 1) := by decide +kernel
theorem dX8_canBeGiven_26 : decode cX8_canBeGiven 26 = .ok (.istore_n 3, 1) := by decide +kernel
theorem dX8_canBeGiven_27 : decode cX8_canBeGiven 27 = .ok (.iload_n 3, 1) := by decide +kernel
theorem dX8_canBeGiven_28 : decode cX8_canBeGiven 28 = .ok (.iload_n 2, 1) := by decide +kernel
theorem dX8_canBeGiven_29 : decode cX8_canBeGiven 29 = .ok (.if_icmp .ge 26, 3) := by decide +kernel
theorem dX8_canBeGiven_32 : decode cX8_canBeGiven 32 = .ok (.aload_n 0, 1) := by decide +kernel
theorem dX8_canBeGiven_33 : decode cX8_canBeGiven 33 = .ok (.getfield 12, 3) := by decide +kernel
theorem dX8_canBeGiven_36 : decode cX8_canBeGiven 36 = .ok (.iload_n 1, 1) := by decide +kernel
theorem dX8_canBeGiven_37 : decode cX8_canBeGiven 37 = .ok (.iload_n 3, 1) := by decide +kernel
theorem dX8_canBeGiven_38 : decode cX8_canBeGiven 38 = .ok (.iadd, 1) := by decide +kernel
theorem dX8_canBeGiven_39 : decode cX8_canBeGiven 39 = .ok (.laload, 1) := by decide +kernel
theorem dX8_canBeGiven_4 : decode cX8_canBeGiven 4 = .ok (.iload_n 1, 1) := by decide +kernel
theorem dX8_canBeGiven_40 : decode cX8_canBeGiven 40 = .ok (.invokestatic 32, 3) := by decide +kernel
theorem dX8_canBeGiven_43 : decode cX8_canBeGiven 43 = .ok (.iconst 5, 1) := by decide +kernel
theorem dX8_canBeGiven_44 : decode cX8_canBeGiven 44 = .ok (.if_icmp .ne 5, 3) := by decide +kernel
theorem dX8_canBeGiven_47 : decode cX8_canBeGiven 47 = .ok (.iconst 0, 1) := by decide +kernel
theorem dX8_canBeGiven_48 : decode cX8_canBeGiven 48 = .ok (.ireturn, 1) := by decide +kernel
theorem dX8_canBeGiven_49 : decode cX8_canBeGiven 49 = .ok (.iinc 3 1, 3) := by decide +kernel
theorem dX8_canBeGiven_5 : decode cX8_canBeGiven 5 = .ok (.laload, 1) := by decide +kernel
theorem dX8_canBeGiven_52 : decode cX8_canBeGiven 52 = .ok (.goto (-25), 3) := by decide +kernel
theorem dX8_canBeGiven_55 : decode cX8_canBeGiven 55 = .ok (.iconst 1, 1) := by decide +kernel
theorem dX8_canBeGiven_56 : decode cX8_canBeGiven 56 = .ok (.ireturn, 1) := by decide +kernel
theorem dX8_canBeGiven_6 : decode cX8_canBeGiven 6 = .ok (.invokestatic 63, 3) := by decide +kernel
theorem dX8_canBeGiven_9 : decode cX8_canBeGiven 9 = .ok (.istore_n 2, 1) := by decide +kernel
noncomputable def k_X8_canBeGiven_27 (l1 : Int32) (l2 : Int32) (l3 : Int32) (s : t_S) : Option ((Int32 × Int32 × Int32) ⊕ (Int32)) :=
 if l2 ≤ l3 then ((some (1 : Int32)).map Sum.inr)
 else (if t_ix (l1 + l3) 190680 = true then
  if (f_X8_kind (s.2.1 13 ((l1 + l3).toNatClampNeg)) s) = (5 : Int32) then ((some (0 : Int32)).map Sum.inr)
 else (some (.inl (l1, l2, (l3 + 1))))
else none)
set_option maxRecDepth 4000 in
set_option maxHeartbeats 1000000 in
theorem B_X8_canBeGiven_27 {D : va_G} {cy : Nat → ClassId} {ad : Nat → Nat} {bs : Nat} {X : State → Heap → Prop} (l1 : Int32) (l2 : Int32) (l3 : Int32) (s : t_S) (Q : (Int32 × Int32 × Int32) ⊕ (Int32) → Prop) (Hb27 : ∀ (y0 : Int32) (y1 : Int32) (y2 : Int32), Q (.inl (y0, y1, y2)) → mj_G D cy ad bs X cX8_canBeGiven 4 yX8_canBeGiven.cls (some .boolean) yX8_canBeGiven.name 1 0 0 1065 (t_P (fun v s' => s' = s ∧ ∃ x, v = some (.int x) ∧ Q (.inr (x)))) 27 [(0, .ref 12), (1, .int (y0)), (2, .int (y1)), (3, .int (y2))] [] (t_m s) 1065 0 0) (hk : t_hk (k_X8_canBeGiven_27 l1 l2 l3 s) Q) : mj_G D cy ad bs X cX8_canBeGiven 4 yX8_canBeGiven.cls (some .boolean) yX8_canBeGiven.name 1 0 0 1065 (t_P (fun v s' => s' = s ∧ ∃ x, v = some (.int x) ∧ Q (.inr (x)))) 27 [(0, .ref 12), (1, .int l1), (2, .int l2), (3, .int l3)] [] (t_m s) 1065 0 0 := by
  refine mj_iload_n dX8_canBeGiven_27 3 rfl ?_
  refine mj_iload_n dX8_canBeGiven_28 2 rfl ?_
  refine mj_icmp_ge 55 dX8_canBeGiven_29 (by decide) (fun z => t_posK hk z (fun hk => ?_)) (fun z => t_negK hk z (fun hk => ?_))
  · refine t_mapK hk (fun hk => ?_)
    refine mj_iconst (v := 1) dX8_canBeGiven_55 (by decide) ?_
    exact t_somK hk (fun hf => t_iret dX8_canBeGiven_56 rfl (by decide) ⟨rfl, _, rfl, hf⟩ (Nat.le_of_ble_eq_true rfl) (Nat.le_of_ble_eq_true rfl))
  · refine mj_aload_n dX8_canBeGiven_32 0 rfl ?_
    refine t_getR 13 dX8_canBeGiven_33 F_X8_12 qr_12_0 ?_
    refine mj_iload_n dX8_canBeGiven_36 1 rfl ?_
    refine mj_iload_n dX8_canBeGiven_37 3 rfl ?_
    refine mj_iadd dX8_canBeGiven_38 ?_
    refine t_chkK hk (fun c0 hk => ?_)
    refine t_lald dX8_canBeGiven_39 qa_13 (t_ixv c0) ?_
    refine t_callSiP dX8_canBeGiven_40 M_X8_kind (C_X8_kind _ _) ML_X8_32 SM_X8_kind (As := [.long (s.2.1 13 ((l1 + l3).toNatClampNeg))]) rfl rfl (Nat.le_of_ble_eq_true rfl) (Nat.le_of_ble_eq_true rfl) (Nat.le_of_ble_eq_true rfl) (Nat.le_of_ble_eq_true rfl) ?_
    refine mj_iconst (v := 5) dX8_canBeGiven_43 (by decide) ?_
    refine mj_icmp_ne 49 dX8_canBeGiven_44 (by decide) (fun z => t_negK hk z (fun hk => ?_)) (fun z => t_posK hk z (fun hk => ?_))
    · refine mj_iinc (k := 3) (v := (l3 + 1)) (lv2 := [(3, .int (l3 + 1)), (0, .ref 12), (1, .int l1), (2, .int l2)]) dX8_canBeGiven_49 rfl rfl (by decide) rfl ?_
      refine mj_goto 27 dX8_canBeGiven_52 (by decide) ?_
      refine mj_sublv [(0, .ref 12), (1, .int l1), (2, .int l2), (3, .int (l3 + 1))] [1, 2, 3, 0] rfl ?_
      exact t_somK hk (fun hf => Hb27 l1 l2 (l3 + 1) hf)
    · refine t_mapK hk (fun hk => ?_)
      refine mj_iconst (v := 0) dX8_canBeGiven_47 (by decide) ?_
      exact t_somK hk (fun hf => t_iret dX8_canBeGiven_48 rfl (by decide) ⟨rfl, _, rfl, hf⟩ (Nat.le_of_ble_eq_true rfl) (Nat.le_of_ble_eq_true rfl))
noncomputable def b_X8_canBeGiven_27 (s : t_S) (x : Int32 × Int32 × Int32) : Option ((Int32 × Int32 × Int32) ⊕ (Int32)) := k_X8_canBeGiven_27 x.1 x.2.1 x.2.2 s
set_option maxRecDepth 4000 in
set_option maxHeartbeats 1000000 in
theorem LH_X8_canBeGiven_27 {D : va_G} {cy : Nat → ClassId} {ad : Nat → Nat} {bs : Nat} {X : State → Heap → Prop} (s : t_S) : ∀ (n : Nat) (y0 : Int32) (y1 : Int32) (y2 : Int32) (Q : Int32 → Prop) (hk : t_hk (t_loop (b_X8_canBeGiven_27 s) n (y0, y1, y2)) Q), mj_G D cy ad bs X cX8_canBeGiven 4 yX8_canBeGiven.cls (some .boolean) yX8_canBeGiven.name 1 0 0 1065 (t_P (fun v s' => s' = s ∧ ∃ x, v = some (.int x) ∧ Q (x))) 27 [(0, .ref 12), (1, .int (y0)), (2, .int (y1)), (3, .int (y2))] [] (t_m s) 1065 0 0 := by
  intro n
  induction n with
  | zero => intro y0 y1 y2 Q hk; obtain ⟨r, hr, _⟩ := hk; cases hr
  | succ n ih =>
    intro y0 y1 y2 Q hk
    exact B_X8_canBeGiven_27 y0 y1 y2 s (fun y => t_lq (b_X8_canBeGiven_27 s) n Q y) (fun y0' y1' y2' hy => ih y0' y1' y2' Q hy) (t_lp hk)
noncomputable def f_X8_canBeGiven (x1 : Int32) (s : t_S) : Option (Int32) :=
 if t_ix x1 190680 = true then
  if (f_X8_kind (s.2.1 13 (x1.toNatClampNeg)) s) = (4 : Int32) then (some (0 : Int32))
 else (t_loop (b_X8_canBeGiven_27 s) t_N (x1, (f_X8_size (s.2.1 13 (x1.toNatClampNeg)) s), 0))
else none
set_option maxRecDepth 4000 in
set_option maxHeartbeats 1000000 in
theorem C_X8_canBeGiven (x1 : Int32) (s : t_S) (r : Int32) (hr : f_X8_canBeGiven x1 s = some r) : t_C yX8_canBeGiven cX8_canBeGiven 4 (some .boolean) 1 [.ref 12, .int x1] s (fun v s' => v = some (.int r) ∧ s' = s) := by
  refine t_C.imp (P := fun v s' => s' = s ∧ ∃ x, v = some (.int x) ∧ (fun q => q = r) (x)) (t_C.of (by decide +kernel) (Nat.le_of_ble_eq_true rfl) ?_) (fun v s' hp => by obtain ⟨rfl, x, rfl, rfl⟩ := hp; exact ⟨rfl, rfl⟩)
  intro D cy ad bs X
  have hk : t_hk (f_X8_canBeGiven x1 s) (fun q => q = r) := ⟨r, hr, rfl⟩
  show mj_G D cy ad bs X cX8_canBeGiven 4 yX8_canBeGiven.cls (some .boolean) yX8_canBeGiven.name 1 0 0 1065 (t_P (fun v s' => s' = s ∧ ∃ x, v = some (.int x) ∧ (fun q => q = r) (x))) 0 [(0, .ref 12), (1, .int x1)] [] (t_m s) 1065 0 0
  refine mj_aload_n dX8_canBeGiven_0 0 rfl ?_
  refine t_getR 13 dX8_canBeGiven_1 F_X8_12 qr_12_0 ?_
  refine mj_iload_n dX8_canBeGiven_4 1 rfl ?_
  refine t_chkK hk (fun c0 hk => ?_)
  refine t_lald dX8_canBeGiven_5 qa_13 (t_ixv c0) ?_
  refine t_callSiP dX8_canBeGiven_6 M_X8_size (C_X8_size _ _) ML_X8_63 SM_X8_size (As := [.long (s.2.1 13 (x1.toNatClampNeg))]) rfl rfl (Nat.le_of_ble_eq_true rfl) (Nat.le_of_ble_eq_true rfl) (Nat.le_of_ble_eq_true rfl) (Nat.le_of_ble_eq_true rfl) ?_
  refine mj_istore_n 2 (lv2 := [(2, .int (f_X8_size (s.2.1 13 (x1.toNatClampNeg)) s)), (0, .ref 12), (1, .int x1)]) dX8_canBeGiven_9 rfl (by decide) rfl ?_
  refine mj_aload_n dX8_canBeGiven_10 1 rfl ?_
  refine t_getR 13 dX8_canBeGiven_11 F_X8_12 qr_12_0 ?_
  refine mj_iload_n dX8_canBeGiven_14 2 rfl ?_
  refine t_lald dX8_canBeGiven_15 qa_13 (t_ixv c0) ?_
  refine t_callSiP dX8_canBeGiven_16 M_X8_kind (C_X8_kind _ _) ML_X8_32 SM_X8_kind (As := [.long (s.2.1 13 (x1.toNatClampNeg))]) rfl rfl (Nat.le_of_ble_eq_true rfl) (Nat.le_of_ble_eq_true rfl) (Nat.le_of_ble_eq_true rfl) (Nat.le_of_ble_eq_true rfl) ?_
  refine mj_iconst (v := 4) dX8_canBeGiven_19 (by decide) ?_
  refine mj_icmp_ne 25 dX8_canBeGiven_20 (by decide) (fun z => t_negK hk z (fun hk => ?_)) (fun z => t_posK hk z (fun hk => ?_))
  · refine mj_iconst (v := 0) dX8_canBeGiven_25 (by decide) ?_
    refine mj_istore_n 3 (lv2 := [(3, .int 0), (2, .int (f_X8_size (s.2.1 13 (x1.toNatClampNeg)) s)), (0, .ref 12), (1, .int x1)]) dX8_canBeGiven_26 rfl (by decide) rfl ?_
    refine mj_sublv [(0, .ref 12), (1, .int x1), (2, .int (f_X8_size (s.2.1 13 (x1.toNatClampNeg)) s)), (3, .int 0)] [2, 3, 1, 0] rfl ?_
    exact LH_X8_canBeGiven_27 _ _ x1 (f_X8_size (s.2.1 13 (x1.toNatClampNeg)) s) 0 _ hk
  · refine mj_iconst (v := 0) dX8_canBeGiven_23 (by decide) ?_
    exact t_somK hk (fun hf => t_iret dX8_canBeGiven_24 rfl (by decide) ⟨rfl, _, rfl, hf⟩ (Nat.le_of_ble_eq_true rfl) (Nat.le_of_ble_eq_true rfl))

theorem dX12_give_0 : decode cX12_give 0 = .ok (.aload_n 0, 1) := by decide +kernel
theorem dX12_give_1 : decode cX12_give 1 = .ok (.iload_n 1, 1) := by decide +kernel
theorem dX12_give_10 : decode cX12_give 10 = .ok (.iload_n 3, 1) := by decide +kernel
theorem dX12_give_11 : decode cX12_give 11 = .ok (.invokevirtual 169, 3) := by decide +kernel
theorem dX12_give_14 : decode cX12_give 14 = .ok (.ifCond .ne 5, 3) := by decide +kernel
theorem dX12_give_17 : decode cX12_give 17 = .ok (.iconst (-1), 1) := by decide +kernel
theorem dX12_give_18 : decode cX12_give 18 = .ok (.ireturn, 1) := by decide +kernel
theorem dX12_give_19 : decode cX12_give 19 = .ok (.aload_n 0, 1) := by decide +kernel
theorem dX12_give_2 : decode cX12_give 2 = .ok (.iload_n 2, 1) := by decide +kernel
theorem dX12_give_20 : decode cX12_give 20 = .ok (.getfield 19, 3) := by decide +kernel
theorem dX12_give_23 : decode cX12_give 23 = .ok (.iload_n 3, 1) := by decide +kernel
theorem dX12_give_24 : decode cX12_give 24 = .ok (.invokestatic 176, 3) := by decide +kernel
theorem dX12_give_27 : decode cX12_give 27 = .ok (.invokevirtual 289, 3) := by decide +kernel
theorem dX12_give_3 : decode cX12_give 3 = .ok (.invokevirtual 286, 3) := by decide +kernel
theorem dX12_give_30 : decode cX12_give 30 = .ok (.ifCond .ne 5, 3) := by decide +kernel
theorem dX12_give_33 : decode cX12_give 33 = .ok (.iconst (-1), 1) := by decide +kernel
theorem dX12_give_34 : decode cX12_give 34 = .ok (.ireturn, 1) := by decide +kernel
theorem dX12_give_35 : decode cX12_give 35 = .ok (.aload_n 0, 1) := by decide +kernel
theorem dX12_give_36 : decode cX12_give 36 = .ok (.getfield 84, 3) := by decide +kernel
theorem dX12_give_39 : decode cX12_give 39 = .ok (.aload_n 0, 1) := by decide +kernel
theorem dX12_give_40 : decode cX12_give 40 = .ok (.getfield 84, 3) := by decide +kernel
theorem dX12_give_43 : decode cX12_give 43 = .ok (.getfield 292, 3) := by decide +kernel
theorem dX12_give_46 : decode cX12_give 46 = .ok (.iload_n 1, 1) := by decide +kernel
theorem dX12_give_47 : decode cX12_give 47 = .ok (.aaload, 1) := by decide +kernel
theorem dX12_give_48 : decode cX12_give 48 = .ok (.iload_n 2, 1) := by decide +kernel
theorem dX12_give_49 : decode cX12_give 49 = .ok (.iconst (-1), 1) := by decide +kernel
theorem dX12_give_50 : decode cX12_give 50 = .ok (.aload_n 0, 1) := by decide +kernel
theorem dX12_give_51 : decode cX12_give 51 = .ok (.getfield 19, 3) := by decide +kernel
theorem dX12_give_54 : decode cX12_give 54 = .ok (.getfield 173, 3) := by decide +kernel
theorem dX12_give_57 : decode cX12_give 57 = .ok (.iload_n 3, 1) := by decide +kernel
theorem dX12_give_58 : decode cX12_give 58 = .ok (.invokestatic 176, 3) := by decide +kernel
theorem dX12_give_6 : decode cX12_give 6 = .ok (.ifCond .eq 11, 3) := by decide +kernel
theorem dX12_give_61 : decode cX12_give 61 = .ok (.invokevirtual 296, 3) := by decide +kernel
theorem dX12_give_64 : decode cX12_give 64 = .ok (.ifCond .eq 7, 3) := by decide +kernel
theorem dX12_give_67 : decode cX12_give 67 = .ok (.iconst 1, 1) := by decide +kernel
theorem dX12_give_68 : decode cX12_give 68 = .ok (.goto 4, 3) := by decide +kernel
theorem dX12_give_71 : decode cX12_give 71 = .ok (.iconst 0, 1) := by decide +kernel
theorem dX12_give_72 : decode cX12_give 72 = .ok (.ireturn, 1) := by decide +kernel
theorem dX12_give_9 : decode cX12_give 9 = .ok (.aload_n 0, 1) := by decide +kernel
noncomputable def f_X12_give (x1 : Int32) (x2 : Int32) (x3 : Int32) (s : t_S) : Option (Int32 × t_S) :=
 (f_X12_isPort x1 x2 s).bind (fun r1 =>
 if r1 = (0 : Int32) then (some ((-1 : Int32), s))
 else (if (f_X12_isKept x3 s) = (0 : Int32) then (some ((-1 : Int32), s))
 else ((f_X8_canBeGiven (f_X12_keptAt x3 s) s).bind (fun r4 =>
 if r4 = (0 : Int32) then (some ((-1 : Int32), s))
 else (if t_ix x1 8 = true then
  (f_X7_arrive (866 + 10 * (x1.toNatClampNeg)) x2 (-1 : Int32) 13 (f_X12_keptAt x3 s) s).bind (fun r7 =>
 if r7.1 = (0 : Int32) then (some ((0 : Int32), r7.2))
 else (some ((1 : Int32), r7.2)))
else none)))))
set_option maxRecDepth 4000 in
set_option maxHeartbeats 1000000 in
theorem C_X12_give (x1 : Int32) (x2 : Int32) (x3 : Int32) (s : t_S) (r : Int32 × t_S) (hr : f_X12_give x1 x2 x3 s = some r) : t_C yX12_give cX12_give 4 (some .int) 4 [.ref 0, .int x1, .int x2, .int x3] s (fun v s' => v = some (.int r.1) ∧ s' = r.2) := by
  refine t_C.imp (P := fun v s' => ∃ x, v = some (.int x) ∧ (fun q => q = r) ((x, s'))) (t_C.of (by decide +kernel) (Nat.le_of_ble_eq_true rfl) ?_) (fun v s' hp => by obtain ⟨x, rfl, rfl⟩ := hp; exact ⟨rfl, rfl⟩)
  intro D cy ad bs X
  have hk : t_hk (f_X12_give x1 x2 x3 s) (fun q => q = r) := ⟨r, hr, rfl⟩
  show mj_G D cy ad bs X cX12_give 4 yX12_give.cls (some .int) yX12_give.name 4 0 0 1065 (t_P (fun v s' => ∃ x, v = some (.int x) ∧ (fun q => q = r) ((x, s')))) 0 [(0, .ref 0), (1, .int x1), (2, .int x2), (3, .int x3)] [] (t_m s) 1065 0 0
  refine mj_aload_n dX12_give_0 0 rfl ?_
  refine mj_iload_n dX12_give_1 1 rfl ?_
  refine mj_iload_n dX12_give_2 2 rfl ?_
  refine t_bndK hk (fun r1 er1 hk => ?_)
  refine t_callViP dX12_give_3 M_X12_isPort (C_X12_isPort _ _ _ _ er1) ML_X12_286 IM_X12_isPort SE_X12_isPort qc_0 rfl (As := [.int x1, .int x2]) rfl rfl (Nat.le_of_ble_eq_true rfl) (Nat.le_of_ble_eq_true rfl) (Nat.le_of_ble_eq_true rfl) (Nat.le_of_ble_eq_true rfl) ?_
  refine mj_if_eq 17 dX12_give_6 (by decide) (fun z => t_posK hk z (fun hk => ?_)) (fun z => t_negK hk z (fun hk => ?_))
  · refine mj_iconst (v := (-1)) dX12_give_17 (by decide) ?_
    exact t_somK hk (fun hf => t_iret dX12_give_18 rfl rfl ⟨_, rfl, hf⟩ (Nat.le_of_ble_eq_true rfl) (Nat.le_of_ble_eq_true rfl))
  · refine mj_aload_n dX12_give_9 0 rfl ?_
    refine mj_iload_n dX12_give_10 3 rfl ?_
    refine t_callViP dX12_give_11 M_X12_isKept (C_X12_isKept _ _) ML_X12_169 IM_X12_isKept SE_X12_isKept qc_0 rfl (As := [.int x3]) rfl rfl (Nat.le_of_ble_eq_true rfl) (Nat.le_of_ble_eq_true rfl) (Nat.le_of_ble_eq_true rfl) (Nat.le_of_ble_eq_true rfl) ?_
    refine mj_if_ne 19 dX12_give_14 (by decide) (fun z => t_negK hk z (fun hk => ?_)) (fun z => t_posK hk z (fun hk => ?_))
    · refine mj_aload_n dX12_give_19 0 rfl ?_
      refine t_getR 12 dX12_give_20 F_X12_19 qr_0_1 ?_
      refine mj_iload_n dX12_give_23 3 rfl ?_
      refine t_callSiP dX12_give_24 M_X12_keptAt (C_X12_keptAt _ _) ML_X12_176 SM_X12_keptAt (As := [.int x3]) rfl rfl (Nat.le_of_ble_eq_true rfl) (Nat.le_of_ble_eq_true rfl) (Nat.le_of_ble_eq_true rfl) (Nat.le_of_ble_eq_true rfl) ?_
      refine t_bndK hk (fun r4 er4 hk => ?_)
      refine t_callViP dX12_give_27 M_X8_canBeGiven (C_X8_canBeGiven _ _ _ er4) ML_X12_289 IM_X8_canBeGiven SE_X8_canBeGiven qc_12 rfl (As := [.int (f_X12_keptAt x3 s)]) rfl rfl (Nat.le_of_ble_eq_true rfl) (Nat.le_of_ble_eq_true rfl) (Nat.le_of_ble_eq_true rfl) (Nat.le_of_ble_eq_true rfl) ?_
      refine mj_if_ne 35 dX12_give_30 (by decide) (fun z => t_negK hk z (fun hk => ?_)) (fun z => t_posK hk z (fun hk => ?_))
      · refine mj_aload_n dX12_give_35 0 rfl ?_
        refine t_getR 864 dX12_give_36 F_X12_84 qr_0_8 ?_
        refine mj_aload_n dX12_give_39 0 rfl ?_
        refine t_getR 864 dX12_give_40 F_X12_84 qr_0_8 ?_
        refine t_getR 865 dX12_give_43 F_X12_292 qr_864_5 ?_
        refine mj_iload_n dX12_give_46 1 rfl ?_
        refine t_chkK hk (fun c4 hk => ?_)
        refine t_aaldP dX12_give_47 qq_865 (t_ixv c4) ?_
        refine mj_iload_n dX12_give_48 2 rfl ?_
        refine mj_iconst (v := (-1)) dX12_give_49 (by decide) ?_
        refine mj_aload_n dX12_give_50 0 rfl ?_
        refine t_getR 12 dX12_give_51 F_X12_19 qr_0_1 ?_
        refine t_getR 13 dX12_give_54 F_X12_173 qr_12_0 ?_
        refine mj_iload_n dX12_give_57 3 rfl ?_
        refine t_callSiP dX12_give_58 M_X12_keptAt (C_X12_keptAt _ _) ML_X12_176 SM_X12_keptAt (As := [.int x3]) rfl rfl (Nat.le_of_ble_eq_true rfl) (Nat.le_of_ble_eq_true rfl) (Nat.le_of_ble_eq_true rfl) (Nat.le_of_ble_eq_true rfl) ?_
        refine t_bndK hk (fun r7 er7 hk => ?_)
        refine t_callViE dX12_give_61 M_X7_arrive (C_X7_arrive _ _ _ _ _ _ _ er7) ML_X12_296 IM_X7_arrive SE_X7_arrive qc_864 rfl (As := [.ref (866 + 10 * (x1.toNatClampNeg)), .int x2, .int (-1), .ref 13, .int (f_X12_keptAt x3 s)]) rfl rfl (Nat.le_of_ble_eq_true rfl) (Nat.le_of_ble_eq_true rfl) (Nat.le_of_ble_eq_true rfl) (Nat.le_of_ble_eq_true rfl) ?_
        refine mj_if_eq 71 dX12_give_64 (by decide) (fun z => t_posK hk z (fun hk => ?_)) (fun z => t_negK hk z (fun hk => ?_))
        · refine mj_iconst (v := 0) dX12_give_71 (by decide) ?_
          exact t_somK hk (fun hf => t_iret dX12_give_72 rfl rfl ⟨_, rfl, hf⟩ (Nat.le_of_ble_eq_true rfl) (Nat.le_of_ble_eq_true rfl))
        · refine mj_iconst (v := 1) dX12_give_67 (by decide) ?_
          refine mj_goto 72 dX12_give_68 (by decide) ?_
          exact t_somK hk (fun hf => t_iret dX12_give_72 rfl rfl ⟨_, rfl, hf⟩ (Nat.le_of_ble_eq_true rfl) (Nat.le_of_ble_eq_true rfl))
      · refine mj_iconst (v := (-1)) dX12_give_33 (by decide) ?_
        exact t_somK hk (fun hf => t_iret dX12_give_34 rfl rfl ⟨_, rfl, hf⟩ (Nat.le_of_ble_eq_true rfl) (Nat.le_of_ble_eq_true rfl))
    · refine mj_iconst (v := (-1)) dX12_give_17 (by decide) ?_
      exact t_somK hk (fun hf => t_iret dX12_give_18 rfl rfl ⟨_, rfl, hf⟩ (Nat.le_of_ble_eq_true rfl) (Nat.le_of_ble_eq_true rfl))

theorem dX12_letter_0 : decode cX12_letter 0 = .ok (.iload_n 1, 1) := by decide +kernel
theorem dX12_letter_1 : decode cX12_letter 1 = .ok (.ifCond .lt 14, 3) := by decide +kernel
theorem dX12_letter_12 : decode cX12_letter 12 = .ok (.if_icmp .lt 8, 3) := by decide +kernel
theorem dX12_letter_15 : decode cX12_letter 15 = .ok (.bipush (-2), 2) := by decide +kernel
theorem dX12_letter_17 : decode cX12_letter 17 = .ok (.goto 12, 3) := by decide +kernel
theorem dX12_letter_20 : decode cX12_letter 20 = .ok (.aload_n 0, 1) := by decide +kernel
theorem dX12_letter_21 : decode cX12_letter 21 = .ok (.getfield 75, 3) := by decide +kernel
theorem dX12_letter_24 : decode cX12_letter 24 = .ok (.getfield 226, 3) := by decide +kernel
theorem dX12_letter_27 : decode cX12_letter 27 = .ok (.iload_n 1, 1) := by decide +kernel
theorem dX12_letter_28 : decode cX12_letter 28 = .ok (.baload, 1) := by decide +kernel
theorem dX12_letter_29 : decode cX12_letter 29 = .ok (.ireturn, 1) := by decide +kernel
theorem dX12_letter_4 : decode cX12_letter 4 = .ok (.iload_n 1, 1) := by decide +kernel
theorem dX12_letter_5 : decode cX12_letter 5 = .ok (.aload_n 0, 1) := by decide +kernel
theorem dX12_letter_6 : decode cX12_letter 6 = .ok (.getfield 75, 3) := by decide +kernel
theorem dX12_letter_9 : decode cX12_letter 9 = .ok (.getfield 223, 3) := by decide +kernel
noncomputable def k_X12_letter_15 (s : t_S) : Option (Int32) :=
 some (-2 : Int32)
set_option maxRecDepth 4000 in
set_option maxHeartbeats 1000000 in
theorem B_X12_letter_15 {D : va_G} {cy : Nat → ClassId} {ad : Nat → Nat} {bs : Nat} {X : State → Heap → Prop} (s : t_S) (Q : Int32 → Prop) (hk : t_hk (k_X12_letter_15 s) Q) : mj_G D cy ad bs X cX12_letter 2 yX12_letter.cls (some .int) yX12_letter.name 0 0 0 1065 (t_P (fun v s' => s' = s ∧ ∃ x, v = some (.int x) ∧ Q (x))) 15 [] [] (t_m s) 1065 0 0 := by
  refine mj_bipush (v := (-2)) dX12_letter_15 (by decide) ?_
  refine mj_goto 29 dX12_letter_17 (by decide) ?_
  exact t_somK hk (fun hf => t_iret dX12_letter_29 rfl rfl ⟨rfl, _, rfl, hf⟩ (Nat.le_of_ble_eq_true rfl) (Nat.le_of_ble_eq_true rfl))
noncomputable def f_X12_letter (x1 : Int32) (s : t_S) : Option (Int32) :=
 if x1 < (0 : Int32) then (k_X12_letter_15 s)
 else (if x1 < (s.1 856 3) then (if t_ix x1 4000 = true then
  some (s.1 857 (x1.toNatClampNeg))
else none)
 else (k_X12_letter_15 s))
set_option maxRecDepth 4000 in
set_option maxHeartbeats 1000000 in
theorem C_X12_letter (x1 : Int32) (s : t_S) (r : Int32) (hr : f_X12_letter x1 s = some r) : t_C yX12_letter cX12_letter 2 (some .int) 0 [.ref 0, .int x1] s (fun v s' => v = some (.int r) ∧ s' = s) := by
  refine t_C.imp (P := fun v s' => s' = s ∧ ∃ x, v = some (.int x) ∧ (fun q => q = r) (x)) (t_C.of (by decide +kernel) (Nat.le_of_ble_eq_true rfl) ?_) (fun v s' hp => by obtain ⟨rfl, x, rfl, rfl⟩ := hp; exact ⟨rfl, rfl⟩)
  intro D cy ad bs X
  have hk : t_hk (f_X12_letter x1 s) (fun q => q = r) := ⟨r, hr, rfl⟩
  show mj_G D cy ad bs X cX12_letter 2 yX12_letter.cls (some .int) yX12_letter.name 0 0 0 1065 (t_P (fun v s' => s' = s ∧ ∃ x, v = some (.int x) ∧ (fun q => q = r) (x))) 0 [(0, .ref 0), (1, .int x1)] [] (t_m s) 1065 0 0
  refine mj_iload_n dX12_letter_0 1 rfl ?_
  refine mj_if_lt 15 dX12_letter_1 (by decide) (fun z => t_posK hk z (fun hk => ?_)) (fun z => t_negK hk z (fun hk => ?_))
  · refine mj_sublv [] [] rfl ?_
    exact B_X12_letter_15 _ _ hk
  · refine mj_iload_n dX12_letter_4 1 rfl ?_
    refine mj_aload_n dX12_letter_5 0 rfl ?_
    refine t_getR 856 dX12_letter_6 F_X12_75 qr_0_7 ?_
    refine t_getI dX12_letter_9 F_X12_223 qf_856_3 ?_
    refine mj_icmp_lt 20 dX12_letter_12 (by decide) (fun z => t_posK hk z (fun hk => ?_)) (fun z => t_negK hk z (fun hk => ?_))
    · refine mj_aload_n dX12_letter_20 0 rfl ?_
      refine t_getR 856 dX12_letter_21 F_X12_75 qr_0_7 ?_
      refine t_getR 857 dX12_letter_24 F_X12_226 qr_856_2 ?_
      refine mj_iload_n dX12_letter_27 1 rfl ?_
      refine t_chkK hk (fun c0 hk => ?_)
      refine t_bald dX12_letter_28 qa_857 (t_ixv c0) ?_
      exact t_somK hk (fun hf => t_iret dX12_letter_29 rfl rfl ⟨rfl, _, rfl, hf⟩ (Nat.le_of_ble_eq_true rfl) (Nat.le_of_ble_eq_true rfl))
    · refine mj_sublv [] [] rfl ?_
      exact B_X12_letter_15 _ _ hk

theorem dX12_lightest_0 : decode cX12_lightest 0 = .ok (.aload_n 0, 1) := by decide +kernel
theorem dX12_lightest_1 : decode cX12_lightest 1 = .ok (.iload_n 1, 1) := by decide +kernel
theorem dX12_lightest_10 : decode cX12_lightest 10 = .ok (.aload_n 0, 1) := by decide +kernel
theorem dX12_lightest_11 : decode cX12_lightest 11 = .ok (.getfield 26, 3) := by decide +kernel
theorem dX12_lightest_14 : decode cX12_lightest 14 = .ok (.getfield 217, 3) := by decide +kernel
theorem dX12_lightest_17 : decode cX12_lightest 17 = .ok (.aload_n 0, 1) := by decide +kernel
theorem dX12_lightest_18 : decode cX12_lightest 18 = .ok (.getfield 26, 3) := by decide +kernel
theorem dX12_lightest_2 : decode cX12_lightest 2 = .ok (.invokevirtual 196, 3) := by decide +kernel
theorem dX12_lightest_21 : decode cX12_lightest 21 = .ok (.getfield 199, 3) := by decide +kernel
theorem dX12_lightest_24 : decode cX12_lightest 24 = .ok (.iload_n 1, 1) := by decide +kernel
theorem dX12_lightest_25 : decode cX12_lightest 25 = .ok (.iaload, 1) := by decide +kernel
theorem dX12_lightest_26 : decode cX12_lightest 26 = .ok (.iaload, 1) := by decide +kernel
theorem dX12_lightest_27 : decode cX12_lightest 27 = .ok (.istore_n 2, 1) := by decide +kernel
theorem dX12_lightest_28 : decode cX12_lightest 28 = .ok (.iload_n 2, 1) := by decide +kernel
theorem dX12_lightest_29 : decode cX12_lightest 29 = .ok (.bipush 120, 2) := by decide +kernel
theorem dX12_lightest_31 : decode cX12_lightest 31 = .ok (.if_icmp .le 8, 3) := by decide +kernel
theorem dX12_lightest_34 : decode cX12_lightest 34 = .ok (.bipush (-2), 2) := by decide +kernel
theorem dX12_lightest_36 : decode cX12_lightest 36 = .ok (.goto 4, 3) := by decide +kernel
theorem dX12_lightest_39 : decode cX12_lightest 39 = .ok (.iload_n 2, 1) := by decide +kernel
theorem dX12_lightest_40 : decode cX12_lightest 40 = .ok (.ireturn, 1) := by decide +kernel
theorem dX12_lightest_5 : decode cX12_lightest 5 = .ok (.ifCond .ne 5, 3) := by decide +kernel
theorem dX12_lightest_8 : decode cX12_lightest 8 = .ok (.iconst (-1), 1) := by decide +kernel
theorem dX12_lightest_9 : decode cX12_lightest 9 = .ok (.ireturn, 1) := by decide +kernel
noncomputable def f_X12_lightest (x1 : Int32) (s : t_S) : Option (Int32) :=
 if (f_X12_isType x1 s) = (0 : Int32) then (some (-1 : Int32))
 else (if t_ix x1 60 = true then
  if t_ix (s.1 326 (x1.toNatClampNeg)) 3001 = true then
  if (s.1 324 ((s.1 326 (x1.toNatClampNeg)).toNatClampNeg)) ≤ (120 : Int32) then (some (s.1 324 ((s.1 326 (x1.toNatClampNeg)).toNatClampNeg)))
 else (some (-2 : Int32))
else none
else none)
set_option maxRecDepth 4000 in
set_option maxHeartbeats 1000000 in
theorem C_X12_lightest (x1 : Int32) (s : t_S) (r : Int32) (hr : f_X12_lightest x1 s = some r) : t_C yX12_lightest cX12_lightest 3 (some .int) 1 [.ref 0, .int x1] s (fun v s' => v = some (.int r) ∧ s' = s) := by
  refine t_C.imp (P := fun v s' => s' = s ∧ ∃ x, v = some (.int x) ∧ (fun q => q = r) (x)) (t_C.of (by decide +kernel) (Nat.le_of_ble_eq_true rfl) ?_) (fun v s' hp => by obtain ⟨rfl, x, rfl, rfl⟩ := hp; exact ⟨rfl, rfl⟩)
  intro D cy ad bs X
  have hk : t_hk (f_X12_lightest x1 s) (fun q => q = r) := ⟨r, hr, rfl⟩
  show mj_G D cy ad bs X cX12_lightest 3 yX12_lightest.cls (some .int) yX12_lightest.name 1 0 0 1065 (t_P (fun v s' => s' = s ∧ ∃ x, v = some (.int x) ∧ (fun q => q = r) (x))) 0 [(0, .ref 0), (1, .int x1)] [] (t_m s) 1065 0 0
  refine mj_aload_n dX12_lightest_0 0 rfl ?_
  refine mj_iload_n dX12_lightest_1 1 rfl ?_
  refine t_callViP dX12_lightest_2 M_X12_isType (C_X12_isType _ _) ML_X12_196 IM_X12_isType SE_X12_isType qc_0 rfl (As := [.int x1]) rfl rfl (Nat.le_of_ble_eq_true rfl) (Nat.le_of_ble_eq_true rfl) (Nat.le_of_ble_eq_true rfl) (Nat.le_of_ble_eq_true rfl) ?_
  refine mj_if_ne 10 dX12_lightest_5 (by decide) (fun z => t_negK hk z (fun hk => ?_)) (fun z => t_posK hk z (fun hk => ?_))
  · refine mj_aload_n dX12_lightest_10 0 rfl ?_
    refine t_getR 316 dX12_lightest_11 F_X12_26 qr_0_2 ?_
    refine t_getR 324 dX12_lightest_14 F_X12_217 qr_316_7 ?_
    refine mj_aload_n dX12_lightest_17 0 rfl ?_
    refine t_getR 316 dX12_lightest_18 F_X12_26 qr_0_2 ?_
    refine t_getR 326 dX12_lightest_21 F_X12_199 qr_316_11 ?_
    refine mj_iload_n dX12_lightest_24 1 rfl ?_
    refine t_chkK hk (fun c1 hk => ?_)
    refine t_iald dX12_lightest_25 qa_326 (t_ixv c1) ?_
    refine t_chkK hk (fun c2 hk => ?_)
    refine t_iald dX12_lightest_26 qa_324 (t_ixv c2) ?_
    refine mj_istore_n 2 (lv2 := [(2, .int (s.1 324 ((s.1 326 (x1.toNatClampNeg)).toNatClampNeg))), (0, .ref 0), (1, .int x1)]) dX12_lightest_27 rfl (by decide) rfl ?_
    refine mj_iload_n dX12_lightest_28 0 rfl ?_
    refine mj_bipush (v := 120) dX12_lightest_29 (by decide) ?_
    refine mj_icmp_le 39 dX12_lightest_31 (by decide) (fun z => t_posK hk z (fun hk => ?_)) (fun z => t_negK hk z (fun hk => ?_))
    · refine mj_iload_n dX12_lightest_39 0 rfl ?_
      exact t_somK hk (fun hf => t_iret dX12_lightest_40 rfl rfl ⟨rfl, _, rfl, hf⟩ (Nat.le_of_ble_eq_true rfl) (Nat.le_of_ble_eq_true rfl))
    · refine mj_bipush (v := (-2)) dX12_lightest_34 (by decide) ?_
      refine mj_goto 40 dX12_lightest_36 (by decide) ?_
      exact t_somK hk (fun hf => t_iret dX12_lightest_40 rfl rfl ⟨rfl, _, rfl, hf⟩ (Nat.le_of_ble_eq_true rfl) (Nat.le_of_ble_eq_true rfl))
  · refine mj_iconst (v := (-1)) dX12_lightest_8 (by decide) ?_
    exact t_somK hk (fun hf => t_iret dX12_lightest_9 rfl rfl ⟨rfl, _, rfl, hf⟩ (Nat.le_of_ble_eq_true rfl) (Nat.le_of_ble_eq_true rfl))

theorem dX12_many_0 : decode cX12_many 0 = .ok (.aload_n 0, 1) := by decide +kernel
theorem dX12_many_1 : decode cX12_many 1 = .ok (.iload_n 1, 1) := by decide +kernel
theorem dX12_many_10 : decode cX12_many 10 = .ok (.if_icmp .lt 9, 3) := by decide +kernel
theorem dX12_many_13 : decode cX12_many 13 = .ok (.iload_n 2, 1) := by decide +kernel
theorem dX12_many_14 : decode cX12_many 14 = .ok (.bipush 20, 2) := by decide +kernel
theorem dX12_many_16 : decode cX12_many 16 = .ok (.if_icmp .le 7, 3) := by decide +kernel
theorem dX12_many_19 : decode cX12_many 19 = .ok (.ldc2_w 211, 3) := by decide +kernel
theorem dX12_many_2 : decode cX12_many 2 = .ok (.invokevirtual 196, 3) := by decide +kernel
theorem dX12_many_22 : decode cX12_many 22 = .ok (.lreturn, 1) := by decide +kernel
theorem dX12_many_23 : decode cX12_many 23 = .ok (.aload_n 0, 1) := by decide +kernel
theorem dX12_many_24 : decode cX12_many 24 = .ok (.getfield 26, 3) := by decide +kernel
theorem dX12_many_27 : decode cX12_many 27 = .ok (.iload_n 1, 1) := by decide +kernel
theorem dX12_many_28 : decode cX12_many 28 = .ok (.iload_n 2, 1) := by decide +kernel
theorem dX12_many_29 : decode cX12_many 29 = .ok (.invokevirtual 213, 3) := by decide +kernel
theorem dX12_many_32 : decode cX12_many 32 = .ok (.lreturn, 1) := by decide +kernel
theorem dX12_many_5 : decode cX12_many 5 = .ok (.ifCond .eq 14, 3) := by decide +kernel
theorem dX12_many_8 : decode cX12_many 8 = .ok (.iload_n 2, 1) := by decide +kernel
theorem dX12_many_9 : decode cX12_many 9 = .ok (.iconst 1, 1) := by decide +kernel
noncomputable def f_X12_many (x1 : Int32) (x2 : Int32) (s : t_S) : Option (Int64 × t_S) :=
 if (f_X12_isType x1 s) = (0 : Int32) then (some ((-1 : Int64), s))
 else (if x2 < (1 : Int32) then (some ((-1 : Int64), s))
 else (if x2 ≤ (20 : Int32) then ((f_X11_ways x1 x2 s).bind (fun r2 =>
 some (r2.1, r2.2)))
 else (some ((-1 : Int64), s))))
set_option maxRecDepth 4000 in
set_option maxHeartbeats 1000000 in
theorem C_X12_many (x1 : Int32) (x2 : Int32) (s : t_S) (r : Int64 × t_S) (hr : f_X12_many x1 x2 s = some r) : t_C yX12_many cX12_many 3 (some .long) 6 [.ref 0, .int x1, .int x2] s (fun v s' => v = some (.long r.1) ∧ s' = r.2) := by
  refine t_C.imp (P := fun v s' => ∃ x, v = some (.long x) ∧ (fun q => q = r) ((x, s'))) (t_C.of (by decide +kernel) (Nat.le_of_ble_eq_true rfl) ?_) (fun v s' hp => by obtain ⟨x, rfl, rfl⟩ := hp; exact ⟨rfl, rfl⟩)
  intro D cy ad bs X
  have hk : t_hk (f_X12_many x1 x2 s) (fun q => q = r) := ⟨r, hr, rfl⟩
  show mj_G D cy ad bs X cX12_many 3 yX12_many.cls (some .long) yX12_many.name 6 0 0 1065 (t_P (fun v s' => ∃ x, v = some (.long x) ∧ (fun q => q = r) ((x, s')))) 0 [(0, .ref 0), (1, .int x1), (2, .int x2)] [] (t_m s) 1065 0 0
  refine mj_aload_n dX12_many_0 0 rfl ?_
  refine mj_iload_n dX12_many_1 1 rfl ?_
  refine t_callViP dX12_many_2 M_X12_isType (C_X12_isType _ _) ML_X12_196 IM_X12_isType SE_X12_isType qc_0 rfl (As := [.int x1]) rfl rfl (Nat.le_of_ble_eq_true rfl) (Nat.le_of_ble_eq_true rfl) (Nat.le_of_ble_eq_true rfl) (Nat.le_of_ble_eq_true rfl) ?_
  refine mj_if_eq 19 dX12_many_5 (by decide) (fun z => t_posK hk z (fun hk => ?_)) (fun z => t_negK hk z (fun hk => ?_))
  · refine mj_ldc2 dX12_many_19 K_X12_211 ?_
    exact t_somK hk (fun hf => t_lret dX12_many_22 rfl ⟨_, rfl, hf⟩ (Nat.le_of_ble_eq_true rfl) (Nat.le_of_ble_eq_true rfl))
  · refine mj_iload_n dX12_many_8 2 rfl ?_
    refine mj_iconst (v := 1) dX12_many_9 (by decide) ?_
    refine mj_icmp_lt 19 dX12_many_10 (by decide) (fun z => t_posK hk z (fun hk => ?_)) (fun z => t_negK hk z (fun hk => ?_))
    · refine mj_ldc2 dX12_many_19 K_X12_211 ?_
      exact t_somK hk (fun hf => t_lret dX12_many_22 rfl ⟨_, rfl, hf⟩ (Nat.le_of_ble_eq_true rfl) (Nat.le_of_ble_eq_true rfl))
    · refine mj_iload_n dX12_many_13 2 rfl ?_
      refine mj_bipush (v := 20) dX12_many_14 (by decide) ?_
      refine mj_icmp_le 23 dX12_many_16 (by decide) (fun z => t_posK hk z (fun hk => ?_)) (fun z => t_negK hk z (fun hk => ?_))
      · refine mj_aload_n dX12_many_23 0 rfl ?_
        refine t_getR 316 dX12_many_24 F_X12_26 qr_0_2 ?_
        refine mj_iload_n dX12_many_27 1 rfl ?_
        refine mj_iload_n dX12_many_28 2 rfl ?_
        refine t_bndK hk (fun r2 er2 hk => ?_)
        refine t_callVlE dX12_many_29 M_X11_ways (C_X11_ways _ _ _ _ er2) ML_X12_213 IM_X11_ways SE_X11_ways qc_316 rfl (As := [.int x1, .int x2]) rfl rfl (Nat.le_of_ble_eq_true rfl) (Nat.le_of_ble_eq_true rfl) (Nat.le_of_ble_eq_true rfl) (Nat.le_of_ble_eq_true rfl) ?_
        exact t_somK hk (fun hf => t_lret dX12_many_32 rfl ⟨_, rfl, hf⟩ (Nat.le_of_ble_eq_true rfl) (Nat.le_of_ble_eq_true rfl))
      · refine mj_ldc2 dX12_many_19 K_X12_211 ?_
        exact t_somK hk (fun hf => t_lret dX12_many_22 rfl ⟨_, rfl, hf⟩ (Nat.le_of_ble_eq_true rfl) (Nat.le_of_ble_eq_true rfl))

