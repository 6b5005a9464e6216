/-! Methods as functions, 99: X13_queued, X13_run, X13_state, X13_write, X13_writeName, X13_writeNumber, X13_writeWords -/
theorem dX13_queued_0 : decode cX13_queued 0 = .ok (.aload_n 0, 1) := by decide +kernel
theorem dX13_queued_1 : decode cX13_queued 1 = .ok (.iload_n 1, 1) := by decide +kernel
theorem dX13_queued_10 : decode cX13_queued 10 = .ok (.ireturn, 1) := by decide +kernel
theorem dX13_queued_11 : decode cX13_queued 11 = .ok (.bipush 6, 2) := by decide +kernel
theorem dX13_queued_13 : decode cX13_queued 13 = .ok (.iload_n 1, 1) := by decide +kernel
theorem dX13_queued_14 : decode cX13_queued 14 = .ok (.imul, 1) := by decide +kernel
theorem dX13_queued_15 : decode cX13_queued 15 = .ok (.iload_n 2, 1) := by decide +kernel
theorem dX13_queued_16 : decode cX13_queued 16 = .ok (.iadd, 1) := by decide +kernel
theorem dX13_queued_17 : decode cX13_queued 17 = .ok (.istore 4, 2) := by decide +kernel
theorem dX13_queued_19 : decode cX13_queued 19 = .ok (.iload_n 3, 1) := by decide +kernel
theorem dX13_queued_2 : decode cX13_queued 2 = .ok (.iload_n 2, 1) := by decide +kernel
theorem dX13_queued_20 : decode cX13_queued 20 = .ok (.i2l, 1) := by decide +kernel
theorem dX13_queued_21 : decode cX13_queued 21 = .ok (.lconst 0, 1) := by decide +kernel
theorem dX13_queued_22 : decode cX13_queued 22 = .ok (.aload_n 0, 1) := by decide +kernel
theorem dX13_queued_23 : decode cX13_queued 23 = .ok (.getfield 309, 3) := by decide +kernel
theorem dX13_queued_26 : decode cX13_queued 26 = .ok (.iload 4, 2) := by decide +kernel
theorem dX13_queued_28 : decode cX13_queued 28 = .ok (.iaload, 1) := by decide +kernel
theorem dX13_queued_29 : decode cX13_queued 29 = .ok (.iconst 1, 1) := by decide +kernel
theorem dX13_queued_3 : decode cX13_queued 3 = .ok (.invokevirtual 1487, 3) := by decide +kernel
theorem dX13_queued_30 : decode cX13_queued 30 = .ok (.isub, 1) := by decide +kernel
theorem dX13_queued_31 : decode cX13_queued 31 = .ok (.i2l, 1) := by decide +kernel
theorem dX13_queued_32 : decode cX13_queued 32 = .ok (.invokestatic 371, 3) := by decide +kernel
theorem dX13_queued_35 : decode cX13_queued 35 = .ok (.ifCond .ne 6, 3) := by decide +kernel
theorem dX13_queued_38 : decode cX13_queued 38 = .ok (.bipush (-2), 2) := by decide +kernel
theorem dX13_queued_40 : decode cX13_queued 40 = .ok (.ireturn, 1) := by decide +kernel
theorem dX13_queued_41 : decode cX13_queued 41 = .ok (.aload_n 0, 1) := by decide +kernel
theorem dX13_queued_42 : decode cX13_queued 42 = .ok (.sipush 260, 3) := by decide +kernel
theorem dX13_queued_45 : decode cX13_queued 45 = .ok (.sipush 1416, 3) := by decide +kernel
theorem dX13_queued_48 : decode cX13_queued 48 = .ok (.bipush 8, 2) := by decide +kernel
theorem dX13_queued_50 : decode cX13_queued 50 = .ok (.iload 4, 2) := by decide +kernel
theorem dX13_queued_52 : decode cX13_queued 52 = .ok (.imul, 1) := by decide +kernel
theorem dX13_queued_53 : decode cX13_queued 53 = .ok (.iadd, 1) := by decide +kernel
theorem dX13_queued_54 : decode cX13_queued 54 = .ok (.aload_n 0, 1) := by decide +kernel
theorem dX13_queued_55 : decode cX13_queued 55 = .ok (.getfield 306, 3) := by decide +kernel
theorem dX13_queued_58 : decode cX13_queued 58 = .ok (.iload 4, 2) := by decide +kernel
theorem dX13_queued_6 : decode cX13_queued 6 = .ok (.ifCond .eq 5, 3) := by decide +kernel
theorem dX13_queued_60 : decode cX13_queued 60 = .ok (.iaload, 1) := by decide +kernel
theorem dX13_queued_61 : decode cX13_queued 61 = .ok (.iload_n 3, 1) := by decide +kernel
theorem dX13_queued_62 : decode cX13_queued 62 = .ok (.iadd, 1) := by decide +kernel
theorem dX13_queued_63 : decode cX13_queued 63 = .ok (.bipush 8, 2) := by decide +kernel
theorem dX13_queued_65 : decode cX13_queued 65 = .ok (.irem, 1) := by decide +kernel
theorem dX13_queued_66 : decode cX13_queued 66 = .ok (.iadd, 1) := by decide +kernel
theorem dX13_queued_67 : decode cX13_queued 67 = .ok (.imul, 1) := by decide +kernel
theorem dX13_queued_68 : decode cX13_queued 68 = .ok (.invokevirtual 999, 3) := by decide +kernel
theorem dX13_queued_71 : decode cX13_queued 71 = .ok (.ireturn, 1) := by decide +kernel
theorem dX13_queued_9 : decode cX13_queued 9 = .ok (.iconst (-1), 1) := by decide +kernel
noncomputable def f_X13_queued (x1 : Int32) (x2 : Int32) (x3 : Int32) (s : t_S) : Option (Int32 × t_S) :=
 (f_X13_noPort x1 x2 s).bind (fun r1 =>
 if r1 = (0 : Int32) then (if t_ix (((6 : Int32) * x1) + x2) 48 = true then
  if (f_X13_in x3.toInt64 (0 : Int64) (((s.1 1047 ((((6 : Int32) * x1) + x2).toNatClampNeg)) - (1 : Int32)).toInt64) s) = (0 : Int32) then (some ((-2 : Int32), s))
 else ((f_X13_keep ((260 : Int32) * (((1416 : Int32) + ((8 : Int32) * (((6 : Int32) * x1) + x2))) + (((s.1 1046 ((((6 : Int32) * x1) + x2).toNatClampNeg)) + x3) - ((s.1 1046 ((((6 : Int32) * x1) + x2).toNatClampNeg)) + x3) / (8 : Int32) * (8 : Int32)))) s).bind (fun r4 =>
 some (r4.1, r4.2)))
else none)
 else (some ((-1 : Int32), s)))
set_option maxRecDepth 4000 in
set_option maxHeartbeats 1000000 in
theorem C_X13_queued (x1 : Int32) (x2 : Int32) (x3 : Int32) (s : t_S) (r : Int32 × t_S) (hr : f_X13_queued x1 x2 x3 s = some r) : t_C yX13_queued cX13_queued 5 (some .int) 4 [.ref 950, .int x1, .int x2, .int x3] s (fun v s' => v = some (.int r.1) ∧ s' = r.2) := by
  refine t_C.imp (P := fun v s' => ∃ x, v = some (.int x) ∧ (fun q => q = r) ((x, s'))) (t_C.of (by decide +kernel) (Nat.le_of_ble_eq_true rfl) ?_) (fun v s' hp => by obtain ⟨x, rfl, rfl⟩ := hp; exact ⟨rfl, rfl⟩)
  intro D cy ad bs X
  have hk : t_hk (f_X13_queued x1 x2 x3 s) (fun q => q = r) := ⟨r, hr, rfl⟩
  show mj_G D cy ad bs X cX13_queued 5 yX13_queued.cls (some .int) yX13_queued.name 4 0 0 1065 (t_P (fun v s' => ∃ x, v = some (.int x) ∧ (fun q => q = r) ((x, s')))) 0 [(0, .ref 950), (1, .int x1), (2, .int x2), (3, .int x3)] [] (t_m s) 1065 0 0
  refine mj_aload_n dX13_queued_0 0 rfl ?_
  refine mj_iload_n dX13_queued_1 1 rfl ?_
  refine mj_iload_n dX13_queued_2 2 rfl ?_
  refine t_bndK hk (fun r1 er1 hk => ?_)
  refine t_callViP dX13_queued_3 M_X13_noPort (C_X13_noPort _ _ _ _ er1) ML_X13_1487 IM_X13_noPort SE_X13_noPort qc_950 rfl (As := [.int x1, .int x2]) rfl rfl (Nat.le_of_ble_eq_true rfl) (Nat.le_of_ble_eq_true rfl) (Nat.le_of_ble_eq_true rfl) (Nat.le_of_ble_eq_true rfl) ?_
  refine mj_if_eq 11 dX13_queued_6 (by decide) (fun z => t_posK hk z (fun hk => ?_)) (fun z => t_negK hk z (fun hk => ?_))
  · refine mj_bipush (v := 6) dX13_queued_11 (by decide) ?_
    refine mj_iload_n dX13_queued_13 1 rfl ?_
    refine mj_imul dX13_queued_14 ?_
    refine mj_iload_n dX13_queued_15 2 rfl ?_
    refine mj_iadd dX13_queued_16 ?_
    refine mj_istore (lv2 := [(4, .int (((6 : Int32) * x1) + x2)), (0, .ref 950), (1, .int x1), (2, .int x2), (3, .int x3)]) dX13_queued_17 (by decide) rfl ?_
    refine mj_iload_n dX13_queued_19 4 rfl ?_
    refine mj_i2l (v := x3.toInt64) dX13_queued_20 rfl ?_
    refine mj_lconst (v := 0) dX13_queued_21 (by decide) ?_
    refine mj_aload_n dX13_queued_22 1 rfl ?_
    refine t_getR 1047 dX13_queued_23 F_X13_309 qr_950_162 ?_
    refine mj_iload dX13_queued_26 0 rfl ?_
    refine t_chkK hk (fun c1 hk => ?_)
    refine t_iald dX13_queued_28 qa_1047 (t_ixv c1) ?_
    refine mj_iconst (v := 1) dX13_queued_29 (by decide) ?_
    refine mj_isub dX13_queued_30 ?_
    refine mj_i2l (v := ((s.1 1047 ((((6 : Int32) * x1) + x2).toNatClampNeg)) - (1 : Int32)).toInt64) dX13_queued_31 rfl ?_
    refine t_callSiP dX13_queued_32 M_X13_in (C_X13_in _ _ _ _) ML_X13_371 SM_X13_in (As := [.long x3.toInt64, .long 0, .long (((s.1 1047 ((((6 : Int32) * x1) + x2).toNatClampNeg)) - (1 : Int32)).toInt64)]) rfl rfl (Nat.le_of_ble_eq_true rfl) (Nat.le_of_ble_eq_true rfl) (Nat.le_of_ble_eq_true rfl) (Nat.le_of_ble_eq_true rfl) ?_
    refine mj_if_ne 41 dX13_queued_35 (by decide) (fun z => t_negK hk z (fun hk => ?_)) (fun z => t_posK hk z (fun hk => ?_))
    · refine mj_aload_n dX13_queued_41 1 rfl ?_
      refine mj_sipush (v := 260) dX13_queued_42 (by decide) ?_
      refine mj_sipush (v := 1416) dX13_queued_45 (by decide) ?_
      refine mj_bipush (v := 8) dX13_queued_48 (by decide) ?_
      refine mj_iload dX13_queued_50 0 rfl ?_
      refine mj_imul dX13_queued_52 ?_
      refine mj_iadd dX13_queued_53 ?_
      refine mj_aload_n dX13_queued_54 1 rfl ?_
      refine t_getR 1046 dX13_queued_55 F_X13_306 qr_950_161 ?_
      refine mj_iload dX13_queued_58 0 rfl ?_
      refine t_iald dX13_queued_60 qa_1046 (t_ixv c1) ?_
      refine mj_iload_n dX13_queued_61 4 rfl ?_
      refine mj_iadd dX13_queued_62 ?_
      refine mj_bipush (v := 8) dX13_queued_63 (by decide) ?_
      refine mj_irem dX13_queued_65 (by decide) ?_
      refine mj_iadd dX13_queued_66 ?_
      refine mj_imul dX13_queued_67 ?_
      refine t_bndK hk (fun r4 er4 hk => ?_)
      refine t_callViE dX13_queued_68 M_X13_keep (C_X13_keep _ _ _ er4) ML_X13_999 IM_X13_keep SE_X13_keep qc_950 rfl (As := [.int ((260 : Int32) * (((1416 : Int32) + ((8 : Int32) * (((6 : Int32) * x1) + x2))) + (((s.1 1046 ((((6 : Int32) * x1) + x2).toNatClampNeg)) + x3) - ((s.1 1046 ((((6 : Int32) * x1) + x2).toNatClampNeg)) + x3) / (8 : Int32) * (8 : Int32))))]) rfl rfl (Nat.le_of_ble_eq_true rfl) (Nat.le_of_ble_eq_true rfl) (Nat.le_of_ble_eq_true rfl) (Nat.le_of_ble_eq_true rfl) ?_
      exact t_somK hk (fun hf => t_iret dX13_queued_71 rfl rfl ⟨_, rfl, hf⟩ (Nat.le_of_ble_eq_true rfl) (Nat.le_of_ble_eq_true rfl))
    · refine mj_bipush (v := (-2)) dX13_queued_38 (by decide) ?_
      exact t_somK hk (fun hf => t_iret dX13_queued_40 rfl rfl ⟨_, rfl, hf⟩ (Nat.le_of_ble_eq_true rfl) (Nat.le_of_ble_eq_true rfl))
  · refine mj_iconst (v := (-1)) dX13_queued_9 (by decide) ?_
    exact t_somK hk (fun hf => t_iret dX13_queued_10 rfl rfl ⟨_, rfl, hf⟩ (Nat.le_of_ble_eq_true rfl) (Nat.le_of_ble_eq_true rfl))

theorem dX13_run_0 : decode cX13_run 0 = .ok (.aload_n 0, 1) := by decide +kernel
theorem dX13_run_1 : decode cX13_run 1 = .ok (.iload_n 1, 1) := by decide +kernel
theorem dX13_run_10 : decode cX13_run 10 = .ok (.lconst 0, 1) := by decide +kernel
theorem dX13_run_11 : decode cX13_run 11 = .ok (.ldc2_w 1355, 3) := by decide +kernel
theorem dX13_run_14 : decode cX13_run 14 = .ok (.invokestatic 371, 3) := by decide +kernel
theorem dX13_run_17 : decode cX13_run 17 = .ok (.ifCond .ne 5, 3) := by decide +kernel
theorem dX13_run_2 : decode cX13_run 2 = .ok (.invokevirtual 1352, 3) := by decide +kernel
theorem dX13_run_20 : decode cX13_run 20 = .ok (.iconst (-1), 1) := by decide +kernel
theorem dX13_run_21 : decode cX13_run 21 = .ok (.ireturn, 1) := by decide +kernel
theorem dX13_run_22 : decode cX13_run 22 = .ok (.iconst 0, 1) := by decide +kernel
theorem dX13_run_23 : decode cX13_run 23 = .ok (.istore_n 3, 1) := by decide +kernel
theorem dX13_run_24 : decode cX13_run 24 = .ok (.iconst 1, 1) := by decide +kernel
theorem dX13_run_25 : decode cX13_run 25 = .ok (.istore 4, 2) := by decide +kernel
theorem dX13_run_27 : decode cX13_run 27 = .ok (.iload 4, 2) := by decide +kernel
theorem dX13_run_29 : decode cX13_run 29 = .ok (.ifCond .eq 41, 3) := by decide +kernel
theorem dX13_run_32 : decode cX13_run 32 = .ok (.iload_n 3, 1) := by decide +kernel
theorem dX13_run_33 : decode cX13_run 33 = .ok (.iload_n 2, 1) := by decide +kernel
theorem dX13_run_34 : decode cX13_run 34 = .ok (.if_icmp .ge 36, 3) := by decide +kernel
theorem dX13_run_37 : decode cX13_run 37 = .ok (.aload_n 0, 1) := by decide +kernel
theorem dX13_run_38 : decode cX13_run 38 = .ok (.getfield 276, 3) := by decide +kernel
theorem dX13_run_41 : decode cX13_run 41 = .ok (.iload_n 1, 1) := by decide +kernel
theorem dX13_run_42 : decode cX13_run 42 = .ok (.iaload, 1) := by decide +kernel
theorem dX13_run_43 : decode cX13_run 43 = .ok (.iconst 1, 1) := by decide +kernel
theorem dX13_run_44 : decode cX13_run 44 = .ok (.if_icmp .ne 26, 3) := by decide +kernel
theorem dX13_run_47 : decode cX13_run 47 = .ok (.aload_n 0, 1) := by decide +kernel
theorem dX13_run_48 : decode cX13_run 48 = .ok (.iload_n 1, 1) := by decide +kernel
theorem dX13_run_49 : decode cX13_run 49 = .ok (.invokevirtual 1357, 3) := by decide +kernel
theorem dX13_run_5 : decode cX13_run 5 = .ok (.ifCond .ne 15, 3) := by decide +kernel
theorem dX13_run_52 : decode cX13_run 52 = .ok (.istore 4, 2) := by decide +kernel
theorem dX13_run_54 : decode cX13_run 54 = .ok (.iload_n 3, 1) := by decide +kernel
theorem dX13_run_55 : decode cX13_run 55 = .ok (.iload 4, 2) := by decide +kernel
theorem dX13_run_57 : decode cX13_run 57 = .ok (.ifCond .eq 7, 3) := by decide +kernel
theorem dX13_run_60 : decode cX13_run 60 = .ok (.iconst 1, 1) := by decide +kernel
theorem dX13_run_61 : decode cX13_run 61 = .ok (.goto 4, 3) := by decide +kernel
theorem dX13_run_64 : decode cX13_run 64 = .ok (.iconst 0, 1) := by decide +kernel
theorem dX13_run_65 : decode cX13_run 65 = .ok (.iadd, 1) := by decide +kernel
theorem dX13_run_66 : decode cX13_run 66 = .ok (.istore_n 3, 1) := by decide +kernel
theorem dX13_run_67 : decode cX13_run 67 = .ok (.goto (-40), 3) := by decide +kernel
theorem dX13_run_70 : decode cX13_run 70 = .ok (.iload_n 3, 1) := by decide +kernel
theorem dX13_run_71 : decode cX13_run 71 = .ok (.ireturn, 1) := by decide +kernel
theorem dX13_run_8 : decode cX13_run 8 = .ok (.iload_n 2, 1) := by decide +kernel
theorem dX13_run_9 : decode cX13_run 9 = .ok (.i2l, 1) := by decide +kernel
noncomputable def k_X13_run_65 (l1 : Int32) (l2 : Int32) (l4 : Int32) (k0 : Int32) (k1 : Int32) (s : t_S) : Option ((Int32 × Int32 × Int32 × Int32 × t_S) ⊕ (Int32 × t_S)) :=
 some (.inl (l1, l2, (k1 + k0), l4, s))
set_option maxRecDepth 4000 in
set_option maxHeartbeats 1000000 in
theorem B_X13_run_65 {D : va_G} {cy : Nat → ClassId} {ad : Nat → Nat} {bs : Nat} {X : State → Heap → Prop} (l1 : Int32) (l2 : Int32) (l4 : Int32) (k0 : Int32) (k1 : Int32) (s : t_S) (Q : (Int32 × Int32 × Int32 × Int32 × t_S) ⊕ (Int32 × t_S) → Prop) (Hb27 : ∀ (y0 : Int32) (y1 : Int32) (y2 : Int32) (y3 : Int32) (y4 : t_S), Q (.inl (y0, y1, y2, y3, y4)) → mj_G D cy ad bs X cX13_run 5 yX13_run.cls (some .int) yX13_run.name 1890 0 0 1065 (t_P (fun v s' => ∃ x, v = some (.int x) ∧ Q (.inr ((x, s'))))) 27 [(0, .ref 950), (1, .int (y0)), (2, .int (y1)), (3, .int (y2)), (4, .int (y3))] [] (t_m y4) 1065 0 0) (hk : t_hk (k_X13_run_65 l1 l2 l4 k0 k1 s) Q) : mj_G D cy ad bs X cX13_run 5 yX13_run.cls (some .int) yX13_run.name 1890 0 0 1065 (t_P (fun v s' => ∃ x, v = some (.int x) ∧ Q (.inr ((x, s'))))) 65 [(0, .ref 950), (1, .int l1), (2, .int l2), (4, .int l4)] [.int k0, .int k1] (t_m s) 1065 0 0 := by
  refine mj_iadd dX13_run_65 ?_
  refine mj_istore_n 3 (lv2 := [(3, .int (k1 + k0)), (0, .ref 950), (1, .int l1), (2, .int l2), (4, .int l4)]) dX13_run_66 rfl (by decide) rfl ?_
  refine mj_goto 27 dX13_run_67 (by decide) ?_
  refine mj_sublv [(0, .ref 950), (1, .int l1), (2, .int l2), (3, .int (k1 + k0)), (4, .int l4)] [1, 2, 3, 0, 4] rfl ?_
  exact t_somK hk (fun hf => Hb27 l1 l2 (k1 + k0) l4 s hf)
noncomputable def k_X13_run_27 (l1 : Int32) (l2 : Int32) (l3 : Int32) (l4 : Int32) (s : t_S) : Option ((Int32 × Int32 × Int32 × Int32 × t_S) ⊕ (Int32 × t_S)) :=
 if l4 = (0 : Int32) then ((some (l3, s)).map Sum.inr)
 else (if l2 ≤ l3 then ((some (l3, s)).map Sum.inr)
 else (if t_ix l1 8 = true then
  if (s.1 1036 (l1.toNatClampNeg)) = (1 : Int32) then ((f_X13_doStep l1 s).bind (fun r2 =>
 if r2.1 = (0 : Int32) then (k_X13_run_65 l1 l2 r2.1 0 l3 r2.2)
 else (k_X13_run_65 l1 l2 r2.1 1 l3 r2.2)))
 else ((some (l3, s)).map Sum.inr)
else none))
set_option maxRecDepth 4000 in
set_option maxHeartbeats 1000000 in
theorem B_X13_run_27 {D : va_G} {cy : Nat → ClassId} {ad : Nat → Nat} {bs : Nat} {X : State → Heap → Prop} (l1 : Int32) (l2 : Int32) (l3 : Int32) (l4 : Int32) (s : t_S) (Q : (Int32 × Int32 × Int32 × Int32 × t_S) ⊕ (Int32 × t_S) → Prop) (Hb27 : ∀ (y0 : Int32) (y1 : Int32) (y2 : Int32) (y3 : Int32) (y4 : t_S), Q (.inl (y0, y1, y2, y3, y4)) → mj_G D cy ad bs X cX13_run 5 yX13_run.cls (some .int) yX13_run.name 1890 0 0 1065 (t_P (fun v s' => ∃ x, v = some (.int x) ∧ Q (.inr ((x, s'))))) 27 [(0, .ref 950), (1, .int (y0)), (2, .int (y1)), (3, .int (y2)), (4, .int (y3))] [] (t_m y4) 1065 0 0) (hk : t_hk (k_X13_run_27 l1 l2 l3 l4 s) Q) : mj_G D cy ad bs X cX13_run 5 yX13_run.cls (some .int) yX13_run.name 1890 0 0 1065 (t_P (fun v s' => ∃ x, v = some (.int x) ∧ Q (.inr ((x, s'))))) 27 [(0, .ref 950), (1, .int l1), (2, .int l2), (3, .int l3), (4, .int l4)] [] (t_m s) 1065 0 0 := by
  refine mj_iload dX13_run_27 4 rfl ?_
  refine mj_if_eq 70 dX13_run_29 (by decide) (fun z => t_posK hk z (fun hk => ?_)) (fun z => t_negK hk z (fun hk => ?_))
  · refine t_mapK hk (fun hk => ?_)
    refine mj_iload_n dX13_run_70 3 rfl ?_
    exact t_somK hk (fun hf => t_iret dX13_run_71 rfl rfl ⟨_, rfl, hf⟩ (Nat.le_of_ble_eq_true rfl) (Nat.le_of_ble_eq_true rfl))
  · refine mj_iload_n dX13_run_32 3 rfl ?_
    refine mj_iload_n dX13_run_33 2 rfl ?_
    refine mj_icmp_ge 70 dX13_run_34 (by decide) (fun z => t_posK hk z (fun hk => ?_)) (fun z => t_negK hk z (fun hk => ?_))
    · refine t_mapK hk (fun hk => ?_)
      refine mj_iload_n dX13_run_70 3 rfl ?_
      exact t_somK hk (fun hf => t_iret dX13_run_71 rfl rfl ⟨_, rfl, hf⟩ (Nat.le_of_ble_eq_true rfl) (Nat.le_of_ble_eq_true rfl))
    · refine mj_aload_n dX13_run_37 0 rfl ?_
      refine t_getR 1036 dX13_run_38 F_X13_276 qr_950_151 ?_
      refine mj_iload_n dX13_run_41 1 rfl ?_
      refine t_chkK hk (fun c0 hk => ?_)
      refine t_iald dX13_run_42 qa_1036 (t_ixv c0) ?_
      refine mj_iconst (v := 1) dX13_run_43 (by decide) ?_
      refine mj_icmp_ne 70 dX13_run_44 (by decide) (fun z => t_negK hk z (fun hk => ?_)) (fun z => t_posK hk z (fun hk => ?_))
      · refine t_mapK hk (fun hk => ?_)
        refine mj_iload_n dX13_run_70 3 rfl ?_
        exact t_somK hk (fun hf => t_iret dX13_run_71 rfl rfl ⟨_, rfl, hf⟩ (Nat.le_of_ble_eq_true rfl) (Nat.le_of_ble_eq_true rfl))
      · refine mj_aload_n dX13_run_47 0 rfl ?_
        refine mj_iload_n dX13_run_48 1 rfl ?_
        refine t_bndK hk (fun r2 er2 hk => ?_)
        refine t_callViE dX13_run_49 M_X13_doStep (C_X13_doStep _ _ _ er2) ML_X13_1357 IM_X13_doStep SE_X13_doStep qc_950 rfl (As := [.int l1]) rfl rfl (Nat.le_of_ble_eq_true rfl) (Nat.le_of_ble_eq_true rfl) (Nat.le_of_ble_eq_true rfl) (Nat.le_of_ble_eq_true rfl) ?_
        refine mj_istore (lv2 := [(4, .int r2.1), (0, .ref 950), (1, .int l1), (2, .int l2), (3, .int l3)]) dX13_run_52 (by decide) rfl ?_
        refine mj_iload_n dX13_run_54 4 rfl ?_
        refine mj_iload dX13_run_55 0 rfl ?_
        refine mj_if_eq 64 dX13_run_57 (by decide) (fun z => t_posK hk z (fun hk => ?_)) (fun z => t_negK hk z (fun hk => ?_))
        · refine mj_iconst (v := 0) dX13_run_64 (by decide) ?_
          refine mj_sublv [(0, .ref 950), (1, .int l1), (2, .int l2), (4, .int r2.1)] [1, 2, 3, 0] rfl ?_
          exact B_X13_run_65 _ _ _ _ _ _ _ (fun y0 y1 y2 y3 y4 hx => Hb27 y0 y1 y2 y3 y4 hx) hk
        · refine mj_iconst (v := 1) dX13_run_60 (by decide) ?_
          refine mj_goto 65 dX13_run_61 (by decide) ?_
          refine mj_sublv [(0, .ref 950), (1, .int l1), (2, .int l2), (4, .int r2.1)] [1, 2, 3, 0] rfl ?_
          exact B_X13_run_65 _ _ _ _ _ _ _ (fun y0 y1 y2 y3 y4 hx => Hb27 y0 y1 y2 y3 y4 hx) hk
noncomputable def b_X13_run_27 (x : Int32 × Int32 × Int32 × Int32 × t_S) : Option ((Int32 × Int32 × Int32 × Int32 × t_S) ⊕ (Int32 × t_S)) := k_X13_run_27 x.1 x.2.1 x.2.2.1 x.2.2.2.1 x.2.2.2.2
set_option maxRecDepth 4000 in
set_option maxHeartbeats 1000000 in
theorem LH_X13_run_27 {D : va_G} {cy : Nat → ClassId} {ad : Nat → Nat} {bs : Nat} {X : State → Heap → Prop} : ∀ (n : Nat) (y0 : Int32) (y1 : Int32) (y2 : Int32) (y3 : Int32) (y4 : t_S) (Q : Int32 × t_S → Prop) (hk : t_hk (t_loop (b_X13_run_27) n (y0, y1, y2, y3, y4)) Q), mj_G D cy ad bs X cX13_run 5 yX13_run.cls (some .int) yX13_run.name 1890 0 0 1065 (t_P (fun v s' => ∃ x, v = some (.int x) ∧ Q ((x, s')))) 27 [(0, .ref 950), (1, .int (y0)), (2, .int (y1)), (3, .int (y2)), (4, .int (y3))] [] (t_m y4) 1065 0 0 := by
  intro n
  induction n with
  | zero => intro y0 y1 y2 y3 y4 Q hk; obtain ⟨r, hr, _⟩ := hk; cases hr
  | succ n ih =>
    intro y0 y1 y2 y3 y4 Q hk
    exact B_X13_run_27 y0 y1 y2 y3 y4 (fun y => t_lq (b_X13_run_27) n Q y) (fun y0' y1' y2' y3' y4' hy => ih y0' y1' y2' y3' y4' Q hy) (t_lp (b := b_X13_run_27) (n := n) (x := (y0, y1, y2, y3, y4)) hk)
noncomputable def f_X13_run (x1 : Int32) (x2 : Int32) (s : t_S) : Option (Int32 × t_S) :=
 if (f_X13_noComponent x1 s) = (0 : Int32) then (if (f_X13_in x2.toInt64 (0 : Int64) (10000 : Int64) s) = (0 : Int32) then (some ((-1 : Int32), s))
 else (t_loop (b_X13_run_27) t_N (x1, x2, 0, 1, s)))
 else (some ((-1 : Int32), s))
set_option maxRecDepth 4000 in
set_option maxHeartbeats 1000000 in
theorem C_X13_run (x1 : Int32) (x2 : Int32) (s : t_S) (r : Int32 × t_S) (hr : f_X13_run x1 x2 s = some r) : t_C yX13_run cX13_run 5 (some .int) 1890 [.ref 950, .int x1, .int x2] s (fun v s' => v = some (.int r.1) ∧ s' = r.2) := by
  refine t_C.imp (P := fun v s' => ∃ x, v = some (.int x) ∧ (fun q => q = r) ((x, s'))) (t_C.of (by decide +kernel) (Nat.le_of_ble_eq_true rfl) ?_) (fun v s' hp => by obtain ⟨x, rfl, rfl⟩ := hp; exact ⟨rfl, rfl⟩)
  intro D cy ad bs X
  have hk : t_hk (f_X13_run x1 x2 s) (fun q => q = r) := ⟨r, hr, rfl⟩
  show mj_G D cy ad bs X cX13_run 5 yX13_run.cls (some .int) yX13_run.name 1890 0 0 1065 (t_P (fun v s' => ∃ x, v = some (.int x) ∧ (fun q => q = r) ((x, s')))) 0 [(0, .ref 950), (1, .int x1), (2, .int x2)] [] (t_m s) 1065 0 0
  refine mj_aload_n dX13_run_0 0 rfl ?_
  refine mj_iload_n dX13_run_1 1 rfl ?_
  refine t_callViP dX13_run_2 M_X13_noComponent (C_X13_noComponent _ _) ML_X13_1352 IM_X13_noComponent SE_X13_noComponent qc_950 rfl (As := [.int x1]) rfl rfl (Nat.le_of_ble_eq_true rfl) (Nat.le_of_ble_eq_true rfl) (Nat.le_of_ble_eq_true rfl) (Nat.le_of_ble_eq_true rfl) ?_
  refine mj_if_ne 20 dX13_run_5 (by decide) (fun z => t_negK hk z (fun hk => ?_)) (fun z => t_posK hk z (fun hk => ?_))
  · refine mj_iconst (v := (-1)) dX13_run_20 (by decide) ?_
    exact t_somK hk (fun hf => t_iret dX13_run_21 rfl rfl ⟨_, rfl, hf⟩ (Nat.le_of_ble_eq_true rfl) (Nat.le_of_ble_eq_true rfl))
  · refine mj_iload_n dX13_run_8 2 rfl ?_
    refine mj_i2l (v := x2.toInt64) dX13_run_9 rfl ?_
    refine mj_lconst (v := 0) dX13_run_10 (by decide) ?_
    refine mj_ldc2 dX13_run_11 K_X13_1355 ?_
    refine t_callSiP dX13_run_14 M_X13_in (C_X13_in _ _ _ _) ML_X13_371 SM_X13_in (As := [.long x2.toInt64, .long 0, .long 10000]) rfl rfl (Nat.le_of_ble_eq_true rfl) (Nat.le_of_ble_eq_true rfl) (Nat.le_of_ble_eq_true rfl) (Nat.le_of_ble_eq_true rfl) ?_
    refine mj_if_ne 22 dX13_run_17 (by decide) (fun z => t_negK hk z (fun hk => ?_)) (fun z => t_posK hk z (fun hk => ?_))
    · refine mj_iconst (v := 0) dX13_run_22 (by decide) ?_
      refine mj_istore_n 3 (lv2 := [(3, .int 0), (0, .ref 950), (1, .int x1), (2, .int x2)]) dX13_run_23 rfl (by decide) rfl ?_
      refine mj_iconst (v := 1) dX13_run_24 (by decide) ?_
      refine mj_istore (lv2 := [(4, .int 1), (3, .int 0), (0, .ref 950), (1, .int x1), (2, .int x2)]) dX13_run_25 (by decide) rfl ?_
      refine mj_sublv [(0, .ref 950), (1, .int x1), (2, .int x2), (3, .int 0), (4, .int 1)] [2, 3, 4, 1, 0] rfl ?_
      exact LH_X13_run_27 _ x1 x2 0 1 s _ hk
    · refine mj_iconst (v := (-1)) dX13_run_20 (by decide) ?_
      exact t_somK hk (fun hf => t_iret dX13_run_21 rfl rfl ⟨_, rfl, hf⟩ (Nat.le_of_ble_eq_true rfl) (Nat.le_of_ble_eq_true rfl))

theorem dX13_state_0 : decode cX13_state 0 = .ok (.aload_n 0, 1) := by decide +kernel
theorem dX13_state_1 : decode cX13_state 1 = .ok (.iload_n 1, 1) := by decide +kernel
theorem dX13_state_10 : decode cX13_state 10 = .ok (.iload_n 2, 1) := by decide +kernel
theorem dX13_state_100 : decode cX13_state 100 = .ok (.iload_n 1, 1) := by decide +kernel
theorem dX13_state_101 : decode cX13_state 101 = .ok (.imul, 1) := by decide +kernel
theorem dX13_state_102 : decode cX13_state 102 = .ok (.aload_n 0, 1) := by decide +kernel
theorem dX13_state_103 : decode cX13_state 103 = .ok (.getfield 282, 3) := by decide +kernel
theorem dX13_state_106 : decode cX13_state 106 = .ok (.iload_n 1, 1) := by decide +kernel
theorem dX13_state_107 : decode cX13_state 107 = .ok (.iaload, 1) := by decide +kernel
theorem dX13_state_108 : decode cX13_state 108 = .ok (.iadd, 1) := by decide +kernel
theorem dX13_state_109 : decode cX13_state 109 = .ok (.iconst 1, 1) := by decide +kernel
theorem dX13_state_11 : decode cX13_state 11 = .ok (.tableswitch 128 0 7 #[45, 52, 59, 66, 73, 107, 114, 121], 45) := by decide +kernel
theorem dX13_state_110 : decode cX13_state 110 = .ok (.isub, 1) := by decide +kernel
theorem dX13_state_111 : decode cX13_state 111 = .ok (.iaload, 1) := by decide +kernel
theorem dX13_state_112 : decode cX13_state 112 = .ok (.goto 5, 3) := by decide +kernel
theorem dX13_state_115 : decode cX13_state 115 = .ok (.bipush (-2), 2) := by decide +kernel
theorem dX13_state_117 : decode cX13_state 117 = .ok (.ireturn, 1) := by decide +kernel
theorem dX13_state_118 : decode cX13_state 118 = .ok (.aload_n 0, 1) := by decide +kernel
theorem dX13_state_119 : decode cX13_state 119 = .ok (.getfield 294, 3) := by decide +kernel
theorem dX13_state_122 : decode cX13_state 122 = .ok (.iload_n 1, 1) := by decide +kernel
theorem dX13_state_123 : decode cX13_state 123 = .ok (.iaload, 1) := by decide +kernel
theorem dX13_state_124 : decode cX13_state 124 = .ok (.ireturn, 1) := by decide +kernel
theorem dX13_state_125 : decode cX13_state 125 = .ok (.aload_n 0, 1) := by decide +kernel
theorem dX13_state_126 : decode cX13_state 126 = .ok (.getfield 300, 3) := by decide +kernel
theorem dX13_state_129 : decode cX13_state 129 = .ok (.iload_n 1, 1) := by decide +kernel
theorem dX13_state_130 : decode cX13_state 130 = .ok (.iaload, 1) := by decide +kernel
theorem dX13_state_131 : decode cX13_state 131 = .ok (.ireturn, 1) := by decide +kernel
theorem dX13_state_132 : decode cX13_state 132 = .ok (.aload_n 0, 1) := by decide +kernel
theorem dX13_state_133 : decode cX13_state 133 = .ok (.getfield 303, 3) := by decide +kernel
theorem dX13_state_136 : decode cX13_state 136 = .ok (.iload_n 1, 1) := by decide +kernel
theorem dX13_state_137 : decode cX13_state 137 = .ok (.iaload, 1) := by decide +kernel
theorem dX13_state_138 : decode cX13_state 138 = .ok (.ireturn, 1) := by decide +kernel
theorem dX13_state_139 : decode cX13_state 139 = .ok (.iconst (-1), 1) := by decide +kernel
theorem dX13_state_140 : decode cX13_state 140 = .ok (.ireturn, 1) := by decide +kernel
theorem dX13_state_2 : decode cX13_state 2 = .ok (.invokevirtual 1352, 3) := by decide +kernel
theorem dX13_state_5 : decode cX13_state 5 = .ok (.ifCond .eq 5, 3) := by decide +kernel
theorem dX13_state_56 : decode cX13_state 56 = .ok (.aload_n 0, 1) := by decide +kernel
theorem dX13_state_57 : decode cX13_state 57 = .ok (.getfield 276, 3) := by decide +kernel
theorem dX13_state_60 : decode cX13_state 60 = .ok (.iload_n 1, 1) := by decide +kernel
theorem dX13_state_61 : decode cX13_state 61 = .ok (.iaload, 1) := by decide +kernel
theorem dX13_state_62 : decode cX13_state 62 = .ok (.ireturn, 1) := by decide +kernel
theorem dX13_state_63 : decode cX13_state 63 = .ok (.aload_n 0, 1) := by decide +kernel
theorem dX13_state_64 : decode cX13_state 64 = .ok (.getfield 279, 3) := by decide +kernel
theorem dX13_state_67 : decode cX13_state 67 = .ok (.iload_n 1, 1) := by decide +kernel
theorem dX13_state_68 : decode cX13_state 68 = .ok (.iaload, 1) := by decide +kernel
theorem dX13_state_69 : decode cX13_state 69 = .ok (.ireturn, 1) := by decide +kernel
theorem dX13_state_70 : decode cX13_state 70 = .ok (.aload_n 0, 1) := by decide +kernel
theorem dX13_state_71 : decode cX13_state 71 = .ok (.getfield 273, 3) := by decide +kernel
theorem dX13_state_74 : decode cX13_state 74 = .ok (.iload_n 1, 1) := by decide +kernel
theorem dX13_state_75 : decode cX13_state 75 = .ok (.iaload, 1) := by decide +kernel
theorem dX13_state_76 : decode cX13_state 76 = .ok (.ireturn, 1) := by decide +kernel
theorem dX13_state_77 : decode cX13_state 77 = .ok (.aload_n 0, 1) := by decide +kernel
theorem dX13_state_78 : decode cX13_state 78 = .ok (.getfield 282, 3) := by decide +kernel
theorem dX13_state_8 : decode cX13_state 8 = .ok (.iconst (-1), 1) := by decide +kernel
theorem dX13_state_81 : decode cX13_state 81 = .ok (.iload_n 1, 1) := by decide +kernel
theorem dX13_state_82 : decode cX13_state 82 = .ok (.iaload, 1) := by decide +kernel
theorem dX13_state_83 : decode cX13_state 83 = .ok (.ireturn, 1) := by decide +kernel
theorem dX13_state_84 : decode cX13_state 84 = .ok (.aload_n 0, 1) := by decide +kernel
theorem dX13_state_85 : decode cX13_state 85 = .ok (.getfield 276, 3) := by decide +kernel
theorem dX13_state_88 : decode cX13_state 88 = .ok (.iload_n 1, 1) := by decide +kernel
theorem dX13_state_89 : decode cX13_state 89 = .ok (.iaload, 1) := by decide +kernel
theorem dX13_state_9 : decode cX13_state 9 = .ok (.ireturn, 1) := by decide +kernel
theorem dX13_state_90 : decode cX13_state 90 = .ok (.iconst 1, 1) := by decide +kernel
theorem dX13_state_91 : decode cX13_state 91 = .ok (.if_icmp .ne 24, 3) := by decide +kernel
theorem dX13_state_94 : decode cX13_state 94 = .ok (.aload_n 0, 1) := by decide +kernel
theorem dX13_state_95 : decode cX13_state 95 = .ok (.getfield 288, 3) := by decide +kernel
theorem dX13_state_98 : decode cX13_state 98 = .ok (.bipush 8, 2) := by decide +kernel
noncomputable def f_X13_state (x1 : Int32) (x2 : Int32) (s : t_S) : Option (Int32) :=
 if (f_X13_noComponent x1 s) = (0 : Int32) then (if x2.toInt < 0 ∨ 7 < x2.toInt then (some (-1 : Int32))
 else if x2.toInt = 0 then (if t_ix x1 8 = true then
  some (s.1 1036 (x1.toNatClampNeg))
else none)
 else if x2.toInt = 1 then (if t_ix x1 8 = true then
  some (s.1 1037 (x1.toNatClampNeg))
else none)
 else if x2.toInt = 2 then (if t_ix x1 8 = true then
  some (s.1 1035 (x1.toNatClampNeg))
else none)
 else if x2.toInt = 3 then (if t_ix x1 8 = true then
  some (s.1 1038 (x1.toNatClampNeg))
else none)
 else if x2.toInt = 4 then (if t_ix x1 8 = true then
  if (s.1 1036 (x1.toNatClampNeg)) = (1 : Int32) then (if t_ix ((((8 : Int32) * x1) + (s.1 1038 (x1.toNatClampNeg))) - (1 : Int32)) 64 = true then
  some (s.1 1040 (((((8 : Int32) * x1) + (s.1 1038 (x1.toNatClampNeg))) - (1 : Int32)).toNatClampNeg))
else none)
 else (some (-2 : Int32))
else none)
 else if x2.toInt = 5 then (if t_ix x1 8 = true then
  some (s.1 1042 (x1.toNatClampNeg))
else none)
 else if x2.toInt = 6 then (if t_ix x1 8 = true then
  some (s.1 1044 (x1.toNatClampNeg))
else none)
 else (if t_ix x1 8 = true then
  some (s.1 1045 (x1.toNatClampNeg))
else none))
 else (some (-1 : Int32))
set_option maxRecDepth 4000 in
set_option maxHeartbeats 1000000 in
theorem C_X13_state (x1 : Int32) (x2 : Int32) (s : t_S) (r : Int32) (hr : f_X13_state x1 x2 s = some r) : t_C yX13_state cX13_state 3 (some .int) 1 [.ref 950, .int x1, .int x2] s (fun v s' => v = some (.int r) ∧ s' = s) := by
  refine t_C.imp (P := fun v s' => s' = s ∧ ∃ x, v = some (.int x) ∧ (fun q => q = r) (x)) (t_C.of (by decide +kernel) (Nat.le_of_ble_eq_true rfl) ?_) (fun v s' hp => by obtain ⟨rfl, x, rfl, rfl⟩ := hp; exact ⟨rfl, rfl⟩)
  intro D cy ad bs X
  have hk : t_hk (f_X13_state x1 x2 s) (fun q => q = r) := ⟨r, hr, rfl⟩
  show mj_G D cy ad bs X cX13_state 3 yX13_state.cls (some .int) yX13_state.name 1 0 0 1065 (t_P (fun v s' => s' = s ∧ ∃ x, v = some (.int x) ∧ (fun q => q = r) (x))) 0 [(0, .ref 950), (1, .int x1), (2, .int x2)] [] (t_m s) 1065 0 0
  refine mj_aload_n dX13_state_0 0 rfl ?_
  refine mj_iload_n dX13_state_1 1 rfl ?_
  refine t_callViP dX13_state_2 M_X13_noComponent (C_X13_noComponent _ _) ML_X13_1352 IM_X13_noComponent SE_X13_noComponent qc_950 rfl (As := [.int x1]) rfl rfl (Nat.le_of_ble_eq_true rfl) (Nat.le_of_ble_eq_true rfl) (Nat.le_of_ble_eq_true rfl) (Nat.le_of_ble_eq_true rfl) ?_
  refine mj_if_eq 10 dX13_state_5 (by decide) (fun z => t_posK hk z (fun hk => ?_)) (fun z => t_negK hk z (fun hk => ?_))
  · refine mj_iload_n dX13_state_10 2 rfl ?_
    by_cases hout : x2.toInt < 0 ∨ 7 < x2.toInt
    · replace hk := t_pos hk hout
      refine mj_tableOut 139 dX13_state_11 hout (by decide) ?_
      refine mj_iconst (v := (-1)) dX13_state_139 (by decide) ?_
      exact t_somK hk (fun hf => t_iret dX13_state_140 rfl rfl ⟨rfl, _, rfl, hf⟩ (Nat.le_of_ble_eq_true rfl) (Nat.le_of_ble_eq_true rfl))
    · replace hk := t_neg hk hout
      have hh1 : ¬ x2.toInt < 0 := fun z => hout (Or.inl z)
      have hh2 : ¬ (7 : Int) < x2.toInt := fun z => hout (Or.inr z)
      by_cases h0 : x2.toInt = 0
      · replace hk := t_pos hk h0
        refine mj_tableIn 56 dX13_state_11 hh1 hh2 (by rw [h0]; rfl) (by decide) ?_
        refine mj_aload_n dX13_state_56 0 rfl ?_
        refine t_getR 1036 dX13_state_57 F_X13_276 qr_950_151 ?_
        refine mj_iload_n dX13_state_60 1 rfl ?_
        refine t_chkK hk (fun c1 hk => ?_)
        refine t_iald dX13_state_61 qa_1036 (t_ixv c1) ?_
        exact t_somK hk (fun hf => t_iret dX13_state_62 rfl rfl ⟨rfl, _, rfl, hf⟩ (Nat.le_of_ble_eq_true rfl) (Nat.le_of_ble_eq_true rfl))
      replace hk := t_neg hk h0
      by_cases h1 : x2.toInt = 1
      · replace hk := t_pos hk h1
        refine mj_tableIn 63 dX13_state_11 hh1 hh2 (by rw [h1]; rfl) (by decide) ?_
        refine mj_aload_n dX13_state_63 0 rfl ?_
        refine t_getR 1037 dX13_state_64 F_X13_279 qr_950_152 ?_
        refine mj_iload_n dX13_state_67 1 rfl ?_
        refine t_chkK hk (fun c2 hk => ?_)
        refine t_iald dX13_state_68 qa_1037 (t_ixv c2) ?_
        exact t_somK hk (fun hf => t_iret dX13_state_69 rfl rfl ⟨rfl, _, rfl, hf⟩ (Nat.le_of_ble_eq_true rfl) (Nat.le_of_ble_eq_true rfl))
      replace hk := t_neg hk h1
      by_cases h2 : x2.toInt = 2
      · replace hk := t_pos hk h2
        refine mj_tableIn 70 dX13_state_11 hh1 hh2 (by rw [h2]; rfl) (by decide) ?_
        refine mj_aload_n dX13_state_70 0 rfl ?_
        refine t_getR 1035 dX13_state_71 F_X13_273 qr_950_150 ?_
        refine mj_iload_n dX13_state_74 1 rfl ?_
        refine t_chkK hk (fun c3 hk => ?_)
        refine t_iald dX13_state_75 qa_1035 (t_ixv c3) ?_
        exact t_somK hk (fun hf => t_iret dX13_state_76 rfl rfl ⟨rfl, _, rfl, hf⟩ (Nat.le_of_ble_eq_true rfl) (Nat.le_of_ble_eq_true rfl))
      replace hk := t_neg hk h2
      by_cases h3 : x2.toInt = 3
      · replace hk := t_pos hk h3
        refine mj_tableIn 77 dX13_state_11 hh1 hh2 (by rw [h3]; rfl) (by decide) ?_
        refine mj_aload_n dX13_state_77 0 rfl ?_
        refine t_getR 1038 dX13_state_78 F_X13_282 qr_950_153 ?_
        refine mj_iload_n dX13_state_81 1 rfl ?_
        refine t_chkK hk (fun c4 hk => ?_)
        refine t_iald dX13_state_82 qa_1038 (t_ixv c4) ?_
        exact t_somK hk (fun hf => t_iret dX13_state_83 rfl rfl ⟨rfl, _, rfl, hf⟩ (Nat.le_of_ble_eq_true rfl) (Nat.le_of_ble_eq_true rfl))
      replace hk := t_neg hk h3
      by_cases h4 : x2.toInt = 4
      · replace hk := t_pos hk h4
        refine mj_tableIn 84 dX13_state_11 hh1 hh2 (by rw [h4]; rfl) (by decide) ?_
        refine mj_aload_n dX13_state_84 0 rfl ?_
        refine t_getR 1036 dX13_state_85 F_X13_276 qr_950_151 ?_
        refine mj_iload_n dX13_state_88 1 rfl ?_
        refine t_chkK hk (fun c5 hk => ?_)
        refine t_iald dX13_state_89 qa_1036 (t_ixv c5) ?_
        refine mj_iconst (v := 1) dX13_state_90 (by decide) ?_
        refine mj_icmp_ne 115 dX13_state_91 (by decide) (fun z => t_negK hk z (fun hk => ?_)) (fun z => t_posK hk z (fun hk => ?_))
        · refine mj_bipush (v := (-2)) dX13_state_115 (by decide) ?_
          exact t_somK hk (fun hf => t_iret dX13_state_117 rfl rfl ⟨rfl, _, rfl, hf⟩ (Nat.le_of_ble_eq_true rfl) (Nat.le_of_ble_eq_true rfl))
        · refine mj_aload_n dX13_state_94 0 rfl ?_
          refine t_getR 1040 dX13_state_95 F_X13_288 qr_950_155 ?_
          refine mj_bipush (v := 8) dX13_state_98 (by decide) ?_
          refine mj_iload_n dX13_state_100 1 rfl ?_
          refine mj_imul dX13_state_101 ?_
          refine mj_aload_n dX13_state_102 0 rfl ?_
          refine t_getR 1038 dX13_state_103 F_X13_282 qr_950_153 ?_
          refine mj_iload_n dX13_state_106 1 rfl ?_
          refine t_iald dX13_state_107 qa_1038 (t_ixv c5) ?_
          refine mj_iadd dX13_state_108 ?_
          refine mj_iconst (v := 1) dX13_state_109 (by decide) ?_
          refine mj_isub dX13_state_110 ?_
          refine t_chkK hk (fun c6 hk => ?_)
          refine t_iald dX13_state_111 qa_1040 (t_ixv c6) ?_
          refine mj_goto 117 dX13_state_112 (by decide) ?_
          exact t_somK hk (fun hf => t_iret dX13_state_117 rfl rfl ⟨rfl, _, rfl, hf⟩ (Nat.le_of_ble_eq_true rfl) (Nat.le_of_ble_eq_true rfl))
      replace hk := t_neg hk h4
      by_cases h5 : x2.toInt = 5
      · replace hk := t_pos hk h5
        refine mj_tableIn 118 dX13_state_11 hh1 hh2 (by rw [h5]; rfl) (by decide) ?_
        refine mj_aload_n dX13_state_118 0 rfl ?_
        refine t_getR 1042 dX13_state_119 F_X13_294 qr_950_157 ?_
        refine mj_iload_n dX13_state_122 1 rfl ?_
        refine t_chkK hk (fun c7 hk => ?_)
        refine t_iald dX13_state_123 qa_1042 (t_ixv c7) ?_
        exact t_somK hk (fun hf => t_iret dX13_state_124 rfl rfl ⟨rfl, _, rfl, hf⟩ (Nat.le_of_ble_eq_true rfl) (Nat.le_of_ble_eq_true rfl))
      replace hk := t_neg hk h5
      by_cases h6 : x2.toInt = 6
      · replace hk := t_pos hk h6
        refine mj_tableIn 125 dX13_state_11 hh1 hh2 (by rw [h6]; rfl) (by decide) ?_
        refine mj_aload_n dX13_state_125 0 rfl ?_
        refine t_getR 1044 dX13_state_126 F_X13_300 qr_950_159 ?_
        refine mj_iload_n dX13_state_129 1 rfl ?_
        refine t_chkK hk (fun c8 hk => ?_)
        refine t_iald dX13_state_130 qa_1044 (t_ixv c8) ?_
        exact t_somK hk (fun hf => t_iret dX13_state_131 rfl rfl ⟨rfl, _, rfl, hf⟩ (Nat.le_of_ble_eq_true rfl) (Nat.le_of_ble_eq_true rfl))
      replace hk := t_neg hk h6
      have h7 : x2.toInt = 7 := by omega
      refine mj_tableIn 132 dX13_state_11 hh1 hh2 (by rw [h7]; rfl) (by decide) ?_
      refine mj_aload_n dX13_state_132 0 rfl ?_
      refine t_getR 1045 dX13_state_133 F_X13_303 qr_950_160 ?_
      refine mj_iload_n dX13_state_136 1 rfl ?_
      refine t_chkK hk (fun c9 hk => ?_)
      refine t_iald dX13_state_137 qa_1045 (t_ixv c9) ?_
      exact t_somK hk (fun hf => t_iret dX13_state_138 rfl rfl ⟨rfl, _, rfl, hf⟩ (Nat.le_of_ble_eq_true rfl) (Nat.le_of_ble_eq_true rfl))
  · refine mj_iconst (v := (-1)) dX13_state_8 (by decide) ?_
    exact t_somK hk (fun hf => t_iret dX13_state_9 rfl rfl ⟨rfl, _, rfl, hf⟩ (Nat.le_of_ble_eq_true rfl) (Nat.le_of_ble_eq_true rfl))

theorem dX13_write_0 : decode cX13_write 0 = .ok (.aload_n 0, 1) := by decide +kernel
theorem dX13_write_1 : decode cX13_write 1 = .ok (.getfield 1009, 3) := by decide +kernel
theorem dX13_write_10 : decode cX13_write 10 = .ok (.aload_n 0, 1) := by decide +kernel
theorem dX13_write_11 : decode cX13_write 11 = .ok (.getfield 194, 3) := by decide +kernel
theorem dX13_write_14 : decode cX13_write 14 = .ok (.aload_n 0, 1) := by decide +kernel
theorem dX13_write_15 : decode cX13_write 15 = .ok (.getfield 1009, 3) := by decide +kernel
theorem dX13_write_18 : decode cX13_write 18 = .ok (.iload_n 1, 1) := by decide +kernel
theorem dX13_write_19 : decode cX13_write 19 = .ok (.iastore, 1) := by decide +kernel
theorem dX13_write_20 : decode cX13_write 20 = .ok (.aload_n 0, 1) := by decide +kernel
theorem dX13_write_21 : decode cX13_write 21 = .ok (.dup, 1) := by decide +kernel
theorem dX13_write_22 : decode cX13_write 22 = .ok (.getfield 1009, 3) := by decide +kernel
theorem dX13_write_25 : decode cX13_write 25 = .ok (.iconst 1, 1) := by decide +kernel
theorem dX13_write_26 : decode cX13_write 26 = .ok (.iadd, 1) := by decide +kernel
theorem dX13_write_27 : decode cX13_write 27 = .ok (.putfield 1009, 3) := by decide +kernel
theorem dX13_write_30 : decode cX13_write 30 = .ok (.return_, 1) := by decide +kernel
theorem dX13_write_4 : decode cX13_write 4 = .ok (.sipush 20000, 3) := by decide +kernel
theorem dX13_write_7 : decode cX13_write 7 = .ok (.if_icmp .ge 23, 3) := by decide +kernel
noncomputable def f_X13_write (x1 : Int32) (s : t_S) : Option (t_S) :=
 if (20000 : Int32) ≤ (s.1 950 106) then (some (s))
 else (if t_ix (s.1 950 106) 20000 = true then
  t_let (t_setI s 1010 ((s.1 950 106).toNatClampNeg) x1) (fun s1 =>
 t_let (t_setI s1 950 106 ((s1.1 950 106) + (1 : Int32))) (fun s2 =>
 some (s2)))
else none)
set_option maxRecDepth 4000 in
set_option maxHeartbeats 1000000 in
theorem C_X13_write (x1 : Int32) (s : t_S) (r : t_S) (hr : f_X13_write x1 s = some r) : t_C yX13_write cX13_write 2 none 0 [.ref 950, .int x1] s (fun v s' => v = none ∧ s' = r) := by
  refine t_C.imp (P := fun v s' => v = none ∧ (fun q => q = r) (s')) (t_C.of (by decide +kernel) (Nat.le_of_ble_eq_true rfl) ?_) (fun v s' hp => hp)
  intro D cy ad bs X
  have hk : t_hk (f_X13_write x1 s) (fun q => q = r) := ⟨r, hr, rfl⟩
  show mj_G D cy ad bs X cX13_write 2 yX13_write.cls none yX13_write.name 0 0 0 1065 (t_P (fun v s' => v = none ∧ (fun q => q = r) (s'))) 0 [(0, .ref 950), (1, .int x1)] [] (t_m s) 1065 0 0
  refine mj_aload_n dX13_write_0 0 rfl ?_
  refine t_getI dX13_write_1 F_X13_1009 qf_950_106 ?_
  refine mj_sipush (v := 20000) dX13_write_4 (by decide) ?_
  refine mj_icmp_ge 30 dX13_write_7 (by decide) (fun z => t_posK hk z (fun hk => ?_)) (fun z => t_negK hk z (fun hk => ?_))
  · exact t_somK hk (fun hf => t_vret dX13_write_30 rfl ⟨rfl, hf⟩ (Nat.le_of_ble_eq_true rfl) (Nat.le_of_ble_eq_true rfl))
  · refine mj_aload_n dX13_write_10 0 rfl ?_
    refine t_getR 1010 dX13_write_11 F_X13_194 qr_950_105 ?_
    refine mj_aload_n dX13_write_14 0 rfl ?_
    refine t_getI dX13_write_15 F_X13_1009 qf_950_106 ?_
    refine mj_iload_n dX13_write_18 1 rfl ?_
    refine t_chkK hk (fun c0 hk => ?_)
    refine t_iastK dX13_write_19 qa_1010 (t_ixv c0) (fun s1 ws1 => t_letE hk ws1 (fun hk => ?_))
    refine mj_aload_n dX13_write_20 0 rfl ?_
    refine mj_dup dX13_write_21 rfl ?_
    refine t_getI dX13_write_22 F_X13_1009 qf_950_106 ?_
    refine mj_iconst (v := 1) dX13_write_25 (by decide) ?_
    refine mj_iadd dX13_write_26 ?_
    refine t_putIK dX13_write_27 F_X13_1009 qf_950_106 rfl (fun s2 ws2 => t_letE hk ws2 (fun hk => ?_))
    exact t_somK hk (fun hf => t_vret dX13_write_30 rfl ⟨rfl, hf⟩ (Nat.le_of_ble_eq_true rfl) (Nat.le_of_ble_eq_true rfl))

theorem dX13_writeName_0 : decode cX13_writeName 0 = .ok (.iconst 0, 1) := by decide +kernel
theorem dX13_writeName_1 : decode cX13_writeName 1 = .ok (.istore_n 3, 1) := by decide +kernel
theorem dX13_writeName_10 : decode cX13_writeName 10 = .ok (.if_icmp .ge 27, 3) := by decide +kernel
theorem dX13_writeName_13 : decode cX13_writeName 13 = .ok (.aload_n 0, 1) := by decide +kernel
theorem dX13_writeName_14 : decode cX13_writeName 14 = .ok (.aload_n 0, 1) := by decide +kernel
theorem dX13_writeName_15 : decode cX13_writeName 15 = .ok (.getfield 23, 3) := by decide +kernel
theorem dX13_writeName_18 : decode cX13_writeName 18 = .ok (.aload_n 0, 1) := by decide +kernel
theorem dX13_writeName_19 : decode cX13_writeName 19 = .ok (.getfield 17, 3) := by decide +kernel
theorem dX13_writeName_2 : decode cX13_writeName 2 = .ok (.iload_n 3, 1) := by decide +kernel
theorem dX13_writeName_22 : decode cX13_writeName 22 = .ok (.lload_n 1, 1) := by decide +kernel
theorem dX13_writeName_23 : decode cX13_writeName 23 = .ok (.l2i, 1) := by decide +kernel
theorem dX13_writeName_24 : decode cX13_writeName 24 = .ok (.iaload, 1) := by decide +kernel
theorem dX13_writeName_25 : decode cX13_writeName 25 = .ok (.iload_n 3, 1) := by decide +kernel
theorem dX13_writeName_26 : decode cX13_writeName 26 = .ok (.iadd, 1) := by decide +kernel
theorem dX13_writeName_27 : decode cX13_writeName 27 = .ok (.iaload, 1) := by decide +kernel
theorem dX13_writeName_28 : decode cX13_writeName 28 = .ok (.invokevirtual 1012, 3) := by decide +kernel
theorem dX13_writeName_3 : decode cX13_writeName 3 = .ok (.aload_n 0, 1) := by decide +kernel
theorem dX13_writeName_31 : decode cX13_writeName 31 = .ok (.iinc 3 1, 3) := by decide +kernel
theorem dX13_writeName_34 : decode cX13_writeName 34 = .ok (.goto (-32), 3) := by decide +kernel
theorem dX13_writeName_37 : decode cX13_writeName 37 = .ok (.return_, 1) := by decide +kernel
theorem dX13_writeName_4 : decode cX13_writeName 4 = .ok (.getfield 20, 3) := by decide +kernel
theorem dX13_writeName_7 : decode cX13_writeName 7 = .ok (.lload_n 1, 1) := by decide +kernel
theorem dX13_writeName_8 : decode cX13_writeName 8 = .ok (.l2i, 1) := by decide +kernel
theorem dX13_writeName_9 : decode cX13_writeName 9 = .ok (.iaload, 1) := by decide +kernel
noncomputable def k_X13_writeName_2 (l1 : Int64) (l3 : Int32) (s : t_S) : Option ((Int64 × Int32 × t_S) ⊕ (t_S)) :=
 if t_ix l1.toInt32 8200 = true then
  if (s.1 953 (l1.toInt32.toNatClampNeg)) ≤ l3 then ((some (s)).map Sum.inr)
 else (if t_ix ((s.1 952 (l1.toInt32.toNatClampNeg)) + l3) 24300 = true then
  (f_X13_write (s.1 954 (((s.1 952 (l1.toInt32.toNatClampNeg)) + l3).toNatClampNeg)) s).bind (fun r3 =>
 some (.inl (l1, (l3 + 1), r3)))
else none)
else none
set_option maxRecDepth 4000 in
set_option maxHeartbeats 1000000 in
theorem B_X13_writeName_2 {D : va_G} {cy : Nat → ClassId} {ad : Nat → Nat} {bs : Nat} {X : State → Heap → Prop} (l1 : Int64) (l3 : Int32) (s : t_S) (Q : (Int64 × Int32 × t_S) ⊕ (t_S) → Prop) (Hb2 : ∀ (y0 : Int64) (y1 : Int32) (y2 : t_S), Q (.inl (y0, y1, y2)) → mj_G D cy ad bs X cX13_writeName 4 yX13_writeName.cls none yX13_writeName.name 1 0 0 1065 (t_P (fun v s' => v = none ∧ Q (.inr (s')))) 2 [(0, .ref 950), (1, .long (y0)), (3, .int (y1))] [] (t_m y2) 1065 0 0) (hk : t_hk (k_X13_writeName_2 l1 l3 s) Q) : mj_G D cy ad bs X cX13_writeName 4 yX13_writeName.cls none yX13_writeName.name 1 0 0 1065 (t_P (fun v s' => v = none ∧ Q (.inr (s')))) 2 [(0, .ref 950), (1, .long l1), (3, .int l3)] [] (t_m s) 1065 0 0 := by
  refine mj_iload_n dX13_writeName_2 2 rfl ?_
  refine mj_aload_n dX13_writeName_3 0 rfl ?_
  refine t_getR 953 dX13_writeName_4 F_X13_20 qr_950_12 ?_
  refine mj_lload_n dX13_writeName_7 1 rfl ?_
  refine mj_l2i (v := l1.toInt32) dX13_writeName_8 rfl ?_
  refine t_chkK hk (fun c0 hk => ?_)
  refine t_iald dX13_writeName_9 qa_953 (t_ixv c0) ?_
  refine mj_icmp_ge 37 dX13_writeName_10 (by decide) (fun z => t_posK hk z (fun hk => ?_)) (fun z => t_negK hk z (fun hk => ?_))
  · refine t_mapK hk (fun hk => ?_)
    exact t_somK hk (fun hf => t_vret dX13_writeName_37 rfl ⟨rfl, hf⟩ (Nat.le_of_ble_eq_true rfl) (Nat.le_of_ble_eq_true rfl))
  · refine mj_aload_n dX13_writeName_13 0 rfl ?_
    refine mj_aload_n dX13_writeName_14 0 rfl ?_
    refine t_getR 954 dX13_writeName_15 F_X13_23 qr_950_13 ?_
    refine mj_aload_n dX13_writeName_18 0 rfl ?_
    refine t_getR 952 dX13_writeName_19 F_X13_17 qr_950_11 ?_
    refine mj_lload_n dX13_writeName_22 1 rfl ?_
    refine mj_l2i (v := l1.toInt32) dX13_writeName_23 rfl ?_
    refine t_iald dX13_writeName_24 qa_952 (t_ixv c0) ?_
    refine mj_iload_n dX13_writeName_25 2 rfl ?_
    refine mj_iadd dX13_writeName_26 ?_
    refine t_chkK hk (fun c1 hk => ?_)
    refine t_iald dX13_writeName_27 qa_954 (t_ixv c1) ?_
    refine t_bndK hk (fun r3 er3 hk => ?_)
    refine t_callVvE dX13_writeName_28 M_X13_write (C_X13_write _ _ _ er3) ML_X13_1012 IM_X13_write SE_X13_write qc_950 rfl (As := [.int (s.1 954 (((s.1 952 (l1.toInt32.toNatClampNeg)) + l3).toNatClampNeg))]) rfl rfl (Nat.le_of_ble_eq_true rfl) (Nat.le_of_ble_eq_true rfl) (Nat.le_of_ble_eq_true rfl) (Nat.le_of_ble_eq_true rfl) ?_
    refine mj_iinc (k := 2) (v := (l3 + 1)) (lv2 := [(3, .int (l3 + 1)), (0, .ref 950), (1, .long l1)]) dX13_writeName_31 rfl rfl (by decide) rfl ?_
    refine mj_goto 2 dX13_writeName_34 (by decide) ?_
    refine mj_sublv [(0, .ref 950), (1, .long l1), (3, .int (l3 + 1))] [1, 2, 0] rfl ?_
    exact t_somK hk (fun hf => Hb2 l1 (l3 + 1) r3 hf)
noncomputable def b_X13_writeName_2 (x : Int64 × Int32 × t_S) : Option ((Int64 × Int32 × t_S) ⊕ (t_S)) := k_X13_writeName_2 x.1 x.2.1 x.2.2
set_option maxRecDepth 4000 in
set_option maxHeartbeats 1000000 in
theorem LH_X13_writeName_2 {D : va_G} {cy : Nat → ClassId} {ad : Nat → Nat} {bs : Nat} {X : State → Heap → Prop} : ∀ (n : Nat) (y0 : Int64) (y1 : Int32) (y2 : t_S) (Q : t_S → Prop) (hk : t_hk (t_loop (b_X13_writeName_2) n (y0, y1, y2)) Q), mj_G D cy ad bs X cX13_writeName 4 yX13_writeName.cls none yX13_writeName.name 1 0 0 1065 (t_P (fun v s' => v = none ∧ Q (s'))) 2 [(0, .ref 950), (1, .long (y0)), (3, .int (y1))] [] (t_m y2) 1065 0 0 := by
  intro n
  induction n with
  | zero => intro y0 y1 y2 Q hk; obtain ⟨r, hr, _⟩ := hk; cases hr
  | succ n ih =>
    intro y0 y1 y2 Q hk
    exact B_X13_writeName_2 y0 y1 y2 (fun y => t_lq (b_X13_writeName_2) n Q y) (fun y0' y1' y2' hy => ih y0' y1' y2' Q hy) (t_lp (b := b_X13_writeName_2) (n := n) (x := (y0, y1, y2)) hk)
noncomputable def f_X13_writeName (x1 : Int64) (s : t_S) : Option (t_S) :=
 t_loop (b_X13_writeName_2) t_N (x1, 0, s)
set_option maxRecDepth 4000 in
set_option maxHeartbeats 1000000 in
theorem C_X13_writeName (x1 : Int64) (s : t_S) (r : t_S) (hr : f_X13_writeName x1 s = some r) : t_C yX13_writeName cX13_writeName 4 none 1 [.ref 950, .long x1] s (fun v s' => v = none ∧ s' = r) := by
  refine t_C.imp (P := fun v s' => v = none ∧ (fun q => q = r) (s')) (t_C.of (by decide +kernel) (Nat.le_of_ble_eq_true rfl) ?_) (fun v s' hp => hp)
  intro D cy ad bs X
  have hk : t_hk (f_X13_writeName x1 s) (fun q => q = r) := ⟨r, hr, rfl⟩
  show mj_G D cy ad bs X cX13_writeName 4 yX13_writeName.cls none yX13_writeName.name 1 0 0 1065 (t_P (fun v s' => v = none ∧ (fun q => q = r) (s'))) 0 [(0, .ref 950), (1, .long x1)] [] (t_m s) 1065 0 0
  refine mj_iconst (v := 0) dX13_writeName_0 (by decide) ?_
  refine mj_istore_n 3 (lv2 := [(3, .int 0), (0, .ref 950), (1, .long x1)]) dX13_writeName_1 rfl (by decide) rfl ?_
  refine mj_sublv [(0, .ref 950), (1, .long x1), (3, .int 0)] [1, 2, 0] rfl ?_
  exact LH_X13_writeName_2 _ x1 0 s _ hk

theorem dX13_writeNumber_0 : decode cX13_writeNumber 0 = .ok (.lload_n 1, 1) := by decide +kernel
theorem dX13_writeNumber_1 : decode cX13_writeNumber 1 = .ok (.lconst 0, 1) := by decide +kernel
theorem dX13_writeNumber_12 : decode cX13_writeNumber 12 = .ok (.lload_n 1, 1) := by decide +kernel
theorem dX13_writeNumber_13 : decode cX13_writeNumber 13 = .ok (.invokestatic 990, 3) := by decide +kernel
theorem dX13_writeNumber_16 : decode cX13_writeNumber 16 = .ok (.lstore_n 3, 1) := by decide +kernel
theorem dX13_writeNumber_17 : decode cX13_writeNumber 17 = .ok (.lconst 1, 1) := by decide +kernel
theorem dX13_writeNumber_18 : decode cX13_writeNumber 18 = .ok (.lstore 5, 2) := by decide +kernel
theorem dX13_writeNumber_2 : decode cX13_writeNumber 2 = .ok (.lcmp, 1) := by decide +kernel
theorem dX13_writeNumber_20 : decode cX13_writeNumber 20 = .ok (.lload_n 3, 1) := by decide +kernel
theorem dX13_writeNumber_21 : decode cX13_writeNumber 21 = .ok (.lload 5, 2) := by decide +kernel
theorem dX13_writeNumber_23 : decode cX13_writeNumber 23 = .ok (.ldiv, 1) := by decide +kernel
theorem dX13_writeNumber_24 : decode cX13_writeNumber 24 = .ok (.ldc2_w 419, 3) := by decide +kernel
theorem dX13_writeNumber_27 : decode cX13_writeNumber 27 = .ok (.lcmp, 1) := by decide +kernel
theorem dX13_writeNumber_28 : decode cX13_writeNumber 28 = .ok (.ifCond .lt 14, 3) := by decide +kernel
theorem dX13_writeNumber_3 : decode cX13_writeNumber 3 = .ok (.ifCond .ge 9, 3) := by decide +kernel
theorem dX13_writeNumber_31 : decode cX13_writeNumber 31 = .ok (.lload 5, 2) := by decide +kernel
theorem dX13_writeNumber_33 : decode cX13_writeNumber 33 = .ok (.ldc2_w 419, 3) := by decide +kernel
theorem dX13_writeNumber_36 : decode cX13_writeNumber 36 = .ok (.lmul, 1) := by decide +kernel
theorem dX13_writeNumber_37 : decode cX13_writeNumber 37 = .ok (.lstore 5, 2) := by decide +kernel
theorem dX13_writeNumber_39 : decode cX13_writeNumber 39 = .ok (.goto (-19), 3) := by decide +kernel
theorem dX13_writeNumber_42 : decode cX13_writeNumber 42 = .ok (.lload 5, 2) := by decide +kernel
theorem dX13_writeNumber_44 : decode cX13_writeNumber 44 = .ok (.lconst 0, 1) := by decide +kernel
theorem dX13_writeNumber_45 : decode cX13_writeNumber 45 = .ok (.lcmp, 1) := by decide +kernel
theorem dX13_writeNumber_46 : decode cX13_writeNumber 46 = .ok (.ifCond .le 30, 3) := by decide +kernel
theorem dX13_writeNumber_49 : decode cX13_writeNumber 49 = .ok (.aload_n 0, 1) := by decide +kernel
theorem dX13_writeNumber_50 : decode cX13_writeNumber 50 = .ok (.bipush 48, 2) := by decide +kernel
theorem dX13_writeNumber_52 : decode cX13_writeNumber 52 = .ok (.lload_n 3, 1) := by decide +kernel
theorem dX13_writeNumber_53 : decode cX13_writeNumber 53 = .ok (.lload 5, 2) := by decide +kernel
theorem dX13_writeNumber_55 : decode cX13_writeNumber 55 = .ok (.ldiv, 1) := by decide +kernel
theorem dX13_writeNumber_56 : decode cX13_writeNumber 56 = .ok (.ldc2_w 419, 3) := by decide +kernel
theorem dX13_writeNumber_59 : decode cX13_writeNumber 59 = .ok (.lrem, 1) := by decide +kernel
theorem dX13_writeNumber_6 : decode cX13_writeNumber 6 = .ok (.aload_n 0, 1) := by decide +kernel
theorem dX13_writeNumber_60 : decode cX13_writeNumber 60 = .ok (.l2i, 1) := by decide +kernel
theorem dX13_writeNumber_61 : decode cX13_writeNumber 61 = .ok (.iadd, 1) := by decide +kernel
theorem dX13_writeNumber_62 : decode cX13_writeNumber 62 = .ok (.invokevirtual 1012, 3) := by decide +kernel
theorem dX13_writeNumber_65 : decode cX13_writeNumber 65 = .ok (.lload 5, 2) := by decide +kernel
theorem dX13_writeNumber_67 : decode cX13_writeNumber 67 = .ok (.ldc2_w 419, 3) := by decide +kernel
theorem dX13_writeNumber_7 : decode cX13_writeNumber 7 = .ok (.bipush 45, 2) := by decide +kernel
theorem dX13_writeNumber_70 : decode cX13_writeNumber 70 = .ok (.ldiv, 1) := by decide +kernel
theorem dX13_writeNumber_71 : decode cX13_writeNumber 71 = .ok (.lstore 5, 2) := by decide +kernel
theorem dX13_writeNumber_73 : decode cX13_writeNumber 73 = .ok (.goto (-31), 3) := by decide +kernel
theorem dX13_writeNumber_76 : decode cX13_writeNumber 76 = .ok (.return_, 1) := by decide +kernel
theorem dX13_writeNumber_9 : decode cX13_writeNumber 9 = .ok (.invokevirtual 1012, 3) := by decide +kernel
noncomputable def k_X13_writeNumber_42 (l3 : Int64) (l5 : Int64) (s : t_S) : Option ((Int64 × Int64 × t_S) ⊕ (t_S)) :=
 if (lg_cmp l5 (0 : Int64)) ≤ (0 : Int32) then ((some (s)).map Sum.inr)
 else (if ¬ l5 = 0 then
  (f_X13_write ((48 : Int32) + (((l3 / l5) - (l3 / l5) / (10 : Int64) * (10 : Int64)).toInt32)) s).bind (fun r2 =>
 some (.inl (l3, (l5 / (10 : Int64)), r2)))
else none)
set_option maxRecDepth 4000 in
set_option maxHeartbeats 1000000 in
theorem B_X13_writeNumber_42 {D : va_G} {cy : Nat → ClassId} {ad : Nat → Nat} {bs : Nat} {X : State → Heap → Prop} (l3 : Int64) (l5 : Int64) (s : t_S) (Q : (Int64 × Int64 × t_S) ⊕ (t_S) → Prop) (Hb42 : ∀ (y0 : Int64) (y1 : Int64) (y2 : t_S), Q (.inl (y0, y1, y2)) → mj_G D cy ad bs X cX13_writeNumber 7 yX13_writeNumber.cls none yX13_writeNumber.name 1 0 0 1065 (t_P (fun v s' => v = none ∧ Q (.inr (s')))) 42 [(0, .ref 950), (3, .long (y0)), (5, .long (y1))] [] (t_m y2) 1065 0 0) (hk : t_hk (k_X13_writeNumber_42 l3 l5 s) Q) : mj_G D cy ad bs X cX13_writeNumber 7 yX13_writeNumber.cls none yX13_writeNumber.name 1 0 0 1065 (t_P (fun v s' => v = none ∧ Q (.inr (s')))) 42 [(0, .ref 950), (3, .long l3), (5, .long l5)] [] (t_m s) 1065 0 0 := by
  refine mj_lload dX13_writeNumber_42 2 rfl ?_
  refine mj_lconst (v := 0) dX13_writeNumber_44 (by decide) ?_
  refine mj_lcmp dX13_writeNumber_45 ?_
  refine mj_if_le 76 dX13_writeNumber_46 (by decide) (fun z => t_posK hk z (fun hk => ?_)) (fun z => t_negK hk z (fun hk => ?_))
  · refine t_mapK hk (fun hk => ?_)
    exact t_somK hk (fun hf => t_vret dX13_writeNumber_76 rfl ⟨rfl, hf⟩ (Nat.le_of_ble_eq_true rfl) (Nat.le_of_ble_eq_true rfl))
  · refine mj_aload_n dX13_writeNumber_49 0 rfl ?_
    refine mj_bipush (v := 48) dX13_writeNumber_50 (by decide) ?_
    refine mj_lload_n dX13_writeNumber_52 1 rfl ?_
    refine mj_lload dX13_writeNumber_53 2 rfl ?_
    refine t_chkK hk (fun c0 hk => ?_)
    refine mj_ldiv dX13_writeNumber_55 c0 ?_
    refine mj_ldc2 dX13_writeNumber_56 K_X13_419 ?_
    refine mj_lrem dX13_writeNumber_59 (by decide) ?_
    refine mj_l2i (v := ((l3 / l5) - (l3 / l5) / (10 : Int64) * (10 : Int64)).toInt32) dX13_writeNumber_60 rfl ?_
    refine mj_iadd dX13_writeNumber_61 ?_
    refine t_bndK hk (fun r2 er2 hk => ?_)
    refine t_callVvE dX13_writeNumber_62 M_X13_write (C_X13_write _ _ _ er2) ML_X13_1012 IM_X13_write SE_X13_write qc_950 rfl (As := [.int ((48 : Int32) + (((l3 / l5) - (l3 / l5) / (10 : Int64) * (10 : Int64)).toInt32))]) rfl rfl (Nat.le_of_ble_eq_true rfl) (Nat.le_of_ble_eq_true rfl) (Nat.le_of_ble_eq_true rfl) (Nat.le_of_ble_eq_true rfl) ?_
    refine mj_lload dX13_writeNumber_65 2 rfl ?_
    refine mj_ldc2 dX13_writeNumber_67 K_X13_419 ?_
    refine mj_ldiv dX13_writeNumber_70 (by decide) ?_
    refine mj_lstore (lv2 := [(5, .long (l5 / (10 : Int64))), (0, .ref 950), (3, .long l3)]) dX13_writeNumber_71 (by decide) rfl ?_
    refine mj_goto 42 dX13_writeNumber_73 (by decide) ?_
    refine mj_sublv [(0, .ref 950), (3, .long l3), (5, .long (l5 / (10 : Int64)))] [1, 2, 0] rfl ?_
    exact t_somK hk (fun hf => Hb42 l3 (l5 / (10 : Int64)) r2 hf)
noncomputable def b_X13_writeNumber_42 (x : Int64 × Int64 × t_S) : Option ((Int64 × Int64 × t_S) ⊕ (t_S)) := k_X13_writeNumber_42 x.1 x.2.1 x.2.2
set_option maxRecDepth 4000 in
set_option maxHeartbeats 1000000 in
theorem LH_X13_writeNumber_42 {D : va_G} {cy : Nat → ClassId} {ad : Nat → Nat} {bs : Nat} {X : State → Heap → Prop} : ∀ (n : Nat) (y0 : Int64) (y1 : Int64) (y2 : t_S) (Q : t_S → Prop) (hk : t_hk (t_loop (b_X13_writeNumber_42) n (y0, y1, y2)) Q), mj_G D cy ad bs X cX13_writeNumber 7 yX13_writeNumber.cls none yX13_writeNumber.name 1 0 0 1065 (t_P (fun v s' => v = none ∧ Q (s'))) 42 [(0, .ref 950), (3, .long (y0)), (5, .long (y1))] [] (t_m y2) 1065 0 0 := by
  intro n
  induction n with
  | zero => intro y0 y1 y2 Q hk; obtain ⟨r, hr, _⟩ := hk; cases hr
  | succ n ih =>
    intro y0 y1 y2 Q hk
    exact B_X13_writeNumber_42 y0 y1 y2 (fun y => t_lq (b_X13_writeNumber_42) n Q y) (fun y0' y1' y2' hy => ih y0' y1' y2' Q hy) (t_lp (b := b_X13_writeNumber_42) (n := n) (x := (y0, y1, y2)) hk)
noncomputable def k_X13_writeNumber_20 (l3 : Int64) (l5 : Int64) (s : t_S) : Option ((Int64 × Int64 × t_S) ⊕ (t_S)) :=
 if ¬ l5 = 0 then
  if (lg_cmp (l3 / l5) (10 : Int64)) < (0 : Int32) then ((t_loop (b_X13_writeNumber_42) t_N (l3, l5, s)).map Sum.inr)
 else (some (.inl (l3, (l5 * (10 : Int64)), s)))
else none
set_option maxRecDepth 4000 in
set_option maxHeartbeats 1000000 in
theorem B_X13_writeNumber_20 {D : va_G} {cy : Nat → ClassId} {ad : Nat → Nat} {bs : Nat} {X : State → Heap → Prop} (l3 : Int64) (l5 : Int64) (s : t_S) (Q : (Int64 × Int64 × t_S) ⊕ (t_S) → Prop) (Hb20 : ∀ (y0 : Int64) (y1 : Int64) (y2 : t_S), Q (.inl (y0, y1, y2)) → mj_G D cy ad bs X cX13_writeNumber 7 yX13_writeNumber.cls none yX13_writeNumber.name 1 0 0 1065 (t_P (fun v s' => v = none ∧ Q (.inr (s')))) 20 [(0, .ref 950), (3, .long (y0)), (5, .long (y1))] [] (t_m y2) 1065 0 0) (hk : t_hk (k_X13_writeNumber_20 l3 l5 s) Q) : mj_G D cy ad bs X cX13_writeNumber 7 yX13_writeNumber.cls none yX13_writeNumber.name 1 0 0 1065 (t_P (fun v s' => v = none ∧ Q (.inr (s')))) 20 [(0, .ref 950), (3, .long l3), (5, .long l5)] [] (t_m s) 1065 0 0 := by
  refine mj_lload_n dX13_writeNumber_20 1 rfl ?_
  refine mj_lload dX13_writeNumber_21 2 rfl ?_
  refine t_chkK hk (fun c0 hk => ?_)
  refine mj_ldiv dX13_writeNumber_23 c0 ?_
  refine mj_ldc2 dX13_writeNumber_24 K_X13_419 ?_
  refine mj_lcmp dX13_writeNumber_27 ?_
  refine mj_if_lt 42 dX13_writeNumber_28 (by decide) (fun z => t_posK hk z (fun hk => ?_)) (fun z => t_negK hk z (fun hk => ?_))
  · refine t_mapK hk (fun hk => ?_)
    exact LH_X13_writeNumber_42 _ l3 l5 s _ hk
  · refine mj_lload dX13_writeNumber_31 2 rfl ?_
    refine mj_ldc2 dX13_writeNumber_33 K_X13_419 ?_
    refine mj_lmul dX13_writeNumber_36 ?_
    refine mj_lstore (lv2 := [(5, .long (l5 * (10 : Int64))), (0, .ref 950), (3, .long l3)]) dX13_writeNumber_37 (by decide) rfl ?_
    refine mj_goto 20 dX13_writeNumber_39 (by decide) ?_
    refine mj_sublv [(0, .ref 950), (3, .long l3), (5, .long (l5 * (10 : Int64)))] [1, 2, 0] rfl ?_
    exact t_somK hk (fun hf => Hb20 l3 (l5 * (10 : Int64)) s hf)
noncomputable def b_X13_writeNumber_20 (x : Int64 × Int64 × t_S) : Option ((Int64 × Int64 × t_S) ⊕ (t_S)) := k_X13_writeNumber_20 x.1 x.2.1 x.2.2
set_option maxRecDepth 4000 in
set_option maxHeartbeats 1000000 in
theorem LH_X13_writeNumber_20 {D : va_G} {cy : Nat → ClassId} {ad : Nat → Nat} {bs : Nat} {X : State → Heap → Prop} : ∀ (n : Nat) (y0 : Int64) (y1 : Int64) (y2 : t_S) (Q : t_S → Prop) (hk : t_hk (t_loop (b_X13_writeNumber_20) n (y0, y1, y2)) Q), mj_G D cy ad bs X cX13_writeNumber 7 yX13_writeNumber.cls none yX13_writeNumber.name 1 0 0 1065 (t_P (fun v s' => v = none ∧ Q (s'))) 20 [(0, .ref 950), (3, .long (y0)), (5, .long (y1))] [] (t_m y2) 1065 0 0 := by
  intro n
  induction n with
  | zero => intro y0 y1 y2 Q hk; obtain ⟨r, hr, _⟩ := hk; cases hr
  | succ n ih =>
    intro y0 y1 y2 Q hk
    exact B_X13_writeNumber_20 y0 y1 y2 (fun y => t_lq (b_X13_writeNumber_20) n Q y) (fun y0' y1' y2' hy => ih y0' y1' y2' Q hy) (t_lp (b := b_X13_writeNumber_20) (n := n) (x := (y0, y1, y2)) hk)
noncomputable def k_X13_writeNumber_12 (l1 : Int64) (s : t_S) : Option (t_S) :=
 t_loop (b_X13_writeNumber_20) t_N ((f_X13_size l1 s), 1, s)
set_option maxRecDepth 4000 in
set_option maxHeartbeats 1000000 in
theorem B_X13_writeNumber_12 {D : va_G} {cy : Nat → ClassId} {ad : Nat → Nat} {bs : Nat} {X : State → Heap → Prop} (l1 : Int64) (s : t_S) (Q : t_S → Prop) (hk : t_hk (k_X13_writeNumber_12 l1 s) Q) : mj_G D cy ad bs X cX13_writeNumber 7 yX13_writeNumber.cls none yX13_writeNumber.name 1 0 0 1065 (t_P (fun v s' => v = none ∧ Q (s'))) 12 [(0, .ref 950), (1, .long l1)] [] (t_m s) 1065 0 0 := by
  refine mj_lload_n dX13_writeNumber_12 1 rfl ?_
  refine t_callSlP dX13_writeNumber_13 M_X13_size (C_X13_size _ _) ML_X13_990 SM_X13_size (As := [.long l1]) rfl rfl (Nat.le_of_ble_eq_true rfl) (Nat.le_of_ble_eq_true rfl) (Nat.le_of_ble_eq_true rfl) (Nat.le_of_ble_eq_true rfl) ?_
  refine mj_lstore_n 3 (lv2 := [(3, .long (f_X13_size l1 s)), (0, .ref 950), (1, .long l1)]) dX13_writeNumber_16 rfl (by decide) rfl ?_
  refine mj_lconst (v := 1) dX13_writeNumber_17 (by decide) ?_
  refine mj_lstore (lv2 := [(5, .long 1), (3, .long (f_X13_size l1 s)), (0, .ref 950), (1, .long l1)]) dX13_writeNumber_18 (by decide) rfl ?_
  refine mj_sublv [(0, .ref 950), (3, .long (f_X13_size l1 s)), (5, .long 1)] [2, 1, 0] rfl ?_
  exact LH_X13_writeNumber_20 _ (f_X13_size l1 s) 1 s _ hk
noncomputable def f_X13_writeNumber (x1 : Int64) (s : t_S) : Option (t_S) :=
 if (0 : Int32) ≤ (lg_cmp x1 (0 : Int64)) then (k_X13_writeNumber_12 x1 s)
 else ((f_X13_write (45 : Int32) s).bind (fun r1 =>
 k_X13_writeNumber_12 x1 r1))
set_option maxRecDepth 4000 in
set_option maxHeartbeats 1000000 in
theorem C_X13_writeNumber (x1 : Int64) (s : t_S) (r : t_S) (hr : f_X13_writeNumber x1 s = some r) : t_C yX13_writeNumber cX13_writeNumber 7 none 1 [.ref 950, .long x1] s (fun v s' => v = none ∧ s' = r) := by
  refine t_C.imp (P := fun v s' => v = none ∧ (fun q => q = r) (s')) (t_C.of (by decide +kernel) (Nat.le_of_ble_eq_true rfl) ?_) (fun v s' hp => hp)
  intro D cy ad bs X
  have hk : t_hk (f_X13_writeNumber x1 s) (fun q => q = r) := ⟨r, hr, rfl⟩
  show mj_G D cy ad bs X cX13_writeNumber 7 yX13_writeNumber.cls none yX13_writeNumber.name 1 0 0 1065 (t_P (fun v s' => v = none ∧ (fun q => q = r) (s'))) 0 [(0, .ref 950), (1, .long x1)] [] (t_m s) 1065 0 0
  refine mj_lload_n dX13_writeNumber_0 1 rfl ?_
  refine mj_lconst (v := 0) dX13_writeNumber_1 (by decide) ?_
  refine mj_lcmp dX13_writeNumber_2 ?_
  refine mj_if_ge 12 dX13_writeNumber_3 (by decide) (fun z => t_posK hk z (fun hk => ?_)) (fun z => t_negK hk z (fun hk => ?_))
  · exact B_X13_writeNumber_12 _ _ _ hk
  · refine mj_aload_n dX13_writeNumber_6 0 rfl ?_
    refine mj_bipush (v := 45) dX13_writeNumber_7 (by decide) ?_
    refine t_bndK hk (fun r1 er1 hk => ?_)
    refine t_callVvE dX13_writeNumber_9 M_X13_write (C_X13_write _ _ _ er1) ML_X13_1012 IM_X13_write SE_X13_write qc_950 rfl (As := [.int 45]) rfl rfl (Nat.le_of_ble_eq_true rfl) (Nat.le_of_ble_eq_true rfl) (Nat.le_of_ble_eq_true rfl) (Nat.le_of_ble_eq_true rfl) ?_
    exact B_X13_writeNumber_12 _ _ _ hk

theorem dX13_writeWords_0 : decode cX13_writeWords 0 = .ok (.iconst 0, 1) := by decide +kernel
theorem dX13_writeWords_1 : decode cX13_writeWords 1 = .ok (.istore_n 2, 1) := by decide +kernel
theorem dX13_writeWords_10 : decode cX13_writeWords 10 = .ok (.aload_n 0, 1) := by decide +kernel
theorem dX13_writeWords_11 : decode cX13_writeWords 11 = .ok (.aload_n 1, 1) := by decide +kernel
theorem dX13_writeWords_12 : decode cX13_writeWords 12 = .ok (.iload_n 2, 1) := by decide +kernel
theorem dX13_writeWords_13 : decode cX13_writeWords 13 = .ok (.invokevirtual 445, 3) := by decide +kernel
theorem dX13_writeWords_16 : decode cX13_writeWords 16 = .ok (.invokevirtual 1012, 3) := by decide +kernel
theorem dX13_writeWords_19 : decode cX13_writeWords 19 = .ok (.iinc 2 1, 3) := by decide +kernel
theorem dX13_writeWords_2 : decode cX13_writeWords 2 = .ok (.iload_n 2, 1) := by decide +kernel
theorem dX13_writeWords_22 : decode cX13_writeWords 22 = .ok (.goto (-20), 3) := by decide +kernel
theorem dX13_writeWords_25 : decode cX13_writeWords 25 = .ok (.return_, 1) := by decide +kernel
theorem dX13_writeWords_3 : decode cX13_writeWords 3 = .ok (.aload_n 1, 1) := by decide +kernel
theorem dX13_writeWords_4 : decode cX13_writeWords 4 = .ok (.invokevirtual 443, 3) := by decide +kernel
theorem dX13_writeWords_7 : decode cX13_writeWords 7 = .ok (.if_icmp .ge 18, 3) := by decide +kernel
noncomputable def k_X13_writeWords_2 (l1 : Nat) (l2 : Int32) (s : t_S) : Option ((Nat × Int32 × t_S) ⊕ (t_S)) :=
 if l1 < 7 then
  if (nI (mj_len.getD l1 0)) ≤ l2 then ((some (s)).map Sum.inr)
 else (if t_ix l2 (mj_len.getD l1 0) = true then
  (f_X13_write (mj_ch l1 l2.toNatClampNeg) s).bind (fun r3 =>
 some (.inl (l1, (l2 + 1), r3)))
else none)
else none
set_option maxRecDepth 4000 in
set_option maxHeartbeats 1000000 in
theorem B_X13_writeWords_2 {D : va_G} {cy : Nat → ClassId} {ad : Nat → Nat} {bs : Nat} {X : State → Heap → Prop} (l1 : Nat) (l2 : Int32) (s : t_S) (Q : (Nat × Int32 × t_S) ⊕ (t_S) → Prop) (Hb2 : ∀ (y0 : Nat) (y1 : Int32) (y2 : t_S), Q (.inl (y0, y1, y2)) → mj_G D cy ad bs X cX13_writeWords 3 yX13_writeWords.cls none yX13_writeWords.name 4 0 0 1065 (t_P (fun v s' => v = none ∧ Q (.inr (s')))) 2 [(0, .ref 950), (1, .ref (1000000 + (y0))), (2, .int (y1))] [] (t_m y2) 1065 0 0) (hk : t_hk (k_X13_writeWords_2 l1 l2 s) Q) : mj_G D cy ad bs X cX13_writeWords 3 yX13_writeWords.cls none yX13_writeWords.name 4 0 0 1065 (t_P (fun v s' => v = none ∧ Q (.inr (s')))) 2 [(0, .ref 950), (1, .ref (1000000 + l1)), (2, .int l2)] [] (t_m s) 1065 0 0 := by
  refine mj_iload_n dX13_writeWords_2 2 rfl ?_
  refine mj_aload_n dX13_writeWords_3 1 rfl ?_
  refine t_chkK hk (fun c0 hk => ?_)
  refine mj_txlen dX13_writeWords_4 ML_X13_443 c0 (Nat.le_of_ble_eq_true rfl) (Nat.le_of_ble_eq_true rfl) (Nat.le_of_ble_eq_true rfl) (Nat.le_of_ble_eq_true rfl) ?_
  refine mj_icmp_ge 25 dX13_writeWords_7 (by decide) (fun z => t_posK hk z (fun hk => ?_)) (fun z => t_negK hk z (fun hk => ?_))
  · refine t_mapK hk (fun hk => ?_)
    exact t_somK hk (fun hf => t_vret dX13_writeWords_25 rfl ⟨rfl, hf⟩ (Nat.le_of_ble_eq_true rfl) (Nat.le_of_ble_eq_true rfl))
  · refine mj_aload_n dX13_writeWords_10 0 rfl ?_
    refine mj_aload_n dX13_writeWords_11 1 rfl ?_
    refine mj_iload_n dX13_writeWords_12 2 rfl ?_
    refine t_chkK hk (fun c1 hk => ?_)
    refine mj_txch dX13_writeWords_13 ML_X13_445 c0 c1 (Nat.le_of_ble_eq_true rfl) (Nat.le_of_ble_eq_true rfl) (Nat.le_of_ble_eq_true rfl) (Nat.le_of_ble_eq_true rfl) ?_
    refine t_bndK hk (fun r3 er3 hk => ?_)
    refine t_callVvE dX13_writeWords_16 M_X13_write (C_X13_write _ _ _ er3) ML_X13_1012 IM_X13_write SE_X13_write qc_950 rfl (As := [.int (mj_ch l1 l2.toNatClampNeg)]) rfl rfl (Nat.le_of_ble_eq_true rfl) (Nat.le_of_ble_eq_true rfl) (Nat.le_of_ble_eq_true rfl) (Nat.le_of_ble_eq_true rfl) ?_
    refine mj_iinc (k := 2) (v := (l2 + 1)) (lv2 := [(2, .int (l2 + 1)), (0, .ref 950), (1, .ref (1000000 + l1))]) dX13_writeWords_19 rfl rfl (by decide) rfl ?_
    refine mj_goto 2 dX13_writeWords_22 (by decide) ?_
    refine mj_sublv [(0, .ref 950), (1, .ref (1000000 + l1)), (2, .int (l2 + 1))] [1, 2, 0] rfl ?_
    exact t_somK hk (fun hf => Hb2 l1 (l2 + 1) r3 hf)
noncomputable def b_X13_writeWords_2 (x : Nat × Int32 × t_S) : Option ((Nat × Int32 × t_S) ⊕ (t_S)) := k_X13_writeWords_2 x.1 x.2.1 x.2.2
set_option maxRecDepth 4000 in
set_option maxHeartbeats 1000000 in
theorem LH_X13_writeWords_2 {D : va_G} {cy : Nat → ClassId} {ad : Nat → Nat} {bs : Nat} {X : State → Heap → Prop} : ∀ (n : Nat) (y0 : Nat) (y1 : Int32) (y2 : t_S) (Q : t_S → Prop) (hk : t_hk (t_loop (b_X13_writeWords_2) n (y0, y1, y2)) Q), mj_G D cy ad bs X cX13_writeWords 3 yX13_writeWords.cls none yX13_writeWords.name 4 0 0 1065 (t_P (fun v s' => v = none ∧ Q (s'))) 2 [(0, .ref 950), (1, .ref (1000000 + (y0))), (2, .int (y1))] [] (t_m y2) 1065 0 0 := by
  intro n
  induction n with
  | zero => intro y0 y1 y2 Q hk; obtain ⟨r, hr, _⟩ := hk; cases hr
  | succ n ih =>
    intro y0 y1 y2 Q hk
    exact B_X13_writeWords_2 y0 y1 y2 (fun y => t_lq (b_X13_writeWords_2) n Q y) (fun y0' y1' y2' hy => ih y0' y1' y2' Q hy) (t_lp (b := b_X13_writeWords_2) (n := n) (x := (y0, y1, y2)) hk)
noncomputable def f_X13_writeWords (x1 : Nat) (s : t_S) : Option (t_S) :=
 t_loop (b_X13_writeWords_2) t_N (x1, 0, s)
set_option maxRecDepth 4000 in
set_option maxHeartbeats 1000000 in
theorem C_X13_writeWords (x1 : Nat) (s : t_S) (r : t_S) (hr : f_X13_writeWords x1 s = some r) : t_C yX13_writeWords cX13_writeWords 3 none 4 [.ref 950, .ref (1000000 + x1)] s (fun v s' => v = none ∧ s' = r) := by
  refine t_C.imp (P := fun v s' => v = none ∧ (fun q => q = r) (s')) (t_C.of (by decide +kernel) (Nat.le_of_ble_eq_true rfl) ?_) (fun v s' hp => hp)
  intro D cy ad bs X
  have hk : t_hk (f_X13_writeWords x1 s) (fun q => q = r) := ⟨r, hr, rfl⟩
  show mj_G D cy ad bs X cX13_writeWords 3 yX13_writeWords.cls none yX13_writeWords.name 4 0 0 1065 (t_P (fun v s' => v = none ∧ (fun q => q = r) (s'))) 0 [(0, .ref 950), (1, .ref (1000000 + x1))] [] (t_m s) 1065 0 0
  refine mj_iconst (v := 0) dX13_writeWords_0 (by decide) ?_
  refine mj_istore_n 2 (lv2 := [(2, .int 0), (0, .ref 950), (1, .ref (1000000 + x1))]) dX13_writeWords_1 rfl (by decide) rfl ?_
  refine mj_sublv [(0, .ref 950), (1, .ref (1000000 + x1)), (2, .int 0)] [1, 2, 0] rfl ?_
  exact LH_X13_writeWords_2 _ x1 0 s _ hk

