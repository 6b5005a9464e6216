/-! Methods as functions, 39: X2_meaningOfText, X12_named, X12_noBits, X12_queue, X12_queued, X4_dequeue, X5_after, X7_slotOf, X7_typeOf, X8_copy, X8_noteValue -/
theorem dX2_meaningOfText_0 : decode cX2_meaningOfText 0 = .ok (.aload_n 0, 1) := by decide +kernel
theorem dX2_meaningOfText_1 : decode cX2_meaningOfText 1 = .ok (.getfield 68, 3) := by decide +kernel
theorem dX2_meaningOfText_10 : decode cX2_meaningOfText 10 = .ok (.getfield 74, 3) := by decide +kernel
theorem dX2_meaningOfText_13 : decode cX2_meaningOfText 13 = .ok (.iconst 1, 1) := by decide +kernel
theorem dX2_meaningOfText_14 : decode cX2_meaningOfText 14 = .ok (.if_icmp .ne 10, 3) := by decide +kernel
theorem dX2_meaningOfText_17 : decode cX2_meaningOfText 17 = .ok (.aload_n 0, 1) := by decide +kernel
theorem dX2_meaningOfText_18 : decode cX2_meaningOfText 18 = .ok (.invokevirtual 77, 3) := by decide +kernel
theorem dX2_meaningOfText_21 : decode cX2_meaningOfText 21 = .ok (.goto 4, 3) := by decide +kernel
theorem dX2_meaningOfText_24 : decode cX2_meaningOfText 24 = .ok (.iconst 0, 1) := by decide +kernel
theorem dX2_meaningOfText_25 : decode cX2_meaningOfText 25 = .ok (.istore_n 2, 1) := by decide +kernel
theorem dX2_meaningOfText_26 : decode cX2_meaningOfText 26 = .ok (.aload_n 0, 1) := by decide +kernel
theorem dX2_meaningOfText_27 : decode cX2_meaningOfText 27 = .ok (.invokevirtual 80, 3) := by decide +kernel
theorem dX2_meaningOfText_30 : decode cX2_meaningOfText 30 = .ok (.aload_n 0, 1) := by decide +kernel
theorem dX2_meaningOfText_31 : decode cX2_meaningOfText 31 = .ok (.getfield 74, 3) := by decide +kernel
theorem dX2_meaningOfText_34 : decode cX2_meaningOfText 34 = .ok (.iconst 4, 1) := by decide +kernel
theorem dX2_meaningOfText_35 : decode cX2_meaningOfText 35 = .ok (.if_icmp .ne 23, 3) := by decide +kernel
theorem dX2_meaningOfText_38 : decode cX2_meaningOfText 38 = .ok (.aload_n 0, 1) := by decide +kernel
theorem dX2_meaningOfText_39 : decode cX2_meaningOfText 39 = .ok (.getfield 26, 3) := by decide +kernel
theorem dX2_meaningOfText_4 : decode cX2_meaningOfText 4 = .ok (.istore_n 1, 1) := by decide +kernel
theorem dX2_meaningOfText_42 : decode cX2_meaningOfText 42 = .ok (.iload_n 2, 1) := by decide +kernel
theorem dX2_meaningOfText_43 : decode cX2_meaningOfText 43 = .ok (.iaload, 1) := by decide +kernel
theorem dX2_meaningOfText_44 : decode cX2_meaningOfText 44 = .ok (.ifCond .le 14, 3) := by decide +kernel
theorem dX2_meaningOfText_47 : decode cX2_meaningOfText 47 = .ok (.aload_n 0, 1) := by decide +kernel
theorem dX2_meaningOfText_48 : decode cX2_meaningOfText 48 = .ok (.getfield 26, 3) := by decide +kernel
theorem dX2_meaningOfText_5 : decode cX2_meaningOfText 5 = .ok (.aload_n 0, 1) := by decide +kernel
theorem dX2_meaningOfText_51 : decode cX2_meaningOfText 51 = .ok (.iload_n 2, 1) := by decide +kernel
theorem dX2_meaningOfText_52 : decode cX2_meaningOfText 52 = .ok (.iaload, 1) := by decide +kernel
theorem dX2_meaningOfText_53 : decode cX2_meaningOfText 53 = .ok (.iconst 1, 1) := by decide +kernel
theorem dX2_meaningOfText_54 : decode cX2_meaningOfText 54 = .ok (.isub, 1) := by decide +kernel
theorem dX2_meaningOfText_55 : decode cX2_meaningOfText 55 = .ok (.goto 5, 3) := by decide +kernel
theorem dX2_meaningOfText_58 : decode cX2_meaningOfText 58 = .ok (.bipush (-2), 2) := by decide +kernel
theorem dX2_meaningOfText_6 : decode cX2_meaningOfText 6 = .ok (.invokevirtual 71, 3) := by decide +kernel
theorem dX2_meaningOfText_60 : decode cX2_meaningOfText 60 = .ok (.istore_n 3, 1) := by decide +kernel
theorem dX2_meaningOfText_61 : decode cX2_meaningOfText 61 = .ok (.aload_n 0, 1) := by decide +kernel
theorem dX2_meaningOfText_62 : decode cX2_meaningOfText 62 = .ok (.iload_n 1, 1) := by decide +kernel
theorem dX2_meaningOfText_63 : decode cX2_meaningOfText 63 = .ok (.invokevirtual 83, 3) := by decide +kernel
theorem dX2_meaningOfText_66 : decode cX2_meaningOfText 66 = .ok (.aload_n 0, 1) := by decide +kernel
theorem dX2_meaningOfText_67 : decode cX2_meaningOfText 67 = .ok (.iconst 0, 1) := by decide +kernel
theorem dX2_meaningOfText_68 : decode cX2_meaningOfText 68 = .ok (.putfield 61, 3) := by decide +kernel
theorem dX2_meaningOfText_71 : decode cX2_meaningOfText 71 = .ok (.iload_n 3, 1) := by decide +kernel
theorem dX2_meaningOfText_72 : decode cX2_meaningOfText 72 = .ok (.ireturn, 1) := by decide +kernel
theorem dX2_meaningOfText_9 : decode cX2_meaningOfText 9 = .ok (.aload_n 0, 1) := by decide +kernel
noncomputable def k_X2_meaningOfText_60 (l1 : Int32) (k0 : Int32) (s : t_S) : Option (Int32 × t_S) :=
 (f_X2_forget l1 s).bind (fun r1 =>
 t_let (t_setI r1 1 1 (0 : Int32)) (fun s1 =>
 some (k0, s1)))
set_option maxRecDepth 4000 in
set_option maxHeartbeats 1000000 in
theorem B_X2_meaningOfText_60 {D : va_G} {cy : Nat → ClassId} {ad : Nat → Nat} {bs : Nat} {X : State → Heap → Prop} (l1 : Int32) (k0 : Int32) (s : t_S) (Q : Int32 × t_S → Prop) (hk : t_hk (k_X2_meaningOfText_60 l1 k0 s) Q) : mj_G D cy ad bs X cX2_meaningOfText 4 yX2_meaningOfText.cls (some .int) yX2_meaningOfText.name 5 0 0 1065 (t_P (fun v s' => ∃ x, v = some (.int x) ∧ Q ((x, s')))) 60 [(0, .ref 1), (1, .int l1)] [.int k0] (t_m s) 1065 0 0 := by
  refine mj_istore_n 3 (lv2 := [(3, .int k0), (0, .ref 1), (1, .int l1)]) dX2_meaningOfText_60 rfl (by decide) rfl ?_
  refine mj_aload_n dX2_meaningOfText_61 1 rfl ?_
  refine mj_iload_n dX2_meaningOfText_62 2 rfl ?_
  refine t_bndK hk (fun r1 er1 hk => ?_)
  refine t_callVvE dX2_meaningOfText_63 M_X2_forget (C_X2_forget _ _ _ er1) ML_X2_83 IM_X2_forget SE_X2_forget qc_1 rfl (As := [.int l1]) rfl rfl (Nat.le_of_ble_eq_true rfl) (Nat.le_of_ble_eq_true rfl) (Nat.le_of_ble_eq_true rfl) (Nat.le_of_ble_eq_true rfl) ?_
  refine mj_aload_n dX2_meaningOfText_66 1 rfl ?_
  refine mj_iconst (v := 0) dX2_meaningOfText_67 (by decide) ?_
  refine t_putIK dX2_meaningOfText_68 F_X2_61 qf_1_1 rfl (fun s1 ws1 => t_letE hk ws1 (fun hk => ?_))
  refine mj_iload_n dX2_meaningOfText_71 0 rfl ?_
  exact t_somK hk (fun hf => t_iret dX2_meaningOfText_72 rfl rfl ⟨_, rfl, hf⟩ (Nat.le_of_ble_eq_true rfl) (Nat.le_of_ble_eq_true rfl))
noncomputable def k_X2_meaningOfText_58 (l1 : Int32) (s : t_S) : Option (Int32 × t_S) :=
 k_X2_meaningOfText_60 l1 (-2) s
set_option maxRecDepth 4000 in
set_option maxHeartbeats 1000000 in
theorem B_X2_meaningOfText_58 {D : va_G} {cy : Nat → ClassId} {ad : Nat → Nat} {bs : Nat} {X : State → Heap → Prop} (l1 : Int32) (s : t_S) (Q : Int32 × t_S → Prop) (hk : t_hk (k_X2_meaningOfText_58 l1 s) Q) : mj_G D cy ad bs X cX2_meaningOfText 4 yX2_meaningOfText.cls (some .int) yX2_meaningOfText.name 5 0 0 1065 (t_P (fun v s' => ∃ x, v = some (.int x) ∧ Q ((x, s')))) 58 [(0, .ref 1), (1, .int l1)] [] (t_m s) 1065 0 0 := by
  refine mj_bipush (v := (-2)) dX2_meaningOfText_58 (by decide) ?_
  exact B_X2_meaningOfText_60 _ _ _ _ hk
noncomputable def k_X2_meaningOfText_25 (l1 : Int32) (k0 : Int32) (s : t_S) : Option (Int32 × t_S) :=
 (f_X2_advance s).bind (fun r1 =>
 if (r1.1 1 8) = (4 : Int32) then (if t_ix k0 8000 = true then
  if (r1.1 6 (k0.toNatClampNeg)) ≤ (0 : Int32) then (k_X2_meaningOfText_58 l1 r1)
 else (k_X2_meaningOfText_60 l1 ((r1.1 6 (k0.toNatClampNeg)) - (1 : Int32)) r1)
else none)
 else (k_X2_meaningOfText_58 l1 r1))
set_option maxRecDepth 4000 in
set_option maxHeartbeats 1000000 in
theorem B_X2_meaningOfText_25 {D : va_G} {cy : Nat → ClassId} {ad : Nat → Nat} {bs : Nat} {X : State → Heap → Prop} (l1 : Int32) (k0 : Int32) (s : t_S) (Q : Int32 × t_S → Prop) (hk : t_hk (k_X2_meaningOfText_25 l1 k0 s) Q) : mj_G D cy ad bs X cX2_meaningOfText 4 yX2_meaningOfText.cls (some .int) yX2_meaningOfText.name 5 0 0 1065 (t_P (fun v s' => ∃ x, v = some (.int x) ∧ Q ((x, s')))) 25 [(0, .ref 1), (1, .int l1)] [.int k0] (t_m s) 1065 0 0 := by
  refine mj_istore_n 2 (lv2 := [(2, .int k0), (0, .ref 1), (1, .int l1)]) dX2_meaningOfText_25 rfl (by decide) rfl ?_
  refine mj_aload_n dX2_meaningOfText_26 1 rfl ?_
  refine t_bndK hk (fun r1 er1 hk => ?_)
  refine t_callVvE dX2_meaningOfText_27 M_X2_advance (C_X2_advance _ _ er1) ML_X2_80 IM_X2_advance SE_X2_advance qc_1 rfl (As := []) rfl rfl (Nat.le_of_ble_eq_true rfl) (Nat.le_of_ble_eq_true rfl) (Nat.le_of_ble_eq_true rfl) (Nat.le_of_ble_eq_true rfl) ?_
  refine mj_aload_n dX2_meaningOfText_30 1 rfl ?_
  refine t_getI dX2_meaningOfText_31 F_X2_74 qf_1_8 ?_
  refine mj_iconst (v := 4) dX2_meaningOfText_34 (by decide) ?_
  refine mj_icmp_ne 58 dX2_meaningOfText_35 (by decide) (fun z => t_negK hk z (fun hk => ?_)) (fun z => t_posK hk z (fun hk => ?_))
  · refine mj_sublv [(0, .ref 1), (1, .int l1)] [1, 2] rfl ?_
    exact B_X2_meaningOfText_58 _ _ _ hk
  · refine mj_aload_n dX2_meaningOfText_38 1 rfl ?_
    refine t_getR 6 dX2_meaningOfText_39 F_X2_26 qr_1_14 ?_
    refine mj_iload_n dX2_meaningOfText_42 0 rfl ?_
    refine t_chkK hk (fun c1 hk => ?_)
    refine t_iald dX2_meaningOfText_43 qa_6 (t_ixv c1) ?_
    refine mj_if_le 58 dX2_meaningOfText_44 (by decide) (fun z => t_posK hk z (fun hk => ?_)) (fun z => t_negK hk z (fun hk => ?_))
    · refine mj_sublv [(0, .ref 1), (1, .int l1)] [1, 2] rfl ?_
      exact B_X2_meaningOfText_58 _ _ _ hk
    · refine mj_aload_n dX2_meaningOfText_47 1 rfl ?_
      refine t_getR 6 dX2_meaningOfText_48 F_X2_26 qr_1_14 ?_
      refine mj_iload_n dX2_meaningOfText_51 0 rfl ?_
      refine t_iald dX2_meaningOfText_52 qa_6 (t_ixv c1) ?_
      refine mj_iconst (v := 1) dX2_meaningOfText_53 (by decide) ?_
      refine mj_isub dX2_meaningOfText_54 ?_
      refine mj_goto 60 dX2_meaningOfText_55 (by decide) ?_
      refine mj_sublv [(0, .ref 1), (1, .int l1)] [1, 2] rfl ?_
      exact B_X2_meaningOfText_60 _ _ _ _ hk
noncomputable def f_X2_meaningOfText (s : t_S) : Option (Int32 × t_S) :=
 (f_X2_scan s).bind (fun r1 =>
 if (r1.1 1 8) = (1 : Int32) then (k_X2_meaningOfText_25 (s.1 1 13) (f_X2_word r1) r1)
 else (k_X2_meaningOfText_25 (s.1 1 13) 0 r1))
set_option maxRecDepth 4000 in
set_option maxHeartbeats 1000000 in
theorem C_X2_meaningOfText (s : t_S) (r : Int32 × t_S) (hr : f_X2_meaningOfText s = some r) : t_C yX2_meaningOfText cX2_meaningOfText 4 (some .int) 5 [.ref 1] s (fun v s' => v = some (.int r.1) ∧ s' = r.2) := by
  refine t_C.imp (P := fun v s' => ∃ x, v = some (.int x) ∧ (fun q => q = r) ((x, s'))) (t_C.of (by decide +kernel) (Nat.le_of_ble_eq_true rfl) ?_) (fun v s' hp => by obtain ⟨x, rfl, rfl⟩ := hp; exact ⟨rfl, rfl⟩)
  intro D cy ad bs X
  have hk : t_hk (f_X2_meaningOfText s) (fun q => q = r) := ⟨r, hr, rfl⟩
  show mj_G D cy ad bs X cX2_meaningOfText 4 yX2_meaningOfText.cls (some .int) yX2_meaningOfText.name 5 0 0 1065 (t_P (fun v s' => ∃ x, v = some (.int x) ∧ (fun q => q = r) ((x, s')))) 0 [(0, .ref 1)] [] (t_m s) 1065 0 0
  refine mj_aload_n dX2_meaningOfText_0 0 rfl ?_
  refine t_getI dX2_meaningOfText_1 F_X2_68 qf_1_13 ?_
  refine mj_istore_n 1 (lv2 := [(1, .int (s.1 1 13)), (0, .ref 1)]) dX2_meaningOfText_4 rfl (by decide) rfl ?_
  refine mj_aload_n dX2_meaningOfText_5 1 rfl ?_
  refine t_bndK hk (fun r1 er1 hk => ?_)
  refine t_callVvE dX2_meaningOfText_6 M_X2_scan (C_X2_scan _ _ er1) ML_X2_71 IM_X2_scan SE_X2_scan qc_1 rfl (As := []) rfl rfl (Nat.le_of_ble_eq_true rfl) (Nat.le_of_ble_eq_true rfl) (Nat.le_of_ble_eq_true rfl) (Nat.le_of_ble_eq_true rfl) ?_
  refine mj_aload_n dX2_meaningOfText_9 1 rfl ?_
  refine t_getI dX2_meaningOfText_10 F_X2_74 qf_1_8 ?_
  refine mj_iconst (v := 1) dX2_meaningOfText_13 (by decide) ?_
  refine mj_icmp_ne 24 dX2_meaningOfText_14 (by decide) (fun z => t_negK hk z (fun hk => ?_)) (fun z => t_posK hk z (fun hk => ?_))
  · refine mj_iconst (v := 0) dX2_meaningOfText_24 (by decide) ?_
    refine mj_sublv [(0, .ref 1), (1, .int (s.1 1 13))] [1, 0] rfl ?_
    exact B_X2_meaningOfText_25 _ _ _ _ hk
  · refine mj_aload_n dX2_meaningOfText_17 1 rfl ?_
    refine t_callViP dX2_meaningOfText_18 M_X2_word (C_X2_word _) ML_X2_77 IM_X2_word SE_X2_word qc_1 rfl (As := []) rfl rfl (Nat.le_of_ble_eq_true rfl) (Nat.le_of_ble_eq_true rfl) (Nat.le_of_ble_eq_true rfl) (Nat.le_of_ble_eq_true rfl) ?_
    refine mj_goto 25 dX2_meaningOfText_21 (by decide) ?_
    refine mj_sublv [(0, .ref 1), (1, .int (s.1 1 13))] [1, 0] rfl ?_
    exact B_X2_meaningOfText_25 _ _ _ _ hk

theorem dX12_named_0 : decode cX12_named 0 = .ok (.aload_n 0, 1) := by decide +kernel
theorem dX12_named_1 : decode cX12_named 1 = .ok (.getfield 121, 3) := by decide +kernel
theorem dX12_named_11 : decode cX12_named 11 = .ok (.invokevirtual 166, 3) := by decide +kernel
theorem dX12_named_14 : decode cX12_named 14 = .ok (.goto 4, 3) := by decide +kernel
theorem dX12_named_17 : decode cX12_named 17 = .ok (.iconst (-1), 1) := by decide +kernel
theorem dX12_named_18 : decode cX12_named 18 = .ok (.ireturn, 1) := by decide +kernel
theorem dX12_named_4 : decode cX12_named 4 = .ok (.ifCond .eq 13, 3) := by decide +kernel
theorem dX12_named_7 : decode cX12_named 7 = .ok (.aload_n 0, 1) := by decide +kernel
theorem dX12_named_8 : decode cX12_named 8 = .ok (.getfield 10, 3) := by decide +kernel
noncomputable def f_X12_named (s : t_S) : Option (Int32 × t_S) :=
 if (s.1 0 12) = (0 : Int32) then (some ((-1 : Int32), s))
 else ((f_X2_meaningOfText s).bind (fun r1 =>
 some (r1.1, r1.2)))
set_option maxRecDepth 4000 in
set_option maxHeartbeats 1000000 in
theorem C_X12_named (s : t_S) (r : Int32 × t_S) (hr : f_X12_named s = some r) : t_C yX12_named cX12_named 1 (some .int) 6 [.ref 0] s (fun v s' => v = some (.int r.1) ∧ s' = r.2) := by
  refine t_C.imp (P := fun v s' => ∃ x, v = some (.int x) ∧ (fun q => q = r) ((x, s'))) (t_C.of (by decide +kernel) (Nat.le_of_ble_eq_true rfl) ?_) (fun v s' hp => by obtain ⟨x, rfl, rfl⟩ := hp; exact ⟨rfl, rfl⟩)
  intro D cy ad bs X
  have hk : t_hk (f_X12_named s) (fun q => q = r) := ⟨r, hr, rfl⟩
  show mj_G D cy ad bs X cX12_named 1 yX12_named.cls (some .int) yX12_named.name 6 0 0 1065 (t_P (fun v s' => ∃ x, v = some (.int x) ∧ (fun q => q = r) ((x, s')))) 0 [(0, .ref 0)] [] (t_m s) 1065 0 0
  refine mj_aload_n dX12_named_0 0 rfl ?_
  refine t_getI dX12_named_1 F_X12_121 qf_0_12 ?_
  refine mj_if_eq 17 dX12_named_4 (by decide) (fun z => t_posK hk z (fun hk => ?_)) (fun z => t_negK hk z (fun hk => ?_))
  · refine mj_iconst (v := (-1)) dX12_named_17 (by decide) ?_
    exact t_somK hk (fun hf => t_iret dX12_named_18 rfl rfl ⟨_, rfl, hf⟩ (Nat.le_of_ble_eq_true rfl) (Nat.le_of_ble_eq_true rfl))
  · refine mj_aload_n dX12_named_7 0 rfl ?_
    refine t_getR 1 dX12_named_8 F_X12_10 qr_0_0 ?_
    refine t_bndK hk (fun r1 er1 hk => ?_)
    refine t_callViE dX12_named_11 M_X2_meaningOfText (C_X2_meaningOfText _ _ er1) ML_X12_166 IM_X2_meaningOfText SE_X2_meaningOfText qc_1 rfl (As := []) rfl rfl (Nat.le_of_ble_eq_true rfl) (Nat.le_of_ble_eq_true rfl) (Nat.le_of_ble_eq_true rfl) (Nat.le_of_ble_eq_true rfl) ?_
    refine mj_goto 18 dX12_named_14 (by decide) ?_
    exact t_somK hk (fun hf => t_iret dX12_named_18 rfl rfl ⟨_, rfl, hf⟩ (Nat.le_of_ble_eq_true rfl) (Nat.le_of_ble_eq_true rfl))

theorem dX12_noBits_0 : decode cX12_noBits 0 = .ok (.aload_n 0, 1) := by decide +kernel
theorem dX12_noBits_1 : decode cX12_noBits 1 = .ok (.getfield 75, 3) := by decide +kernel
theorem dX12_noBits_12 : decode cX12_noBits 12 = .ok (.iconst 0, 1) := by decide +kernel
theorem dX12_noBits_13 : decode cX12_noBits 13 = .ok (.putfield 148, 3) := by decide +kernel
theorem dX12_noBits_16 : decode cX12_noBits 16 = .ok (.iload_n 1, 1) := by decide +kernel
theorem dX12_noBits_17 : decode cX12_noBits 17 = .ok (.ireturn, 1) := by decide +kernel
theorem dX12_noBits_4 : decode cX12_noBits 4 = .ok (.getfield 148, 3) := by decide +kernel
theorem dX12_noBits_7 : decode cX12_noBits 7 = .ok (.istore_n 1, 1) := by decide +kernel
theorem dX12_noBits_8 : decode cX12_noBits 8 = .ok (.aload_n 0, 1) := by decide +kernel
theorem dX12_noBits_9 : decode cX12_noBits 9 = .ok (.getfield 75, 3) := by decide +kernel
noncomputable def f_X12_noBits (s : t_S) : Option (Int32 × t_S) :=
 t_let (t_setI s 856 5 (0 : Int32)) (fun s1 =>
 some ((s.1 856 5), s1))
set_option maxRecDepth 4000 in
set_option maxHeartbeats 1000000 in
theorem C_X12_noBits (s : t_S) (r : Int32 × t_S) (hr : f_X12_noBits s = some r) : t_C yX12_noBits cX12_noBits 2 (some .int) 0 [.ref 0] s (fun v s' => v = some (.int r.1) ∧ s' = r.2) := by
  refine t_C.imp (P := fun v s' => ∃ x, v = some (.int x) ∧ (fun q => q = r) ((x, s'))) (t_C.of (by decide +kernel) (Nat.le_of_ble_eq_true rfl) ?_) (fun v s' hp => by obtain ⟨x, rfl, rfl⟩ := hp; exact ⟨rfl, rfl⟩)
  intro D cy ad bs X
  have hk : t_hk (f_X12_noBits s) (fun q => q = r) := ⟨r, hr, rfl⟩
  show mj_G D cy ad bs X cX12_noBits 2 yX12_noBits.cls (some .int) yX12_noBits.name 0 0 0 1065 (t_P (fun v s' => ∃ x, v = some (.int x) ∧ (fun q => q = r) ((x, s')))) 0 [(0, .ref 0)] [] (t_m s) 1065 0 0
  refine mj_aload_n dX12_noBits_0 0 rfl ?_
  refine t_getR 856 dX12_noBits_1 F_X12_75 qr_0_7 ?_
  refine t_getI dX12_noBits_4 F_X12_148 qf_856_5 ?_
  refine mj_istore_n 1 (lv2 := [(1, .int (s.1 856 5)), (0, .ref 0)]) dX12_noBits_7 rfl (by decide) rfl ?_
  refine mj_aload_n dX12_noBits_8 1 rfl ?_
  refine t_getR 856 dX12_noBits_9 F_X12_75 qr_0_7 ?_
  refine mj_iconst (v := 0) dX12_noBits_12 (by decide) ?_
  refine t_putIK dX12_noBits_13 F_X12_148 qf_856_5 rfl (fun s1 ws1 => t_letE hk ws1 (fun hk => ?_))
  refine mj_iload_n dX12_noBits_16 0 rfl ?_
  exact t_somK hk (fun hf => t_iret dX12_noBits_17 rfl rfl ⟨_, rfl, hf⟩ (Nat.le_of_ble_eq_true rfl) (Nat.le_of_ble_eq_true rfl))

theorem dX12_queue_0 : decode cX12_queue 0 = .ok (.aload_n 0, 1) := by decide +kernel
theorem dX12_queue_1 : decode cX12_queue 1 = .ok (.iload_n 1, 1) := by decide +kernel
theorem dX12_queue_10 : decode cX12_queue 10 = .ok (.getfield 84, 3) := by decide +kernel
theorem dX12_queue_13 : decode cX12_queue 13 = .ok (.getfield 292, 3) := by decide +kernel
theorem dX12_queue_16 : decode cX12_queue 16 = .ok (.iload_n 1, 1) := by decide +kernel
theorem dX12_queue_17 : decode cX12_queue 17 = .ok (.aaload, 1) := by decide +kernel
theorem dX12_queue_18 : decode cX12_queue 18 = .ok (.getfield 341, 3) := by decide +kernel
theorem dX12_queue_2 : decode cX12_queue 2 = .ok (.iload_n 2, 1) := by decide +kernel
theorem dX12_queue_21 : decode cX12_queue 21 = .ok (.iload_n 2, 1) := by decide +kernel
theorem dX12_queue_22 : decode cX12_queue 22 = .ok (.iaload, 1) := by decide +kernel
theorem dX12_queue_23 : decode cX12_queue 23 = .ok (.goto 4, 3) := by decide +kernel
theorem dX12_queue_26 : decode cX12_queue 26 = .ok (.iconst (-1), 1) := by decide +kernel
theorem dX12_queue_27 : decode cX12_queue 27 = .ok (.ireturn, 1) := by decide +kernel
theorem dX12_queue_3 : decode cX12_queue 3 = .ok (.invokevirtual 286, 3) := by decide +kernel
theorem dX12_queue_6 : decode cX12_queue 6 = .ok (.ifCond .eq 20, 3) := by decide +kernel
theorem dX12_queue_9 : decode cX12_queue 9 = .ok (.aload_n 0, 1) := by decide +kernel
noncomputable def f_X12_queue (x1 : Int32) (x2 : Int32) (s : t_S) : Option (Int32) :=
 (f_X12_isPort x1 x2 s).bind (fun r1 =>
 if r1 = (0 : Int32) then (some (-1 : Int32))
 else (if t_ix x1 8 = true then
  if t_isP (866 + 10 * (x1.toNatClampNeg)) = true then
  if t_ix x2 6 = true then
  some (s.1 ((866 + 10 * (x1.toNatClampNeg)) + 7) (x2.toNatClampNeg))
else none
else none
else none))
set_option maxRecDepth 4000 in
set_option maxHeartbeats 1000000 in
theorem C_X12_queue (x1 : Int32) (x2 : Int32) (s : t_S) (r : Int32) (hr : f_X12_queue x1 x2 s = some r) : t_C yX12_queue cX12_queue 3 (some .int) 2 [.ref 0, .int x1, .int x2] s (fun v s' => v = some (.int r) ∧ s' = s) := by
  refine t_C.imp (P := fun v s' => s' = s ∧ ∃ x, v = some (.int x) ∧ (fun q => q = r) (x)) (t_C.of (by decide +kernel) (Nat.le_of_ble_eq_true rfl) ?_) (fun v s' hp => by obtain ⟨rfl, x, rfl, rfl⟩ := hp; exact ⟨rfl, rfl⟩)
  intro D cy ad bs X
  have hk : t_hk (f_X12_queue x1 x2 s) (fun q => q = r) := ⟨r, hr, rfl⟩
  show mj_G D cy ad bs X cX12_queue 3 yX12_queue.cls (some .int) yX12_queue.name 2 0 0 1065 (t_P (fun v s' => s' = s ∧ ∃ x, v = some (.int x) ∧ (fun q => q = r) (x))) 0 [(0, .ref 0), (1, .int x1), (2, .int x2)] [] (t_m s) 1065 0 0
  refine mj_aload_n dX12_queue_0 0 rfl ?_
  refine mj_iload_n dX12_queue_1 1 rfl ?_
  refine mj_iload_n dX12_queue_2 2 rfl ?_
  refine t_bndK hk (fun r1 er1 hk => ?_)
  refine t_callViP dX12_queue_3 M_X12_isPort (C_X12_isPort _ _ _ _ er1) ML_X12_286 IM_X12_isPort SE_X12_isPort qc_0 rfl (As := [.int x1, .int x2]) rfl rfl (Nat.le_of_ble_eq_true rfl) (Nat.le_of_ble_eq_true rfl) (Nat.le_of_ble_eq_true rfl) (Nat.le_of_ble_eq_true rfl) ?_
  refine mj_if_eq 26 dX12_queue_6 (by decide) (fun z => t_posK hk z (fun hk => ?_)) (fun z => t_negK hk z (fun hk => ?_))
  · refine mj_iconst (v := (-1)) dX12_queue_26 (by decide) ?_
    exact t_somK hk (fun hf => t_iret dX12_queue_27 rfl rfl ⟨rfl, _, rfl, hf⟩ (Nat.le_of_ble_eq_true rfl) (Nat.le_of_ble_eq_true rfl))
  · refine mj_aload_n dX12_queue_9 0 rfl ?_
    refine t_getR 864 dX12_queue_10 F_X12_84 qr_0_8 ?_
    refine t_getR 865 dX12_queue_13 F_X12_292 qr_864_5 ?_
    refine mj_iload_n dX12_queue_16 1 rfl ?_
    refine t_chkK hk (fun c1 hk => ?_)
    refine t_aaldP dX12_queue_17 qq_865 (t_ixv c1) ?_
    refine t_chkK hk (fun c2 hk => ?_)
    refine t_getR ((866 + 10 * (x1.toNatClampNeg)) + 7) dX12_queue_18 F_X12_341 (t_pr14 c2) ?_
    refine mj_iload_n dX12_queue_21 2 rfl ?_
    refine t_chkK hk (fun c3 hk => ?_)
    refine t_iald dX12_queue_22 (t_pa14 c2) (t_ixv c3) ?_
    refine mj_goto 27 dX12_queue_23 (by decide) ?_
    exact t_somK hk (fun hf => t_iret dX12_queue_27 rfl rfl ⟨rfl, _, rfl, hf⟩ (Nat.le_of_ble_eq_true rfl) (Nat.le_of_ble_eq_true rfl))

theorem dX12_queued_0 : decode cX12_queued 0 = .ok (.aload_n 0, 1) := by decide +kernel
theorem dX12_queued_1 : decode cX12_queued 1 = .ok (.iload_n 1, 1) := by decide +kernel
theorem dX12_queued_10 : decode cX12_queued 10 = .ok (.ireturn, 1) := by decide +kernel
theorem dX12_queued_11 : decode cX12_queued 11 = .ok (.aload_n 0, 1) := by decide +kernel
theorem dX12_queued_12 : decode cX12_queued 12 = .ok (.getfield 84, 3) := by decide +kernel
theorem dX12_queued_15 : decode cX12_queued 15 = .ok (.getfield 292, 3) := by decide +kernel
theorem dX12_queued_18 : decode cX12_queued 18 = .ok (.iload_n 1, 1) := by decide +kernel
theorem dX12_queued_19 : decode cX12_queued 19 = .ok (.aaload, 1) := by decide +kernel
theorem dX12_queued_2 : decode cX12_queued 2 = .ok (.iload_n 2, 1) := by decide +kernel
theorem dX12_queued_20 : decode cX12_queued 20 = .ok (.astore 4, 2) := by decide +kernel
theorem dX12_queued_22 : decode cX12_queued 22 = .ok (.iload_n 3, 1) := by decide +kernel
theorem dX12_queued_23 : decode cX12_queued 23 = .ok (.ifCond .lt 14, 3) := by decide +kernel
theorem dX12_queued_26 : decode cX12_queued 26 = .ok (.iload_n 3, 1) := by decide +kernel
theorem dX12_queued_27 : decode cX12_queued 27 = .ok (.aload 4, 2) := by decide +kernel
theorem dX12_queued_29 : decode cX12_queued 29 = .ok (.getfield 341, 3) := by decide +kernel
theorem dX12_queued_3 : decode cX12_queued 3 = .ok (.invokevirtual 286, 3) := by decide +kernel
theorem dX12_queued_32 : decode cX12_queued 32 = .ok (.iload_n 2, 1) := by decide +kernel
theorem dX12_queued_33 : decode cX12_queued 33 = .ok (.iaload, 1) := by decide +kernel
theorem dX12_queued_34 : decode cX12_queued 34 = .ok (.if_icmp .lt 6, 3) := by decide +kernel
theorem dX12_queued_37 : decode cX12_queued 37 = .ok (.bipush (-2), 2) := by decide +kernel
theorem dX12_queued_39 : decode cX12_queued 39 = .ok (.ireturn, 1) := by decide +kernel
theorem dX12_queued_40 : decode cX12_queued 40 = .ok (.aload_n 0, 1) := by decide +kernel
theorem dX12_queued_41 : decode cX12_queued 41 = .ok (.getfield 19, 3) := by decide +kernel
theorem dX12_queued_44 : decode cX12_queued 44 = .ok (.aload_n 0, 1) := by decide +kernel
theorem dX12_queued_45 : decode cX12_queued 45 = .ok (.getfield 19, 3) := by decide +kernel
theorem dX12_queued_48 : decode cX12_queued 48 = .ok (.getfield 173, 3) := by decide +kernel
theorem dX12_queued_51 : decode cX12_queued 51 = .ok (.aload 4, 2) := by decide +kernel
theorem dX12_queued_53 : decode cX12_queued 53 = .ok (.iload_n 2, 1) := by decide +kernel
theorem dX12_queued_54 : decode cX12_queued 54 = .ok (.iload_n 3, 1) := by decide +kernel
theorem dX12_queued_55 : decode cX12_queued 55 = .ok (.invokevirtual 344, 3) := by decide +kernel
theorem dX12_queued_58 : decode cX12_queued 58 = .ok (.bipush 120, 2) := by decide +kernel
theorem dX12_queued_6 : decode cX12_queued 6 = .ok (.ifCond .ne 5, 3) := by decide +kernel
theorem dX12_queued_60 : decode cX12_queued 60 = .ok (.imul, 1) := by decide +kernel
theorem dX12_queued_61 : decode cX12_queued 61 = .ok (.invokevirtual 162, 3) := by decide +kernel
theorem dX12_queued_64 : decode cX12_queued 64 = .ok (.ireturn, 1) := by decide +kernel
theorem dX12_queued_9 : decode cX12_queued 9 = .ok (.iconst (-1), 1) := by decide +kernel
noncomputable def f_X12_queued (x1 : Int32) (x2 : Int32) (x3 : Int32) (s : t_S) : Option (Int32 × t_S) :=
 (f_X12_isPort x1 x2 s).bind (fun r1 =>
 if r1 = (0 : Int32) then (some ((-1 : Int32), s))
 else (if t_ix x1 8 = true then
  if x3 < (0 : Int32) then (some ((-2 : Int32), s))
 else (if t_isP (866 + 10 * (x1.toNatClampNeg)) = true then
  if t_ix x2 6 = true then
  if x3 < (s.1 ((866 + 10 * (x1.toNatClampNeg)) + 7) (x2.toNatClampNeg)) then ((f_X4_queueSlot (866 + 10 * (x1.toNatClampNeg)) x2 x3 s).bind (fun r5 =>
 (f_X8_keep 13 (r5 * (120 : Int32)) s).bind (fun r6 =>
 some (r6.1, r6.2))))
 else (some ((-2 : Int32), s))
else none
else none)
else none))
set_option maxRecDepth 4000 in
set_option maxHeartbeats 1000000 in
theorem C_X12_queued (x1 : Int32) (x2 : Int32) (x3 : Int32) (s : t_S) (r : Int32 × t_S) (hr : f_X12_queued x1 x2 x3 s = some r) : t_C yX12_queued cX12_queued 5 (some .int) 3 [.ref 0, .int x1, .int x2, .int x3] s (fun v s' => v = some (.int r.1) ∧ s' = r.2) := by
  refine t_C.imp (P := fun v s' => ∃ x, v = some (.int x) ∧ (fun q => q = r) ((x, s'))) (t_C.of (by decide +kernel) (Nat.le_of_ble_eq_true rfl) ?_) (fun v s' hp => by obtain ⟨x, rfl, rfl⟩ := hp; exact ⟨rfl, rfl⟩)
  intro D cy ad bs X
  have hk : t_hk (f_X12_queued x1 x2 x3 s) (fun q => q = r) := ⟨r, hr, rfl⟩
  show mj_G D cy ad bs X cX12_queued 5 yX12_queued.cls (some .int) yX12_queued.name 3 0 0 1065 (t_P (fun v s' => ∃ x, v = some (.int x) ∧ (fun q => q = r) ((x, s')))) 0 [(0, .ref 0), (1, .int x1), (2, .int x2), (3, .int x3)] [] (t_m s) 1065 0 0
  refine mj_aload_n dX12_queued_0 0 rfl ?_
  refine mj_iload_n dX12_queued_1 1 rfl ?_
  refine mj_iload_n dX12_queued_2 2 rfl ?_
  refine t_bndK hk (fun r1 er1 hk => ?_)
  refine t_callViP dX12_queued_3 M_X12_isPort (C_X12_isPort _ _ _ _ er1) ML_X12_286 IM_X12_isPort SE_X12_isPort qc_0 rfl (As := [.int x1, .int x2]) rfl rfl (Nat.le_of_ble_eq_true rfl) (Nat.le_of_ble_eq_true rfl) (Nat.le_of_ble_eq_true rfl) (Nat.le_of_ble_eq_true rfl) ?_
  refine mj_if_ne 11 dX12_queued_6 (by decide) (fun z => t_negK hk z (fun hk => ?_)) (fun z => t_posK hk z (fun hk => ?_))
  · refine mj_aload_n dX12_queued_11 0 rfl ?_
    refine t_getR 864 dX12_queued_12 F_X12_84 qr_0_8 ?_
    refine t_getR 865 dX12_queued_15 F_X12_292 qr_864_5 ?_
    refine mj_iload_n dX12_queued_18 1 rfl ?_
    refine t_chkK hk (fun c1 hk => ?_)
    refine t_aaldP dX12_queued_19 qq_865 (t_ixv c1) ?_
    refine mj_astore (lv2 := [(4, .ref (866 + 10 * (x1.toNatClampNeg))), (0, .ref 0), (1, .int x1), (2, .int x2), (3, .int x3)]) dX12_queued_20 (by decide) rfl ?_
    refine mj_iload_n dX12_queued_22 4 rfl ?_
    refine mj_if_lt 37 dX12_queued_23 (by decide) (fun z => t_posK hk z (fun hk => ?_)) (fun z => t_negK hk z (fun hk => ?_))
    · refine mj_bipush (v := (-2)) dX12_queued_37 (by decide) ?_
      exact t_somK hk (fun hf => t_iret dX12_queued_39 rfl rfl ⟨_, rfl, hf⟩ (Nat.le_of_ble_eq_true rfl) (Nat.le_of_ble_eq_true rfl))
    · refine mj_iload_n dX12_queued_26 4 rfl ?_
      refine mj_aload dX12_queued_27 0 rfl ?_
      refine t_chkK hk (fun c2 hk => ?_)
      refine t_getR ((866 + 10 * (x1.toNatClampNeg)) + 7) dX12_queued_29 F_X12_341 (t_pr14 c2) ?_
      refine mj_iload_n dX12_queued_32 3 rfl ?_
      refine t_chkK hk (fun c3 hk => ?_)
      refine t_iald dX12_queued_33 (t_pa14 c2) (t_ixv c3) ?_
      refine mj_icmp_lt 40 dX12_queued_34 (by decide) (fun z => t_posK hk z (fun hk => ?_)) (fun z => t_negK hk z (fun hk => ?_))
      · refine mj_aload_n dX12_queued_40 1 rfl ?_
        refine t_getR 12 dX12_queued_41 F_X12_19 qr_0_1 ?_
        refine mj_aload_n dX12_queued_44 1 rfl ?_
        refine t_getR 12 dX12_queued_45 F_X12_19 qr_0_1 ?_
        refine t_getR 13 dX12_queued_48 F_X12_173 qr_12_0 ?_
        refine mj_aload dX12_queued_51 0 rfl ?_
        refine mj_iload_n dX12_queued_53 3 rfl ?_
        refine mj_iload_n dX12_queued_54 4 rfl ?_
        refine t_bndK hk (fun r5 er5 hk => ?_)
        refine t_callViP dX12_queued_55 M_X4_queueSlot (C_X4_queueSlot _ _ _ _ _ er5) ML_X12_344 IM_X4_queueSlot SE_X4_queueSlot (t_pc c2) rfl (As := [.int x2, .int x3]) rfl rfl (Nat.le_of_ble_eq_true rfl) (Nat.le_of_ble_eq_true rfl) (Nat.le_of_ble_eq_true rfl) (Nat.le_of_ble_eq_true rfl) ?_
        refine mj_bipush (v := 120) dX12_queued_58 (by decide) ?_
        refine mj_imul dX12_queued_60 ?_
        refine t_bndK hk (fun r6 er6 hk => ?_)
        refine t_callViE dX12_queued_61 M_X8_keep (C_X8_keep _ _ _ _ er6) ML_X12_162 IM_X8_keep SE_X8_keep qc_12 rfl (As := [.ref 13, .int (r5 * (120 : Int32))]) rfl rfl (Nat.le_of_ble_eq_true rfl) (Nat.le_of_ble_eq_true rfl) (Nat.le_of_ble_eq_true rfl) (Nat.le_of_ble_eq_true rfl) ?_
        exact t_somK hk (fun hf => t_iret dX12_queued_64 rfl rfl ⟨_, rfl, hf⟩ (Nat.le_of_ble_eq_true rfl) (Nat.le_of_ble_eq_true rfl))
      · refine mj_bipush (v := (-2)) dX12_queued_37 (by decide) ?_
        exact t_somK hk (fun hf => t_iret dX12_queued_39 rfl rfl ⟨_, rfl, hf⟩ (Nat.le_of_ble_eq_true rfl) (Nat.le_of_ble_eq_true rfl))
  · refine mj_iconst (v := (-1)) dX12_queued_9 (by decide) ?_
    exact t_somK hk (fun hf => t_iret dX12_queued_10 rfl rfl ⟨_, rfl, hf⟩ (Nat.le_of_ble_eq_true rfl) (Nat.le_of_ble_eq_true rfl))

theorem dX4_dequeue_0 : decode cX4_dequeue 0 = .ok (.aload_n 0, 1) := by decide +kernel
theorem dX4_dequeue_1 : decode cX4_dequeue 1 = .ok (.getfield 27, 3) := by decide +kernel
theorem dX4_dequeue_10 : decode cX4_dequeue 10 = .ok (.iaload, 1) := by decide +kernel
theorem dX4_dequeue_11 : decode cX4_dequeue 11 = .ok (.iconst 1, 1) := by decide +kernel
theorem dX4_dequeue_12 : decode cX4_dequeue 12 = .ok (.iadd, 1) := by decide +kernel
theorem dX4_dequeue_13 : decode cX4_dequeue 13 = .ok (.bipush 8, 2) := by decide +kernel
theorem dX4_dequeue_15 : decode cX4_dequeue 15 = .ok (.irem, 1) := by decide +kernel
theorem dX4_dequeue_16 : decode cX4_dequeue 16 = .ok (.iastore, 1) := by decide +kernel
theorem dX4_dequeue_17 : decode cX4_dequeue 17 = .ok (.aload_n 0, 1) := by decide +kernel
theorem dX4_dequeue_18 : decode cX4_dequeue 18 = .ok (.getfield 30, 3) := by decide +kernel
theorem dX4_dequeue_21 : decode cX4_dequeue 21 = .ok (.iload_n 1, 1) := by decide +kernel
theorem dX4_dequeue_22 : decode cX4_dequeue 22 = .ok (.dup2, 1) := by decide +kernel
theorem dX4_dequeue_23 : decode cX4_dequeue 23 = .ok (.iaload, 1) := by decide +kernel
theorem dX4_dequeue_24 : decode cX4_dequeue 24 = .ok (.iconst 1, 1) := by decide +kernel
theorem dX4_dequeue_25 : decode cX4_dequeue 25 = .ok (.isub, 1) := by decide +kernel
theorem dX4_dequeue_26 : decode cX4_dequeue 26 = .ok (.iastore, 1) := by decide +kernel
theorem dX4_dequeue_27 : decode cX4_dequeue 27 = .ok (.return_, 1) := by decide +kernel
theorem dX4_dequeue_4 : decode cX4_dequeue 4 = .ok (.iload_n 1, 1) := by decide +kernel
theorem dX4_dequeue_5 : decode cX4_dequeue 5 = .ok (.aload_n 0, 1) := by decide +kernel
theorem dX4_dequeue_6 : decode cX4_dequeue 6 = .ok (.getfield 27, 3) := by decide +kernel
theorem dX4_dequeue_9 : decode cX4_dequeue 9 = .ok (.iload_n 1, 1) := by decide +kernel
noncomputable def f_X4_dequeue (p : Nat) (x1 : Int32) (s : t_S) : Option (t_S) :=
 if t_isP p = true then
  if t_ix x1 6 = true then
  t_let (t_setI s (p + 6) (x1.toNatClampNeg) (((s.1 (p + 6) (x1.toNatClampNeg)) + (1 : Int32)) - ((s.1 (p + 6) (x1.toNatClampNeg)) + (1 : Int32)) / (8 : Int32) * (8 : Int32))) (fun s1 =>
 t_let (t_setI s1 (p + 7) (x1.toNatClampNeg) ((s1.1 (p + 7) (x1.toNatClampNeg)) - (1 : Int32))) (fun s2 =>
 some (s2)))
else none
else none
set_option maxRecDepth 4000 in
set_option maxHeartbeats 1000000 in
theorem C_X4_dequeue (p : Nat) (x1 : Int32) (s : t_S) (r : t_S) (hr : f_X4_dequeue p x1 s = some r) : t_C yX4_dequeue cX4_dequeue 2 none 0 [.ref p, .int x1] s (fun v s' => v = none ∧ s' = r) := by
  refine t_C.imp (P := fun v s' => v = none ∧ (fun q => q = r) (s')) (t_C.of (by decide +kernel) (Nat.le_of_ble_eq_true rfl) ?_) (fun v s' hp => hp)
  intro D cy ad bs X
  have hk : t_hk (f_X4_dequeue p x1 s) (fun q => q = r) := ⟨r, hr, rfl⟩
  show mj_G D cy ad bs X cX4_dequeue 2 yX4_dequeue.cls none yX4_dequeue.name 0 0 0 1065 (t_P (fun v s' => v = none ∧ (fun q => q = r) (s'))) 0 [(0, .ref p), (1, .int x1)] [] (t_m s) 1065 0 0
  refine mj_aload_n dX4_dequeue_0 0 rfl ?_
  refine t_chkK hk (fun c0 hk => ?_)
  refine t_getR (p + 6) dX4_dequeue_1 F_X4_27 (t_pr13 c0) ?_
  refine mj_iload_n dX4_dequeue_4 1 rfl ?_
  refine mj_aload_n dX4_dequeue_5 0 rfl ?_
  refine t_getR (p + 6) dX4_dequeue_6 F_X4_27 (t_pr13 c0) ?_
  refine mj_iload_n dX4_dequeue_9 1 rfl ?_
  refine t_chkK hk (fun c1 hk => ?_)
  refine t_iald dX4_dequeue_10 (t_pa13 c0) (t_ixv c1) ?_
  refine mj_iconst (v := 1) dX4_dequeue_11 (by decide) ?_
  refine mj_iadd dX4_dequeue_12 ?_
  refine mj_bipush (v := 8) dX4_dequeue_13 (by decide) ?_
  refine mj_irem dX4_dequeue_15 (by decide) ?_
  refine t_iastK dX4_dequeue_16 (t_pa13 c0) (t_ixv c1) (fun s1 ws1 => t_letE hk ws1 (fun hk => ?_))
  refine mj_aload_n dX4_dequeue_17 0 rfl ?_
  refine t_getR (p + 7) dX4_dequeue_18 F_X4_30 (t_pr14 c0) ?_
  refine mj_iload_n dX4_dequeue_21 1 rfl ?_
  refine mj_dup2 dX4_dequeue_22 rfl rfl ?_
  refine t_iald dX4_dequeue_23 (t_pa14 c0) (t_ixv c1) ?_
  refine mj_iconst (v := 1) dX4_dequeue_24 (by decide) ?_
  refine mj_isub dX4_dequeue_25 ?_
  refine t_iastK dX4_dequeue_26 (t_pa14 c0) (t_ixv c1) (fun s2 ws2 => t_letE hk ws2 (fun hk => ?_))
  exact t_somK hk (fun hf => t_vret dX4_dequeue_27 rfl ⟨rfl, hf⟩ (Nat.le_of_ble_eq_true rfl) (Nat.le_of_ble_eq_true rfl))

theorem dX5_after_0 : decode cX5_after 0 = .ok (.iload_n 1, 1) := by decide +kernel
theorem dX5_after_1 : decode cX5_after 1 = .ok (.istore_n 2, 1) := by decide +kernel
theorem dX5_after_11 : decode cX5_after 11 = .ok (.iload_n 2, 1) := by decide +kernel
theorem dX5_after_12 : decode cX5_after 12 = .ok (.ifCond .lt 86, 3) := by decide +kernel
theorem dX5_after_15 : decode cX5_after 15 = .ok (.aload_n 0, 1) := by decide +kernel
theorem dX5_after_16 : decode cX5_after 16 = .ok (.getfield 57, 3) := by decide +kernel
theorem dX5_after_19 : decode cX5_after 19 = .ok (.iload_n 2, 1) := by decide +kernel
theorem dX5_after_2 : decode cX5_after 2 = .ok (.iconst 0, 1) := by decide +kernel
theorem dX5_after_20 : decode cX5_after 20 = .ok (.aaload, 1) := by decide +kernel
theorem dX5_after_21 : decode cX5_after 21 = .ok (.astore 4, 2) := by decide +kernel
theorem dX5_after_23 : decode cX5_after 23 = .ok (.aload 4, 2) := by decide +kernel
theorem dX5_after_25 : decode cX5_after 25 = .ok (.iconst 1, 1) := by decide +kernel
theorem dX5_after_26 : decode cX5_after 26 = .ok (.iaload, 1) := by decide +kernel
theorem dX5_after_27 : decode cX5_after 27 = .ok (.ifCond .lt 8, 3) := by decide +kernel
theorem dX5_after_3 : decode cX5_after 3 = .ok (.istore_n 3, 1) := by decide +kernel
theorem dX5_after_30 : decode cX5_after 30 = .ok (.aload 4, 2) := by decide +kernel
theorem dX5_after_32 : decode cX5_after 32 = .ok (.iconst 1, 1) := by decide +kernel
theorem dX5_after_33 : decode cX5_after 33 = .ok (.iaload, 1) := by decide +kernel
theorem dX5_after_34 : decode cX5_after 34 = .ok (.ireturn, 1) := by decide +kernel
theorem dX5_after_35 : decode cX5_after 35 = .ok (.aload 4, 2) := by decide +kernel
theorem dX5_after_37 : decode cX5_after 37 = .ok (.iconst 2, 1) := by decide +kernel
theorem dX5_after_38 : decode cX5_after 38 = .ok (.iaload, 1) := by decide +kernel
theorem dX5_after_39 : decode cX5_after 39 = .ok (.istore 5, 2) := by decide +kernel
theorem dX5_after_4 : decode cX5_after 4 = .ok (.iload_n 3, 1) := by decide +kernel
theorem dX5_after_41 : decode cX5_after 41 = .ok (.iload 5, 2) := by decide +kernel
theorem dX5_after_43 : decode cX5_after 43 = .ok (.ifCond .ge 5, 3) := by decide +kernel
theorem dX5_after_46 : decode cX5_after 46 = .ok (.iconst (-1), 1) := by decide +kernel
theorem dX5_after_47 : decode cX5_after 47 = .ok (.ireturn, 1) := by decide +kernel
theorem dX5_after_48 : decode cX5_after 48 = .ok (.aload_n 0, 1) := by decide +kernel
theorem dX5_after_49 : decode cX5_after 49 = .ok (.getfield 57, 3) := by decide +kernel
theorem dX5_after_5 : decode cX5_after 5 = .ok (.sipush 400, 3) := by decide +kernel
theorem dX5_after_52 : decode cX5_after 52 = .ok (.iload 5, 2) := by decide +kernel
theorem dX5_after_54 : decode cX5_after 54 = .ok (.aaload, 1) := by decide +kernel
theorem dX5_after_55 : decode cX5_after 55 = .ok (.iconst 0, 1) := by decide +kernel
theorem dX5_after_56 : decode cX5_after 56 = .ok (.iaload, 1) := by decide +kernel
theorem dX5_after_57 : decode cX5_after 57 = .ok (.iconst 4, 1) := by decide +kernel
theorem dX5_after_58 : decode cX5_after 58 = .ok (.if_icmp .ne 6, 3) := by decide +kernel
theorem dX5_after_61 : decode cX5_after 61 = .ok (.iload 5, 2) := by decide +kernel
theorem dX5_after_63 : decode cX5_after 63 = .ok (.ireturn, 1) := by decide +kernel
theorem dX5_after_64 : decode cX5_after 64 = .ok (.aload_n 0, 1) := by decide +kernel
theorem dX5_after_65 : decode cX5_after 65 = .ok (.getfield 57, 3) := by decide +kernel
theorem dX5_after_68 : decode cX5_after 68 = .ok (.iload 5, 2) := by decide +kernel
theorem dX5_after_70 : decode cX5_after 70 = .ok (.aaload, 1) := by decide +kernel
theorem dX5_after_71 : decode cX5_after 71 = .ok (.iconst 0, 1) := by decide +kernel
theorem dX5_after_72 : decode cX5_after 72 = .ok (.iaload, 1) := by decide +kernel
theorem dX5_after_73 : decode cX5_after 73 = .ok (.iconst 3, 1) := by decide +kernel
theorem dX5_after_74 : decode cX5_after 74 = .ok (.if_icmp .ne 8, 3) := by decide +kernel
theorem dX5_after_77 : decode cX5_after 77 = .ok (.iload 5, 2) := by decide +kernel
theorem dX5_after_79 : decode cX5_after 79 = .ok (.goto 12, 3) := by decide +kernel
theorem dX5_after_8 : decode cX5_after 8 = .ok (.if_icmp .gt 90, 3) := by decide +kernel
theorem dX5_after_82 : decode cX5_after 82 = .ok (.aload_n 0, 1) := by decide +kernel
theorem dX5_after_83 : decode cX5_after 83 = .ok (.getfield 57, 3) := by decide +kernel
theorem dX5_after_86 : decode cX5_after 86 = .ok (.iload 5, 2) := by decide +kernel
theorem dX5_after_88 : decode cX5_after 88 = .ok (.aaload, 1) := by decide +kernel
theorem dX5_after_89 : decode cX5_after 89 = .ok (.iconst 2, 1) := by decide +kernel
theorem dX5_after_90 : decode cX5_after 90 = .ok (.iaload, 1) := by decide +kernel
theorem dX5_after_91 : decode cX5_after 91 = .ok (.istore_n 2, 1) := by decide +kernel
theorem dX5_after_92 : decode cX5_after 92 = .ok (.iinc 3 1, 3) := by decide +kernel
theorem dX5_after_95 : decode cX5_after 95 = .ok (.goto (-91), 3) := by decide +kernel
theorem dX5_after_98 : decode cX5_after 98 = .ok (.iconst (-1), 1) := by decide +kernel
theorem dX5_after_99 : decode cX5_after 99 = .ok (.ireturn, 1) := by decide +kernel
noncomputable def k_X5_after_91 (l3 : Int32) (k0 : Int32) (s : t_S) : Option ((Int32 × Int32) ⊕ (Int32)) :=
 some (.inl (k0, (l3 + 1)))
set_option maxRecDepth 4000 in
set_option maxHeartbeats 1000000 in
theorem B_X5_after_91 {D : va_G} {cy : Nat → ClassId} {ad : Nat → Nat} {bs : Nat} {X : State → Heap → Prop} (l3 : Int32) (k0 : Int32) (s : t_S) (Q : (Int32 × Int32) ⊕ (Int32) → Prop) (Hb4 : ∀ (y0 : Int32) (y1 : Int32), Q (.inl (y0, y1)) → mj_G D cy ad bs X cX5_after 6 yX5_after.cls (some .int) yX5_after.name 0 0 0 1065 (t_P (fun v s' => s' = s ∧ ∃ x, v = some (.int x) ∧ Q (.inr (x)))) 4 [(0, .ref 428), (2, .int (y0)), (3, .int (y1))] [] (t_m s) 1065 0 0) (hk : t_hk (k_X5_after_91 l3 k0 s) Q) : mj_G D cy ad bs X cX5_after 6 yX5_after.cls (some .int) yX5_after.name 0 0 0 1065 (t_P (fun v s' => s' = s ∧ ∃ x, v = some (.int x) ∧ Q (.inr (x)))) 91 [(0, .ref 428), (3, .int l3)] [.int k0] (t_m s) 1065 0 0 := by
  refine mj_istore_n 2 (lv2 := [(2, .int k0), (0, .ref 428), (3, .int l3)]) dX5_after_91 rfl (by decide) rfl ?_
  refine mj_iinc (k := 2) (v := (l3 + 1)) (lv2 := [(3, .int (l3 + 1)), (2, .int k0), (0, .ref 428)]) dX5_after_92 rfl rfl (by decide) rfl ?_
  refine mj_goto 4 dX5_after_95 (by decide) ?_
  refine mj_sublv [(0, .ref 428), (2, .int k0), (3, .int (l3 + 1))] [2, 1, 0] rfl ?_
  exact t_somK hk (fun hf => Hb4 k0 (l3 + 1) hf)
noncomputable def k_X5_after_4 (l2 : Int32) (l3 : Int32) (s : t_S) : Option ((Int32 × Int32) ⊕ (Int32)) :=
 if (400 : Int32) < l3 then ((some (-1 : Int32)).map Sum.inr)
 else (if l2 < (0 : Int32) then ((some (-1 : Int32)).map Sum.inr)
 else (if t_ix l2 400 = true then
  if (s.1 (445 + 1 * (l2.toNatClampNeg)) ((1 : Int32).toNatClampNeg)) < (0 : Int32) then (if (0 : Int32) ≤ (s.1 (445 + 1 * (l2.toNatClampNeg)) ((2 : Int32).toNatClampNeg)) then (if t_ix (s.1 (445 + 1 * (l2.toNatClampNeg)) ((2 : Int32).toNatClampNeg)) 400 = true then
  if (s.1 (445 + 1 * ((s.1 (445 + 1 * (l2.toNatClampNeg)) ((2 : Int32).toNatClampNeg)).toNatClampNeg)) ((0 : Int32).toNatClampNeg)) = (4 : Int32) then ((some (s.1 (445 + 1 * (l2.toNatClampNeg)) ((2 : Int32).toNatClampNeg))).map Sum.inr)
 else (if (s.1 (445 + 1 * ((s.1 (445 + 1 * (l2.toNatClampNeg)) ((2 : Int32).toNatClampNeg)).toNatClampNeg)) ((0 : Int32).toNatClampNeg)) = (3 : Int32) then (k_X5_after_91 l3 (s.1 (445 + 1 * (l2.toNatClampNeg)) ((2 : Int32).toNatClampNeg)) s)
 else (k_X5_after_91 l3 (s.1 (445 + 1 * ((s.1 (445 + 1 * (l2.toNatClampNeg)) ((2 : Int32).toNatClampNeg)).toNatClampNeg)) ((2 : Int32).toNatClampNeg)) s))
else none)
 else ((some (-1 : Int32)).map Sum.inr))
 else ((some (s.1 (445 + 1 * (l2.toNatClampNeg)) ((1 : Int32).toNatClampNeg))).map Sum.inr)
else none))
set_option maxRecDepth 4000 in
set_option maxHeartbeats 1000000 in
theorem B_X5_after_4 {D : va_G} {cy : Nat → ClassId} {ad : Nat → Nat} {bs : Nat} {X : State → Heap → Prop} (l2 : Int32) (l3 : Int32) (s : t_S) (Q : (Int32 × Int32) ⊕ (Int32) → Prop) (Hb4 : ∀ (y0 : Int32) (y1 : Int32), Q (.inl (y0, y1)) → mj_G D cy ad bs X cX5_after 6 yX5_after.cls (some .int) yX5_after.name 0 0 0 1065 (t_P (fun v s' => s' = s ∧ ∃ x, v = some (.int x) ∧ Q (.inr (x)))) 4 [(0, .ref 428), (2, .int (y0)), (3, .int (y1))] [] (t_m s) 1065 0 0) (hk : t_hk (k_X5_after_4 l2 l3 s) Q) : mj_G D cy ad bs X cX5_after 6 yX5_after.cls (some .int) yX5_after.name 0 0 0 1065 (t_P (fun v s' => s' = s ∧ ∃ x, v = some (.int x) ∧ Q (.inr (x)))) 4 [(0, .ref 428), (2, .int l2), (3, .int l3)] [] (t_m s) 1065 0 0 := by
  refine mj_iload_n dX5_after_4 2 rfl ?_
  refine mj_sipush (v := 400) dX5_after_5 (by decide) ?_
  refine mj_icmp_gt 98 dX5_after_8 (by decide) (fun z => t_posK hk z (fun hk => ?_)) (fun z => t_negK hk z (fun hk => ?_))
  · refine t_mapK hk (fun hk => ?_)
    refine mj_iconst (v := (-1)) dX5_after_98 (by decide) ?_
    exact t_somK hk (fun hf => t_iret dX5_after_99 rfl rfl ⟨rfl, _, rfl, hf⟩ (Nat.le_of_ble_eq_true rfl) (Nat.le_of_ble_eq_true rfl))
  · refine mj_iload_n dX5_after_11 1 rfl ?_
    refine mj_if_lt 98 dX5_after_12 (by decide) (fun z => t_posK hk z (fun hk => ?_)) (fun z => t_negK hk z (fun hk => ?_))
    · refine t_mapK hk (fun hk => ?_)
      refine mj_iconst (v := (-1)) dX5_after_98 (by decide) ?_
      exact t_somK hk (fun hf => t_iret dX5_after_99 rfl rfl ⟨rfl, _, rfl, hf⟩ (Nat.le_of_ble_eq_true rfl) (Nat.le_of_ble_eq_true rfl))
    · refine mj_aload_n dX5_after_15 0 rfl ?_
      refine t_getR 444 dX5_after_16 F_X5_57 qr_428_17 ?_
      refine mj_iload_n dX5_after_19 1 rfl ?_
      refine t_chkK hk (fun c0 hk => ?_)
      refine t_aaldI dX5_after_20 qq_444 (t_ixv c0) ?_
      refine mj_astore (lv2 := [(4, .ref (445 + 1 * (l2.toNatClampNeg))), (0, .ref 428), (2, .int l2), (3, .int l3)]) dX5_after_21 (by decide) rfl ?_
      refine mj_aload dX5_after_23 0 rfl ?_
      refine mj_iconst (v := 1) dX5_after_25 (by decide) ?_
      refine t_iald dX5_after_26 (t_row445 (t_ixn c0)) (by unfold vp_in; decide) ?_
      refine mj_if_lt 35 dX5_after_27 (by decide) (fun z => t_posK hk z (fun hk => ?_)) (fun z => t_negK hk z (fun hk => ?_))
      · refine mj_aload dX5_after_35 0 rfl ?_
        refine mj_iconst (v := 2) dX5_after_37 (by decide) ?_
        refine t_iald dX5_after_38 (t_row445 (t_ixn c0)) (by unfold vp_in; decide) ?_
        refine mj_istore (lv2 := [(5, .int (s.1 (445 + 1 * (l2.toNatClampNeg)) ((2 : Int32).toNatClampNeg))), (4, .ref (445 + 1 * (l2.toNatClampNeg))), (0, .ref 428), (2, .int l2), (3, .int l3)]) dX5_after_39 (by decide) rfl ?_
        refine mj_iload dX5_after_41 0 rfl ?_
        refine mj_if_ge 48 dX5_after_43 (by decide) (fun z => t_posK hk z (fun hk => ?_)) (fun z => t_negK hk z (fun hk => ?_))
        · refine mj_aload_n dX5_after_48 2 rfl ?_
          refine t_getR 444 dX5_after_49 F_X5_57 qr_428_17 ?_
          refine mj_iload dX5_after_52 0 rfl ?_
          refine t_chkK hk (fun c1 hk => ?_)
          refine t_aaldI dX5_after_54 qq_444 (t_ixv c1) ?_
          refine mj_iconst (v := 0) dX5_after_55 (by decide) ?_
          refine t_iald dX5_after_56 (t_row445 (t_ixn c1)) (by unfold vp_in; decide) ?_
          refine mj_iconst (v := 4) dX5_after_57 (by decide) ?_
          refine mj_icmp_ne 64 dX5_after_58 (by decide) (fun z => t_negK hk z (fun hk => ?_)) (fun z => t_posK hk z (fun hk => ?_))
          · refine mj_aload_n dX5_after_64 2 rfl ?_
            refine t_getR 444 dX5_after_65 F_X5_57 qr_428_17 ?_
            refine mj_iload dX5_after_68 0 rfl ?_
            refine t_aaldI dX5_after_70 qq_444 (t_ixv c1) ?_
            refine mj_iconst (v := 0) dX5_after_71 (by decide) ?_
            refine t_iald dX5_after_72 (t_row445 (t_ixn c1)) (by unfold vp_in; decide) ?_
            refine mj_iconst (v := 3) dX5_after_73 (by decide) ?_
            refine mj_icmp_ne 82 dX5_after_74 (by decide) (fun z => t_negK hk z (fun hk => ?_)) (fun z => t_posK hk z (fun hk => ?_))
            · refine mj_aload_n dX5_after_82 2 rfl ?_
              refine t_getR 444 dX5_after_83 F_X5_57 qr_428_17 ?_
              refine mj_iload dX5_after_86 0 rfl ?_
              refine t_aaldI dX5_after_88 qq_444 (t_ixv c1) ?_
              refine mj_iconst (v := 2) dX5_after_89 (by decide) ?_
              refine t_iald dX5_after_90 (t_row445 (t_ixn c1)) (by unfold vp_in; decide) ?_
              refine mj_sublv [(0, .ref 428), (3, .int l3)] [2, 4] rfl ?_
              exact B_X5_after_91 _ _ _ _ (fun y0 y1 hx => Hb4 y0 y1 hx) hk
            · refine mj_iload dX5_after_77 0 rfl ?_
              refine mj_goto 91 dX5_after_79 (by decide) ?_
              refine mj_sublv [(0, .ref 428), (3, .int l3)] [2, 4] rfl ?_
              exact B_X5_after_91 _ _ _ _ (fun y0 y1 hx => Hb4 y0 y1 hx) hk
          · refine t_mapK hk (fun hk => ?_)
            refine mj_iload dX5_after_61 0 rfl ?_
            exact t_somK hk (fun hf => t_iret dX5_after_63 rfl rfl ⟨rfl, _, rfl, hf⟩ (Nat.le_of_ble_eq_true rfl) (Nat.le_of_ble_eq_true rfl))
        · refine t_mapK hk (fun hk => ?_)
          refine mj_iconst (v := (-1)) dX5_after_46 (by decide) ?_
          exact t_somK hk (fun hf => t_iret dX5_after_47 rfl rfl ⟨rfl, _, rfl, hf⟩ (Nat.le_of_ble_eq_true rfl) (Nat.le_of_ble_eq_true rfl))
      · refine t_mapK hk (fun hk => ?_)
        refine mj_aload dX5_after_30 0 rfl ?_
        refine mj_iconst (v := 1) dX5_after_32 (by decide) ?_
        refine t_iald dX5_after_33 (t_row445 (t_ixn c0)) (by unfold vp_in; decide) ?_
        exact t_somK hk (fun hf => t_iret dX5_after_34 rfl rfl ⟨rfl, _, rfl, hf⟩ (Nat.le_of_ble_eq_true rfl) (Nat.le_of_ble_eq_true rfl))
noncomputable def b_X5_after_4 (s : t_S) (x : Int32 × Int32) : Option ((Int32 × Int32) ⊕ (Int32)) := k_X5_after_4 x.1 x.2 s
set_option maxRecDepth 4000 in
set_option maxHeartbeats 1000000 in
theorem LH_X5_after_4 {D : va_G} {cy : Nat → ClassId} {ad : Nat → Nat} {bs : Nat} {X : State → Heap → Prop} (s : t_S) : ∀ (n : Nat) (y0 : Int32) (y1 : Int32) (Q : Int32 → Prop) (hk : t_hk (t_loop (b_X5_after_4 s) n (y0, y1)) Q), mj_G D cy ad bs X cX5_after 6 yX5_after.cls (some .int) yX5_after.name 0 0 0 1065 (t_P (fun v s' => s' = s ∧ ∃ x, v = some (.int x) ∧ Q (x))) 4 [(0, .ref 428), (2, .int (y0)), (3, .int (y1))] [] (t_m s) 1065 0 0 := by
  intro n
  induction n with
  | zero => intro y0 y1 Q hk; obtain ⟨r, hr, _⟩ := hk; cases hr
  | succ n ih =>
    intro y0 y1 Q hk
    exact B_X5_after_4 y0 y1 s (fun y => t_lq (b_X5_after_4 s) n Q y) (fun y0' y1' hy => ih y0' y1' Q hy) (t_lp hk)
noncomputable def f_X5_after (x1 : Int32) (s : t_S) : Option (Int32) :=
 t_loop (b_X5_after_4 s) t_N (x1, 0)
set_option maxRecDepth 4000 in
set_option maxHeartbeats 1000000 in
theorem C_X5_after (x1 : Int32) (s : t_S) (r : Int32) (hr : f_X5_after x1 s = some r) : t_C yX5_after cX5_after 6 (some .int) 0 [.ref 428, .int x1] s (fun v s' => v = some (.int r) ∧ s' = s) := by
  refine t_C.imp (P := fun v s' => s' = s ∧ ∃ x, v = some (.int x) ∧ (fun q => q = r) (x)) (t_C.of (by decide +kernel) (Nat.le_of_ble_eq_true rfl) ?_) (fun v s' hp => by obtain ⟨rfl, x, rfl, rfl⟩ := hp; exact ⟨rfl, rfl⟩)
  intro D cy ad bs X
  have hk : t_hk (f_X5_after x1 s) (fun q => q = r) := ⟨r, hr, rfl⟩
  show mj_G D cy ad bs X cX5_after 6 yX5_after.cls (some .int) yX5_after.name 0 0 0 1065 (t_P (fun v s' => s' = s ∧ ∃ x, v = some (.int x) ∧ (fun q => q = r) (x))) 0 [(0, .ref 428), (1, .int x1)] [] (t_m s) 1065 0 0
  refine mj_iload_n dX5_after_0 1 rfl ?_
  refine mj_istore_n 2 (lv2 := [(2, .int x1), (0, .ref 428), (1, .int x1)]) dX5_after_1 rfl (by decide) rfl ?_
  refine mj_iconst (v := 0) dX5_after_2 (by decide) ?_
  refine mj_istore_n 3 (lv2 := [(3, .int 0), (2, .int x1), (0, .ref 428), (1, .int x1)]) dX5_after_3 rfl (by decide) rfl ?_
  refine mj_sublv [(0, .ref 428), (2, .int x1), (3, .int 0)] [2, 1, 0] rfl ?_
  exact LH_X5_after_4 _ _ x1 0 _ hk

theorem dX7_slotOf_0 : decode cX7_slotOf 0 = .ok (.iload_n 1, 1) := by decide +kernel
theorem dX7_slotOf_1 : decode cX7_slotOf 1 = .ok (.bipush 8, 2) := by decide +kernel
theorem dX7_slotOf_10 : decode cX7_slotOf 10 = .ok (.iload_n 1, 1) := by decide +kernel
theorem dX7_slotOf_11 : decode cX7_slotOf 11 = .ok (.iadd, 1) := by decide +kernel
theorem dX7_slotOf_12 : decode cX7_slotOf 12 = .ok (.goto 11, 3) := by decide +kernel
theorem dX7_slotOf_15 : decode cX7_slotOf 15 = .ok (.aload_n 0, 1) := by decide +kernel
theorem dX7_slotOf_16 : decode cX7_slotOf 16 = .ok (.iload_n 1, 1) := by decide +kernel
theorem dX7_slotOf_17 : decode cX7_slotOf 17 = .ok (.bipush 8, 2) := by decide +kernel
theorem dX7_slotOf_19 : decode cX7_slotOf 19 = .ok (.isub, 1) := by decide +kernel
theorem dX7_slotOf_20 : decode cX7_slotOf 20 = .ok (.invokevirtual 99, 3) := by decide +kernel
theorem dX7_slotOf_23 : decode cX7_slotOf 23 = .ok (.ireturn, 1) := by decide +kernel
theorem dX7_slotOf_3 : decode cX7_slotOf 3 = .ok (.if_icmp .ge 12, 3) := by decide +kernel
theorem dX7_slotOf_6 : decode cX7_slotOf 6 = .ok (.aload_n 0, 1) := by decide +kernel
theorem dX7_slotOf_7 : decode cX7_slotOf 7 = .ok (.invokevirtual 158, 3) := by decide +kernel
noncomputable def f_X7_slotOf (x1 : Nat) (x2 : Int32) (s : t_S) : Option (Int32) :=
 if (8 : Int32) ≤ x2 then (if t_isP x1 = true then
  (f_X4_varSlot x1 (x2 - (8 : Int32)) s).bind (fun r2 =>
 some (r2))
else none)
 else (if t_isP x1 = true then
  (f_X4_topSlot x1 s).bind (fun r4 =>
 some (r4 + x2))
else none)
set_option maxRecDepth 4000 in
set_option maxHeartbeats 1000000 in
theorem C_X7_slotOf (x1 : Nat) (x2 : Int32) (s : t_S) (r : Int32) (hr : f_X7_slotOf x1 x2 s = some r) : t_C yX7_slotOf cX7_slotOf 2 (some .int) 2 [.ref x1, .int x2] s (fun v s' => v = some (.int r) ∧ s' = s) := by
  refine t_C.imp (P := fun v s' => s' = s ∧ ∃ x, v = some (.int x) ∧ (fun q => q = r) (x)) (t_C.of (by decide +kernel) (Nat.le_of_ble_eq_true rfl) ?_) (fun v s' hp => by obtain ⟨rfl, x, rfl, rfl⟩ := hp; exact ⟨rfl, rfl⟩)
  intro D cy ad bs X
  have hk : t_hk (f_X7_slotOf x1 x2 s) (fun q => q = r) := ⟨r, hr, rfl⟩
  show mj_G D cy ad bs X cX7_slotOf 2 yX7_slotOf.cls (some .int) yX7_slotOf.name 2 0 0 1065 (t_P (fun v s' => s' = s ∧ ∃ x, v = some (.int x) ∧ (fun q => q = r) (x))) 0 [(0, .ref x1), (1, .int x2)] [] (t_m s) 1065 0 0
  refine mj_iload_n dX7_slotOf_0 1 rfl ?_
  refine mj_bipush (v := 8) dX7_slotOf_1 (by decide) ?_
  refine mj_icmp_ge 15 dX7_slotOf_3 (by decide) (fun z => t_posK hk z (fun hk => ?_)) (fun z => t_negK hk z (fun hk => ?_))
  · refine mj_aload_n dX7_slotOf_15 0 rfl ?_
    refine mj_iload_n dX7_slotOf_16 1 rfl ?_
    refine mj_bipush (v := 8) dX7_slotOf_17 (by decide) ?_
    refine mj_isub dX7_slotOf_19 ?_
    refine t_chkK hk (fun c0 hk => ?_)
    refine t_bndK hk (fun r2 er2 hk => ?_)
    refine t_callViP dX7_slotOf_20 M_X4_varSlot (C_X4_varSlot _ _ _ _ er2) ML_X7_99 IM_X4_varSlot SE_X4_varSlot (t_pc c0) rfl (As := [.int (x2 - (8 : Int32))]) rfl rfl (Nat.le_of_ble_eq_true rfl) (Nat.le_of_ble_eq_true rfl) (Nat.le_of_ble_eq_true rfl) (Nat.le_of_ble_eq_true rfl) ?_
    exact t_somK hk (fun hf => t_iret dX7_slotOf_23 rfl rfl ⟨rfl, _, rfl, hf⟩ (Nat.le_of_ble_eq_true rfl) (Nat.le_of_ble_eq_true rfl))
  · refine mj_aload_n dX7_slotOf_6 0 rfl ?_
    refine t_chkK hk (fun c2 hk => ?_)
    refine t_bndK hk (fun r4 er4 hk => ?_)
    refine t_callViP dX7_slotOf_7 M_X4_topSlot (C_X4_topSlot _ _ _ er4) ML_X7_158 IM_X4_topSlot SE_X4_topSlot (t_pc c2) rfl (As := []) rfl rfl (Nat.le_of_ble_eq_true rfl) (Nat.le_of_ble_eq_true rfl) (Nat.le_of_ble_eq_true rfl) (Nat.le_of_ble_eq_true rfl) ?_
    refine mj_iload_n dX7_slotOf_10 1 rfl ?_
    refine mj_iadd dX7_slotOf_11 ?_
    refine mj_goto 23 dX7_slotOf_12 (by decide) ?_
    exact t_somK hk (fun hf => t_iret dX7_slotOf_23 rfl rfl ⟨rfl, _, rfl, hf⟩ (Nat.le_of_ble_eq_true rfl) (Nat.le_of_ble_eq_true rfl))

theorem dX7_typeOf_0 : decode cX7_typeOf 0 = .ok (.iload_n 3, 1) := by decide +kernel
theorem dX7_typeOf_1 : decode cX7_typeOf 1 = .ok (.bipush 8, 2) := by decide +kernel
theorem dX7_typeOf_10 : decode cX7_typeOf 10 = .ok (.getfield 237, 3) := by decide +kernel
theorem dX7_typeOf_13 : decode cX7_typeOf 13 = .ok (.iload_n 2, 1) := by decide +kernel
theorem dX7_typeOf_14 : decode cX7_typeOf 14 = .ok (.bipush 8, 2) := by decide +kernel
theorem dX7_typeOf_16 : decode cX7_typeOf 16 = .ok (.imul, 1) := by decide +kernel
theorem dX7_typeOf_17 : decode cX7_typeOf 17 = .ok (.iload_n 3, 1) := by decide +kernel
theorem dX7_typeOf_18 : decode cX7_typeOf 18 = .ok (.iadd, 1) := by decide +kernel
theorem dX7_typeOf_19 : decode cX7_typeOf 19 = .ok (.iaload, 1) := by decide +kernel
theorem dX7_typeOf_20 : decode cX7_typeOf 20 = .ok (.goto 23, 3) := by decide +kernel
theorem dX7_typeOf_23 : decode cX7_typeOf 23 = .ok (.aload_n 0, 1) := by decide +kernel
theorem dX7_typeOf_24 : decode cX7_typeOf 24 = .ok (.getfield 31, 3) := by decide +kernel
theorem dX7_typeOf_27 : decode cX7_typeOf 27 = .ok (.getfield 127, 3) := by decide +kernel
theorem dX7_typeOf_3 : decode cX7_typeOf 3 = .ok (.if_icmp .ge 20, 3) := by decide +kernel
theorem dX7_typeOf_30 : decode cX7_typeOf 30 = .ok (.aload_n 1, 1) := by decide +kernel
theorem dX7_typeOf_31 : decode cX7_typeOf 31 = .ok (.getfield 113, 3) := by decide +kernel
theorem dX7_typeOf_34 : decode cX7_typeOf 34 = .ok (.bipush 8, 2) := by decide +kernel
theorem dX7_typeOf_36 : decode cX7_typeOf 36 = .ok (.imul, 1) := by decide +kernel
theorem dX7_typeOf_37 : decode cX7_typeOf 37 = .ok (.iload_n 3, 1) := by decide +kernel
theorem dX7_typeOf_38 : decode cX7_typeOf 38 = .ok (.iadd, 1) := by decide +kernel
theorem dX7_typeOf_39 : decode cX7_typeOf 39 = .ok (.bipush 8, 2) := by decide +kernel
theorem dX7_typeOf_41 : decode cX7_typeOf 41 = .ok (.isub, 1) := by decide +kernel
theorem dX7_typeOf_42 : decode cX7_typeOf 42 = .ok (.iaload, 1) := by decide +kernel
theorem dX7_typeOf_43 : decode cX7_typeOf 43 = .ok (.ireturn, 1) := by decide +kernel
theorem dX7_typeOf_6 : decode cX7_typeOf 6 = .ok (.aload_n 0, 1) := by decide +kernel
theorem dX7_typeOf_7 : decode cX7_typeOf 7 = .ok (.getfield 31, 3) := by decide +kernel
noncomputable def f_X7_typeOf (x1 : Nat) (x2 : Int32) (x3 : Int32) (s : t_S) : Option (Int32) :=
 if (8 : Int32) ≤ x3 then (if t_isP x1 = true then
  if t_ix ((((s.1 x1 1) * (8 : Int32)) + x3) - (8 : Int32)) 64 = true then
  some (s.1 435 (((((s.1 x1 1) * (8 : Int32)) + x3) - (8 : Int32)).toNatClampNeg))
else none
else none)
 else (if t_ix ((x2 * (8 : Int32)) + x3) 320 = true then
  some (s.1 443 (((x2 * (8 : Int32)) + x3).toNatClampNeg))
else none)
set_option maxRecDepth 4000 in
set_option maxHeartbeats 1000000 in
theorem C_X7_typeOf (x1 : Nat) (x2 : Int32) (x3 : Int32) (s : t_S) (r : Int32) (hr : f_X7_typeOf x1 x2 x3 s = some r) : t_C yX7_typeOf cX7_typeOf 4 (some .int) 0 [.ref 864, .ref x1, .int x2, .int x3] s (fun v s' => v = some (.int r) ∧ s' = s) := by
  refine t_C.imp (P := fun v s' => s' = s ∧ ∃ x, v = some (.int x) ∧ (fun q => q = r) (x)) (t_C.of (by decide +kernel) (Nat.le_of_ble_eq_true rfl) ?_) (fun v s' hp => by obtain ⟨rfl, x, rfl, rfl⟩ := hp; exact ⟨rfl, rfl⟩)
  intro D cy ad bs X
  have hk : t_hk (f_X7_typeOf x1 x2 x3 s) (fun q => q = r) := ⟨r, hr, rfl⟩
  show mj_G D cy ad bs X cX7_typeOf 4 yX7_typeOf.cls (some .int) yX7_typeOf.name 0 0 0 1065 (t_P (fun v s' => s' = s ∧ ∃ x, v = some (.int x) ∧ (fun q => q = r) (x))) 0 [(0, .ref 864), (1, .ref x1), (2, .int x2), (3, .int x3)] [] (t_m s) 1065 0 0
  refine mj_iload_n dX7_typeOf_0 3 rfl ?_
  refine mj_bipush (v := 8) dX7_typeOf_1 (by decide) ?_
  refine mj_icmp_ge 23 dX7_typeOf_3 (by decide) (fun z => t_posK hk z (fun hk => ?_)) (fun z => t_negK hk z (fun hk => ?_))
  · refine mj_aload_n dX7_typeOf_23 0 rfl ?_
    refine t_getR 428 dX7_typeOf_24 F_X7_31 qr_864_4 ?_
    refine t_getR 435 dX7_typeOf_27 F_X7_127 qr_428_7 ?_
    refine mj_aload_n dX7_typeOf_30 1 rfl ?_
    refine t_chkK hk (fun c0 hk => ?_)
    refine t_getI dX7_typeOf_31 F_X7_113 (t_pf1 c0) ?_
    refine mj_bipush (v := 8) dX7_typeOf_34 (by decide) ?_
    refine mj_imul dX7_typeOf_36 ?_
    refine mj_iload_n dX7_typeOf_37 3 rfl ?_
    refine mj_iadd dX7_typeOf_38 ?_
    refine mj_bipush (v := 8) dX7_typeOf_39 (by decide) ?_
    refine mj_isub dX7_typeOf_41 ?_
    refine t_chkK hk (fun c1 hk => ?_)
    refine t_iald dX7_typeOf_42 qa_435 (t_ixv c1) ?_
    exact t_somK hk (fun hf => t_iret dX7_typeOf_43 rfl rfl ⟨rfl, _, rfl, hf⟩ (Nat.le_of_ble_eq_true rfl) (Nat.le_of_ble_eq_true rfl))
  · refine mj_aload_n dX7_typeOf_6 0 rfl ?_
    refine t_getR 428 dX7_typeOf_7 F_X7_31 qr_864_4 ?_
    refine t_getR 443 dX7_typeOf_10 F_X7_237 qr_428_16 ?_
    refine mj_iload_n dX7_typeOf_13 2 rfl ?_
    refine mj_bipush (v := 8) dX7_typeOf_14 (by decide) ?_
    refine mj_imul dX7_typeOf_16 ?_
    refine mj_iload_n dX7_typeOf_17 3 rfl ?_
    refine mj_iadd dX7_typeOf_18 ?_
    refine t_chkK hk (fun c2 hk => ?_)
    refine t_iald dX7_typeOf_19 qa_443 (t_ixv c2) ?_
    refine mj_goto 43 dX7_typeOf_20 (by decide) ?_
    exact t_somK hk (fun hf => t_iret dX7_typeOf_43 rfl rfl ⟨rfl, _, rfl, hf⟩ (Nat.le_of_ble_eq_true rfl) (Nat.le_of_ble_eq_true rfl))

theorem dX8_copy_0 : decode cX8_copy 0 = .ok (.aload_n 0, 1) := by decide +kernel
theorem dX8_copy_1 : decode cX8_copy 1 = .ok (.getfield 12, 3) := by decide +kernel
theorem dX8_copy_12 : decode cX8_copy 12 = .ok (.iload_n 2, 1) := by decide +kernel
theorem dX8_copy_13 : decode cX8_copy 13 = .ok (.bipush 120, 2) := by decide +kernel
theorem dX8_copy_15 : decode cX8_copy 15 = .ok (.imul, 1) := by decide +kernel
theorem dX8_copy_16 : decode cX8_copy 16 = .ok (.aload_n 0, 1) := by decide +kernel
theorem dX8_copy_17 : decode cX8_copy 17 = .ok (.getfield 16, 3) := by decide +kernel
theorem dX8_copy_20 : decode cX8_copy 20 = .ok (.iload_n 1, 1) := by decide +kernel
theorem dX8_copy_21 : decode cX8_copy 21 = .ok (.iaload, 1) := by decide +kernel
theorem dX8_copy_22 : decode cX8_copy 22 = .ok (.invokestatic 57, 3) := by decide +kernel
theorem dX8_copy_25 : decode cX8_copy 25 = .ok (.aload_n 0, 1) := by decide +kernel
theorem dX8_copy_26 : decode cX8_copy 26 = .ok (.getfield 16, 3) := by decide +kernel
theorem dX8_copy_29 : decode cX8_copy 29 = .ok (.iload_n 2, 1) := by decide +kernel
theorem dX8_copy_30 : decode cX8_copy 30 = .ok (.aload_n 0, 1) := by decide +kernel
theorem dX8_copy_31 : decode cX8_copy 31 = .ok (.getfield 16, 3) := by decide +kernel
theorem dX8_copy_34 : decode cX8_copy 34 = .ok (.iload_n 1, 1) := by decide +kernel
theorem dX8_copy_35 : decode cX8_copy 35 = .ok (.iaload, 1) := by decide +kernel
theorem dX8_copy_36 : decode cX8_copy 36 = .ok (.iastore, 1) := by decide +kernel
theorem dX8_copy_37 : decode cX8_copy 37 = .ok (.return_, 1) := by decide +kernel
theorem dX8_copy_4 : decode cX8_copy 4 = .ok (.iload_n 1, 1) := by decide +kernel
theorem dX8_copy_5 : decode cX8_copy 5 = .ok (.bipush 120, 2) := by decide +kernel
theorem dX8_copy_7 : decode cX8_copy 7 = .ok (.imul, 1) := by decide +kernel
theorem dX8_copy_8 : decode cX8_copy 8 = .ok (.aload_n 0, 1) := by decide +kernel
theorem dX8_copy_9 : decode cX8_copy 9 = .ok (.getfield 12, 3) := by decide +kernel
noncomputable def f_X8_copy (x1 : Int32) (x2 : Int32) (s : t_S) : Option (t_S) :=
 if t_ix x1 1589 = true then
  if t_cpok (x1 * (120 : Int32)) (x2 * (120 : Int32)) (s.1 14 (x1.toNatClampNeg)) 190680 190680 = true then
  t_let (t_cpJ s 13 13 (x1 * (120 : Int32)) (x2 * (120 : Int32)) (s.1 14 (x1.toNatClampNeg))) (fun s1 =>
 if t_ix x2 1589 = true then
  t_let (t_setI s1 14 (x2.toNatClampNeg) (s1.1 14 (x1.toNatClampNeg))) (fun s2 =>
 some (s2))
else none)
else none
else none
set_option maxRecDepth 4000 in
set_option maxHeartbeats 1000000 in
theorem C_X8_copy (x1 : Int32) (x2 : Int32) (s : t_S) (r : t_S) (hr : f_X8_copy x1 x2 s = some r) : t_C yX8_copy cX8_copy 3 none 1 [.ref 12, .int x1, .int x2] s (fun v s' => v = none ∧ s' = r) := by
  refine t_C.imp (P := fun v s' => v = none ∧ (fun q => q = r) (s')) (t_C.of (by decide +kernel) (Nat.le_of_ble_eq_true rfl) ?_) (fun v s' hp => hp)
  intro D cy ad bs X
  have hk : t_hk (f_X8_copy x1 x2 s) (fun q => q = r) := ⟨r, hr, rfl⟩
  show mj_G D cy ad bs X cX8_copy 3 yX8_copy.cls none yX8_copy.name 1 0 0 1065 (t_P (fun v s' => v = none ∧ (fun q => q = r) (s'))) 0 [(0, .ref 12), (1, .int x1), (2, .int x2)] [] (t_m s) 1065 0 0
  refine mj_aload_n dX8_copy_0 0 rfl ?_
  refine t_getR 13 dX8_copy_1 F_X8_12 qr_12_0 ?_
  refine mj_iload_n dX8_copy_4 1 rfl ?_
  refine mj_bipush (v := 120) dX8_copy_5 (by decide) ?_
  refine mj_imul dX8_copy_7 ?_
  refine mj_aload_n dX8_copy_8 0 rfl ?_
  refine t_getR 13 dX8_copy_9 F_X8_12 qr_12_0 ?_
  refine mj_iload_n dX8_copy_12 2 rfl ?_
  refine mj_bipush (v := 120) dX8_copy_13 (by decide) ?_
  refine mj_imul dX8_copy_15 ?_
  refine mj_aload_n dX8_copy_16 0 rfl ?_
  refine t_getR 14 dX8_copy_17 F_X8_16 qr_12_1 ?_
  refine mj_iload_n dX8_copy_20 1 rfl ?_
  refine t_chkK hk (fun c0 hk => ?_)
  refine t_iald dX8_copy_21 qa_14 (t_ixv c0) ?_
  refine t_chkK hk (fun c1 hk => ?_)
  refine t_copyK dX8_copy_22 MA_X8_57 qa_13 qa_13 c1 (Nat.le_of_ble_eq_true rfl) (Nat.le_of_ble_eq_true rfl) (fun s1 ws1 => t_letE hk ws1 (fun hk => ?_))
  refine mj_aload_n dX8_copy_25 0 rfl ?_
  refine t_getR 14 dX8_copy_26 F_X8_16 qr_12_1 ?_
  refine mj_iload_n dX8_copy_29 2 rfl ?_
  refine mj_aload_n dX8_copy_30 0 rfl ?_
  refine t_getR 14 dX8_copy_31 F_X8_16 qr_12_1 ?_
  refine mj_iload_n dX8_copy_34 1 rfl ?_
  refine t_iald dX8_copy_35 qa_14 (t_ixv c0) ?_
  refine t_chkK hk (fun c2 hk => ?_)
  refine t_iastK dX8_copy_36 qa_14 (t_ixv c2) (fun s2 ws2 => t_letE hk ws2 (fun hk => ?_))
  exact t_somK hk (fun hf => t_vret dX8_copy_37 rfl ⟨rfl, hf⟩ (Nat.le_of_ble_eq_true rfl) (Nat.le_of_ble_eq_true rfl))

theorem dX8_noteValue_0 : decode cX8_noteValue 0 = .ok (.aload_n 0, 1) := by decide +kernel
theorem dX8_noteValue_1 : decode cX8_noteValue 1 = .ok (.iload_n 1, 1) := by decide +kernel
theorem dX8_noteValue_11 : decode cX8_noteValue 11 = .ok (.sipush 300, 3) := by decide +kernel
theorem dX8_noteValue_14 : decode cX8_noteValue 14 = .ok (.if_icmp .gt 21, 3) := by decide +kernel
theorem dX8_noteValue_17 : decode cX8_noteValue 17 = .ok (.aload_n 0, 1) := by decide +kernel
theorem dX8_noteValue_18 : decode cX8_noteValue 18 = .ok (.sipush 1248, 3) := by decide +kernel
theorem dX8_noteValue_2 : decode cX8_noteValue 2 = .ok (.iload_n 2, 1) := by decide +kernel
theorem dX8_noteValue_21 : decode cX8_noteValue 21 = .ok (.aload_n 0, 1) := by decide +kernel
theorem dX8_noteValue_22 : decode cX8_noteValue 22 = .ok (.getfield 74, 3) := by decide +kernel
theorem dX8_noteValue_25 : decode cX8_noteValue 25 = .ok (.iadd, 1) := by decide +kernel
theorem dX8_noteValue_26 : decode cX8_noteValue 26 = .ok (.iconst 1, 1) := by decide +kernel
theorem dX8_noteValue_27 : decode cX8_noteValue 27 = .ok (.isub, 1) := by decide +kernel
theorem dX8_noteValue_28 : decode cX8_noteValue 28 = .ok (.aload 4, 2) := by decide +kernel
theorem dX8_noteValue_3 : decode cX8_noteValue 3 = .ok (.iload_n 3, 1) := by decide +kernel
theorem dX8_noteValue_30 : decode cX8_noteValue 30 = .ok (.iload 5, 2) := by decide +kernel
theorem dX8_noteValue_32 : decode cX8_noteValue 32 = .ok (.invokevirtual 70, 3) := by decide +kernel
theorem dX8_noteValue_35 : decode cX8_noteValue 35 = .ok (.return_, 1) := by decide +kernel
theorem dX8_noteValue_4 : decode cX8_noteValue 4 = .ok (.invokevirtual 80, 3) := by decide +kernel
theorem dX8_noteValue_7 : decode cX8_noteValue 7 = .ok (.aload_n 0, 1) := by decide +kernel
theorem dX8_noteValue_8 : decode cX8_noteValue 8 = .ok (.getfield 74, 3) := by decide +kernel
noncomputable def f_X8_noteValue (x1 : Int32) (x2 : Int32) (x3 : Int32) (x4 : Nat) (x5 : Int32) (s : t_S) : Option (t_S) :=
 (f_X8_note x1 x2 x3 s).bind (fun r1 =>
 if (300 : Int32) < (r1.1 12 4) then (some (r1))
 else ((f_X8_put (((1248 : Int32) + (r1.1 12 4)) - (1 : Int32)) x4 x5 r1).bind (fun r2 =>
 some (r2))))
set_option maxRecDepth 4000 in
set_option maxHeartbeats 1000000 in
theorem C_X8_noteValue (x1 : Int32) (x2 : Int32) (x3 : Int32) (x4 : Nat) (x5 : Int32) (s : t_S) (r : t_S) (hr : f_X8_noteValue x1 x2 x3 x4 x5 s = some r) : t_C yX8_noteValue cX8_noteValue 6 none 2 [.ref 12, .int x1, .int x2, .int x3, .ref x4, .int x5] s (fun v s' => v = none ∧ s' = r) := by
  refine t_C.imp (P := fun v s' => v = none ∧ (fun q => q = r) (s')) (t_C.of (by decide +kernel) (Nat.le_of_ble_eq_true rfl) ?_) (fun v s' hp => hp)
  intro D cy ad bs X
  have hk : t_hk (f_X8_noteValue x1 x2 x3 x4 x5 s) (fun q => q = r) := ⟨r, hr, rfl⟩
  show mj_G D cy ad bs X cX8_noteValue 6 yX8_noteValue.cls none yX8_noteValue.name 2 0 0 1065 (t_P (fun v s' => v = none ∧ (fun q => q = r) (s'))) 0 [(0, .ref 12), (1, .int x1), (2, .int x2), (3, .int x3), (4, .ref x4), (5, .int x5)] [] (t_m s) 1065 0 0
  refine mj_aload_n dX8_noteValue_0 0 rfl ?_
  refine mj_iload_n dX8_noteValue_1 1 rfl ?_
  refine mj_iload_n dX8_noteValue_2 2 rfl ?_
  refine mj_iload_n dX8_noteValue_3 3 rfl ?_
  refine t_bndK hk (fun r1 er1 hk => ?_)
  refine t_callVvE dX8_noteValue_4 M_X8_note (C_X8_note _ _ _ _ _ er1) ML_X8_80 IM_X8_note SE_X8_note qc_12 rfl (As := [.int x1, .int x2, .int x3]) rfl rfl (Nat.le_of_ble_eq_true rfl) (Nat.le_of_ble_eq_true rfl) (Nat.le_of_ble_eq_true rfl) (Nat.le_of_ble_eq_true rfl) ?_
  refine mj_aload_n dX8_noteValue_7 0 rfl ?_
  refine t_getI dX8_noteValue_8 F_X8_74 qf_12_4 ?_
  refine mj_sipush (v := 300) dX8_noteValue_11 (by decide) ?_
  refine mj_icmp_gt 35 dX8_noteValue_14 (by decide) (fun z => t_posK hk z (fun hk => ?_)) (fun z => t_negK hk z (fun hk => ?_))
  · exact t_somK hk (fun hf => t_vret dX8_noteValue_35 rfl ⟨rfl, hf⟩ (Nat.le_of_ble_eq_true rfl) (Nat.le_of_ble_eq_true rfl))
  · refine mj_aload_n dX8_noteValue_17 0 rfl ?_
    refine mj_sipush (v := 1248) dX8_noteValue_18 (by decide) ?_
    refine mj_aload_n dX8_noteValue_21 0 rfl ?_
    refine t_getI dX8_noteValue_22 F_X8_74 qf_12_4 ?_
    refine mj_iadd dX8_noteValue_25 ?_
    refine mj_iconst (v := 1) dX8_noteValue_26 (by decide) ?_
    refine mj_isub dX8_noteValue_27 ?_
    refine mj_aload dX8_noteValue_28 4 rfl ?_
    refine mj_iload dX8_noteValue_30 5 rfl ?_
    refine t_bndK hk (fun r2 er2 hk => ?_)
    refine t_callVvE dX8_noteValue_32 M_X8_put (C_X8_put _ _ _ _ _ er2) ML_X8_70 IM_X8_put SE_X8_put qc_12 rfl (As := [.int (((1248 : Int32) + (r1.1 12 4)) - (1 : Int32)), .ref x4, .int x5]) rfl rfl (Nat.le_of_ble_eq_true rfl) (Nat.le_of_ble_eq_true rfl) (Nat.le_of_ble_eq_true rfl) (Nat.le_of_ble_eq_true rfl) ?_
    exact t_somK hk (fun hf => t_vret dX8_noteValue_35 rfl ⟨rfl, hf⟩ (Nat.le_of_ble_eq_true rfl) (Nat.le_of_ble_eq_true rfl))

