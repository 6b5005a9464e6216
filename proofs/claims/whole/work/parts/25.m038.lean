/-! Methods as functions, 38: X2_readToken, X2_skipBlanks, X2_scan, X3_clear, X6_startReading, X6_readModule, X12_module -/
theorem dX2_readToken_0 : decode cX2_readToken 0 = .ok (.iload_n 1, 1) := by decide +kernel
theorem dX2_readToken_1 : decode cX2_readToken 1 = .ok (.invokestatic 118, 3) := by decide +kernel
theorem dX2_readToken_100 : decode cX2_readToken 100 = .ok (.iload_n 1, 1) := by decide +kernel
theorem dX2_readToken_101 : decode cX2_readToken 101 = .ok (.invokestatic 137, 3) := by decide +kernel
theorem dX2_readToken_104 : decode cX2_readToken 104 = .ok (.ifCond .eq 7, 3) := by decide +kernel
theorem dX2_readToken_107 : decode cX2_readToken 107 = .ok (.iload_n 1, 1) := by decide +kernel
theorem dX2_readToken_108 : decode cX2_readToken 108 = .ok (.goto 4, 3) := by decide +kernel
theorem dX2_readToken_11 : decode cX2_readToken 11 = .ok (.ireturn, 1) := by decide +kernel
theorem dX2_readToken_111 : decode cX2_readToken 111 = .ok (.iconst 5, 1) := by decide +kernel
theorem dX2_readToken_112 : decode cX2_readToken 112 = .ok (.ireturn, 1) := by decide +kernel
theorem dX2_readToken_12 : decode cX2_readToken 12 = .ok (.iload_n 1, 1) := by decide +kernel
theorem dX2_readToken_13 : decode cX2_readToken 13 = .ok (.invokestatic 125, 3) := by decide +kernel
theorem dX2_readToken_16 : decode cX2_readToken 16 = .ok (.ifCond .eq 8, 3) := by decide +kernel
theorem dX2_readToken_19 : decode cX2_readToken 19 = .ok (.aload_n 0, 1) := by decide +kernel
theorem dX2_readToken_20 : decode cX2_readToken 20 = .ok (.invokevirtual 128, 3) := by decide +kernel
theorem dX2_readToken_23 : decode cX2_readToken 23 = .ok (.ireturn, 1) := by decide +kernel
theorem dX2_readToken_24 : decode cX2_readToken 24 = .ok (.iload_n 1, 1) := by decide +kernel
theorem dX2_readToken_25 : decode cX2_readToken 25 = .ok (.bipush 34, 2) := by decide +kernel
theorem dX2_readToken_27 : decode cX2_readToken 27 = .ok (.if_icmp .ne 8, 3) := by decide +kernel
theorem dX2_readToken_30 : decode cX2_readToken 30 = .ok (.aload_n 0, 1) := by decide +kernel
theorem dX2_readToken_31 : decode cX2_readToken 31 = .ok (.invokevirtual 131, 3) := by decide +kernel
theorem dX2_readToken_34 : decode cX2_readToken 34 = .ok (.ireturn, 1) := by decide +kernel
theorem dX2_readToken_35 : decode cX2_readToken 35 = .ok (.aload_n 0, 1) := by decide +kernel
theorem dX2_readToken_36 : decode cX2_readToken 36 = .ok (.getfield 89, 3) := by decide +kernel
theorem dX2_readToken_39 : decode cX2_readToken 39 = .ok (.iconst 1, 1) := by decide +kernel
theorem dX2_readToken_4 : decode cX2_readToken 4 = .ok (.ifCond .eq 8, 3) := by decide +kernel
theorem dX2_readToken_40 : decode cX2_readToken 40 = .ok (.iadd, 1) := by decide +kernel
theorem dX2_readToken_41 : decode cX2_readToken 41 = .ok (.aload_n 0, 1) := by decide +kernel
theorem dX2_readToken_42 : decode cX2_readToken 42 = .ok (.getfield 61, 3) := by decide +kernel
theorem dX2_readToken_45 : decode cX2_readToken 45 = .ok (.if_icmp .ge 21, 3) := by decide +kernel
theorem dX2_readToken_48 : decode cX2_readToken 48 = .ok (.aload_n 0, 1) := by decide +kernel
theorem dX2_readToken_49 : decode cX2_readToken 49 = .ok (.getfield 11, 3) := by decide +kernel
theorem dX2_readToken_52 : decode cX2_readToken 52 = .ok (.aload_n 0, 1) := by decide +kernel
theorem dX2_readToken_53 : decode cX2_readToken 53 = .ok (.getfield 89, 3) := by decide +kernel
theorem dX2_readToken_56 : decode cX2_readToken 56 = .ok (.iconst 1, 1) := by decide +kernel
theorem dX2_readToken_57 : decode cX2_readToken 57 = .ok (.iadd, 1) := by decide +kernel
theorem dX2_readToken_58 : decode cX2_readToken 58 = .ok (.baload, 1) := by decide +kernel
theorem dX2_readToken_59 : decode cX2_readToken 59 = .ok (.sipush 255, 3) := by decide +kernel
theorem dX2_readToken_62 : decode cX2_readToken 62 = .ok (.iand, 1) := by decide +kernel
theorem dX2_readToken_63 : decode cX2_readToken 63 = .ok (.goto 4, 3) := by decide +kernel
theorem dX2_readToken_66 : decode cX2_readToken 66 = .ok (.iconst 0, 1) := by decide +kernel
theorem dX2_readToken_67 : decode cX2_readToken 67 = .ok (.istore_n 2, 1) := by decide +kernel
theorem dX2_readToken_68 : decode cX2_readToken 68 = .ok (.iload_n 1, 1) := by decide +kernel
theorem dX2_readToken_69 : decode cX2_readToken 69 = .ok (.iload_n 2, 1) := by decide +kernel
theorem dX2_readToken_7 : decode cX2_readToken 7 = .ok (.aload_n 0, 1) := by decide +kernel
theorem dX2_readToken_70 : decode cX2_readToken 70 = .ok (.invokestatic 134, 3) := by decide +kernel
theorem dX2_readToken_73 : decode cX2_readToken 73 = .ok (.istore_n 3, 1) := by decide +kernel
theorem dX2_readToken_74 : decode cX2_readToken 74 = .ok (.aload_n 0, 1) := by decide +kernel
theorem dX2_readToken_75 : decode cX2_readToken 75 = .ok (.dup, 1) := by decide +kernel
theorem dX2_readToken_76 : decode cX2_readToken 76 = .ok (.getfield 89, 3) := by decide +kernel
theorem dX2_readToken_79 : decode cX2_readToken 79 = .ok (.iload_n 3, 1) := by decide +kernel
theorem dX2_readToken_8 : decode cX2_readToken 8 = .ok (.invokevirtual 122, 3) := by decide +kernel
theorem dX2_readToken_80 : decode cX2_readToken 80 = .ok (.ifCond .eq 7, 3) := by decide +kernel
theorem dX2_readToken_83 : decode cX2_readToken 83 = .ok (.iconst 2, 1) := by decide +kernel
theorem dX2_readToken_84 : decode cX2_readToken 84 = .ok (.goto 4, 3) := by decide +kernel
theorem dX2_readToken_87 : decode cX2_readToken 87 = .ok (.iconst 1, 1) := by decide +kernel
theorem dX2_readToken_88 : decode cX2_readToken 88 = .ok (.iadd, 1) := by decide +kernel
theorem dX2_readToken_89 : decode cX2_readToken 89 = .ok (.putfield 89, 3) := by decide +kernel
theorem dX2_readToken_92 : decode cX2_readToken 92 = .ok (.iload_n 3, 1) := by decide +kernel
theorem dX2_readToken_93 : decode cX2_readToken 93 = .ok (.ifCond .eq 7, 3) := by decide +kernel
theorem dX2_readToken_96 : decode cX2_readToken 96 = .ok (.iload_n 3, 1) := by decide +kernel
theorem dX2_readToken_97 : decode cX2_readToken 97 = .ok (.goto 15, 3) := by decide +kernel
noncomputable def k_X2_readToken_88 (l1 : Int32) (l3 : Int32) (k0 : Int32) (k1 : Int32) (s : t_S) : Option (Int32 × t_S) :=
 t_let (t_setI s 1 2 (k1 + k0)) (fun s1 =>
 if l3 = (0 : Int32) then (if (f_X2_isSign l1 s1) = (0 : Int32) then (some ((5 : Int32), s1))
 else (some (l1, s1)))
 else (some (l3, s1)))
set_option maxRecDepth 4000 in
set_option maxHeartbeats 1000000 in
theorem B_X2_readToken_88 {D : va_G} {cy : Nat → ClassId} {ad : Nat → Nat} {bs : Nat} {X : State → Heap → Prop} (l1 : Int32) (l3 : Int32) (k0 : Int32) (k1 : Int32) (s : t_S) (Q : Int32 × t_S → Prop) (hk : t_hk (k_X2_readToken_88 l1 l3 k0 k1 s) Q) : mj_G D cy ad bs X cX2_readToken 4 yX2_readToken.cls (some .int) yX2_readToken.name 3 0 0 1065 (t_P (fun v s' => ∃ x, v = some (.int x) ∧ Q ((x, s')))) 88 [(1, .int l1), (3, .int l3)] [.int k0, .int k1, .ref 1] (t_m s) 1065 0 0 := by
  refine mj_iadd dX2_readToken_88 ?_
  refine t_putIK dX2_readToken_89 F_X2_89 qf_1_2 rfl (fun s1 ws1 => t_letE hk ws1 (fun hk => ?_))
  refine mj_iload_n dX2_readToken_92 1 rfl ?_
  refine mj_if_eq 100 dX2_readToken_93 (by decide) (fun z => t_posK hk z (fun hk => ?_)) (fun z => t_negK hk z (fun hk => ?_))
  · refine mj_iload_n dX2_readToken_100 0 rfl ?_
    refine t_callSiP dX2_readToken_101 M_X2_isSign (C_X2_isSign _ _) ML_X2_137 SM_X2_isSign (As := [.int l1]) rfl rfl (Nat.le_of_ble_eq_true rfl) (Nat.le_of_ble_eq_true rfl) (Nat.le_of_ble_eq_true rfl) (Nat.le_of_ble_eq_true rfl) ?_
    refine mj_if_eq 111 dX2_readToken_104 (by decide) (fun z => t_posK hk z (fun hk => ?_)) (fun z => t_negK hk z (fun hk => ?_))
    · refine mj_iconst (v := 5) dX2_readToken_111 (by decide) ?_
      exact t_somK hk (fun hf => t_iret dX2_readToken_112 rfl rfl ⟨_, rfl, hf⟩ (Nat.le_of_ble_eq_true rfl) (Nat.le_of_ble_eq_true rfl))
    · refine mj_iload_n dX2_readToken_107 0 rfl ?_
      refine mj_goto 112 dX2_readToken_108 (by decide) ?_
      exact t_somK hk (fun hf => t_iret dX2_readToken_112 rfl rfl ⟨_, rfl, hf⟩ (Nat.le_of_ble_eq_true rfl) (Nat.le_of_ble_eq_true rfl))
  · refine mj_iload_n dX2_readToken_96 1 rfl ?_
    refine mj_goto 112 dX2_readToken_97 (by decide) ?_
    exact t_somK hk (fun hf => t_iret dX2_readToken_112 rfl rfl ⟨_, rfl, hf⟩ (Nat.le_of_ble_eq_true rfl) (Nat.le_of_ble_eq_true rfl))
noncomputable def k_X2_readToken_67 (l1 : Int32) (k0 : Int32) (s : t_S) : Option (Int32 × t_S) :=
 if (f_X2_pairOf l1 k0 s) = (0 : Int32) then (k_X2_readToken_88 l1 (f_X2_pairOf l1 k0 s) 1 (s.1 1 2) s)
 else (k_X2_readToken_88 l1 (f_X2_pairOf l1 k0 s) 2 (s.1 1 2) s)
set_option maxRecDepth 4000 in
set_option maxHeartbeats 1000000 in
theorem B_X2_readToken_67 {D : va_G} {cy : Nat → ClassId} {ad : Nat → Nat} {bs : Nat} {X : State → Heap → Prop} (l1 : Int32) (k0 : Int32) (s : t_S) (Q : Int32 × t_S → Prop) (hk : t_hk (k_X2_readToken_67 l1 k0 s) Q) : mj_G D cy ad bs X cX2_readToken 4 yX2_readToken.cls (some .int) yX2_readToken.name 3 0 0 1065 (t_P (fun v s' => ∃ x, v = some (.int x) ∧ Q ((x, s')))) 67 [(0, .ref 1), (1, .int l1)] [.int k0] (t_m s) 1065 0 0 := by
  refine mj_istore_n 2 (lv2 := [(2, .int k0), (0, .ref 1), (1, .int l1)]) dX2_readToken_67 rfl (by decide) rfl ?_
  refine mj_iload_n dX2_readToken_68 2 rfl ?_
  refine mj_iload_n dX2_readToken_69 0 rfl ?_
  refine t_callSiP dX2_readToken_70 M_X2_pairOf (C_X2_pairOf _ _ _) ML_X2_134 SM_X2_pairOf (As := [.int l1, .int k0]) rfl rfl (Nat.le_of_ble_eq_true rfl) (Nat.le_of_ble_eq_true rfl) (Nat.le_of_ble_eq_true rfl) (Nat.le_of_ble_eq_true rfl) ?_
  refine mj_istore_n 3 (lv2 := [(3, .int (f_X2_pairOf l1 k0 s)), (2, .int k0), (0, .ref 1), (1, .int l1)]) dX2_readToken_73 rfl (by decide) rfl ?_
  refine mj_aload_n dX2_readToken_74 2 rfl ?_
  refine mj_dup dX2_readToken_75 rfl ?_
  refine t_getI dX2_readToken_76 F_X2_89 qf_1_2 ?_
  refine mj_iload_n dX2_readToken_79 0 rfl ?_
  refine mj_if_eq 87 dX2_readToken_80 (by decide) (fun z => t_posK hk z (fun hk => ?_)) (fun z => t_negK hk z (fun hk => ?_))
  · refine mj_iconst (v := 1) dX2_readToken_87 (by decide) ?_
    refine mj_sublv [(1, .int l1), (3, .int (f_X2_pairOf l1 k0 s))] [3, 0] rfl ?_
    exact B_X2_readToken_88 _ _ _ _ _ _ hk
  · refine mj_iconst (v := 2) dX2_readToken_83 (by decide) ?_
    refine mj_goto 88 dX2_readToken_84 (by decide) ?_
    refine mj_sublv [(1, .int l1), (3, .int (f_X2_pairOf l1 k0 s))] [3, 0] rfl ?_
    exact B_X2_readToken_88 _ _ _ _ _ _ hk
noncomputable def f_X2_readToken (x1 : Int32) (s : t_S) : Option (Int32 × t_S) :=
 if (f_X2_isLetter x1 s) = (0 : Int32) then (if (f_X2_isDigit x1 s) = (0 : Int32) then (if x1 = (34 : Int32) then ((f_X2_readText s).bind (fun r4 =>
 some (r4.1, r4.2)))
 else (if (s.1 1 1) ≤ ((s.1 1 2) + (1 : Int32)) then (k_X2_readToken_67 x1 0 s)
 else (if t_ix ((s.1 1 2) + (1 : Int32)) 12000 = true then
  k_X2_readToken_67 x1 ((s.1 2 (((s.1 1 2) + (1 : Int32)).toNatClampNeg)) &&& (255 : Int32)) s
else none)))
 else ((f_X2_readNumber s).bind (fun r5 =>
 some (r5.1, r5.2))))
 else ((f_X2_readWord s).bind (fun r6 =>
 some (r6.1, r6.2)))
set_option maxRecDepth 4000 in
set_option maxHeartbeats 1000000 in
theorem C_X2_readToken (x1 : Int32) (s : t_S) (r : Int32 × t_S) (hr : f_X2_readToken x1 s = some r) : t_C yX2_readToken cX2_readToken 4 (some .int) 3 [.ref 1, .int x1] s (fun v s' => v = some (.int r.1) ∧ s' = r.2) := by
  refine t_C.imp (P := fun v s' => ∃ x, v = some (.int x) ∧ (fun q => q = r) ((x, s'))) (t_C.of (by decide +kernel) (Nat.le_of_ble_eq_true rfl) ?_) (fun v s' hp => by obtain ⟨x, rfl, rfl⟩ := hp; exact ⟨rfl, rfl⟩)
  intro D cy ad bs X
  have hk : t_hk (f_X2_readToken x1 s) (fun q => q = r) := ⟨r, hr, rfl⟩
  show mj_G D cy ad bs X cX2_readToken 4 yX2_readToken.cls (some .int) yX2_readToken.name 3 0 0 1065 (t_P (fun v s' => ∃ x, v = some (.int x) ∧ (fun q => q = r) ((x, s')))) 0 [(0, .ref 1), (1, .int x1)] [] (t_m s) 1065 0 0
  refine mj_iload_n dX2_readToken_0 1 rfl ?_
  refine t_callSiP dX2_readToken_1 M_X2_isLetter (C_X2_isLetter _ _) ML_X2_118 SM_X2_isLetter (As := [.int x1]) rfl rfl (Nat.le_of_ble_eq_true rfl) (Nat.le_of_ble_eq_true rfl) (Nat.le_of_ble_eq_true rfl) (Nat.le_of_ble_eq_true rfl) ?_
  refine mj_if_eq 12 dX2_readToken_4 (by decide) (fun z => t_posK hk z (fun hk => ?_)) (fun z => t_negK hk z (fun hk => ?_))
  · refine mj_iload_n dX2_readToken_12 1 rfl ?_
    refine t_callSiP dX2_readToken_13 M_X2_isDigit (C_X2_isDigit _ _) ML_X2_125 SM_X2_isDigit (As := [.int x1]) rfl rfl (Nat.le_of_ble_eq_true rfl) (Nat.le_of_ble_eq_true rfl) (Nat.le_of_ble_eq_true rfl) (Nat.le_of_ble_eq_true rfl) ?_
    refine mj_if_eq 24 dX2_readToken_16 (by decide) (fun z => t_posK hk z (fun hk => ?_)) (fun z => t_negK hk z (fun hk => ?_))
    · refine mj_iload_n dX2_readToken_24 1 rfl ?_
      refine mj_bipush (v := 34) dX2_readToken_25 (by decide) ?_
      refine mj_icmp_ne 35 dX2_readToken_27 (by decide) (fun z => t_negK hk z (fun hk => ?_)) (fun z => t_posK hk z (fun hk => ?_))
      · refine mj_aload_n dX2_readToken_35 0 rfl ?_
        refine t_getI dX2_readToken_36 F_X2_89 qf_1_2 ?_
        refine mj_iconst (v := 1) dX2_readToken_39 (by decide) ?_
        refine mj_iadd dX2_readToken_40 ?_
        refine mj_aload_n dX2_readToken_41 0 rfl ?_
        refine t_getI dX2_readToken_42 F_X2_61 qf_1_1 ?_
        refine mj_icmp_ge 66 dX2_readToken_45 (by decide) (fun z => t_posK hk z (fun hk => ?_)) (fun z => t_negK hk z (fun hk => ?_))
        · refine mj_iconst (v := 0) dX2_readToken_66 (by decide) ?_
          exact B_X2_readToken_67 _ _ _ _ hk
        · refine mj_aload_n dX2_readToken_48 0 rfl ?_
          refine t_getR 2 dX2_readToken_49 F_X2_11 qr_1_0 ?_
          refine mj_aload_n dX2_readToken_52 0 rfl ?_
          refine t_getI dX2_readToken_53 F_X2_89 qf_1_2 ?_
          refine mj_iconst (v := 1) dX2_readToken_56 (by decide) ?_
          refine mj_iadd dX2_readToken_57 ?_
          refine t_chkK hk (fun c2 hk => ?_)
          refine t_bald dX2_readToken_58 qa_2 (t_ixv c2) ?_
          refine mj_sipush (v := 255) dX2_readToken_59 (by decide) ?_
          refine mj_iand dX2_readToken_62 ?_
          refine mj_goto 67 dX2_readToken_63 (by decide) ?_
          exact B_X2_readToken_67 _ _ _ _ hk
      · refine mj_aload_n dX2_readToken_30 0 rfl ?_
        refine t_bndK hk (fun r4 er4 hk => ?_)
        refine t_callViE dX2_readToken_31 M_X2_readText (C_X2_readText _ _ er4) ML_X2_131 IM_X2_readText SE_X2_readText qc_1 rfl (As := []) rfl rfl (Nat.le_of_ble_eq_true rfl) (Nat.le_of_ble_eq_true rfl) (Nat.le_of_ble_eq_true rfl) (Nat.le_of_ble_eq_true rfl) ?_
        exact t_somK hk (fun hf => t_iret dX2_readToken_34 rfl rfl ⟨_, rfl, hf⟩ (Nat.le_of_ble_eq_true rfl) (Nat.le_of_ble_eq_true rfl))
    · refine mj_aload_n dX2_readToken_19 0 rfl ?_
      refine t_bndK hk (fun r5 er5 hk => ?_)
      refine t_callViE dX2_readToken_20 M_X2_readNumber (C_X2_readNumber _ _ er5) ML_X2_128 IM_X2_readNumber SE_X2_readNumber qc_1 rfl (As := []) rfl rfl (Nat.le_of_ble_eq_true rfl) (Nat.le_of_ble_eq_true rfl) (Nat.le_of_ble_eq_true rfl) (Nat.le_of_ble_eq_true rfl) ?_
      exact t_somK hk (fun hf => t_iret dX2_readToken_23 rfl rfl ⟨_, rfl, hf⟩ (Nat.le_of_ble_eq_true rfl) (Nat.le_of_ble_eq_true rfl))
  · refine mj_aload_n dX2_readToken_7 0 rfl ?_
    refine t_bndK hk (fun r6 er6 hk => ?_)
    refine t_callViE dX2_readToken_8 M_X2_readWord (C_X2_readWord _ _ er6) ML_X2_122 IM_X2_readWord SE_X2_readWord qc_1 rfl (As := []) rfl rfl (Nat.le_of_ble_eq_true rfl) (Nat.le_of_ble_eq_true rfl) (Nat.le_of_ble_eq_true rfl) (Nat.le_of_ble_eq_true rfl) ?_
    exact t_somK hk (fun hf => t_iret dX2_readToken_11 rfl rfl ⟨_, rfl, hf⟩ (Nat.le_of_ble_eq_true rfl) (Nat.le_of_ble_eq_true rfl))

theorem dX2_skipBlanks_0 : decode cX2_skipBlanks 0 = .ok (.iconst 0, 1) := by decide +kernel
theorem dX2_skipBlanks_1 : decode cX2_skipBlanks 1 = .ok (.istore_n 1, 1) := by decide +kernel
theorem dX2_skipBlanks_10 : decode cX2_skipBlanks 10 = .ok (.if_icmp .ge 75, 3) := by decide +kernel
theorem dX2_skipBlanks_13 : decode cX2_skipBlanks 13 = .ok (.aload_n 0, 1) := by decide +kernel
theorem dX2_skipBlanks_14 : decode cX2_skipBlanks 14 = .ok (.getfield 11, 3) := by decide +kernel
theorem dX2_skipBlanks_17 : decode cX2_skipBlanks 17 = .ok (.aload_n 0, 1) := by decide +kernel
theorem dX2_skipBlanks_18 : decode cX2_skipBlanks 18 = .ok (.getfield 89, 3) := by decide +kernel
theorem dX2_skipBlanks_2 : decode cX2_skipBlanks 2 = .ok (.aload_n 0, 1) := by decide +kernel
theorem dX2_skipBlanks_21 : decode cX2_skipBlanks 21 = .ok (.baload, 1) := by decide +kernel
theorem dX2_skipBlanks_22 : decode cX2_skipBlanks 22 = .ok (.sipush 255, 3) := by decide +kernel
theorem dX2_skipBlanks_25 : decode cX2_skipBlanks 25 = .ok (.iand, 1) := by decide +kernel
theorem dX2_skipBlanks_26 : decode cX2_skipBlanks 26 = .ok (.istore_n 2, 1) := by decide +kernel
theorem dX2_skipBlanks_27 : decode cX2_skipBlanks 27 = .ok (.iload_n 2, 1) := by decide +kernel
theorem dX2_skipBlanks_28 : decode cX2_skipBlanks 28 = .ok (.bipush 10, 2) := by decide +kernel
theorem dX2_skipBlanks_3 : decode cX2_skipBlanks 3 = .ok (.getfield 89, 3) := by decide +kernel
theorem dX2_skipBlanks_30 : decode cX2_skipBlanks 30 = .ok (.if_icmp .ne 8, 3) := by decide +kernel
theorem dX2_skipBlanks_33 : decode cX2_skipBlanks 33 = .ok (.iconst 0, 1) := by decide +kernel
theorem dX2_skipBlanks_34 : decode cX2_skipBlanks 34 = .ok (.istore_n 1, 1) := by decide +kernel
theorem dX2_skipBlanks_35 : decode cX2_skipBlanks 35 = .ok (.goto 37, 3) := by decide +kernel
theorem dX2_skipBlanks_38 : decode cX2_skipBlanks 38 = .ok (.iload_n 2, 1) := by decide +kernel
theorem dX2_skipBlanks_39 : decode cX2_skipBlanks 39 = .ok (.bipush 35, 2) := by decide +kernel
theorem dX2_skipBlanks_41 : decode cX2_skipBlanks 41 = .ok (.if_icmp .ne 8, 3) := by decide +kernel
theorem dX2_skipBlanks_44 : decode cX2_skipBlanks 44 = .ok (.iconst 1, 1) := by decide +kernel
theorem dX2_skipBlanks_45 : decode cX2_skipBlanks 45 = .ok (.istore_n 1, 1) := by decide +kernel
theorem dX2_skipBlanks_46 : decode cX2_skipBlanks 46 = .ok (.goto 26, 3) := by decide +kernel
theorem dX2_skipBlanks_49 : decode cX2_skipBlanks 49 = .ok (.iload_n 1, 1) := by decide +kernel
theorem dX2_skipBlanks_50 : decode cX2_skipBlanks 50 = .ok (.ifCond .ne 22, 3) := by decide +kernel
theorem dX2_skipBlanks_53 : decode cX2_skipBlanks 53 = .ok (.iload_n 2, 1) := by decide +kernel
theorem dX2_skipBlanks_54 : decode cX2_skipBlanks 54 = .ok (.bipush 9, 2) := by decide +kernel
theorem dX2_skipBlanks_56 : decode cX2_skipBlanks 56 = .ok (.if_icmp .eq 16, 3) := by decide +kernel
theorem dX2_skipBlanks_59 : decode cX2_skipBlanks 59 = .ok (.iload_n 2, 1) := by decide +kernel
theorem dX2_skipBlanks_6 : decode cX2_skipBlanks 6 = .ok (.aload_n 0, 1) := by decide +kernel
theorem dX2_skipBlanks_60 : decode cX2_skipBlanks 60 = .ok (.bipush 13, 2) := by decide +kernel
theorem dX2_skipBlanks_62 : decode cX2_skipBlanks 62 = .ok (.if_icmp .eq 10, 3) := by decide +kernel
theorem dX2_skipBlanks_65 : decode cX2_skipBlanks 65 = .ok (.iload_n 2, 1) := by decide +kernel
theorem dX2_skipBlanks_66 : decode cX2_skipBlanks 66 = .ok (.bipush 32, 2) := by decide +kernel
theorem dX2_skipBlanks_68 : decode cX2_skipBlanks 68 = .ok (.if_icmp .eq 4, 3) := by decide +kernel
theorem dX2_skipBlanks_7 : decode cX2_skipBlanks 7 = .ok (.getfield 61, 3) := by decide +kernel
theorem dX2_skipBlanks_71 : decode cX2_skipBlanks 71 = .ok (.return_, 1) := by decide +kernel
theorem dX2_skipBlanks_72 : decode cX2_skipBlanks 72 = .ok (.aload_n 0, 1) := by decide +kernel
theorem dX2_skipBlanks_73 : decode cX2_skipBlanks 73 = .ok (.dup, 1) := by decide +kernel
theorem dX2_skipBlanks_74 : decode cX2_skipBlanks 74 = .ok (.getfield 89, 3) := by decide +kernel
theorem dX2_skipBlanks_77 : decode cX2_skipBlanks 77 = .ok (.iconst 1, 1) := by decide +kernel
theorem dX2_skipBlanks_78 : decode cX2_skipBlanks 78 = .ok (.iadd, 1) := by decide +kernel
theorem dX2_skipBlanks_79 : decode cX2_skipBlanks 79 = .ok (.putfield 89, 3) := by decide +kernel
theorem dX2_skipBlanks_82 : decode cX2_skipBlanks 82 = .ok (.goto (-80), 3) := by decide +kernel
theorem dX2_skipBlanks_85 : decode cX2_skipBlanks 85 = .ok (.return_, 1) := by decide +kernel
noncomputable def k_X2_skipBlanks_72 (l1 : Int32) (s : t_S) : Option ((Int32 × t_S) ⊕ (t_S)) :=
 t_let (t_setI s 1 2 ((s.1 1 2) + (1 : Int32))) (fun s1 =>
 some (.inl (l1, s1)))
set_option maxRecDepth 4000 in
set_option maxHeartbeats 1000000 in
theorem B_X2_skipBlanks_72 {D : va_G} {cy : Nat → ClassId} {ad : Nat → Nat} {bs : Nat} {X : State → Heap → Prop} (l1 : Int32) (s : t_S) (Q : (Int32 × t_S) ⊕ (t_S) → Prop) (Hb2 : ∀ (y0 : Int32) (y1 : t_S), Q (.inl (y0, y1)) → mj_G D cy ad bs X cX2_skipBlanks 3 yX2_skipBlanks.cls none yX2_skipBlanks.name 0 0 0 1065 (t_P (fun v s' => v = none ∧ Q (.inr (s')))) 2 [(0, .ref 1), (1, .int (y0))] [] (t_m y1) 1065 0 0) (hk : t_hk (k_X2_skipBlanks_72 l1 s) Q) : mj_G D cy ad bs X cX2_skipBlanks 3 yX2_skipBlanks.cls none yX2_skipBlanks.name 0 0 0 1065 (t_P (fun v s' => v = none ∧ Q (.inr (s')))) 72 [(0, .ref 1), (1, .int l1)] [] (t_m s) 1065 0 0 := by
  refine mj_aload_n dX2_skipBlanks_72 0 rfl ?_
  refine mj_dup dX2_skipBlanks_73 rfl ?_
  refine t_getI dX2_skipBlanks_74 F_X2_89 qf_1_2 ?_
  refine mj_iconst (v := 1) dX2_skipBlanks_77 (by decide) ?_
  refine mj_iadd dX2_skipBlanks_78 ?_
  refine t_putIK dX2_skipBlanks_79 F_X2_89 qf_1_2 rfl (fun s1 ws1 => t_letE hk ws1 (fun hk => ?_))
  refine mj_goto 2 dX2_skipBlanks_82 (by decide) ?_
  exact t_somK hk (fun hf => Hb2 l1 s1 hf)
noncomputable def k_X2_skipBlanks_2 (l1 : Int32) (s : t_S) : Option ((Int32 × t_S) ⊕ (t_S)) :=
 if (s.1 1 1) ≤ (s.1 1 2) then ((some (s)).map Sum.inr)
 else (if t_ix (s.1 1 2) 12000 = true then
  if ((s.1 2 ((s.1 1 2).toNatClampNeg)) &&& (255 : Int32)) = (10 : Int32) then (k_X2_skipBlanks_72 0 s)
 else (if ((s.1 2 ((s.1 1 2).toNatClampNeg)) &&& (255 : Int32)) = (35 : Int32) then (k_X2_skipBlanks_72 1 s)
 else (if l1 = (0 : Int32) then (if ((s.1 2 ((s.1 1 2).toNatClampNeg)) &&& (255 : Int32)) = (9 : Int32) then (k_X2_skipBlanks_72 l1 s)
 else (if ((s.1 2 ((s.1 1 2).toNatClampNeg)) &&& (255 : Int32)) = (13 : Int32) then (k_X2_skipBlanks_72 l1 s)
 else (if ((s.1 2 ((s.1 1 2).toNatClampNeg)) &&& (255 : Int32)) = (32 : Int32) then (k_X2_skipBlanks_72 l1 s)
 else ((some (s)).map Sum.inr))))
 else (k_X2_skipBlanks_72 l1 s)))
else none)
set_option maxRecDepth 4000 in
set_option maxHeartbeats 1000000 in
theorem B_X2_skipBlanks_2 {D : va_G} {cy : Nat → ClassId} {ad : Nat → Nat} {bs : Nat} {X : State → Heap → Prop} (l1 : Int32) (s : t_S) (Q : (Int32 × t_S) ⊕ (t_S) → Prop) (Hb2 : ∀ (y0 : Int32) (y1 : t_S), Q (.inl (y0, y1)) → mj_G D cy ad bs X cX2_skipBlanks 3 yX2_skipBlanks.cls none yX2_skipBlanks.name 0 0 0 1065 (t_P (fun v s' => v = none ∧ Q (.inr (s')))) 2 [(0, .ref 1), (1, .int (y0))] [] (t_m y1) 1065 0 0) (hk : t_hk (k_X2_skipBlanks_2 l1 s) Q) : mj_G D cy ad bs X cX2_skipBlanks 3 yX2_skipBlanks.cls none yX2_skipBlanks.name 0 0 0 1065 (t_P (fun v s' => v = none ∧ Q (.inr (s')))) 2 [(0, .ref 1), (1, .int l1)] [] (t_m s) 1065 0 0 := by
  refine mj_aload_n dX2_skipBlanks_2 0 rfl ?_
  refine t_getI dX2_skipBlanks_3 F_X2_89 qf_1_2 ?_
  refine mj_aload_n dX2_skipBlanks_6 0 rfl ?_
  refine t_getI dX2_skipBlanks_7 F_X2_61 qf_1_1 ?_
  refine mj_icmp_ge 85 dX2_skipBlanks_10 (by decide) (fun z => t_posK hk z (fun hk => ?_)) (fun z => t_negK hk z (fun hk => ?_))
  · refine t_mapK hk (fun hk => ?_)
    exact t_somK hk (fun hf => t_vret dX2_skipBlanks_85 rfl ⟨rfl, hf⟩ (Nat.le_of_ble_eq_true rfl) (Nat.le_of_ble_eq_true rfl))
  · refine mj_aload_n dX2_skipBlanks_13 0 rfl ?_
    refine t_getR 2 dX2_skipBlanks_14 F_X2_11 qr_1_0 ?_
    refine mj_aload_n dX2_skipBlanks_17 0 rfl ?_
    refine t_getI dX2_skipBlanks_18 F_X2_89 qf_1_2 ?_
    refine t_chkK hk (fun c0 hk => ?_)
    refine t_bald dX2_skipBlanks_21 qa_2 (t_ixv c0) ?_
    refine mj_sipush (v := 255) dX2_skipBlanks_22 (by decide) ?_
    refine mj_iand dX2_skipBlanks_25 ?_
    refine mj_istore_n 2 (lv2 := [(2, .int ((s.1 2 ((s.1 1 2).toNatClampNeg)) &&& (255 : Int32))), (0, .ref 1), (1, .int l1)]) dX2_skipBlanks_26 rfl (by decide) rfl ?_
    refine mj_iload_n dX2_skipBlanks_27 0 rfl ?_
    refine mj_bipush (v := 10) dX2_skipBlanks_28 (by decide) ?_
    refine mj_icmp_ne 38 dX2_skipBlanks_30 (by decide) (fun z => t_negK hk z (fun hk => ?_)) (fun z => t_posK hk z (fun hk => ?_))
    · refine mj_iload_n dX2_skipBlanks_38 0 rfl ?_
      refine mj_bipush (v := 35) dX2_skipBlanks_39 (by decide) ?_
      refine mj_icmp_ne 49 dX2_skipBlanks_41 (by decide) (fun z => t_negK hk z (fun hk => ?_)) (fun z => t_posK hk z (fun hk => ?_))
      · refine mj_iload_n dX2_skipBlanks_49 2 rfl ?_
        refine mj_if_ne 72 dX2_skipBlanks_50 (by decide) (fun z => t_negK hk z (fun hk => ?_)) (fun z => t_posK hk z (fun hk => ?_))
        · refine mj_sublv [(0, .ref 1), (1, .int l1)] [1, 2] rfl ?_
          exact B_X2_skipBlanks_72 _ _ _ (fun y0 y1 hx => Hb2 y0 y1 hx) hk
        · refine mj_iload_n dX2_skipBlanks_53 0 rfl ?_
          refine mj_bipush (v := 9) dX2_skipBlanks_54 (by decide) ?_
          refine mj_icmp_eq 72 dX2_skipBlanks_56 (by decide) (fun z => t_posK hk z (fun hk => ?_)) (fun z => t_negK hk z (fun hk => ?_))
          · refine mj_sublv [(0, .ref 1), (1, .int l1)] [1, 2] rfl ?_
            exact B_X2_skipBlanks_72 _ _ _ (fun y0 y1 hx => Hb2 y0 y1 hx) hk
          · refine mj_iload_n dX2_skipBlanks_59 0 rfl ?_
            refine mj_bipush (v := 13) dX2_skipBlanks_60 (by decide) ?_
            refine mj_icmp_eq 72 dX2_skipBlanks_62 (by decide) (fun z => t_posK hk z (fun hk => ?_)) (fun z => t_negK hk z (fun hk => ?_))
            · refine mj_sublv [(0, .ref 1), (1, .int l1)] [1, 2] rfl ?_
              exact B_X2_skipBlanks_72 _ _ _ (fun y0 y1 hx => Hb2 y0 y1 hx) hk
            · refine mj_iload_n dX2_skipBlanks_65 0 rfl ?_
              refine mj_bipush (v := 32) dX2_skipBlanks_66 (by decide) ?_
              refine mj_icmp_eq 72 dX2_skipBlanks_68 (by decide) (fun z => t_posK hk z (fun hk => ?_)) (fun z => t_negK hk z (fun hk => ?_))
              · refine mj_sublv [(0, .ref 1), (1, .int l1)] [1, 2] rfl ?_
                exact B_X2_skipBlanks_72 _ _ _ (fun y0 y1 hx => Hb2 y0 y1 hx) hk
              · refine t_mapK hk (fun hk => ?_)
                exact t_somK hk (fun hf => t_vret dX2_skipBlanks_71 rfl ⟨rfl, hf⟩ (Nat.le_of_ble_eq_true rfl) (Nat.le_of_ble_eq_true rfl))
      · refine mj_iconst (v := 1) dX2_skipBlanks_44 (by decide) ?_
        refine mj_istore_n 1 (lv2 := [(1, .int 1), (2, .int ((s.1 2 ((s.1 1 2).toNatClampNeg)) &&& (255 : Int32))), (0, .ref 1)]) dX2_skipBlanks_45 rfl (by decide) rfl ?_
        refine mj_goto 72 dX2_skipBlanks_46 (by decide) ?_
        refine mj_sublv [(0, .ref 1), (1, .int 1)] [2, 0] rfl ?_
        exact B_X2_skipBlanks_72 _ _ _ (fun y0 y1 hx => Hb2 y0 y1 hx) hk
    · refine mj_iconst (v := 0) dX2_skipBlanks_33 (by decide) ?_
      refine mj_istore_n 1 (lv2 := [(1, .int 0), (2, .int ((s.1 2 ((s.1 1 2).toNatClampNeg)) &&& (255 : Int32))), (0, .ref 1)]) dX2_skipBlanks_34 rfl (by decide) rfl ?_
      refine mj_goto 72 dX2_skipBlanks_35 (by decide) ?_
      refine mj_sublv [(0, .ref 1), (1, .int 0)] [2, 0] rfl ?_
      exact B_X2_skipBlanks_72 _ _ _ (fun y0 y1 hx => Hb2 y0 y1 hx) hk
noncomputable def b_X2_skipBlanks_2 (x : Int32 × t_S) : Option ((Int32 × t_S) ⊕ (t_S)) := k_X2_skipBlanks_2 x.1 x.2
set_option maxRecDepth 4000 in
set_option maxHeartbeats 1000000 in
theorem LH_X2_skipBlanks_2 {D : va_G} {cy : Nat → ClassId} {ad : Nat → Nat} {bs : Nat} {X : State → Heap → Prop} : ∀ (n : Nat) (y0 : Int32) (y1 : t_S) (Q : t_S → Prop) (hk : t_hk (t_loop (b_X2_skipBlanks_2) n (y0, y1)) Q), mj_G D cy ad bs X cX2_skipBlanks 3 yX2_skipBlanks.cls none yX2_skipBlanks.name 0 0 0 1065 (t_P (fun v s' => v = none ∧ Q (s'))) 2 [(0, .ref 1), (1, .int (y0))] [] (t_m y1) 1065 0 0 := by
  intro n
  induction n with
  | zero => intro y0 y1 Q hk; obtain ⟨r, hr, _⟩ := hk; cases hr
  | succ n ih =>
    intro y0 y1 Q hk
    exact B_X2_skipBlanks_2 y0 y1 (fun y => t_lq (b_X2_skipBlanks_2) n Q y) (fun y0' y1' hy => ih y0' y1' Q hy) (t_lp hk)
noncomputable def f_X2_skipBlanks (s : t_S) : Option (t_S) :=
 t_loop (b_X2_skipBlanks_2) t_N (0, s)
set_option maxRecDepth 4000 in
set_option maxHeartbeats 1000000 in
theorem C_X2_skipBlanks (s : t_S) (r : t_S) (hr : f_X2_skipBlanks s = some r) : t_C yX2_skipBlanks cX2_skipBlanks 3 none 0 [.ref 1] s (fun v s' => v = none ∧ s' = r) := by
  refine t_C.imp (P := fun v s' => v = none ∧ (fun q => q = r) (s')) (t_C.of (by decide +kernel) (Nat.le_of_ble_eq_true rfl) ?_) (fun v s' hp => hp)
  intro D cy ad bs X
  have hk : t_hk (f_X2_skipBlanks s) (fun q => q = r) := ⟨r, hr, rfl⟩
  show mj_G D cy ad bs X cX2_skipBlanks 3 yX2_skipBlanks.cls none yX2_skipBlanks.name 0 0 0 1065 (t_P (fun v s' => v = none ∧ (fun q => q = r) (s'))) 0 [(0, .ref 1)] [] (t_m s) 1065 0 0
  refine mj_iconst (v := 0) dX2_skipBlanks_0 (by decide) ?_
  refine mj_istore_n 1 (lv2 := [(1, .int 0), (0, .ref 1)]) dX2_skipBlanks_1 rfl (by decide) rfl ?_
  refine mj_sublv [(0, .ref 1), (1, .int 0)] [1, 0] rfl ?_
  exact LH_X2_skipBlanks_2 _ 0 s _ hk

theorem dX2_scan_0 : decode cX2_scan 0 = .ok (.aload_n 0, 1) := by decide +kernel
theorem dX2_scan_1 : decode cX2_scan 1 = .ok (.iconst 0, 1) := by decide +kernel
theorem dX2_scan_10 : decode cX2_scan 10 = .ok (.iconst 0, 1) := by decide +kernel
theorem dX2_scan_100 : decode cX2_scan 100 = .ok (.aload_n 0, 1) := by decide +kernel
theorem dX2_scan_101 : decode cX2_scan 101 = .ok (.dup, 1) := by decide +kernel
theorem dX2_scan_102 : decode cX2_scan 102 = .ok (.getfield 86, 3) := by decide +kernel
theorem dX2_scan_105 : decode cX2_scan 105 = .ok (.iconst 1, 1) := by decide +kernel
theorem dX2_scan_106 : decode cX2_scan 106 = .ok (.iadd, 1) := by decide +kernel
theorem dX2_scan_107 : decode cX2_scan 107 = .ok (.putfield 86, 3) := by decide +kernel
theorem dX2_scan_11 : decode cX2_scan 11 = .ok (.istore_n 1, 1) := by decide +kernel
theorem dX2_scan_110 : decode cX2_scan 110 = .ok (.iinc 2 1, 3) := by decide +kernel
theorem dX2_scan_113 : decode cX2_scan 113 = .ok (.goto (-99), 3) := by decide +kernel
theorem dX2_scan_116 : decode cX2_scan 116 = .ok (.aload_n 0, 1) := by decide +kernel
theorem dX2_scan_117 : decode cX2_scan 117 = .ok (.iconst 0, 1) := by decide +kernel
theorem dX2_scan_118 : decode cX2_scan 118 = .ok (.putfield 103, 3) := by decide +kernel
theorem dX2_scan_12 : decode cX2_scan 12 = .ok (.iconst 0, 1) := by decide +kernel
theorem dX2_scan_121 : decode cX2_scan 121 = .ok (.aload_n 0, 1) := by decide +kernel
theorem dX2_scan_122 : decode cX2_scan 122 = .ok (.iconst 0, 1) := by decide +kernel
theorem dX2_scan_123 : decode cX2_scan 123 = .ok (.putfield 106, 3) := by decide +kernel
theorem dX2_scan_126 : decode cX2_scan 126 = .ok (.aload_n 0, 1) := by decide +kernel
theorem dX2_scan_127 : decode cX2_scan 127 = .ok (.iconst (-1), 1) := by decide +kernel
theorem dX2_scan_128 : decode cX2_scan 128 = .ok (.putfield 109, 3) := by decide +kernel
theorem dX2_scan_13 : decode cX2_scan 13 = .ok (.istore_n 2, 1) := by decide +kernel
theorem dX2_scan_131 : decode cX2_scan 131 = .ok (.aload_n 0, 1) := by decide +kernel
theorem dX2_scan_132 : decode cX2_scan 132 = .ok (.invokevirtual 80, 3) := by decide +kernel
theorem dX2_scan_135 : decode cX2_scan 135 = .ok (.return_, 1) := by decide +kernel
theorem dX2_scan_14 : decode cX2_scan 14 = .ok (.iload_n 2, 1) := by decide +kernel
theorem dX2_scan_15 : decode cX2_scan 15 = .ok (.sipush 12000, 3) := by decide +kernel
theorem dX2_scan_18 : decode cX2_scan 18 = .ok (.if_icmp .gt 98, 3) := by decide +kernel
theorem dX2_scan_2 : decode cX2_scan 2 = .ok (.putfield 86, 3) := by decide +kernel
theorem dX2_scan_21 : decode cX2_scan 21 = .ok (.iload_n 1, 1) := by decide +kernel
theorem dX2_scan_22 : decode cX2_scan 22 = .ok (.iconst 4, 1) := by decide +kernel
theorem dX2_scan_23 : decode cX2_scan 23 = .ok (.if_icmp .eq 93, 3) := by decide +kernel
theorem dX2_scan_26 : decode cX2_scan 26 = .ok (.iload_n 1, 1) := by decide +kernel
theorem dX2_scan_27 : decode cX2_scan 27 = .ok (.iconst 5, 1) := by decide +kernel
theorem dX2_scan_28 : decode cX2_scan 28 = .ok (.if_icmp .eq 88, 3) := by decide +kernel
theorem dX2_scan_31 : decode cX2_scan 31 = .ok (.aload_n 0, 1) := by decide +kernel
theorem dX2_scan_32 : decode cX2_scan 32 = .ok (.invokevirtual 92, 3) := by decide +kernel
theorem dX2_scan_35 : decode cX2_scan 35 = .ok (.aload_n 0, 1) := by decide +kernel
theorem dX2_scan_36 : decode cX2_scan 36 = .ok (.lconst 0, 1) := by decide +kernel
theorem dX2_scan_37 : decode cX2_scan 37 = .ok (.putfield 95, 3) := by decide +kernel
theorem dX2_scan_40 : decode cX2_scan 40 = .ok (.aload_n 0, 1) := by decide +kernel
theorem dX2_scan_41 : decode cX2_scan 41 = .ok (.getfield 19, 3) := by decide +kernel
theorem dX2_scan_44 : decode cX2_scan 44 = .ok (.iload_n 2, 1) := by decide +kernel
theorem dX2_scan_45 : decode cX2_scan 45 = .ok (.aload_n 0, 1) := by decide +kernel
theorem dX2_scan_46 : decode cX2_scan 46 = .ok (.getfield 89, 3) := by decide +kernel
theorem dX2_scan_49 : decode cX2_scan 49 = .ok (.iastore, 1) := by decide +kernel
theorem dX2_scan_5 : decode cX2_scan 5 = .ok (.aload_n 0, 1) := by decide +kernel
theorem dX2_scan_50 : decode cX2_scan 50 = .ok (.aload_n 0, 1) := by decide +kernel
theorem dX2_scan_51 : decode cX2_scan 51 = .ok (.getfield 89, 3) := by decide +kernel
theorem dX2_scan_54 : decode cX2_scan 54 = .ok (.aload_n 0, 1) := by decide +kernel
theorem dX2_scan_55 : decode cX2_scan 55 = .ok (.getfield 61, 3) := by decide +kernel
theorem dX2_scan_58 : decode cX2_scan 58 = .ok (.if_icmp .lt 7, 3) := by decide +kernel
theorem dX2_scan_6 : decode cX2_scan 6 = .ok (.iconst 0, 1) := by decide +kernel
theorem dX2_scan_61 : decode cX2_scan 61 = .ok (.iconst 4, 1) := by decide +kernel
theorem dX2_scan_62 : decode cX2_scan 62 = .ok (.goto 20, 3) := by decide +kernel
theorem dX2_scan_65 : decode cX2_scan 65 = .ok (.aload_n 0, 1) := by decide +kernel
theorem dX2_scan_66 : decode cX2_scan 66 = .ok (.aload_n 0, 1) := by decide +kernel
theorem dX2_scan_67 : decode cX2_scan 67 = .ok (.getfield 11, 3) := by decide +kernel
theorem dX2_scan_7 : decode cX2_scan 7 = .ok (.putfield 89, 3) := by decide +kernel
theorem dX2_scan_70 : decode cX2_scan 70 = .ok (.aload_n 0, 1) := by decide +kernel
theorem dX2_scan_71 : decode cX2_scan 71 = .ok (.getfield 89, 3) := by decide +kernel
theorem dX2_scan_74 : decode cX2_scan 74 = .ok (.baload, 1) := by decide +kernel
theorem dX2_scan_75 : decode cX2_scan 75 = .ok (.sipush 255, 3) := by decide +kernel
theorem dX2_scan_78 : decode cX2_scan 78 = .ok (.iand, 1) := by decide +kernel
theorem dX2_scan_79 : decode cX2_scan 79 = .ok (.invokevirtual 99, 3) := by decide +kernel
theorem dX2_scan_82 : decode cX2_scan 82 = .ok (.istore_n 1, 1) := by decide +kernel
theorem dX2_scan_83 : decode cX2_scan 83 = .ok (.aload_n 0, 1) := by decide +kernel
theorem dX2_scan_84 : decode cX2_scan 84 = .ok (.getfield 15, 3) := by decide +kernel
theorem dX2_scan_87 : decode cX2_scan 87 = .ok (.iload_n 2, 1) := by decide +kernel
theorem dX2_scan_88 : decode cX2_scan 88 = .ok (.iload_n 1, 1) := by decide +kernel
theorem dX2_scan_89 : decode cX2_scan 89 = .ok (.iastore, 1) := by decide +kernel
theorem dX2_scan_90 : decode cX2_scan 90 = .ok (.aload_n 0, 1) := by decide +kernel
theorem dX2_scan_91 : decode cX2_scan 91 = .ok (.getfield 22, 3) := by decide +kernel
theorem dX2_scan_94 : decode cX2_scan 94 = .ok (.iload_n 2, 1) := by decide +kernel
theorem dX2_scan_95 : decode cX2_scan 95 = .ok (.aload_n 0, 1) := by decide +kernel
theorem dX2_scan_96 : decode cX2_scan 96 = .ok (.getfield 95, 3) := by decide +kernel
theorem dX2_scan_99 : decode cX2_scan 99 = .ok (.lastore, 1) := by decide +kernel
noncomputable def k_X2_scan_82 (l2 : Int32) (k0 : Int32) (s : t_S) : Option ((Int32 × Int32 × t_S) ⊕ (t_S)) :=
 if t_ix l2 12001 = true then
  t_let (t_setI s 3 (l2.toNatClampNeg) k0) (fun s1 =>
 t_let (t_setJ s1 5 (l2.toNatClampNeg) (s1.2.1 1 10)) (fun s2 =>
 t_let (t_setI s2 1 6 ((s2.1 1 6) + (1 : Int32))) (fun s3 =>
 some (.inl (k0, (l2 + 1), s3)))))
else none
set_option maxRecDepth 4000 in
set_option maxHeartbeats 1000000 in
theorem B_X2_scan_82 {D : va_G} {cy : Nat → ClassId} {ad : Nat → Nat} {bs : Nat} {X : State → Heap → Prop} (l2 : Int32) (k0 : Int32) (s : t_S) (Q : (Int32 × Int32 × t_S) ⊕ (t_S) → Prop) (Hb14 : ∀ (y0 : Int32) (y1 : Int32) (y2 : t_S), Q (.inl (y0, y1, y2)) → mj_G D cy ad bs X cX2_scan 3 yX2_scan.cls none yX2_scan.name 4 0 0 1065 (t_P (fun v s' => v = none ∧ Q (.inr (s')))) 14 [(0, .ref 1), (1, .int (y0)), (2, .int (y1))] [] (t_m y2) 1065 0 0) (hk : t_hk (k_X2_scan_82 l2 k0 s) Q) : mj_G D cy ad bs X cX2_scan 3 yX2_scan.cls none yX2_scan.name 4 0 0 1065 (t_P (fun v s' => v = none ∧ Q (.inr (s')))) 82 [(0, .ref 1), (2, .int l2)] [.int k0] (t_m s) 1065 0 0 := by
  refine mj_istore_n 1 (lv2 := [(1, .int k0), (0, .ref 1), (2, .int l2)]) dX2_scan_82 rfl (by decide) rfl ?_
  refine mj_aload_n dX2_scan_83 1 rfl ?_
  refine t_getR 3 dX2_scan_84 F_X2_15 qr_1_3 ?_
  refine mj_iload_n dX2_scan_87 2 rfl ?_
  refine mj_iload_n dX2_scan_88 0 rfl ?_
  refine t_chkK hk (fun c0 hk => ?_)
  refine t_iastK dX2_scan_89 qa_3 (t_ixv c0) (fun s1 ws1 => t_letE hk ws1 (fun hk => ?_))
  refine mj_aload_n dX2_scan_90 1 rfl ?_
  refine t_getR 5 dX2_scan_91 F_X2_22 qr_1_5 ?_
  refine mj_iload_n dX2_scan_94 2 rfl ?_
  refine mj_aload_n dX2_scan_95 1 rfl ?_
  refine t_getJ dX2_scan_96 F_X2_95 qf_1_10 ?_
  refine t_lastK dX2_scan_99 qa_5 (t_ixv c0) (fun s2 ws2 => t_letE hk ws2 (fun hk => ?_))
  refine mj_aload_n dX2_scan_100 1 rfl ?_
  refine mj_dup dX2_scan_101 rfl ?_
  refine t_getI dX2_scan_102 F_X2_86 qf_1_6 ?_
  refine mj_iconst (v := 1) dX2_scan_105 (by decide) ?_
  refine mj_iadd dX2_scan_106 ?_
  refine t_putIK dX2_scan_107 F_X2_86 qf_1_6 rfl (fun s3 ws3 => t_letE hk ws3 (fun hk => ?_))
  refine mj_iinc (k := 2) (v := (l2 + 1)) (lv2 := [(2, .int (l2 + 1)), (1, .int k0), (0, .ref 1)]) dX2_scan_110 rfl rfl (by decide) rfl ?_
  refine mj_goto 14 dX2_scan_113 (by decide) ?_
  refine mj_sublv [(0, .ref 1), (1, .int k0), (2, .int (l2 + 1))] [2, 1, 0] rfl ?_
  exact t_somK hk (fun hf => Hb14 k0 (l2 + 1) s3 hf)
noncomputable def k_X2_scan_116 (s : t_S) : Option (t_S) :=
 t_let (t_setI s 1 11 (0 : Int32)) (fun s1 =>
 t_let (t_setI s1 1 12 (0 : Int32)) (fun s2 =>
 t_let (t_setI s2 1 7 (-1 : Int32)) (fun s3 =>
 (f_X2_advance s3).bind (fun r1 =>
 some (r1)))))
set_option maxRecDepth 4000 in
set_option maxHeartbeats 1000000 in
theorem B_X2_scan_116 {D : va_G} {cy : Nat → ClassId} {ad : Nat → Nat} {bs : Nat} {X : State → Heap → Prop} (s : t_S) (Q : t_S → Prop) (hk : t_hk (k_X2_scan_116 s) Q) : mj_G D cy ad bs X cX2_scan 3 yX2_scan.cls none yX2_scan.name 4 0 0 1065 (t_P (fun v s' => v = none ∧ Q (s'))) 116 [(0, .ref 1)] [] (t_m s) 1065 0 0 := by
  refine mj_aload_n dX2_scan_116 0 rfl ?_
  refine mj_iconst (v := 0) dX2_scan_117 (by decide) ?_
  refine t_putIK dX2_scan_118 F_X2_103 qf_1_11 rfl (fun s1 ws1 => t_letE hk ws1 (fun hk => ?_))
  refine mj_aload_n dX2_scan_121 0 rfl ?_
  refine mj_iconst (v := 0) dX2_scan_122 (by decide) ?_
  refine t_putIK dX2_scan_123 F_X2_106 qf_1_12 rfl (fun s2 ws2 => t_letE hk ws2 (fun hk => ?_))
  refine mj_aload_n dX2_scan_126 0 rfl ?_
  refine mj_iconst (v := (-1)) dX2_scan_127 (by decide) ?_
  refine t_putIK dX2_scan_128 F_X2_109 qf_1_7 rfl (fun s3 ws3 => t_letE hk ws3 (fun hk => ?_))
  refine mj_aload_n dX2_scan_131 0 rfl ?_
  refine t_bndK hk (fun r1 er1 hk => ?_)
  refine t_callVvE dX2_scan_132 M_X2_advance (C_X2_advance _ _ er1) ML_X2_80 IM_X2_advance SE_X2_advance qc_1 rfl (As := []) rfl rfl (Nat.le_of_ble_eq_true rfl) (Nat.le_of_ble_eq_true rfl) (Nat.le_of_ble_eq_true rfl) (Nat.le_of_ble_eq_true rfl) ?_
  exact t_somK hk (fun hf => t_vret dX2_scan_135 rfl ⟨rfl, hf⟩ (Nat.le_of_ble_eq_true rfl) (Nat.le_of_ble_eq_true rfl))
noncomputable def k_X2_scan_14 (l1 : Int32) (l2 : Int32) (s : t_S) : Option ((Int32 × Int32 × t_S) ⊕ (t_S)) :=
 if (12000 : Int32) < l2 then ((k_X2_scan_116 s).map Sum.inr)
 else (if l1 = (4 : Int32) then ((k_X2_scan_116 s).map Sum.inr)
 else (if l1 = (5 : Int32) then ((k_X2_scan_116 s).map Sum.inr)
 else ((f_X2_skipBlanks s).bind (fun r1 =>
 t_let (t_setJ r1 1 10 (0 : Int64)) (fun s1 =>
 if t_ix l2 12001 = true then
  t_let (t_setI s1 4 (l2.toNatClampNeg) (s1.1 1 2)) (fun s2 =>
 if (s2.1 1 2) < (s2.1 1 1) then (if t_ix (s2.1 1 2) 12000 = true then
  (f_X2_readToken ((s2.1 2 ((s2.1 1 2).toNatClampNeg)) &&& (255 : Int32)) s2).bind (fun r4 =>
 k_X2_scan_82 l2 r4.1 r4.2)
else none)
 else (k_X2_scan_82 l2 4 s2))
else none)))))
set_option maxRecDepth 4000 in
set_option maxHeartbeats 1000000 in
theorem B_X2_scan_14 {D : va_G} {cy : Nat → ClassId} {ad : Nat → Nat} {bs : Nat} {X : State → Heap → Prop} (l1 : Int32) (l2 : Int32) (s : t_S) (Q : (Int32 × Int32 × t_S) ⊕ (t_S) → Prop) (Hb14 : ∀ (y0 : Int32) (y1 : Int32) (y2 : t_S), Q (.inl (y0, y1, y2)) → mj_G D cy ad bs X cX2_scan 3 yX2_scan.cls none yX2_scan.name 4 0 0 1065 (t_P (fun v s' => v = none ∧ Q (.inr (s')))) 14 [(0, .ref 1), (1, .int (y0)), (2, .int (y1))] [] (t_m y2) 1065 0 0) (hk : t_hk (k_X2_scan_14 l1 l2 s) Q) : mj_G D cy ad bs X cX2_scan 3 yX2_scan.cls none yX2_scan.name 4 0 0 1065 (t_P (fun v s' => v = none ∧ Q (.inr (s')))) 14 [(0, .ref 1), (1, .int l1), (2, .int l2)] [] (t_m s) 1065 0 0 := by
  refine mj_iload_n dX2_scan_14 2 rfl ?_
  refine mj_sipush (v := 12000) dX2_scan_15 (by decide) ?_
  refine mj_icmp_gt 116 dX2_scan_18 (by decide) (fun z => t_posK hk z (fun hk => ?_)) (fun z => t_negK hk z (fun hk => ?_))
  · refine mj_sublv [(0, .ref 1)] [0] rfl ?_
    refine t_mapK hk (fun hk => ?_)
    exact B_X2_scan_116 _ _ hk
  · refine mj_iload_n dX2_scan_21 1 rfl ?_
    refine mj_iconst (v := 4) dX2_scan_22 (by decide) ?_
    refine mj_icmp_eq 116 dX2_scan_23 (by decide) (fun z => t_posK hk z (fun hk => ?_)) (fun z => t_negK hk z (fun hk => ?_))
    · refine mj_sublv [(0, .ref 1)] [0] rfl ?_
      refine t_mapK hk (fun hk => ?_)
      exact B_X2_scan_116 _ _ hk
    · refine mj_iload_n dX2_scan_26 1 rfl ?_
      refine mj_iconst (v := 5) dX2_scan_27 (by decide) ?_
      refine mj_icmp_eq 116 dX2_scan_28 (by decide) (fun z => t_posK hk z (fun hk => ?_)) (fun z => t_negK hk z (fun hk => ?_))
      · refine mj_sublv [(0, .ref 1)] [0] rfl ?_
        refine t_mapK hk (fun hk => ?_)
        exact B_X2_scan_116 _ _ hk
      · refine mj_aload_n dX2_scan_31 0 rfl ?_
        refine t_bndK hk (fun r1 er1 hk => ?_)
        refine t_callVvE dX2_scan_32 M_X2_skipBlanks (C_X2_skipBlanks _ _ er1) ML_X2_92 IM_X2_skipBlanks SE_X2_skipBlanks qc_1 rfl (As := []) rfl rfl (Nat.le_of_ble_eq_true rfl) (Nat.le_of_ble_eq_true rfl) (Nat.le_of_ble_eq_true rfl) (Nat.le_of_ble_eq_true rfl) ?_
        refine mj_aload_n dX2_scan_35 0 rfl ?_
        refine mj_lconst (v := 0) dX2_scan_36 (by decide) ?_
        refine t_putJK dX2_scan_37 F_X2_95 qf_1_10 rfl (fun s1 ws1 => t_letE hk ws1 (fun hk => ?_))
        refine mj_aload_n dX2_scan_40 0 rfl ?_
        refine t_getR 4 dX2_scan_41 F_X2_19 qr_1_4 ?_
        refine mj_iload_n dX2_scan_44 2 rfl ?_
        refine mj_aload_n dX2_scan_45 0 rfl ?_
        refine t_getI dX2_scan_46 F_X2_89 qf_1_2 ?_
        refine t_chkK hk (fun c1 hk => ?_)
        refine t_iastK dX2_scan_49 qa_4 (t_ixv c1) (fun s2 ws2 => t_letE hk ws2 (fun hk => ?_))
        refine mj_aload_n dX2_scan_50 0 rfl ?_
        refine t_getI dX2_scan_51 F_X2_89 qf_1_2 ?_
        refine mj_aload_n dX2_scan_54 0 rfl ?_
        refine t_getI dX2_scan_55 F_X2_61 qf_1_1 ?_
        refine mj_icmp_lt 65 dX2_scan_58 (by decide) (fun z => t_posK hk z (fun hk => ?_)) (fun z => t_negK hk z (fun hk => ?_))
        · refine mj_aload_n dX2_scan_65 0 rfl ?_
          refine mj_aload_n dX2_scan_66 0 rfl ?_
          refine t_getR 2 dX2_scan_67 F_X2_11 qr_1_0 ?_
          refine mj_aload_n dX2_scan_70 0 rfl ?_
          refine t_getI dX2_scan_71 F_X2_89 qf_1_2 ?_
          refine t_chkK hk (fun c2 hk => ?_)
          refine t_bald dX2_scan_74 qa_2 (t_ixv c2) ?_
          refine mj_sipush (v := 255) dX2_scan_75 (by decide) ?_
          refine mj_iand dX2_scan_78 ?_
          refine t_bndK hk (fun r4 er4 hk => ?_)
          refine t_callViE dX2_scan_79 M_X2_readToken (C_X2_readToken _ _ _ er4) ML_X2_99 IM_X2_readToken SE_X2_readToken qc_1 rfl (As := [.int ((s2.1 2 ((s2.1 1 2).toNatClampNeg)) &&& (255 : Int32))]) rfl rfl (Nat.le_of_ble_eq_true rfl) (Nat.le_of_ble_eq_true rfl) (Nat.le_of_ble_eq_true rfl) (Nat.le_of_ble_eq_true rfl) ?_
          refine mj_sublv [(0, .ref 1), (2, .int l2)] [0, 2] rfl ?_
          exact B_X2_scan_82 _ _ _ _ (fun y0 y1 y2 hx => Hb14 y0 y1 y2 hx) hk
        · refine mj_iconst (v := 4) dX2_scan_61 (by decide) ?_
          refine mj_goto 82 dX2_scan_62 (by decide) ?_
          refine mj_sublv [(0, .ref 1), (2, .int l2)] [0, 2] rfl ?_
          exact B_X2_scan_82 _ _ _ _ (fun y0 y1 y2 hx => Hb14 y0 y1 y2 hx) hk
noncomputable def b_X2_scan_14 (x : Int32 × Int32 × t_S) : Option ((Int32 × Int32 × t_S) ⊕ (t_S)) := k_X2_scan_14 x.1 x.2.1 x.2.2
set_option maxRecDepth 4000 in
set_option maxHeartbeats 1000000 in
theorem LH_X2_scan_14 {D : va_G} {cy : Nat → ClassId} {ad : Nat → Nat} {bs : Nat} {X : State → Heap → Prop} : ∀ (n : Nat) (y0 : Int32) (y1 : Int32) (y2 : t_S) (Q : t_S → Prop) (hk : t_hk (t_loop (b_X2_scan_14) n (y0, y1, y2)) Q), mj_G D cy ad bs X cX2_scan 3 yX2_scan.cls none yX2_scan.name 4 0 0 1065 (t_P (fun v s' => v = none ∧ Q (s'))) 14 [(0, .ref 1), (1, .int (y0)), (2, .int (y1))] [] (t_m y2) 1065 0 0 := by
  intro n
  induction n with
  | zero => intro y0 y1 y2 Q hk; obtain ⟨r, hr, _⟩ := hk; cases hr
  | succ n ih =>
    intro y0 y1 y2 Q hk
    exact B_X2_scan_14 y0 y1 y2 (fun y => t_lq (b_X2_scan_14) n Q y) (fun y0' y1' y2' hy => ih y0' y1' y2' Q hy) (t_lp hk)
noncomputable def f_X2_scan (s : t_S) : Option (t_S) :=
 t_let (t_setI s 1 6 (0 : Int32)) (fun s1 =>
 t_let (t_setI s1 1 2 (0 : Int32)) (fun s2 =>
 t_loop (b_X2_scan_14) t_N (0, 0, s2)))
set_option maxRecDepth 4000 in
set_option maxHeartbeats 1000000 in
theorem C_X2_scan (s : t_S) (r : t_S) (hr : f_X2_scan s = some r) : t_C yX2_scan cX2_scan 3 none 4 [.ref 1] s (fun v s' => v = none ∧ s' = r) := by
  refine t_C.imp (P := fun v s' => v = none ∧ (fun q => q = r) (s')) (t_C.of (by decide +kernel) (Nat.le_of_ble_eq_true rfl) ?_) (fun v s' hp => hp)
  intro D cy ad bs X
  have hk : t_hk (f_X2_scan s) (fun q => q = r) := ⟨r, hr, rfl⟩
  show mj_G D cy ad bs X cX2_scan 3 yX2_scan.cls none yX2_scan.name 4 0 0 1065 (t_P (fun v s' => v = none ∧ (fun q => q = r) (s'))) 0 [(0, .ref 1)] [] (t_m s) 1065 0 0
  refine mj_aload_n dX2_scan_0 0 rfl ?_
  refine mj_iconst (v := 0) dX2_scan_1 (by decide) ?_
  refine t_putIK dX2_scan_2 F_X2_86 qf_1_6 rfl (fun s1 ws1 => t_letE hk ws1 (fun hk => ?_))
  refine mj_aload_n dX2_scan_5 0 rfl ?_
  refine mj_iconst (v := 0) dX2_scan_6 (by decide) ?_
  refine t_putIK dX2_scan_7 F_X2_89 qf_1_2 rfl (fun s2 ws2 => t_letE hk ws2 (fun hk => ?_))
  refine mj_iconst (v := 0) dX2_scan_10 (by decide) ?_
  refine mj_istore_n 1 (lv2 := [(1, .int 0), (0, .ref 1)]) dX2_scan_11 rfl (by decide) rfl ?_
  refine mj_iconst (v := 0) dX2_scan_12 (by decide) ?_
  refine mj_istore_n 2 (lv2 := [(2, .int 0), (1, .int 0), (0, .ref 1)]) dX2_scan_13 rfl (by decide) rfl ?_
  refine mj_sublv [(0, .ref 1), (1, .int 0), (2, .int 0)] [2, 1, 0] rfl ?_
  exact LH_X2_scan_14 _ 0 0 s2 _ hk

theorem dX3_clear_0 : decode cX3_clear 0 = .ok (.aload_n 0, 1) := by decide +kernel
theorem dX3_clear_1 : decode cX3_clear 1 = .ok (.iconst 0, 1) := by decide +kernel
theorem dX3_clear_10 : decode cX3_clear 10 = .ok (.aload_n 0, 1) := by decide +kernel
theorem dX3_clear_11 : decode cX3_clear 11 = .ok (.iconst 0, 1) := by decide +kernel
theorem dX3_clear_12 : decode cX3_clear 12 = .ok (.putfield 41, 3) := by decide +kernel
theorem dX3_clear_15 : decode cX3_clear 15 = .ok (.return_, 1) := by decide +kernel
theorem dX3_clear_2 : decode cX3_clear 2 = .ok (.putfield 34, 3) := by decide +kernel
theorem dX3_clear_5 : decode cX3_clear 5 = .ok (.aload_n 0, 1) := by decide +kernel
theorem dX3_clear_6 : decode cX3_clear 6 = .ok (.iconst 0, 1) := by decide +kernel
theorem dX3_clear_7 : decode cX3_clear 7 = .ok (.putfield 38, 3) := by decide +kernel
noncomputable def f_X3_clear (s : t_S) : Option (t_S) :=
 t_let (t_setI s 846 6 (0 : Int32)) (fun s1 =>
 t_let (t_setI s1 846 7 (0 : Int32)) (fun s2 =>
 t_let (t_setI s2 846 8 (0 : Int32)) (fun s3 =>
 some (s3))))
set_option maxRecDepth 4000 in
set_option maxHeartbeats 1000000 in
theorem C_X3_clear (s : t_S) (r : t_S) (hr : f_X3_clear s = some r) : t_C yX3_clear cX3_clear 1 none 0 [.ref 846] s (fun v s' => v = none ∧ s' = r) := by
  refine t_C.imp (P := fun v s' => v = none ∧ (fun q => q = r) (s')) (t_C.of (by decide +kernel) (Nat.le_of_ble_eq_true rfl) ?_) (fun v s' hp => hp)
  intro D cy ad bs X
  have hk : t_hk (f_X3_clear s) (fun q => q = r) := ⟨r, hr, rfl⟩
  show mj_G D cy ad bs X cX3_clear 1 yX3_clear.cls none yX3_clear.name 0 0 0 1065 (t_P (fun v s' => v = none ∧ (fun q => q = r) (s'))) 0 [(0, .ref 846)] [] (t_m s) 1065 0 0
  refine mj_aload_n dX3_clear_0 0 rfl ?_
  refine mj_iconst (v := 0) dX3_clear_1 (by decide) ?_
  refine t_putIK dX3_clear_2 F_X3_34 qf_846_6 rfl (fun s1 ws1 => t_letE hk ws1 (fun hk => ?_))
  refine mj_aload_n dX3_clear_5 0 rfl ?_
  refine mj_iconst (v := 0) dX3_clear_6 (by decide) ?_
  refine t_putIK dX3_clear_7 F_X3_38 qf_846_7 rfl (fun s2 ws2 => t_letE hk ws2 (fun hk => ?_))
  refine mj_aload_n dX3_clear_10 0 rfl ?_
  refine mj_iconst (v := 0) dX3_clear_11 (by decide) ?_
  refine t_putIK dX3_clear_12 F_X3_41 qf_846_8 rfl (fun s3 ws3 => t_letE hk ws3 (fun hk => ?_))
  exact t_somK hk (fun hf => t_vret dX3_clear_15 rfl ⟨rfl, hf⟩ (Nat.le_of_ble_eq_true rfl) (Nat.le_of_ble_eq_true rfl))

theorem dX6_startReading_0 : decode cX6_startReading 0 = .ok (.aload_n 0, 1) := by decide +kernel
theorem dX6_startReading_1 : decode cX6_startReading 1 = .ok (.iconst 0, 1) := by decide +kernel
theorem dX6_startReading_10 : decode cX6_startReading 10 = .ok (.aload_n 0, 1) := by decide +kernel
theorem dX6_startReading_11 : decode cX6_startReading 11 = .ok (.iconst 0, 1) := by decide +kernel
theorem dX6_startReading_12 : decode cX6_startReading 12 = .ok (.putfield 131, 3) := by decide +kernel
theorem dX6_startReading_15 : decode cX6_startReading 15 = .ok (.aload_n 0, 1) := by decide +kernel
theorem dX6_startReading_16 : decode cX6_startReading 16 = .ok (.iconst (-1), 1) := by decide +kernel
theorem dX6_startReading_17 : decode cX6_startReading 17 = .ok (.putfield 134, 3) := by decide +kernel
theorem dX6_startReading_2 : decode cX6_startReading 2 = .ok (.putfield 106, 3) := by decide +kernel
theorem dX6_startReading_20 : decode cX6_startReading 20 = .ok (.aload_n 0, 1) := by decide +kernel
theorem dX6_startReading_21 : decode cX6_startReading 21 = .ok (.iconst (-1), 1) := by decide +kernel
theorem dX6_startReading_22 : decode cX6_startReading 22 = .ok (.putfield 137, 3) := by decide +kernel
theorem dX6_startReading_25 : decode cX6_startReading 25 = .ok (.aload_n 0, 1) := by decide +kernel
theorem dX6_startReading_26 : decode cX6_startReading 26 = .ok (.iconst (-1), 1) := by decide +kernel
theorem dX6_startReading_27 : decode cX6_startReading 27 = .ok (.putfield 140, 3) := by decide +kernel
theorem dX6_startReading_30 : decode cX6_startReading 30 = .ok (.aload_n 0, 1) := by decide +kernel
theorem dX6_startReading_31 : decode cX6_startReading 31 = .ok (.iconst 0, 1) := by decide +kernel
theorem dX6_startReading_32 : decode cX6_startReading 32 = .ok (.putfield 116, 3) := by decide +kernel
theorem dX6_startReading_35 : decode cX6_startReading 35 = .ok (.aload_n 0, 1) := by decide +kernel
theorem dX6_startReading_36 : decode cX6_startReading 36 = .ok (.getfield 18, 3) := by decide +kernel
theorem dX6_startReading_39 : decode cX6_startReading 39 = .ok (.invokevirtual 143, 3) := by decide +kernel
theorem dX6_startReading_42 : decode cX6_startReading 42 = .ok (.aload_n 0, 1) := by decide +kernel
theorem dX6_startReading_43 : decode cX6_startReading 43 = .ok (.getfield 28, 3) := by decide +kernel
theorem dX6_startReading_46 : decode cX6_startReading 46 = .ok (.invokevirtual 144, 3) := by decide +kernel
theorem dX6_startReading_49 : decode cX6_startReading 49 = .ok (.return_, 1) := by decide +kernel
theorem dX6_startReading_5 : decode cX6_startReading 5 = .ok (.aload_n 0, 1) := by decide +kernel
theorem dX6_startReading_6 : decode cX6_startReading 6 = .ok (.iconst 0, 1) := by decide +kernel
theorem dX6_startReading_7 : decode cX6_startReading 7 = .ok (.putfield 128, 3) := by decide +kernel
noncomputable def f_X6_startReading (s : t_S) : Option (t_S) :=
 t_let (t_setI s 845 10 (0 : Int32)) (fun s1 =>
 t_let (t_setI s1 845 7 (0 : Int32)) (fun s2 =>
 t_let (t_setI s2 845 9 (0 : Int32)) (fun s3 =>
 t_let (t_setI s3 845 12 (-1 : Int32)) (fun s4 =>
 t_let (t_setI s4 845 13 (-1 : Int32)) (fun s5 =>
 t_let (t_setI s5 845 14 (-1 : Int32)) (fun s6 =>
 t_let (t_setI s6 845 15 (0 : Int32)) (fun s7 =>
 (f_X3_clear s7).bind (fun r1 =>
 (f_X2_scan r1).bind (fun r2 =>
 some (r2))))))))))
set_option maxRecDepth 4000 in
set_option maxHeartbeats 1000000 in
theorem C_X6_startReading (s : t_S) (r : t_S) (hr : f_X6_startReading s = some r) : t_C yX6_startReading cX6_startReading 1 none 5 [.ref 845] s (fun v s' => v = none ∧ s' = r) := by
  refine t_C.imp (P := fun v s' => v = none ∧ (fun q => q = r) (s')) (t_C.of (by decide +kernel) (Nat.le_of_ble_eq_true rfl) ?_) (fun v s' hp => hp)
  intro D cy ad bs X
  have hk : t_hk (f_X6_startReading s) (fun q => q = r) := ⟨r, hr, rfl⟩
  show mj_G D cy ad bs X cX6_startReading 1 yX6_startReading.cls none yX6_startReading.name 5 0 0 1065 (t_P (fun v s' => v = none ∧ (fun q => q = r) (s'))) 0 [(0, .ref 845)] [] (t_m s) 1065 0 0
  refine mj_aload_n dX6_startReading_0 0 rfl ?_
  refine mj_iconst (v := 0) dX6_startReading_1 (by decide) ?_
  refine t_putIK dX6_startReading_2 F_X6_106 qf_845_10 rfl (fun s1 ws1 => t_letE hk ws1 (fun hk => ?_))
  refine mj_aload_n dX6_startReading_5 0 rfl ?_
  refine mj_iconst (v := 0) dX6_startReading_6 (by decide) ?_
  refine t_putIK dX6_startReading_7 F_X6_128 qf_845_7 rfl (fun s2 ws2 => t_letE hk ws2 (fun hk => ?_))
  refine mj_aload_n dX6_startReading_10 0 rfl ?_
  refine mj_iconst (v := 0) dX6_startReading_11 (by decide) ?_
  refine t_putIK dX6_startReading_12 F_X6_131 qf_845_9 rfl (fun s3 ws3 => t_letE hk ws3 (fun hk => ?_))
  refine mj_aload_n dX6_startReading_15 0 rfl ?_
  refine mj_iconst (v := (-1)) dX6_startReading_16 (by decide) ?_
  refine t_putIK dX6_startReading_17 F_X6_134 qf_845_12 rfl (fun s4 ws4 => t_letE hk ws4 (fun hk => ?_))
  refine mj_aload_n dX6_startReading_20 0 rfl ?_
  refine mj_iconst (v := (-1)) dX6_startReading_21 (by decide) ?_
  refine t_putIK dX6_startReading_22 F_X6_137 qf_845_13 rfl (fun s5 ws5 => t_letE hk ws5 (fun hk => ?_))
  refine mj_aload_n dX6_startReading_25 0 rfl ?_
  refine mj_iconst (v := (-1)) dX6_startReading_26 (by decide) ?_
  refine t_putIK dX6_startReading_27 F_X6_140 qf_845_14 rfl (fun s6 ws6 => t_letE hk ws6 (fun hk => ?_))
  refine mj_aload_n dX6_startReading_30 0 rfl ?_
  refine mj_iconst (v := 0) dX6_startReading_31 (by decide) ?_
  refine t_putIK dX6_startReading_32 F_X6_116 qf_845_15 (by decide) (fun s7 ws7 => t_letE hk ws7 (fun hk => ?_))
  refine mj_aload_n dX6_startReading_35 0 rfl ?_
  refine t_getR 846 dX6_startReading_36 F_X6_18 qr_845_5 ?_
  refine t_bndK hk (fun r1 er1 hk => ?_)
  refine t_callVvE dX6_startReading_39 M_X3_clear (C_X3_clear _ _ er1) ML_X6_143 IM_X3_clear SE_X3_clear qc_846 rfl (As := []) rfl rfl (Nat.le_of_ble_eq_true rfl) (Nat.le_of_ble_eq_true rfl) (Nat.le_of_ble_eq_true rfl) (Nat.le_of_ble_eq_true rfl) ?_
  refine mj_aload_n dX6_startReading_42 0 rfl ?_
  refine t_getR 1 dX6_startReading_43 F_X6_28 qr_845_0 ?_
  refine t_bndK hk (fun r2 er2 hk => ?_)
  refine t_callVvE dX6_startReading_46 M_X2_scan (C_X2_scan _ _ er2) ML_X6_144 IM_X2_scan SE_X2_scan qc_1 rfl (As := []) rfl rfl (Nat.le_of_ble_eq_true rfl) (Nat.le_of_ble_eq_true rfl) (Nat.le_of_ble_eq_true rfl) (Nat.le_of_ble_eq_true rfl) ?_
  exact t_somK hk (fun hf => t_vret dX6_startReading_49 rfl ⟨rfl, hf⟩ (Nat.le_of_ble_eq_true rfl) (Nat.le_of_ble_eq_true rfl))

theorem dX6_readModule_0 : decode cX6_readModule 0 = .ok (.aload_n 0, 1) := by decide +kernel
theorem dX6_readModule_1 : decode cX6_readModule 1 = .ok (.getfield 28, 3) := by decide +kernel
theorem dX6_readModule_10 : decode cX6_readModule 10 = .ok (.getfield 33, 3) := by decide +kernel
theorem dX6_readModule_13 : decode cX6_readModule 13 = .ok (.invokevirtual 53, 3) := by decide +kernel
theorem dX6_readModule_132 : decode cX6_readModule 132 = .ok (.aload_n 0, 1) := by decide +kernel
theorem dX6_readModule_133 : decode cX6_readModule 133 = .ok (.invokevirtual 88, 3) := by decide +kernel
theorem dX6_readModule_136 : decode cX6_readModule 136 = .ok (.goto 49, 3) := by decide +kernel
theorem dX6_readModule_139 : decode cX6_readModule 139 = .ok (.aload_n 0, 1) := by decide +kernel
theorem dX6_readModule_140 : decode cX6_readModule 140 = .ok (.invokevirtual 91, 3) := by decide +kernel
theorem dX6_readModule_143 : decode cX6_readModule 143 = .ok (.goto 42, 3) := by decide +kernel
theorem dX6_readModule_146 : decode cX6_readModule 146 = .ok (.aload_n 0, 1) := by decide +kernel
theorem dX6_readModule_147 : decode cX6_readModule 147 = .ok (.invokevirtual 94, 3) := by decide +kernel
theorem dX6_readModule_150 : decode cX6_readModule 150 = .ok (.goto 35, 3) := by decide +kernel
theorem dX6_readModule_153 : decode cX6_readModule 153 = .ok (.aload_n 0, 1) := by decide +kernel
theorem dX6_readModule_154 : decode cX6_readModule 154 = .ok (.iconst 0, 1) := by decide +kernel
theorem dX6_readModule_155 : decode cX6_readModule 155 = .ok (.invokevirtual 97, 3) := by decide +kernel
theorem dX6_readModule_158 : decode cX6_readModule 158 = .ok (.goto 27, 3) := by decide +kernel
theorem dX6_readModule_16 : decode cX6_readModule 16 = .ok (.aload_n 0, 1) := by decide +kernel
theorem dX6_readModule_161 : decode cX6_readModule 161 = .ok (.aload_n 0, 1) := by decide +kernel
theorem dX6_readModule_162 : decode cX6_readModule 162 = .ok (.iconst 1, 1) := by decide +kernel
theorem dX6_readModule_163 : decode cX6_readModule 163 = .ok (.invokevirtual 97, 3) := by decide +kernel
theorem dX6_readModule_166 : decode cX6_readModule 166 = .ok (.goto 19, 3) := by decide +kernel
theorem dX6_readModule_169 : decode cX6_readModule 169 = .ok (.aload_n 0, 1) := by decide +kernel
theorem dX6_readModule_17 : decode cX6_readModule 17 = .ok (.getfield 38, 3) := by decide +kernel
theorem dX6_readModule_170 : decode cX6_readModule 170 = .ok (.iconst 2, 1) := by decide +kernel
theorem dX6_readModule_171 : decode cX6_readModule 171 = .ok (.invokevirtual 97, 3) := by decide +kernel
theorem dX6_readModule_174 : decode cX6_readModule 174 = .ok (.goto 11, 3) := by decide +kernel
theorem dX6_readModule_177 : decode cX6_readModule 177 = .ok (.aload_n 0, 1) := by decide +kernel
theorem dX6_readModule_178 : decode cX6_readModule 178 = .ok (.getfield 28, 3) := by decide +kernel
theorem dX6_readModule_181 : decode cX6_readModule 181 = .ok (.iconst 2, 1) := by decide +kernel
theorem dX6_readModule_182 : decode cX6_readModule 182 = .ok (.invokevirtual 100, 3) := by decide +kernel
theorem dX6_readModule_185 : decode cX6_readModule 185 = .ok (.iinc 1 1, 3) := by decide +kernel
theorem dX6_readModule_188 : decode cX6_readModule 188 = .ok (.goto (-130), 3) := by decide +kernel
theorem dX6_readModule_191 : decode cX6_readModule 191 = .ok (.aload_n 0, 1) := by decide +kernel
theorem dX6_readModule_192 : decode cX6_readModule 192 = .ok (.invokevirtual 103, 3) := by decide +kernel
theorem dX6_readModule_195 : decode cX6_readModule 195 = .ok (.aload_n 0, 1) := by decide +kernel
theorem dX6_readModule_196 : decode cX6_readModule 196 = .ok (.aload_n 0, 1) := by decide +kernel
theorem dX6_readModule_197 : decode cX6_readModule 197 = .ok (.getfield 106, 3) := by decide +kernel
theorem dX6_readModule_20 : decode cX6_readModule 20 = .ok (.invokevirtual 58, 3) := by decide +kernel
theorem dX6_readModule_200 : decode cX6_readModule 200 = .ok (.putfield 109, 3) := by decide +kernel
theorem dX6_readModule_203 : decode cX6_readModule 203 = .ok (.return_, 1) := by decide +kernel
theorem dX6_readModule_23 : decode cX6_readModule 23 = .ok (.aload_n 0, 1) := by decide +kernel
theorem dX6_readModule_24 : decode cX6_readModule 24 = .ok (.getfield 48, 3) := by decide +kernel
theorem dX6_readModule_27 : decode cX6_readModule 27 = .ok (.invokevirtual 61, 3) := by decide +kernel
theorem dX6_readModule_30 : decode cX6_readModule 30 = .ok (.aload_n 0, 1) := by decide +kernel
theorem dX6_readModule_31 : decode cX6_readModule 31 = .ok (.getfield 43, 3) := by decide +kernel
theorem dX6_readModule_34 : decode cX6_readModule 34 = .ok (.iconst 0, 1) := by decide +kernel
theorem dX6_readModule_35 : decode cX6_readModule 35 = .ok (.putfield 64, 3) := by decide +kernel
theorem dX6_readModule_38 : decode cX6_readModule 38 = .ok (.aload_n 0, 1) := by decide +kernel
theorem dX6_readModule_39 : decode cX6_readModule 39 = .ok (.getfield 43, 3) := by decide +kernel
theorem dX6_readModule_4 : decode cX6_readModule 4 = .ok (.bipush 66, 2) := by decide +kernel
theorem dX6_readModule_42 : decode cX6_readModule 42 = .ok (.iconst 0, 1) := by decide +kernel
theorem dX6_readModule_43 : decode cX6_readModule 43 = .ok (.putfield 70, 3) := by decide +kernel
theorem dX6_readModule_46 : decode cX6_readModule 46 = .ok (.aload_n 0, 1) := by decide +kernel
theorem dX6_readModule_47 : decode cX6_readModule 47 = .ok (.ldc 75, 2) := by decide +kernel
theorem dX6_readModule_49 : decode cX6_readModule 49 = .ok (.putfield 76, 3) := by decide +kernel
theorem dX6_readModule_52 : decode cX6_readModule 52 = .ok (.aload_n 0, 1) := by decide +kernel
theorem dX6_readModule_53 : decode cX6_readModule 53 = .ok (.invokevirtual 79, 3) := by decide +kernel
theorem dX6_readModule_56 : decode cX6_readModule 56 = .ok (.iconst 0, 1) := by decide +kernel
theorem dX6_readModule_57 : decode cX6_readModule 57 = .ok (.istore_n 1, 1) := by decide +kernel
theorem dX6_readModule_58 : decode cX6_readModule 58 = .ok (.iload_n 1, 1) := by decide +kernel
theorem dX6_readModule_59 : decode cX6_readModule 59 = .ok (.sipush 12002, 3) := by decide +kernel
theorem dX6_readModule_6 : decode cX6_readModule 6 = .ok (.invokevirtual 49, 3) := by decide +kernel
theorem dX6_readModule_62 : decode cX6_readModule 62 = .ok (.if_icmp .ge 129, 3) := by decide +kernel
theorem dX6_readModule_65 : decode cX6_readModule 65 = .ok (.aload_n 0, 1) := by decide +kernel
theorem dX6_readModule_66 : decode cX6_readModule 66 = .ok (.getfield 28, 3) := by decide +kernel
theorem dX6_readModule_69 : decode cX6_readModule 69 = .ok (.getfield 82, 3) := by decide +kernel
theorem dX6_readModule_72 : decode cX6_readModule 72 = .ok (.ifCond .ne 119, 3) := by decide +kernel
theorem dX6_readModule_75 : decode cX6_readModule 75 = .ok (.aload_n 0, 1) := by decide +kernel
theorem dX6_readModule_76 : decode cX6_readModule 76 = .ok (.getfield 28, 3) := by decide +kernel
theorem dX6_readModule_79 : decode cX6_readModule 79 = .ok (.getfield 85, 3) := by decide +kernel
theorem dX6_readModule_82 : decode cX6_readModule 82 = .ok (.iconst 4, 1) := by decide +kernel
theorem dX6_readModule_83 : decode cX6_readModule 83 = .ok (.if_icmp .eq 108, 3) := by decide +kernel
theorem dX6_readModule_86 : decode cX6_readModule 86 = .ok (.aload_n 0, 1) := by decide +kernel
theorem dX6_readModule_87 : decode cX6_readModule 87 = .ok (.getfield 28, 3) := by decide +kernel
theorem dX6_readModule_9 : decode cX6_readModule 9 = .ok (.aload_n 0, 1) := by decide +kernel
theorem dX6_readModule_90 : decode cX6_readModule 90 = .ok (.getfield 85, 3) := by decide +kernel
theorem dX6_readModule_93 : decode cX6_readModule 93 = .ok (.tableswitch 84 200 205 #[39, 46, 53, 60, 68, 76], 39) := by decide +kernel
noncomputable def k_X6_readModule_185 (l1 : Int32) (s : t_S) : Option ((Int32 × t_S) ⊕ (t_S)) :=
 some (.inl ((l1 + 1), s))
set_option maxRecDepth 4000 in
set_option maxHeartbeats 1000000 in
theorem B_X6_readModule_185 {D : va_G} {cy : Nat → ClassId} {ad : Nat → Nat} {bs : Nat} {X : State → Heap → Prop} (l1 : Int32) (s : t_S) (Q : (Int32 × t_S) ⊕ (t_S) → Prop) (Hb58 : ∀ (y0 : Int32) (y1 : t_S), Q (.inl (y0, y1)) → mj_G D cy ad bs X cX6_readModule 2 yX6_readModule.cls none yX6_readModule.name 358 0 0 1065 (t_P (fun v s' => v = none ∧ Q (.inr (s')))) 58 [(0, .ref 845), (1, .int (y0))] [] (t_m y1) 1065 0 0) (hk : t_hk (k_X6_readModule_185 l1 s) Q) : mj_G D cy ad bs X cX6_readModule 2 yX6_readModule.cls none yX6_readModule.name 358 0 0 1065 (t_P (fun v s' => v = none ∧ Q (.inr (s')))) 185 [(0, .ref 845), (1, .int l1)] [] (t_m s) 1065 0 0 := by
  refine mj_iinc (k := 1) (v := (l1 + 1)) (lv2 := [(1, .int (l1 + 1)), (0, .ref 845)]) dX6_readModule_185 rfl rfl (by decide) rfl ?_
  refine mj_goto 58 dX6_readModule_188 (by decide) ?_
  refine mj_sublv [(0, .ref 845), (1, .int (l1 + 1))] [1, 0] rfl ?_
  exact t_somK hk (fun hf => Hb58 (l1 + 1) s hf)
noncomputable def k_X6_readModule_191 (s : t_S) : Option (t_S) :=
 (f_X6_finishReading s).bind (fun r1 =>
 t_let (t_setI r1 845 11 (r1.1 845 10)) (fun s1 =>
 some (s1)))
set_option maxRecDepth 4000 in
set_option maxHeartbeats 1000000 in
theorem B_X6_readModule_191 {D : va_G} {cy : Nat → ClassId} {ad : Nat → Nat} {bs : Nat} {X : State → Heap → Prop} (s : t_S) (Q : t_S → Prop) (hk : t_hk (k_X6_readModule_191 s) Q) : mj_G D cy ad bs X cX6_readModule 2 yX6_readModule.cls none yX6_readModule.name 358 0 0 1065 (t_P (fun v s' => v = none ∧ Q (s'))) 191 [(0, .ref 845)] [] (t_m s) 1065 0 0 := by
  refine mj_aload_n dX6_readModule_191 0 rfl ?_
  refine t_bndK hk (fun r1 er1 hk => ?_)
  refine t_callVvE dX6_readModule_192 M_X6_finishReading (C_X6_finishReading _ _ er1) ML_X6_103 IM_X6_finishReading SE_X6_finishReading qc_845 rfl (As := []) rfl rfl (Nat.le_of_ble_eq_true rfl) (Nat.le_of_ble_eq_true rfl) (Nat.le_of_ble_eq_true rfl) (Nat.le_of_ble_eq_true rfl) ?_
  refine mj_aload_n dX6_readModule_195 0 rfl ?_
  refine mj_aload_n dX6_readModule_196 0 rfl ?_
  refine t_getI dX6_readModule_197 F_X6_106 qf_845_10 ?_
  refine t_putIK dX6_readModule_200 F_X6_109 qf_845_11 rfl (fun s1 ws1 => t_letE hk ws1 (fun hk => ?_))
  exact t_somK hk (fun hf => t_vret dX6_readModule_203 rfl ⟨rfl, hf⟩ (Nat.le_of_ble_eq_true rfl) (Nat.le_of_ble_eq_true rfl))
noncomputable def k_X6_readModule_58 (l1 : Int32) (s : t_S) : Option ((Int32 × t_S) ⊕ (t_S)) :=
 if (12002 : Int32) ≤ l1 then ((k_X6_readModule_191 s).map Sum.inr)
 else (if (s.1 1 11) = (0 : Int32) then (if (s.1 1 8) = (4 : Int32) then ((k_X6_readModule_191 s).map Sum.inr)
 else (if (s.1 1 8).toInt < 200 ∨ 205 < (s.1 1 8).toInt then ((f_X2_fail (2 : Int32) s).bind (fun r1 =>
 k_X6_readModule_185 l1 r1))
 else if (s.1 1 8).toInt = 200 then ((f_X6_readTypeItem s).bind (fun r2 =>
 k_X6_readModule_185 l1 r2))
 else if (s.1 1 8).toInt = 201 then ((f_X6_readTemplateItem s).bind (fun r3 =>
 k_X6_readModule_185 l1 r3))
 else if (s.1 1 8).toInt = 202 then ((f_X6_readComponentItem s).bind (fun r4 =>
 k_X6_readModule_185 l1 r4))
 else if (s.1 1 8).toInt = 203 then ((f_X6_readUnitItem (0 : Int32) s).bind (fun r5 =>
 k_X6_readModule_185 l1 r5))
 else if (s.1 1 8).toInt = 204 then ((f_X6_readUnitItem (1 : Int32) s).bind (fun r6 =>
 k_X6_readModule_185 l1 r6))
 else ((f_X6_readUnitItem (2 : Int32) s).bind (fun r7 =>
 k_X6_readModule_185 l1 r7))))
 else ((k_X6_readModule_191 s).map Sum.inr))
set_option maxRecDepth 4000 in
set_option maxHeartbeats 1000000 in
theorem B_X6_readModule_58 {D : va_G} {cy : Nat → ClassId} {ad : Nat → Nat} {bs : Nat} {X : State → Heap → Prop} (l1 : Int32) (s : t_S) (Q : (Int32 × t_S) ⊕ (t_S) → Prop) (Hb58 : ∀ (y0 : Int32) (y1 : t_S), Q (.inl (y0, y1)) → mj_G D cy ad bs X cX6_readModule 2 yX6_readModule.cls none yX6_readModule.name 358 0 0 1065 (t_P (fun v s' => v = none ∧ Q (.inr (s')))) 58 [(0, .ref 845), (1, .int (y0))] [] (t_m y1) 1065 0 0) (hk : t_hk (k_X6_readModule_58 l1 s) Q) : mj_G D cy ad bs X cX6_readModule 2 yX6_readModule.cls none yX6_readModule.name 358 0 0 1065 (t_P (fun v s' => v = none ∧ Q (.inr (s')))) 58 [(0, .ref 845), (1, .int l1)] [] (t_m s) 1065 0 0 := by
  refine mj_iload_n dX6_readModule_58 1 rfl ?_
  refine mj_sipush (v := 12002) dX6_readModule_59 (by decide) ?_
  refine mj_icmp_ge 191 dX6_readModule_62 (by decide) (fun z => t_posK hk z (fun hk => ?_)) (fun z => t_negK hk z (fun hk => ?_))
  · refine mj_sublv [(0, .ref 845)] [0] rfl ?_
    refine t_mapK hk (fun hk => ?_)
    exact B_X6_readModule_191 _ _ hk
  · refine mj_aload_n dX6_readModule_65 0 rfl ?_
    refine t_getR 1 dX6_readModule_66 F_X6_28 qr_845_0 ?_
    refine t_getI dX6_readModule_69 F_X6_82 qf_1_11 ?_
    refine mj_if_ne 191 dX6_readModule_72 (by decide) (fun z => t_negK hk z (fun hk => ?_)) (fun z => t_posK hk z (fun hk => ?_))
    · refine mj_sublv [(0, .ref 845)] [0] rfl ?_
      refine t_mapK hk (fun hk => ?_)
      exact B_X6_readModule_191 _ _ hk
    · refine mj_aload_n dX6_readModule_75 0 rfl ?_
      refine t_getR 1 dX6_readModule_76 F_X6_28 qr_845_0 ?_
      refine t_getI dX6_readModule_79 F_X6_85 qf_1_8 ?_
      refine mj_iconst (v := 4) dX6_readModule_82 (by decide) ?_
      refine mj_icmp_eq 191 dX6_readModule_83 (by decide) (fun z => t_posK hk z (fun hk => ?_)) (fun z => t_negK hk z (fun hk => ?_))
      · refine mj_sublv [(0, .ref 845)] [0] rfl ?_
        refine t_mapK hk (fun hk => ?_)
        exact B_X6_readModule_191 _ _ hk
      · refine mj_aload_n dX6_readModule_86 0 rfl ?_
        refine t_getR 1 dX6_readModule_87 F_X6_28 qr_845_0 ?_
        refine t_getI dX6_readModule_90 F_X6_85 qf_1_8 ?_
        by_cases hout : (s.1 1 8).toInt < 200 ∨ 205 < (s.1 1 8).toInt
        · replace hk := t_pos hk hout
          refine mj_tableOut 177 dX6_readModule_93 hout (by decide) ?_
          refine mj_aload_n dX6_readModule_177 0 rfl ?_
          refine t_getR 1 dX6_readModule_178 F_X6_28 qr_845_0 ?_
          refine mj_iconst (v := 2) dX6_readModule_181 (by decide) ?_
          refine t_bndK hk (fun r1 er1 hk => ?_)
          refine t_callVvE dX6_readModule_182 M_X2_fail (C_X2_fail _ _ _ er1) ML_X6_100 IM_X2_fail SE_X2_fail qc_1 rfl (As := [.int 2]) rfl rfl (Nat.le_of_ble_eq_true rfl) (Nat.le_of_ble_eq_true rfl) (Nat.le_of_ble_eq_true rfl) (Nat.le_of_ble_eq_true rfl) ?_
          exact B_X6_readModule_185 _ _ _ (fun y0 y1 hx => Hb58 y0 y1 hx) hk
        · replace hk := t_neg hk hout
          have hh1 : ¬ (s.1 1 8).toInt < 200 := fun z => hout (Or.inl z)
          have hh2 : ¬ (205 : Int) < (s.1 1 8).toInt := fun z => hout (Or.inr z)
          by_cases h0 : (s.1 1 8).toInt = 200
          · replace hk := t_pos hk h0
            refine mj_tableIn 132 dX6_readModule_93 hh1 hh2 (by rw [h0]; rfl) (by decide) ?_
            refine mj_aload_n dX6_readModule_132 0 rfl ?_
            refine t_bndK hk (fun r2 er2 hk => ?_)
            refine t_callVvE dX6_readModule_133 M_X6_readTypeItem (C_X6_readTypeItem _ _ er2) ML_X6_88 IM_X6_readTypeItem SE_X6_readTypeItem qc_845 rfl (As := []) rfl rfl (Nat.le_of_ble_eq_true rfl) (Nat.le_of_ble_eq_true rfl) (Nat.le_of_ble_eq_true rfl) (Nat.le_of_ble_eq_true rfl) ?_
            refine mj_goto 185 dX6_readModule_136 (by decide) ?_
            exact B_X6_readModule_185 _ _ _ (fun y0 y1 hx => Hb58 y0 y1 hx) hk
          replace hk := t_neg hk h0
          by_cases h1 : (s.1 1 8).toInt = 201
          · replace hk := t_pos hk h1
            refine mj_tableIn 139 dX6_readModule_93 hh1 hh2 (by rw [h1]; rfl) (by decide) ?_
            refine mj_aload_n dX6_readModule_139 0 rfl ?_
            refine t_bndK hk (fun r3 er3 hk => ?_)
            refine t_callVvE dX6_readModule_140 M_X6_readTemplateItem (C_X6_readTemplateItem _ _ er3) ML_X6_91 IM_X6_readTemplateItem SE_X6_readTemplateItem qc_845 rfl (As := []) rfl rfl (Nat.le_of_ble_eq_true rfl) (Nat.le_of_ble_eq_true rfl) (Nat.le_of_ble_eq_true rfl) (Nat.le_of_ble_eq_true rfl) ?_
            refine mj_goto 185 dX6_readModule_143 (by decide) ?_
            exact B_X6_readModule_185 _ _ _ (fun y0 y1 hx => Hb58 y0 y1 hx) hk
          replace hk := t_neg hk h1
          by_cases h2 : (s.1 1 8).toInt = 202
          · replace hk := t_pos hk h2
            refine mj_tableIn 146 dX6_readModule_93 hh1 hh2 (by rw [h2]; rfl) (by decide) ?_
            refine mj_aload_n dX6_readModule_146 0 rfl ?_
            refine t_bndK hk (fun r4 er4 hk => ?_)
            refine t_callVvE dX6_readModule_147 M_X6_readComponentItem (C_X6_readComponentItem _ _ er4) ML_X6_94 IM_X6_readComponentItem SE_X6_readComponentItem qc_845 rfl (As := []) rfl rfl (Nat.le_of_ble_eq_true rfl) (Nat.le_of_ble_eq_true rfl) (Nat.le_of_ble_eq_true rfl) (Nat.le_of_ble_eq_true rfl) ?_
            refine mj_goto 185 dX6_readModule_150 (by decide) ?_
            exact B_X6_readModule_185 _ _ _ (fun y0 y1 hx => Hb58 y0 y1 hx) hk
          replace hk := t_neg hk h2
          by_cases h3 : (s.1 1 8).toInt = 203
          · replace hk := t_pos hk h3
            refine mj_tableIn 153 dX6_readModule_93 hh1 hh2 (by rw [h3]; rfl) (by decide) ?_
            refine mj_aload_n dX6_readModule_153 0 rfl ?_
            refine mj_iconst (v := 0) dX6_readModule_154 (by decide) ?_
            refine t_bndK hk (fun r5 er5 hk => ?_)
            refine t_callVvE dX6_readModule_155 M_X6_readUnitItem (C_X6_readUnitItem _ _ _ er5) ML_X6_97 IM_X6_readUnitItem SE_X6_readUnitItem qc_845 rfl (As := [.int 0]) rfl rfl (Nat.le_of_ble_eq_true rfl) (Nat.le_of_ble_eq_true rfl) (Nat.le_of_ble_eq_true rfl) (Nat.le_of_ble_eq_true rfl) ?_
            refine mj_goto 185 dX6_readModule_158 (by decide) ?_
            exact B_X6_readModule_185 _ _ _ (fun y0 y1 hx => Hb58 y0 y1 hx) hk
          replace hk := t_neg hk h3
          by_cases h4 : (s.1 1 8).toInt = 204
          · replace hk := t_pos hk h4
            refine mj_tableIn 161 dX6_readModule_93 hh1 hh2 (by rw [h4]; rfl) (by decide) ?_
            refine mj_aload_n dX6_readModule_161 0 rfl ?_
            refine mj_iconst (v := 1) dX6_readModule_162 (by decide) ?_
            refine t_bndK hk (fun r6 er6 hk => ?_)
            refine t_callVvE dX6_readModule_163 M_X6_readUnitItem (C_X6_readUnitItem _ _ _ er6) ML_X6_97 IM_X6_readUnitItem SE_X6_readUnitItem qc_845 rfl (As := [.int 1]) rfl rfl (Nat.le_of_ble_eq_true rfl) (Nat.le_of_ble_eq_true rfl) (Nat.le_of_ble_eq_true rfl) (Nat.le_of_ble_eq_true rfl) ?_
            refine mj_goto 185 dX6_readModule_166 (by decide) ?_
            exact B_X6_readModule_185 _ _ _ (fun y0 y1 hx => Hb58 y0 y1 hx) hk
          replace hk := t_neg hk h4
          have h5 : (s.1 1 8).toInt = 205 := by omega
          refine mj_tableIn 169 dX6_readModule_93 hh1 hh2 (by rw [h5]; rfl) (by decide) ?_
          refine mj_aload_n dX6_readModule_169 0 rfl ?_
          refine mj_iconst (v := 2) dX6_readModule_170 (by decide) ?_
          refine t_bndK hk (fun r7 er7 hk => ?_)
          refine t_callVvE dX6_readModule_171 M_X6_readUnitItem (C_X6_readUnitItem _ _ _ er7) ML_X6_97 IM_X6_readUnitItem SE_X6_readUnitItem qc_845 rfl (As := [.int 2]) rfl rfl (Nat.le_of_ble_eq_true rfl) (Nat.le_of_ble_eq_true rfl) (Nat.le_of_ble_eq_true rfl) (Nat.le_of_ble_eq_true rfl) ?_
          refine mj_goto 185 dX6_readModule_174 (by decide) ?_
          exact B_X6_readModule_185 _ _ _ (fun y0 y1 hx => Hb58 y0 y1 hx) hk
noncomputable def b_X6_readModule_58 (x : Int32 × t_S) : Option ((Int32 × t_S) ⊕ (t_S)) := k_X6_readModule_58 x.1 x.2
set_option maxRecDepth 4000 in
set_option maxHeartbeats 1000000 in
theorem LH_X6_readModule_58 {D : va_G} {cy : Nat → ClassId} {ad : Nat → Nat} {bs : Nat} {X : State → Heap → Prop} : ∀ (n : Nat) (y0 : Int32) (y1 : t_S) (Q : t_S → Prop) (hk : t_hk (t_loop (b_X6_readModule_58) n (y0, y1)) Q), mj_G D cy ad bs X cX6_readModule 2 yX6_readModule.cls none yX6_readModule.name 358 0 0 1065 (t_P (fun v s' => v = none ∧ Q (s'))) 58 [(0, .ref 845), (1, .int (y0))] [] (t_m y1) 1065 0 0 := by
  intro n
  induction n with
  | zero => intro y0 y1 Q hk; obtain ⟨r, hr, _⟩ := hk; cases hr
  | succ n ih =>
    intro y0 y1 Q hk
    exact B_X6_readModule_58 y0 y1 (fun y => t_lq (b_X6_readModule_58) n Q y) (fun y0' y1' hy => ih y0' y1' Q hy) (t_lp hk)
noncomputable def f_X6_readModule (s : t_S) : Option (t_S) :=
 (f_X2_forget (66 : Int32) s).bind (fun r1 =>
 (f_X11_clear r1).bind (fun r2 =>
 (f_X10_clear r2).bind (fun r3 =>
 (f_X5_clear r3).bind (fun r4 =>
 t_let (t_setI r4 334 2 (0 : Int32)) (fun s1 =>
 t_let (t_setI s1 334 4 (0 : Int32)) (fun s2 =>
 t_let (t_setI s2 845 16 (2147483647 : Int32)) (fun s3 =>
 (f_X6_startReading s3).bind (fun r5 =>
 t_loop (b_X6_readModule_58) t_N (0, r5)))))))))
set_option maxRecDepth 4000 in
set_option maxHeartbeats 1000000 in
theorem C_X6_readModule (s : t_S) (r : t_S) (hr : f_X6_readModule s = some r) : t_C yX6_readModule cX6_readModule 2 none 358 [.ref 845] s (fun v s' => v = none ∧ s' = r) := by
  refine t_C.imp (P := fun v s' => v = none ∧ (fun q => q = r) (s')) (t_C.of (by decide +kernel) (Nat.le_of_ble_eq_true rfl) ?_) (fun v s' hp => hp)
  intro D cy ad bs X
  have hk : t_hk (f_X6_readModule s) (fun q => q = r) := ⟨r, hr, rfl⟩
  show mj_G D cy ad bs X cX6_readModule 2 yX6_readModule.cls none yX6_readModule.name 358 0 0 1065 (t_P (fun v s' => v = none ∧ (fun q => q = r) (s'))) 0 [(0, .ref 845)] [] (t_m s) 1065 0 0
  refine mj_aload_n dX6_readModule_0 0 rfl ?_
  refine t_getR 1 dX6_readModule_1 F_X6_28 qr_845_0 ?_
  refine mj_bipush (v := 66) dX6_readModule_4 (by decide) ?_
  refine t_bndK hk (fun r1 er1 hk => ?_)
  refine t_callVvE dX6_readModule_6 M_X2_forget (C_X2_forget _ _ _ er1) ML_X6_49 IM_X2_forget SE_X2_forget qc_1 rfl (As := [.int 66]) rfl rfl (Nat.le_of_ble_eq_true rfl) (Nat.le_of_ble_eq_true rfl) (Nat.le_of_ble_eq_true rfl) (Nat.le_of_ble_eq_true rfl) ?_
  refine mj_aload_n dX6_readModule_9 0 rfl ?_
  refine t_getR 316 dX6_readModule_10 F_X6_33 qr_845_1 ?_
  refine t_bndK hk (fun r2 er2 hk => ?_)
  refine t_callVvE dX6_readModule_13 M_X11_clear (C_X11_clear _ _ er2) ML_X6_53 IM_X11_clear SE_X11_clear qc_316 rfl (As := []) rfl rfl (Nat.le_of_ble_eq_true rfl) (Nat.le_of_ble_eq_true rfl) (Nat.le_of_ble_eq_true rfl) (Nat.le_of_ble_eq_true rfl) ?_
  refine mj_aload_n dX6_readModule_16 0 rfl ?_
  refine t_getR 353 dX6_readModule_17 F_X6_38 qr_845_2 ?_
  refine t_bndK hk (fun r3 er3 hk => ?_)
  refine t_callVvE dX6_readModule_20 M_X10_clear (C_X10_clear _ _ er3) ML_X6_58 IM_X10_clear SE_X10_clear qc_353 rfl (As := []) rfl rfl (Nat.le_of_ble_eq_true rfl) (Nat.le_of_ble_eq_true rfl) (Nat.le_of_ble_eq_true rfl) (Nat.le_of_ble_eq_true rfl) ?_
  refine mj_aload_n dX6_readModule_23 0 rfl ?_
  refine t_getR 428 dX6_readModule_24 F_X6_48 qr_845_4 ?_
  refine t_bndK hk (fun r4 er4 hk => ?_)
  refine t_callVvE dX6_readModule_27 M_X5_clear (C_X5_clear _ _ er4) ML_X6_61 IM_X5_clear SE_X5_clear qc_428 rfl (As := []) rfl rfl (Nat.le_of_ble_eq_true rfl) (Nat.le_of_ble_eq_true rfl) (Nat.le_of_ble_eq_true rfl) (Nat.le_of_ble_eq_true rfl) ?_
  refine mj_aload_n dX6_readModule_30 0 rfl ?_
  refine t_getR 334 dX6_readModule_31 F_X6_43 qr_845_3 ?_
  refine mj_iconst (v := 0) dX6_readModule_34 (by decide) ?_
  refine t_putIK dX6_readModule_35 F_X6_64 qf_334_2 rfl (fun s1 ws1 => t_letE hk ws1 (fun hk => ?_))
  refine mj_aload_n dX6_readModule_38 0 rfl ?_
  refine t_getR 334 dX6_readModule_39 F_X6_43 qr_845_3 ?_
  refine mj_iconst (v := 0) dX6_readModule_42 (by decide) ?_
  refine t_putIK dX6_readModule_43 F_X6_70 qf_334_4 rfl (fun s2 ws2 => t_letE hk ws2 (fun hk => ?_))
  refine mj_aload_n dX6_readModule_46 0 rfl ?_
  refine mj_ldc dX6_readModule_47 K_X6_75 ?_
  refine t_putIK dX6_readModule_49 F_X6_76 qf_845_16 rfl (fun s3 ws3 => t_letE hk ws3 (fun hk => ?_))
  refine mj_aload_n dX6_readModule_52 0 rfl ?_
  refine t_bndK hk (fun r5 er5 hk => ?_)
  refine t_callVvE dX6_readModule_53 M_X6_startReading (C_X6_startReading _ _ er5) ML_X6_79 IM_X6_startReading SE_X6_startReading qc_845 rfl (As := []) rfl rfl (Nat.le_of_ble_eq_true rfl) (Nat.le_of_ble_eq_true rfl) (Nat.le_of_ble_eq_true rfl) (Nat.le_of_ble_eq_true rfl) ?_
  refine mj_iconst (v := 0) dX6_readModule_56 (by decide) ?_
  refine mj_istore_n 1 (lv2 := [(1, .int 0), (0, .ref 845)]) dX6_readModule_57 rfl (by decide) rfl ?_
  refine mj_sublv [(0, .ref 845), (1, .int 0)] [1, 0] rfl ?_
  exact LH_X6_readModule_58 _ 0 r5 _ hk

theorem dX12_module_0 : decode cX12_module 0 = .ok (.aload_n 0, 1) := by decide +kernel
theorem dX12_module_1 : decode cX12_module 1 = .ok (.getfield 19, 3) := by decide +kernel
theorem dX12_module_12 : decode cX12_module 12 = .ok (.invokevirtual 110, 3) := by decide +kernel
theorem dX12_module_15 : decode cX12_module 15 = .ok (.aload_n 0, 1) := by decide +kernel
theorem dX12_module_16 : decode cX12_module 16 = .ok (.getfield 66, 3) := by decide +kernel
theorem dX12_module_19 : decode cX12_module 19 = .ok (.invokevirtual 113, 3) := by decide +kernel
theorem dX12_module_22 : decode cX12_module 22 = .ok (.aload_n 0, 1) := by decide +kernel
theorem dX12_module_23 : decode cX12_module 23 = .ok (.aload_n 0, 1) := by decide +kernel
theorem dX12_module_24 : decode cX12_module 24 = .ok (.getfield 10, 3) := by decide +kernel
theorem dX12_module_27 : decode cX12_module 27 = .ok (.getfield 116, 3) := by decide +kernel
theorem dX12_module_30 : decode cX12_module 30 = .ok (.putfield 119, 3) := by decide +kernel
theorem dX12_module_33 : decode cX12_module 33 = .ok (.aload_n 0, 1) := by decide +kernel
theorem dX12_module_34 : decode cX12_module 34 = .ok (.aload_n 0, 1) := by decide +kernel
theorem dX12_module_35 : decode cX12_module 35 = .ok (.getfield 119, 3) := by decide +kernel
theorem dX12_module_38 : decode cX12_module 38 = .ok (.ifCond .ne 7, 3) := by decide +kernel
theorem dX12_module_4 : decode cX12_module 4 = .ok (.iconst 0, 1) := by decide +kernel
theorem dX12_module_41 : decode cX12_module 41 = .ok (.iconst (-1), 1) := by decide +kernel
theorem dX12_module_42 : decode cX12_module 42 = .ok (.goto 10, 3) := by decide +kernel
theorem dX12_module_45 : decode cX12_module 45 = .ok (.aload_n 0, 1) := by decide +kernel
theorem dX12_module_46 : decode cX12_module 46 = .ok (.getfield 10, 3) := by decide +kernel
theorem dX12_module_49 : decode cX12_module 49 = .ok (.getfield 120, 3) := by decide +kernel
theorem dX12_module_5 : decode cX12_module 5 = .ok (.putfield 107, 3) := by decide +kernel
theorem dX12_module_52 : decode cX12_module 52 = .ok (.putfield 95, 3) := by decide +kernel
theorem dX12_module_55 : decode cX12_module 55 = .ok (.aload_n 0, 1) := by decide +kernel
theorem dX12_module_56 : decode cX12_module 56 = .ok (.aload_n 0, 1) := by decide +kernel
theorem dX12_module_57 : decode cX12_module 57 = .ok (.getfield 119, 3) := by decide +kernel
theorem dX12_module_60 : decode cX12_module 60 = .ok (.ifCond .ne 7, 3) := by decide +kernel
theorem dX12_module_63 : decode cX12_module 63 = .ok (.iconst 1, 1) := by decide +kernel
theorem dX12_module_64 : decode cX12_module 64 = .ok (.goto 4, 3) := by decide +kernel
theorem dX12_module_67 : decode cX12_module 67 = .ok (.iconst 0, 1) := by decide +kernel
theorem dX12_module_68 : decode cX12_module 68 = .ok (.putfield 121, 3) := by decide +kernel
theorem dX12_module_71 : decode cX12_module 71 = .ok (.aload_n 0, 1) := by decide +kernel
theorem dX12_module_72 : decode cX12_module 72 = .ok (.getfield 121, 3) := by decide +kernel
theorem dX12_module_75 : decode cX12_module 75 = .ok (.ifCond .eq 17, 3) := by decide +kernel
theorem dX12_module_78 : decode cX12_module 78 = .ok (.aload_n 0, 1) := by decide +kernel
theorem dX12_module_79 : decode cX12_module 79 = .ok (.getfield 26, 3) := by decide +kernel
theorem dX12_module_8 : decode cX12_module 8 = .ok (.aload_n 0, 1) := by decide +kernel
theorem dX12_module_82 : decode cX12_module 82 = .ok (.invokevirtual 125, 3) := by decide +kernel
theorem dX12_module_85 : decode cX12_module 85 = .ok (.aload_n 0, 1) := by decide +kernel
theorem dX12_module_86 : decode cX12_module 86 = .ok (.getfield 44, 3) := by decide +kernel
theorem dX12_module_89 : decode cX12_module 89 = .ok (.invokevirtual 128, 3) := by decide +kernel
theorem dX12_module_9 : decode cX12_module 9 = .ok (.getfield 84, 3) := by decide +kernel
theorem dX12_module_92 : decode cX12_module 92 = .ok (.aload_n 0, 1) := by decide +kernel
theorem dX12_module_93 : decode cX12_module 93 = .ok (.getfield 119, 3) := by decide +kernel
theorem dX12_module_96 : decode cX12_module 96 = .ok (.ireturn, 1) := by decide +kernel
noncomputable def k_X12_module_68 (k0 : Int32) (s : t_S) : Option (Int32 × t_S) :=
 if k0 = 0 ∨ k0 = 1 then
  t_let (t_setI s 0 12 k0) (fun s1 =>
 if (s1.1 0 12) = (0 : Int32) then (some ((s1.1 0 10), s1))
 else ((f_X11_settle s1).bind (fun r2 =>
 (f_X10_settle r2).bind (fun r3 =>
 some ((r3.1 0 10), r3)))))
else none
set_option maxRecDepth 4000 in
set_option maxHeartbeats 1000000 in
theorem B_X12_module_68 {D : va_G} {cy : Nat → ClassId} {ad : Nat → Nat} {bs : Nat} {X : State → Heap → Prop} (k0 : Int32) (s : t_S) (Q : Int32 × t_S → Prop) (hk : t_hk (k_X12_module_68 k0 s) Q) : mj_G D cy ad bs X cX12_module 1 yX12_module.cls (some .int) yX12_module.name 408 0 0 1065 (t_P (fun v s' => ∃ x, v = some (.int x) ∧ Q ((x, s')))) 68 [(0, .ref 0)] [.int k0, .ref 0] (t_m s) 1065 0 0 := by
  refine t_chkK hk (fun c0 hk => ?_)
  refine t_putIK dX12_module_68 F_X12_121 qf_0_12 (t_zfit c0) (fun s1 ws1 => t_letE hk ws1 (fun hk => ?_))
  refine mj_aload_n dX12_module_71 0 rfl ?_
  refine t_getI dX12_module_72 F_X12_121 qf_0_12 ?_
  refine mj_if_eq 92 dX12_module_75 (by decide) (fun z => t_posK hk z (fun hk => ?_)) (fun z => t_negK hk z (fun hk => ?_))
  · refine mj_aload_n dX12_module_92 0 rfl ?_
    refine t_getI dX12_module_93 F_X12_119 qf_0_10 ?_
    exact t_somK hk (fun hf => t_iret dX12_module_96 rfl rfl ⟨_, rfl, hf⟩ (Nat.le_of_ble_eq_true rfl) (Nat.le_of_ble_eq_true rfl))
  · refine mj_aload_n dX12_module_78 0 rfl ?_
    refine t_getR 316 dX12_module_79 F_X12_26 qr_0_2 ?_
    refine t_bndK hk (fun r2 er2 hk => ?_)
    refine t_callVvE dX12_module_82 M_X11_settle (C_X11_settle _ _ er2) ML_X12_125 IM_X11_settle SE_X11_settle qc_316 rfl (As := []) rfl rfl (Nat.le_of_ble_eq_true rfl) (Nat.le_of_ble_eq_true rfl) (Nat.le_of_ble_eq_true rfl) (Nat.le_of_ble_eq_true rfl) ?_
    refine mj_aload_n dX12_module_85 0 rfl ?_
    refine t_getR 353 dX12_module_86 F_X12_44 qr_0_4 ?_
    refine t_bndK hk (fun r3 er3 hk => ?_)
    refine t_callVvE dX12_module_89 M_X10_settle (C_X10_settle _ _ er3) ML_X12_128 IM_X10_settle SE_X10_settle qc_353 rfl (As := []) rfl rfl (Nat.le_of_ble_eq_true rfl) (Nat.le_of_ble_eq_true rfl) (Nat.le_of_ble_eq_true rfl) (Nat.le_of_ble_eq_true rfl) ?_
    refine mj_aload_n dX12_module_92 0 rfl ?_
    refine t_getI dX12_module_93 F_X12_119 qf_0_10 ?_
    exact t_somK hk (fun hf => t_iret dX12_module_96 rfl rfl ⟨_, rfl, hf⟩ (Nat.le_of_ble_eq_true rfl) (Nat.le_of_ble_eq_true rfl))
noncomputable def k_X12_module_52 (k0 : Int32) (s : t_S) : Option (Int32 × t_S) :=
 t_let (t_setI s 0 11 k0) (fun s1 =>
 if (s1.1 0 10) = (0 : Int32) then (k_X12_module_68 1 s1)
 else (k_X12_module_68 0 s1))
set_option maxRecDepth 4000 in
set_option maxHeartbeats 1000000 in
theorem B_X12_module_52 {D : va_G} {cy : Nat → ClassId} {ad : Nat → Nat} {bs : Nat} {X : State → Heap → Prop} (k0 : Int32) (s : t_S) (Q : Int32 × t_S → Prop) (hk : t_hk (k_X12_module_52 k0 s) Q) : mj_G D cy ad bs X cX12_module 1 yX12_module.cls (some .int) yX12_module.name 408 0 0 1065 (t_P (fun v s' => ∃ x, v = some (.int x) ∧ Q ((x, s')))) 52 [(0, .ref 0)] [.int k0, .ref 0] (t_m s) 1065 0 0 := by
  refine t_putIK dX12_module_52 F_X12_95 qf_0_11 rfl (fun s1 ws1 => t_letE hk ws1 (fun hk => ?_))
  refine mj_aload_n dX12_module_55 0 rfl ?_
  refine mj_aload_n dX12_module_56 0 rfl ?_
  refine t_getI dX12_module_57 F_X12_119 qf_0_10 ?_
  refine mj_if_ne 67 dX12_module_60 (by decide) (fun z => t_negK hk z (fun hk => ?_)) (fun z => t_posK hk z (fun hk => ?_))
  · refine mj_iconst (v := 0) dX12_module_67 (by decide) ?_
    exact B_X12_module_68 _ _ _ hk
  · refine mj_iconst (v := 1) dX12_module_63 (by decide) ?_
    refine mj_goto 68 dX12_module_64 (by decide) ?_
    exact B_X12_module_68 _ _ _ hk
noncomputable def f_X12_module (s : t_S) : Option (Int32 × t_S) :=
 t_let (t_setI s 12 2 (0 : Int32)) (fun s1 =>
 (f_X7_close s1).bind (fun r1 =>
 (f_X6_readModule r1).bind (fun r2 =>
 t_let (t_setI r2 0 10 (r2.1 1 11)) (fun s2 =>
 if (s2.1 0 10) = (0 : Int32) then (k_X12_module_52 (-1) s2)
 else (k_X12_module_52 (s2.1 1 12) s2)))))
set_option maxRecDepth 4000 in
set_option maxHeartbeats 1000000 in
theorem C_X12_module (s : t_S) (r : Int32 × t_S) (hr : f_X12_module s = some r) : t_C yX12_module cX12_module 1 (some .int) 408 [.ref 0] s (fun v s' => v = some (.int r.1) ∧ s' = r.2) := by
  refine t_C.imp (P := fun v s' => ∃ x, v = some (.int x) ∧ (fun q => q = r) ((x, s'))) (t_C.of (by decide +kernel) (Nat.le_of_ble_eq_true rfl) ?_) (fun v s' hp => by obtain ⟨x, rfl, rfl⟩ := hp; exact ⟨rfl, rfl⟩)
  intro D cy ad bs X
  have hk : t_hk (f_X12_module s) (fun q => q = r) := ⟨r, hr, rfl⟩
  show mj_G D cy ad bs X cX12_module 1 yX12_module.cls (some .int) yX12_module.name 408 0 0 1065 (t_P (fun v s' => ∃ x, v = some (.int x) ∧ (fun q => q = r) ((x, s')))) 0 [(0, .ref 0)] [] (t_m s) 1065 0 0
  refine mj_aload_n dX12_module_0 0 rfl ?_
  refine t_getR 12 dX12_module_1 F_X12_19 qr_0_1 ?_
  refine mj_iconst (v := 0) dX12_module_4 (by decide) ?_
  refine t_putIK dX12_module_5 F_X12_107 qf_12_2 rfl (fun s1 ws1 => t_letE hk ws1 (fun hk => ?_))
  refine mj_aload_n dX12_module_8 0 rfl ?_
  refine t_getR 864 dX12_module_9 F_X12_84 qr_0_8 ?_
  refine t_bndK hk (fun r1 er1 hk => ?_)
  refine t_callVvE dX12_module_12 M_X7_close (C_X7_close _ _ er1) ML_X12_110 IM_X7_close SE_X7_close qc_864 rfl (As := []) rfl rfl (Nat.le_of_ble_eq_true rfl) (Nat.le_of_ble_eq_true rfl) (Nat.le_of_ble_eq_true rfl) (Nat.le_of_ble_eq_true rfl) ?_
  refine mj_aload_n dX12_module_15 0 rfl ?_
  refine t_getR 845 dX12_module_16 F_X12_66 qr_0_6 ?_
  refine t_bndK hk (fun r2 er2 hk => ?_)
  refine t_callVvE dX12_module_19 M_X6_readModule (C_X6_readModule _ _ er2) ML_X12_113 IM_X6_readModule SE_X6_readModule qc_845 rfl (As := []) rfl rfl (Nat.le_of_ble_eq_true rfl) (Nat.le_of_ble_eq_true rfl) (Nat.le_of_ble_eq_true rfl) (Nat.le_of_ble_eq_true rfl) ?_
  refine mj_aload_n dX12_module_22 0 rfl ?_
  refine mj_aload_n dX12_module_23 0 rfl ?_
  refine t_getR 1 dX12_module_24 F_X12_10 qr_0_0 ?_
  refine t_getI dX12_module_27 F_X12_116 qf_1_11 ?_
  refine t_putIK dX12_module_30 F_X12_119 qf_0_10 rfl (fun s2 ws2 => t_letE hk ws2 (fun hk => ?_))
  refine mj_aload_n dX12_module_33 0 rfl ?_
  refine mj_aload_n dX12_module_34 0 rfl ?_
  refine t_getI dX12_module_35 F_X12_119 qf_0_10 ?_
  refine mj_if_ne 45 dX12_module_38 (by decide) (fun z => t_negK hk z (fun hk => ?_)) (fun z => t_posK hk z (fun hk => ?_))
  · refine mj_aload_n dX12_module_45 0 rfl ?_
    refine t_getR 1 dX12_module_46 F_X12_10 qr_0_0 ?_
    refine t_getI dX12_module_49 F_X12_120 qf_1_12 ?_
    exact B_X12_module_52 _ _ _ hk
  · refine mj_iconst (v := (-1)) dX12_module_41 (by decide) ?_
    refine mj_goto 52 dX12_module_42 (by decide) ?_
    exact B_X12_module_52 _ _ _ hk

