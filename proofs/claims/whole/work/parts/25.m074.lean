/-! Methods as functions, 74: X13_event, X13_line, X13_mustWord, X13_simpleMore, X13_typeHint -/
theorem qa_999 : t_oka 999 1 401 = true := by decide +kernel
theorem qf_950_86 : t_okf 950 13 86 0 = true := by decide +kernel
theorem qf_950_87 : t_okf 950 13 87 0 = true := by decide +kernel
theorem qr_950_77 : t_okr 950 13 77 999 = true := by decide +kernel
theorem dX13_event_0 : decode cX13_event 0 = .ok (.aload_n 0, 1) := by decide +kernel
theorem dX13_event_1 : decode cX13_event 1 = .ok (.getfield 385, 3) := by decide +kernel
theorem dX13_event_101 : decode cX13_event 101 = .ok (.aload_n 0, 1) := by decide +kernel
theorem dX13_event_102 : decode cX13_event 102 = .ok (.getfield 147, 3) := by decide +kernel
theorem dX13_event_105 : decode cX13_event 105 = .ok (.iload_n 1, 1) := by decide +kernel
theorem dX13_event_106 : decode cX13_event 106 = .ok (.aload_n 0, 1) := by decide +kernel
theorem dX13_event_107 : decode cX13_event 107 = .ok (.invokestatic 574, 3) := by decide +kernel
theorem dX13_event_110 : decode cX13_event 110 = .ok (.iastore, 1) := by decide +kernel
theorem dX13_event_111 : decode cX13_event 111 = .ok (.aload_n 0, 1) := by decide +kernel
theorem dX13_event_112 : decode cX13_event 112 = .ok (.bipush 62, 2) := by decide +kernel
theorem dX13_event_114 : decode cX13_event 114 = .ok (.invokevirtual 455, 3) := by decide +kernel
theorem dX13_event_117 : decode cX13_event 117 = .ok (.ifCond .eq 17, 3) := by decide +kernel
theorem dX13_event_12 : decode cX13_event 12 = .ok (.goto 4, 3) := by decide +kernel
theorem dX13_event_120 : decode cX13_event 120 = .ok (.aload_n 0, 1) := by decide +kernel
theorem dX13_event_121 : decode cX13_event 121 = .ok (.invokevirtual 452, 3) := by decide +kernel
theorem dX13_event_124 : decode cX13_event 124 = .ok (.aload_n 0, 1) := by decide +kernel
theorem dX13_event_125 : decode cX13_event 125 = .ok (.getfield 150, 3) := by decide +kernel
theorem dX13_event_128 : decode cX13_event 128 = .ok (.iload_n 1, 1) := by decide +kernel
theorem dX13_event_129 : decode cX13_event 129 = .ok (.aload_n 0, 1) := by decide +kernel
theorem dX13_event_130 : decode cX13_event 130 = .ok (.invokestatic 581, 3) := by decide +kernel
theorem dX13_event_133 : decode cX13_event 133 = .ok (.iastore, 1) := by decide +kernel
theorem dX13_event_134 : decode cX13_event 134 = .ok (.aload_n 0, 1) := by decide +kernel
theorem dX13_event_135 : decode cX13_event 135 = .ok (.bipush 42, 2) := by decide +kernel
theorem dX13_event_137 : decode cX13_event 137 = .ok (.invokevirtual 455, 3) := by decide +kernel
theorem dX13_event_140 : decode cX13_event 140 = .ok (.ifCond .eq 12, 3) := by decide +kernel
theorem dX13_event_143 : decode cX13_event 143 = .ok (.aload_n 0, 1) := by decide +kernel
theorem dX13_event_144 : decode cX13_event 144 = .ok (.invokevirtual 452, 3) := by decide +kernel
theorem dX13_event_147 : decode cX13_event 147 = .ok (.aload_n 0, 1) := by decide +kernel
theorem dX13_event_148 : decode cX13_event 148 = .ok (.iload_n 1, 1) := by decide +kernel
theorem dX13_event_149 : decode cX13_event 149 = .ok (.invokevirtual 767, 3) := by decide +kernel
theorem dX13_event_15 : decode cX13_event 15 = .ok (.iconst (-1), 1) := by decide +kernel
theorem dX13_event_152 : decode cX13_event 152 = .ok (.return_, 1) := by decide +kernel
theorem dX13_event_16 : decode cX13_event 16 = .ok (.istore_n 2, 1) := by decide +kernel
theorem dX13_event_17 : decode cX13_event 17 = .ok (.iload_n 2, 1) := by decide +kernel
theorem dX13_event_18 : decode cX13_event 18 = .ok (.bipush 61, 2) := by decide +kernel
theorem dX13_event_20 : decode cX13_event 20 = .ok (.if_icmp .eq 25, 3) := by decide +kernel
theorem dX13_event_23 : decode cX13_event 23 = .ok (.iload_n 2, 1) := by decide +kernel
theorem dX13_event_24 : decode cX13_event 24 = .ok (.bipush 63, 2) := by decide +kernel
theorem dX13_event_26 : decode cX13_event 26 = .ok (.if_icmp .eq 19, 3) := by decide +kernel
theorem dX13_event_29 : decode cX13_event 29 = .ok (.iload_n 2, 1) := by decide +kernel
theorem dX13_event_30 : decode cX13_event 30 = .ok (.bipush 64, 2) := by decide +kernel
theorem dX13_event_32 : decode cX13_event 32 = .ok (.if_icmp .eq 13, 3) := by decide +kernel
theorem dX13_event_35 : decode cX13_event 35 = .ok (.aload_n 0, 1) := by decide +kernel
theorem dX13_event_36 : decode cX13_event 36 = .ok (.iconst 2, 1) := by decide +kernel
theorem dX13_event_37 : decode cX13_event 37 = .ok (.aload_n 0, 1) := by decide +kernel
theorem dX13_event_38 : decode cX13_event 38 = .ok (.getfield 391, 3) := by decide +kernel
theorem dX13_event_4 : decode cX13_event 4 = .ok (.iconst 1, 1) := by decide +kernel
theorem dX13_event_41 : decode cX13_event 41 = .ok (.invokevirtual 411, 3) := by decide +kernel
theorem dX13_event_44 : decode cX13_event 44 = .ok (.return_, 1) := by decide +kernel
theorem dX13_event_45 : decode cX13_event 45 = .ok (.aload_n 0, 1) := by decide +kernel
theorem dX13_event_46 : decode cX13_event 46 = .ok (.invokevirtual 452, 3) := by decide +kernel
theorem dX13_event_49 : decode cX13_event 49 = .ok (.iload_n 2, 1) := by decide +kernel
theorem dX13_event_5 : decode cX13_event 5 = .ok (.if_icmp .ne 10, 3) := by decide +kernel
theorem dX13_event_50 : decode cX13_event 50 = .ok (.bipush 64, 2) := by decide +kernel
theorem dX13_event_52 : decode cX13_event 52 = .ok (.if_icmp .ne 21, 3) := by decide +kernel
theorem dX13_event_55 : decode cX13_event 55 = .ok (.aload_n 0, 1) := by decide +kernel
theorem dX13_event_56 : decode cX13_event 56 = .ok (.getfield 162, 3) := by decide +kernel
theorem dX13_event_59 : decode cX13_event 59 = .ok (.iload_n 1, 1) := by decide +kernel
theorem dX13_event_60 : decode cX13_event 60 = .ok (.iconst 2, 1) := by decide +kernel
theorem dX13_event_61 : decode cX13_event 61 = .ok (.iastore, 1) := by decide +kernel
theorem dX13_event_62 : decode cX13_event 62 = .ok (.aload_n 0, 1) := by decide +kernel
theorem dX13_event_63 : decode cX13_event 63 = .ok (.getfield 147, 3) := by decide +kernel
theorem dX13_event_66 : decode cX13_event 66 = .ok (.iload_n 1, 1) := by decide +kernel
theorem dX13_event_67 : decode cX13_event 67 = .ok (.aload_n 0, 1) := by decide +kernel
theorem dX13_event_68 : decode cX13_event 68 = .ok (.invokestatic 581, 3) := by decide +kernel
theorem dX13_event_71 : decode cX13_event 71 = .ok (.iastore, 1) := by decide +kernel
theorem dX13_event_72 : decode cX13_event 72 = .ok (.return_, 1) := by decide +kernel
theorem dX13_event_73 : decode cX13_event 73 = .ok (.aload_n 0, 1) := by decide +kernel
theorem dX13_event_74 : decode cX13_event 74 = .ok (.getfield 162, 3) := by decide +kernel
theorem dX13_event_77 : decode cX13_event 77 = .ok (.iload_n 1, 1) := by decide +kernel
theorem dX13_event_78 : decode cX13_event 78 = .ok (.iload_n 2, 1) := by decide +kernel
theorem dX13_event_79 : decode cX13_event 79 = .ok (.bipush 61, 2) := by decide +kernel
theorem dX13_event_8 : decode cX13_event 8 = .ok (.aload_n 0, 1) := by decide +kernel
theorem dX13_event_81 : decode cX13_event 81 = .ok (.if_icmp .ne 7, 3) := by decide +kernel
theorem dX13_event_84 : decode cX13_event 84 = .ok (.iconst 0, 1) := by decide +kernel
theorem dX13_event_85 : decode cX13_event 85 = .ok (.goto 4, 3) := by decide +kernel
theorem dX13_event_88 : decode cX13_event 88 = .ok (.iconst 1, 1) := by decide +kernel
theorem dX13_event_89 : decode cX13_event 89 = .ok (.iastore, 1) := by decide +kernel
theorem dX13_event_9 : decode cX13_event 9 = .ok (.getfield 397, 3) := by decide +kernel
theorem dX13_event_90 : decode cX13_event 90 = .ok (.aload_n 0, 1) := by decide +kernel
theorem dX13_event_91 : decode cX13_event 91 = .ok (.iload_n 1, 1) := by decide +kernel
theorem dX13_event_92 : decode cX13_event 92 = .ok (.invokevirtual 770, 3) := by decide +kernel
theorem dX13_event_95 : decode cX13_event 95 = .ok (.iload_n 2, 1) := by decide +kernel
theorem dX13_event_96 : decode cX13_event 96 = .ok (.bipush 61, 2) := by decide +kernel
theorem dX13_event_98 : decode cX13_event 98 = .ok (.if_icmp .ne 54, 3) := by decide +kernel
noncomputable def k_X13_event_134 (l1 : Int32) (s : t_S) : Option (t_S) :=
 if (f_X13_isWord (42 : Int32) s) = (0 : Int32) then (some (s))
 else ((f_X13_next s).bind (fun r2 =>
 (f_X13_into l1 r2).bind (fun r3 =>
 some (r3))))
set_option maxRecDepth 4000 in
set_option maxHeartbeats 1000000 in
theorem B_X13_event_134 {D : va_G} {cy : Nat → ClassId} {ad : Nat → Nat} {bs : Nat} {X : State → Heap → Prop} (l1 : Int32) (s : t_S) (Q : t_S → Prop) (hk : t_hk (k_X13_event_134 l1 s) Q) : mj_G D cy ad bs X cX13_event 3 yX13_event.cls none yX13_event.name 309 0 0 1065 (t_P (fun v s' => v = none ∧ Q (s'))) 134 [(0, .ref 950), (1, .int l1)] [] (t_m s) 1065 0 0 := by
  refine mj_aload_n dX13_event_134 0 rfl ?_
  refine mj_bipush (v := 42) dX13_event_135 (by decide) ?_
  refine t_callViP dX13_event_137 M_X13_isWord (C_X13_isWord _ _) ML_X13_455 IM_X13_isWord SE_X13_isWord qc_950 rfl (As := [.int 42]) rfl rfl (Nat.le_of_ble_eq_true rfl) (Nat.le_of_ble_eq_true rfl) (Nat.le_of_ble_eq_true rfl) (Nat.le_of_ble_eq_true rfl) ?_
  refine mj_if_eq 152 dX13_event_140 (by decide) (fun z => t_posK hk z (fun hk => ?_)) (fun z => t_negK hk z (fun hk => ?_))
  · exact t_somK hk (fun hf => t_vret dX13_event_152 rfl ⟨rfl, hf⟩ (Nat.le_of_ble_eq_true rfl) (Nat.le_of_ble_eq_true rfl))
  · refine mj_aload_n dX13_event_143 0 rfl ?_
    refine t_bndK hk (fun r2 er2 hk => ?_)
    refine t_callVvE dX13_event_144 M_X13_next (C_X13_next _ _ er2) ML_X13_452 IM_X13_next SE_X13_next qc_950 rfl (As := []) rfl rfl (Nat.le_of_ble_eq_true rfl) (Nat.le_of_ble_eq_true rfl) (Nat.le_of_ble_eq_true rfl) (Nat.le_of_ble_eq_true rfl) ?_
    refine mj_aload_n dX13_event_147 0 rfl ?_
    refine mj_iload_n dX13_event_148 1 rfl ?_
    refine t_bndK hk (fun r3 er3 hk => ?_)
    refine t_callVvE dX13_event_149 M_X13_into (C_X13_into _ _ _ er3) ML_X13_767 IM_X13_into SE_X13_into qc_950 rfl (As := [.int l1]) rfl rfl (Nat.le_of_ble_eq_true rfl) (Nat.le_of_ble_eq_true rfl) (Nat.le_of_ble_eq_true rfl) (Nat.le_of_ble_eq_true rfl) ?_
    exact t_somK hk (fun hf => t_vret dX13_event_152 rfl ⟨rfl, hf⟩ (Nat.le_of_ble_eq_true rfl) (Nat.le_of_ble_eq_true rfl))
noncomputable def k_X13_event_89 (l1 : Int32) (l2 : Int32) (k0 : Int32) (k1 : Int32) (s : t_S) : Option (t_S) :=
 if t_ix k1 401 = true then
  t_let (t_setI s 1000 (k1.toNatClampNeg) k0) (fun s1 =>
 (f_X13_wordOf l1 s1).bind (fun r2 =>
 if l2 = (61 : Int32) then ((f_X13_templ r2).bind (fun r3 =>
 if t_ix l1 401 = true then
  t_let (t_setI r3.2 995 (l1.toNatClampNeg) r3.1) (fun s2 =>
 if (f_X13_isWord (62 : Int32) s2) = (0 : Int32) then (k_X13_event_134 l1 s2)
 else ((f_X13_next s2).bind (fun r6 =>
 (f_X13_exp r6).bind (fun r7 =>
 t_let (t_setI r7.2 996 (l1.toNatClampNeg) r7.1) (fun s3 =>
 k_X13_event_134 l1 s3)))))
else none))
 else (some (r2))))
else none
set_option maxRecDepth 4000 in
set_option maxHeartbeats 1000000 in
theorem B_X13_event_89 {D : va_G} {cy : Nat → ClassId} {ad : Nat → Nat} {bs : Nat} {X : State → Heap → Prop} (l1 : Int32) (l2 : Int32) (k0 : Int32) (k1 : Int32) (s : t_S) (Q : t_S → Prop) (hk : t_hk (k_X13_event_89 l1 l2 k0 k1 s) Q) : mj_G D cy ad bs X cX13_event 3 yX13_event.cls none yX13_event.name 309 0 0 1065 (t_P (fun v s' => v = none ∧ Q (s'))) 89 [(0, .ref 950), (1, .int l1), (2, .int l2)] [.int k0, .int k1, .ref 1000] (t_m s) 1065 0 0 := by
  refine t_chkK hk (fun c0 hk => ?_)
  refine t_iastK dX13_event_89 qa_1000 (t_ixv c0) (fun s1 ws1 => t_letE hk ws1 (fun hk => ?_))
  refine mj_aload_n dX13_event_90 0 rfl ?_
  refine mj_iload_n dX13_event_91 1 rfl ?_
  refine t_bndK hk (fun r2 er2 hk => ?_)
  refine t_callVvE dX13_event_92 M_X13_wordOf (C_X13_wordOf _ _ _ er2) ML_X13_770 IM_X13_wordOf SE_X13_wordOf qc_950 rfl (As := [.int l1]) rfl rfl (Nat.le_of_ble_eq_true rfl) (Nat.le_of_ble_eq_true rfl) (Nat.le_of_ble_eq_true rfl) (Nat.le_of_ble_eq_true rfl) ?_
  refine mj_iload_n dX13_event_95 2 rfl ?_
  refine mj_bipush (v := 61) dX13_event_96 (by decide) ?_
  refine mj_icmp_ne 152 dX13_event_98 (by decide) (fun z => t_negK hk z (fun hk => ?_)) (fun z => t_posK hk z (fun hk => ?_))
  · exact t_somK hk (fun hf => t_vret dX13_event_152 rfl ⟨rfl, hf⟩ (Nat.le_of_ble_eq_true rfl) (Nat.le_of_ble_eq_true rfl))
  · refine mj_aload_n dX13_event_101 0 rfl ?_
    refine t_getR 995 dX13_event_102 F_X13_147 qr_950_73 ?_
    refine mj_iload_n dX13_event_105 1 rfl ?_
    refine mj_aload_n dX13_event_106 0 rfl ?_
    refine t_bndK hk (fun r3 er3 hk => ?_)
    refine t_callSiE dX13_event_107 M_X13_templ (C_X13_templ _ _ er3) ML_X13_574 SM_X13_templ (As := [.ref 950]) rfl rfl (Nat.le_of_ble_eq_true rfl) (Nat.le_of_ble_eq_true rfl) (Nat.le_of_ble_eq_true rfl) (Nat.le_of_ble_eq_true rfl) ?_
    refine t_chkK hk (fun c3 hk => ?_)
    refine t_iastK dX13_event_110 qa_995 (t_ixv c3) (fun s2 ws2 => t_letE hk ws2 (fun hk => ?_))
    refine mj_aload_n dX13_event_111 0 rfl ?_
    refine mj_bipush (v := 62) dX13_event_112 (by decide) ?_
    refine t_callViP dX13_event_114 M_X13_isWord (C_X13_isWord _ _) ML_X13_455 IM_X13_isWord SE_X13_isWord qc_950 rfl (As := [.int 62]) rfl rfl (Nat.le_of_ble_eq_true rfl) (Nat.le_of_ble_eq_true rfl) (Nat.le_of_ble_eq_true rfl) (Nat.le_of_ble_eq_true rfl) ?_
    refine mj_if_eq 134 dX13_event_117 (by decide) (fun z => t_posK hk z (fun hk => ?_)) (fun z => t_negK hk z (fun hk => ?_))
    · refine mj_sublv [(0, .ref 950), (1, .int l1)] [0, 1] rfl ?_
      exact B_X13_event_134 _ _ _ hk
    · refine mj_aload_n dX13_event_120 0 rfl ?_
      refine t_bndK hk (fun r6 er6 hk => ?_)
      refine t_callVvE dX13_event_121 M_X13_next (C_X13_next _ _ er6) ML_X13_452 IM_X13_next SE_X13_next qc_950 rfl (As := []) rfl rfl (Nat.le_of_ble_eq_true rfl) (Nat.le_of_ble_eq_true rfl) (Nat.le_of_ble_eq_true rfl) (Nat.le_of_ble_eq_true rfl) ?_
      refine mj_aload_n dX13_event_124 0 rfl ?_
      refine t_getR 996 dX13_event_125 F_X13_150 qr_950_74 ?_
      refine mj_iload_n dX13_event_128 1 rfl ?_
      refine mj_aload_n dX13_event_129 0 rfl ?_
      refine t_bndK hk (fun r7 er7 hk => ?_)
      refine t_callSiE dX13_event_130 M_X13_exp (C_X13_exp _ _ er7) ML_X13_581 SM_X13_exp (As := [.ref 950]) rfl rfl (Nat.le_of_ble_eq_true rfl) (Nat.le_of_ble_eq_true rfl) (Nat.le_of_ble_eq_true rfl) (Nat.le_of_ble_eq_true rfl) ?_
      refine t_iastK dX13_event_133 qa_996 (t_ixv c3) (fun s3 ws3 => t_letE hk ws3 (fun hk => ?_))
      refine mj_sublv [(0, .ref 950), (1, .int l1)] [0, 1] rfl ?_
      exact B_X13_event_134 _ _ _ hk
noncomputable def k_X13_event_45 (l1 : Int32) (l2 : Int32) (s : t_S) : Option (t_S) :=
 (f_X13_next s).bind (fun r1 =>
 if l2 = (64 : Int32) then (if t_ix l1 401 = true then
  t_let (t_setI r1 1000 (l1.toNatClampNeg) (2 : Int32)) (fun s1 =>
 (f_X13_exp s1).bind (fun r3 =>
 t_let (t_setI r3.2 995 (l1.toNatClampNeg) r3.1) (fun s2 =>
 some (s2))))
else none)
 else (if l2 = (61 : Int32) then (k_X13_event_89 l1 l2 0 l1 r1)
 else (k_X13_event_89 l1 l2 1 l1 r1)))
set_option maxRecDepth 4000 in
set_option maxHeartbeats 1000000 in
theorem B_X13_event_45 {D : va_G} {cy : Nat → ClassId} {ad : Nat → Nat} {bs : Nat} {X : State → Heap → Prop} (l1 : Int32) (l2 : Int32) (s : t_S) (Q : t_S → Prop) (hk : t_hk (k_X13_event_45 l1 l2 s) Q) : mj_G D cy ad bs X cX13_event 3 yX13_event.cls none yX13_event.name 309 0 0 1065 (t_P (fun v s' => v = none ∧ Q (s'))) 45 [(0, .ref 950), (1, .int l1), (2, .int l2)] [] (t_m s) 1065 0 0 := by
  refine mj_aload_n dX13_event_45 0 rfl ?_
  refine t_bndK hk (fun r1 er1 hk => ?_)
  refine t_callVvE dX13_event_46 M_X13_next (C_X13_next _ _ er1) ML_X13_452 IM_X13_next SE_X13_next qc_950 rfl (As := []) rfl rfl (Nat.le_of_ble_eq_true rfl) (Nat.le_of_ble_eq_true rfl) (Nat.le_of_ble_eq_true rfl) (Nat.le_of_ble_eq_true rfl) ?_
  refine mj_iload_n dX13_event_49 2 rfl ?_
  refine mj_bipush (v := 64) dX13_event_50 (by decide) ?_
  refine mj_icmp_ne 73 dX13_event_52 (by decide) (fun z => t_negK hk z (fun hk => ?_)) (fun z => t_posK hk z (fun hk => ?_))
  · refine mj_aload_n dX13_event_73 0 rfl ?_
    refine t_getR 1000 dX13_event_74 F_X13_162 qr_950_78 ?_
    refine mj_iload_n dX13_event_77 1 rfl ?_
    refine mj_iload_n dX13_event_78 2 rfl ?_
    refine mj_bipush (v := 61) dX13_event_79 (by decide) ?_
    refine mj_icmp_ne 88 dX13_event_81 (by decide) (fun z => t_negK hk z (fun hk => ?_)) (fun z => t_posK hk z (fun hk => ?_))
    · refine mj_iconst (v := 1) dX13_event_88 (by decide) ?_
      exact B_X13_event_89 _ _ _ _ _ _ hk
    · refine mj_iconst (v := 0) dX13_event_84 (by decide) ?_
      refine mj_goto 89 dX13_event_85 (by decide) ?_
      exact B_X13_event_89 _ _ _ _ _ _ hk
  · refine mj_aload_n dX13_event_55 0 rfl ?_
    refine t_getR 1000 dX13_event_56 F_X13_162 qr_950_78 ?_
    refine mj_iload_n dX13_event_59 1 rfl ?_
    refine mj_iconst (v := 2) dX13_event_60 (by decide) ?_
    refine t_chkK hk (fun c1 hk => ?_)
    refine t_iastK dX13_event_61 qa_1000 (t_ixv c1) (fun s1 ws1 => t_letE hk ws1 (fun hk => ?_))
    refine mj_aload_n dX13_event_62 0 rfl ?_
    refine t_getR 995 dX13_event_63 F_X13_147 qr_950_73 ?_
    refine mj_iload_n dX13_event_66 1 rfl ?_
    refine mj_aload_n dX13_event_67 0 rfl ?_
    refine t_bndK hk (fun r3 er3 hk => ?_)
    refine t_callSiE dX13_event_68 M_X13_exp (C_X13_exp _ _ er3) ML_X13_581 SM_X13_exp (As := [.ref 950]) rfl rfl (Nat.le_of_ble_eq_true rfl) (Nat.le_of_ble_eq_true rfl) (Nat.le_of_ble_eq_true rfl) (Nat.le_of_ble_eq_true rfl) ?_
    refine t_iastK dX13_event_71 qa_995 (t_ixv c1) (fun s2 ws2 => t_letE hk ws2 (fun hk => ?_))
    exact t_somK hk (fun hf => t_vret dX13_event_72 rfl ⟨rfl, hf⟩ (Nat.le_of_ble_eq_true rfl) (Nat.le_of_ble_eq_true rfl))
noncomputable def k_X13_event_16 (l1 : Int32) (k0 : Int32) (s : t_S) : Option (t_S) :=
 if k0 = (61 : Int32) then (k_X13_event_45 l1 k0 s)
 else (if k0 = (63 : Int32) then (k_X13_event_45 l1 k0 s)
 else (if k0 = (64 : Int32) then (k_X13_event_45 l1 k0 s)
 else ((f_X13_fail (2 : Int32) (s.1 950 6) s).bind (fun r1 =>
 some (r1)))))
set_option maxRecDepth 4000 in
set_option maxHeartbeats 1000000 in
theorem B_X13_event_16 {D : va_G} {cy : Nat → ClassId} {ad : Nat → Nat} {bs : Nat} {X : State → Heap → Prop} (l1 : Int32) (k0 : Int32) (s : t_S) (Q : t_S → Prop) (hk : t_hk (k_X13_event_16 l1 k0 s) Q) : mj_G D cy ad bs X cX13_event 3 yX13_event.cls none yX13_event.name 309 0 0 1065 (t_P (fun v s' => v = none ∧ Q (s'))) 16 [(0, .ref 950), (1, .int l1)] [.int k0] (t_m s) 1065 0 0 := by
  refine mj_istore_n 2 (lv2 := [(2, .int k0), (0, .ref 950), (1, .int l1)]) dX13_event_16 rfl (by decide) rfl ?_
  refine mj_iload_n dX13_event_17 0 rfl ?_
  refine mj_bipush (v := 61) dX13_event_18 (by decide) ?_
  refine mj_icmp_eq 45 dX13_event_20 (by decide) (fun z => t_posK hk z (fun hk => ?_)) (fun z => t_negK hk z (fun hk => ?_))
  · refine mj_sublv [(0, .ref 950), (1, .int l1), (2, .int k0)] [1, 2, 0] rfl ?_
    exact B_X13_event_45 _ _ _ _ hk
  · refine mj_iload_n dX13_event_23 0 rfl ?_
    refine mj_bipush (v := 63) dX13_event_24 (by decide) ?_
    refine mj_icmp_eq 45 dX13_event_26 (by decide) (fun z => t_posK hk z (fun hk => ?_)) (fun z => t_negK hk z (fun hk => ?_))
    · refine mj_sublv [(0, .ref 950), (1, .int l1), (2, .int k0)] [1, 2, 0] rfl ?_
      exact B_X13_event_45 _ _ _ _ hk
    · refine mj_iload_n dX13_event_29 0 rfl ?_
      refine mj_bipush (v := 64) dX13_event_30 (by decide) ?_
      refine mj_icmp_eq 45 dX13_event_32 (by decide) (fun z => t_posK hk z (fun hk => ?_)) (fun z => t_negK hk z (fun hk => ?_))
      · refine mj_sublv [(0, .ref 950), (1, .int l1), (2, .int k0)] [1, 2, 0] rfl ?_
        exact B_X13_event_45 _ _ _ _ hk
      · refine mj_aload_n dX13_event_35 1 rfl ?_
        refine mj_iconst (v := 2) dX13_event_36 (by decide) ?_
        refine mj_aload_n dX13_event_37 1 rfl ?_
        refine t_getI dX13_event_38 F_X13_391 qf_950_6 ?_
        refine t_bndK hk (fun r1 er1 hk => ?_)
        refine t_callVvE dX13_event_41 M_X13_fail (C_X13_fail _ _ _ _ er1) ML_X13_411 IM_X13_fail SE_X13_fail qc_950 rfl (As := [.int 2, .int (s.1 950 6)]) rfl rfl (Nat.le_of_ble_eq_true rfl) (Nat.le_of_ble_eq_true rfl) (Nat.le_of_ble_eq_true rfl) (Nat.le_of_ble_eq_true rfl) ?_
        exact t_somK hk (fun hf => t_vret dX13_event_44 rfl ⟨rfl, hf⟩ (Nat.le_of_ble_eq_true rfl) (Nat.le_of_ble_eq_true rfl))
noncomputable def f_X13_event (x2 : Int32) (s : t_S) : Option (t_S) :=
 if (s.1 950 5) = (1 : Int32) then (k_X13_event_16 x2 (s.1 950 10) s)
 else (k_X13_event_16 x2 (-1) s)
set_option maxRecDepth 4000 in
set_option maxHeartbeats 1000000 in
theorem C_X13_event (x2 : Int32) (s : t_S) (r : t_S) (hr : f_X13_event x2 s = some r) : t_C yX13_event cX13_event 3 none 309 [.ref 950, .int x2] s (fun v s' => v = none ∧ s' = r) := by
  refine t_C.imp (P := fun v s' => v = none ∧ (fun q => q = r) (s')) (t_C.of (by decide +kernel) (Nat.le_of_ble_eq_true rfl) ?_) (fun v s' hp => hp)
  intro D cy ad bs X
  have hk : t_hk (f_X13_event x2 s) (fun q => q = r) := ⟨r, hr, rfl⟩
  show mj_G D cy ad bs X cX13_event 3 yX13_event.cls none yX13_event.name 309 0 0 1065 (t_P (fun v s' => v = none ∧ (fun q => q = r) (s'))) 0 [(0, .ref 950), (1, .int x2)] [] (t_m s) 1065 0 0
  refine mj_aload_n dX13_event_0 0 rfl ?_
  refine t_getI dX13_event_1 F_X13_385 qf_950_5 ?_
  refine mj_iconst (v := 1) dX13_event_4 (by decide) ?_
  refine mj_icmp_ne 15 dX13_event_5 (by decide) (fun z => t_negK hk z (fun hk => ?_)) (fun z => t_posK hk z (fun hk => ?_))
  · refine mj_iconst (v := (-1)) dX13_event_15 (by decide) ?_
    exact B_X13_event_16 _ _ _ _ hk
  · refine mj_aload_n dX13_event_8 0 rfl ?_
    refine t_getI dX13_event_9 F_X13_397 qf_950_10 ?_
    refine mj_goto 16 dX13_event_12 (by decide) ?_
    exact B_X13_event_16 _ _ _ _ hk

theorem dX13_line_0 : decode cX13_line 0 = .ok (.aload_n 0, 1) := by decide +kernel
theorem dX13_line_1 : decode cX13_line 1 = .ok (.getfield 639, 3) := by decide +kernel
theorem dX13_line_10 : decode cX13_line 10 = .ok (.aload_n 0, 1) := by decide +kernel
theorem dX13_line_100 : decode cX13_line 100 = .ok (.getfield 150, 3) := by decide +kernel
theorem dX13_line_103 : decode cX13_line 103 = .ok (.iload_n 3, 1) := by decide +kernel
theorem dX13_line_104 : decode cX13_line 104 = .ok (.iconst (-1), 1) := by decide +kernel
theorem dX13_line_105 : decode cX13_line 105 = .ok (.iastore, 1) := by decide +kernel
theorem dX13_line_106 : decode cX13_line 106 = .ok (.aload_n 0, 1) := by decide +kernel
theorem dX13_line_107 : decode cX13_line 107 = .ok (.getfield 153, 3) := by decide +kernel
theorem dX13_line_11 : decode cX13_line 11 = .ok (.iconst 5, 1) := by decide +kernel
theorem dX13_line_110 : decode cX13_line 110 = .ok (.iload_n 3, 1) := by decide +kernel
theorem dX13_line_111 : decode cX13_line 111 = .ok (.iconst (-1), 1) := by decide +kernel
theorem dX13_line_112 : decode cX13_line 112 = .ok (.iastore, 1) := by decide +kernel
theorem dX13_line_113 : decode cX13_line 113 = .ok (.aload_n 0, 1) := by decide +kernel
theorem dX13_line_114 : decode cX13_line 114 = .ok (.getfield 156, 3) := by decide +kernel
theorem dX13_line_117 : decode cX13_line 117 = .ok (.iload_n 3, 1) := by decide +kernel
theorem dX13_line_118 : decode cX13_line 118 = .ok (.iconst (-1), 1) := by decide +kernel
theorem dX13_line_119 : decode cX13_line 119 = .ok (.iastore, 1) := by decide +kernel
theorem dX13_line_12 : decode cX13_line 12 = .ok (.aload_n 0, 1) := by decide +kernel
theorem dX13_line_120 : decode cX13_line 120 = .ok (.aload_n 0, 1) := by decide +kernel
theorem dX13_line_121 : decode cX13_line 121 = .ok (.getfield 159, 3) := by decide +kernel
theorem dX13_line_124 : decode cX13_line 124 = .ok (.iload_n 3, 1) := by decide +kernel
theorem dX13_line_125 : decode cX13_line 125 = .ok (.iconst (-1), 1) := by decide +kernel
theorem dX13_line_126 : decode cX13_line 126 = .ok (.iastore, 1) := by decide +kernel
theorem dX13_line_127 : decode cX13_line 127 = .ok (.aload_n 0, 1) := by decide +kernel
theorem dX13_line_128 : decode cX13_line 128 = .ok (.getfield 162, 3) := by decide +kernel
theorem dX13_line_13 : decode cX13_line 13 = .ok (.getfield 391, 3) := by decide +kernel
theorem dX13_line_131 : decode cX13_line 131 = .ok (.iload_n 3, 1) := by decide +kernel
theorem dX13_line_132 : decode cX13_line 132 = .ok (.iconst (-1), 1) := by decide +kernel
theorem dX13_line_133 : decode cX13_line 133 = .ok (.iastore, 1) := by decide +kernel
theorem dX13_line_134 : decode cX13_line 134 = .ok (.aload_n 0, 1) := by decide +kernel
theorem dX13_line_135 : decode cX13_line 135 = .ok (.getfield 165, 3) := by decide +kernel
theorem dX13_line_138 : decode cX13_line 138 = .ok (.iload_n 3, 1) := by decide +kernel
theorem dX13_line_139 : decode cX13_line 139 = .ok (.aload_n 0, 1) := by decide +kernel
theorem dX13_line_140 : decode cX13_line 140 = .ok (.getfield 584, 3) := by decide +kernel
theorem dX13_line_143 : decode cX13_line 143 = .ok (.sipush 2000, 3) := by decide +kernel
theorem dX13_line_146 : decode cX13_line 146 = .ok (.isub, 1) := by decide +kernel
theorem dX13_line_147 : decode cX13_line 147 = .ok (.iastore, 1) := by decide +kernel
theorem dX13_line_148 : decode cX13_line 148 = .ok (.aload_n 0, 1) := by decide +kernel
theorem dX13_line_149 : decode cX13_line 149 = .ok (.getfield 168, 3) := by decide +kernel
theorem dX13_line_152 : decode cX13_line 152 = .ok (.iload_n 3, 1) := by decide +kernel
theorem dX13_line_153 : decode cX13_line 153 = .ok (.aload_n 0, 1) := by decide +kernel
theorem dX13_line_154 : decode cX13_line 154 = .ok (.getfield 621, 3) := by decide +kernel
theorem dX13_line_157 : decode cX13_line 157 = .ok (.iastore, 1) := by decide +kernel
theorem dX13_line_158 : decode cX13_line 158 = .ok (.iload_n 3, 1) := by decide +kernel
theorem dX13_line_159 : decode cX13_line 159 = .ok (.ireturn, 1) := by decide +kernel
theorem dX13_line_16 : decode cX13_line 16 = .ok (.invokevirtual 411, 3) := by decide +kernel
theorem dX13_line_19 : decode cX13_line 19 = .ok (.aload_n 0, 1) := by decide +kernel
theorem dX13_line_20 : decode cX13_line 20 = .ok (.getfield 639, 3) := by decide +kernel
theorem dX13_line_23 : decode cX13_line 23 = .ok (.sipush 400, 3) := by decide +kernel
theorem dX13_line_26 : decode cX13_line 26 = .ok (.if_icmp .ge 10, 3) := by decide +kernel
theorem dX13_line_29 : decode cX13_line 29 = .ok (.aload_n 0, 1) := by decide +kernel
theorem dX13_line_30 : decode cX13_line 30 = .ok (.getfield 639, 3) := by decide +kernel
theorem dX13_line_33 : decode cX13_line 33 = .ok (.goto 6, 3) := by decide +kernel
theorem dX13_line_36 : decode cX13_line 36 = .ok (.sipush 399, 3) := by decide +kernel
theorem dX13_line_39 : decode cX13_line 39 = .ok (.istore_n 3, 1) := by decide +kernel
theorem dX13_line_4 : decode cX13_line 4 = .ok (.sipush 400, 3) := by decide +kernel
theorem dX13_line_40 : decode cX13_line 40 = .ok (.aload_n 0, 1) := by decide +kernel
theorem dX13_line_41 : decode cX13_line 41 = .ok (.iload_n 3, 1) := by decide +kernel
theorem dX13_line_42 : decode cX13_line 42 = .ok (.iconst 1, 1) := by decide +kernel
theorem dX13_line_43 : decode cX13_line 43 = .ok (.iadd, 1) := by decide +kernel
theorem dX13_line_44 : decode cX13_line 44 = .ok (.putfield 639, 3) := by decide +kernel
theorem dX13_line_47 : decode cX13_line 47 = .ok (.aload_n 0, 1) := by decide +kernel
theorem dX13_line_48 : decode cX13_line 48 = .ok (.getfield 126, 3) := by decide +kernel
theorem dX13_line_51 : decode cX13_line 51 = .ok (.iload_n 3, 1) := by decide +kernel
theorem dX13_line_52 : decode cX13_line 52 = .ok (.iload_n 1, 1) := by decide +kernel
theorem dX13_line_53 : decode cX13_line 53 = .ok (.iastore, 1) := by decide +kernel
theorem dX13_line_54 : decode cX13_line 54 = .ok (.aload_n 0, 1) := by decide +kernel
theorem dX13_line_55 : decode cX13_line 55 = .ok (.getfield 129, 3) := by decide +kernel
theorem dX13_line_58 : decode cX13_line 58 = .ok (.iload_n 3, 1) := by decide +kernel
theorem dX13_line_59 : decode cX13_line 59 = .ok (.iconst (-1), 1) := by decide +kernel
theorem dX13_line_60 : decode cX13_line 60 = .ok (.iastore, 1) := by decide +kernel
theorem dX13_line_61 : decode cX13_line 61 = .ok (.aload_n 0, 1) := by decide +kernel
theorem dX13_line_62 : decode cX13_line 62 = .ok (.getfield 132, 3) := by decide +kernel
theorem dX13_line_65 : decode cX13_line 65 = .ok (.iload_n 3, 1) := by decide +kernel
theorem dX13_line_66 : decode cX13_line 66 = .ok (.iload_n 2, 1) := by decide +kernel
theorem dX13_line_67 : decode cX13_line 67 = .ok (.iastore, 1) := by decide +kernel
theorem dX13_line_68 : decode cX13_line 68 = .ok (.aload_n 0, 1) := by decide +kernel
theorem dX13_line_69 : decode cX13_line 69 = .ok (.getfield 135, 3) := by decide +kernel
theorem dX13_line_7 : decode cX13_line 7 = .ok (.if_icmp .ne 12, 3) := by decide +kernel
theorem dX13_line_72 : decode cX13_line 72 = .ok (.iload_n 3, 1) := by decide +kernel
theorem dX13_line_73 : decode cX13_line 73 = .ok (.iconst (-1), 1) := by decide +kernel
theorem dX13_line_74 : decode cX13_line 74 = .ok (.iastore, 1) := by decide +kernel
theorem dX13_line_75 : decode cX13_line 75 = .ok (.aload_n 0, 1) := by decide +kernel
theorem dX13_line_76 : decode cX13_line 76 = .ok (.getfield 138, 3) := by decide +kernel
theorem dX13_line_79 : decode cX13_line 79 = .ok (.iload_n 3, 1) := by decide +kernel
theorem dX13_line_80 : decode cX13_line 80 = .ok (.aload_n 0, 1) := by decide +kernel
theorem dX13_line_81 : decode cX13_line 81 = .ok (.getfield 391, 3) := by decide +kernel
theorem dX13_line_84 : decode cX13_line 84 = .ok (.iastore, 1) := by decide +kernel
theorem dX13_line_85 : decode cX13_line 85 = .ok (.aload_n 0, 1) := by decide +kernel
theorem dX13_line_86 : decode cX13_line 86 = .ok (.getfield 141, 3) := by decide +kernel
theorem dX13_line_89 : decode cX13_line 89 = .ok (.iload_n 3, 1) := by decide +kernel
theorem dX13_line_90 : decode cX13_line 90 = .ok (.iconst (-1), 1) := by decide +kernel
theorem dX13_line_91 : decode cX13_line 91 = .ok (.iastore, 1) := by decide +kernel
theorem dX13_line_92 : decode cX13_line 92 = .ok (.aload_n 0, 1) := by decide +kernel
theorem dX13_line_93 : decode cX13_line 93 = .ok (.getfield 147, 3) := by decide +kernel
theorem dX13_line_96 : decode cX13_line 96 = .ok (.iload_n 3, 1) := by decide +kernel
theorem dX13_line_97 : decode cX13_line 97 = .ok (.iconst (-1), 1) := by decide +kernel
theorem dX13_line_98 : decode cX13_line 98 = .ok (.iastore, 1) := by decide +kernel
theorem dX13_line_99 : decode cX13_line 99 = .ok (.aload_n 0, 1) := by decide +kernel
noncomputable def k_X13_line_39 (l1 : Int32) (l2 : Int32) (k0 : Int32) (s : t_S) : Option (Int32 × t_S) :=
 t_let (t_setI s 950 81 (k0 + (1 : Int32))) (fun s1 =>
 if t_ix k0 401 = true then
  t_let (t_setI s1 988 (k0.toNatClampNeg) l1) (fun s2 =>
 t_let (t_setI s2 989 (k0.toNatClampNeg) (-1 : Int32)) (fun s3 =>
 t_let (t_setI s3 990 (k0.toNatClampNeg) l2) (fun s4 =>
 t_let (t_setI s4 991 (k0.toNatClampNeg) (-1 : Int32)) (fun s5 =>
 t_let (t_setI s5 992 (k0.toNatClampNeg) (s5.1 950 6)) (fun s6 =>
 t_let (t_setI s6 993 (k0.toNatClampNeg) (-1 : Int32)) (fun s7 =>
 t_let (t_setI s7 995 (k0.toNatClampNeg) (-1 : Int32)) (fun s8 =>
 t_let (t_setI s8 996 (k0.toNatClampNeg) (-1 : Int32)) (fun s9 =>
 t_let (t_setI s9 997 (k0.toNatClampNeg) (-1 : Int32)) (fun s10 =>
 t_let (t_setI s10 998 (k0.toNatClampNeg) (-1 : Int32)) (fun s11 =>
 t_let (t_setI s11 999 (k0.toNatClampNeg) (-1 : Int32)) (fun s12 =>
 t_let (t_setI s12 1000 (k0.toNatClampNeg) (-1 : Int32)) (fun s13 =>
 t_let (t_setI s13 1001 (k0.toNatClampNeg) ((s13.1 950 33) - (2000 : Int32))) (fun s14 =>
 t_let (t_setI s14 1002 (k0.toNatClampNeg) (s14.1 950 34)) (fun s15 =>
 some (k0, s15)))))))))))))))
else none)
set_option maxRecDepth 4000 in
set_option maxHeartbeats 1000000 in
theorem B_X13_line_39 {D : va_G} {cy : Nat → ClassId} {ad : Nat → Nat} {bs : Nat} {X : State → Heap → Prop} (l1 : Int32) (l2 : Int32) (k0 : Int32) (s : t_S) (Q : Int32 × t_S → Prop) (hk : t_hk (k_X13_line_39 l1 l2 k0 s) Q) : mj_G D cy ad bs X cX13_line 4 yX13_line.cls (some .int) yX13_line.name 1 0 0 1065 (t_P (fun v s' => ∃ x, v = some (.int x) ∧ Q ((x, s')))) 39 [(0, .ref 950), (1, .int l1), (2, .int l2)] [.int k0] (t_m s) 1065 0 0 := by
  refine mj_istore_n 3 (lv2 := [(3, .int k0), (0, .ref 950), (1, .int l1), (2, .int l2)]) dX13_line_39 rfl (by decide) rfl ?_
  refine mj_aload_n dX13_line_40 1 rfl ?_
  refine mj_iload_n dX13_line_41 0 rfl ?_
  refine mj_iconst (v := 1) dX13_line_42 (by decide) ?_
  refine mj_iadd dX13_line_43 ?_
  refine t_putIK dX13_line_44 F_X13_639 qf_950_81 rfl (fun s1 ws1 => t_letE hk ws1 (fun hk => ?_))
  refine mj_aload_n dX13_line_47 1 rfl ?_
  refine t_getR 988 dX13_line_48 F_X13_126 qr_950_66 ?_
  refine mj_iload_n dX13_line_51 0 rfl ?_
  refine mj_iload_n dX13_line_52 2 rfl ?_
  refine t_chkK hk (fun c0 hk => ?_)
  refine t_iastK dX13_line_53 qa_988 (t_ixv c0) (fun s2 ws2 => t_letE hk ws2 (fun hk => ?_))
  refine mj_aload_n dX13_line_54 1 rfl ?_
  refine t_getR 989 dX13_line_55 F_X13_129 qr_950_67 ?_
  refine mj_iload_n dX13_line_58 0 rfl ?_
  refine mj_iconst (v := (-1)) dX13_line_59 (by decide) ?_
  refine t_iastK dX13_line_60 qa_989 (t_ixv c0) (fun s3 ws3 => t_letE hk ws3 (fun hk => ?_))
  refine mj_aload_n dX13_line_61 1 rfl ?_
  refine t_getR 990 dX13_line_62 F_X13_132 qr_950_68 ?_
  refine mj_iload_n dX13_line_65 0 rfl ?_
  refine mj_iload_n dX13_line_66 3 rfl ?_
  refine t_iastK dX13_line_67 qa_990 (t_ixv c0) (fun s4 ws4 => t_letE hk ws4 (fun hk => ?_))
  refine mj_aload_n dX13_line_68 1 rfl ?_
  refine t_getR 991 dX13_line_69 F_X13_135 qr_950_69 ?_
  refine mj_iload_n dX13_line_72 0 rfl ?_
  refine mj_iconst (v := (-1)) dX13_line_73 (by decide) ?_
  refine t_iastK dX13_line_74 qa_991 (t_ixv c0) (fun s5 ws5 => t_letE hk ws5 (fun hk => ?_))
  refine mj_aload_n dX13_line_75 1 rfl ?_
  refine t_getR 992 dX13_line_76 F_X13_138 qr_950_70 ?_
  refine mj_iload_n dX13_line_79 0 rfl ?_
  refine mj_aload_n dX13_line_80 1 rfl ?_
  refine t_getI dX13_line_81 F_X13_391 qf_950_6 ?_
  refine t_iastK dX13_line_84 qa_992 (t_ixv c0) (fun s6 ws6 => t_letE hk ws6 (fun hk => ?_))
  refine mj_aload_n dX13_line_85 1 rfl ?_
  refine t_getR 993 dX13_line_86 F_X13_141 qr_950_71 ?_
  refine mj_iload_n dX13_line_89 0 rfl ?_
  refine mj_iconst (v := (-1)) dX13_line_90 (by decide) ?_
  refine t_iastK dX13_line_91 qa_993 (t_ixv c0) (fun s7 ws7 => t_letE hk ws7 (fun hk => ?_))
  refine mj_aload_n dX13_line_92 1 rfl ?_
  refine t_getR 995 dX13_line_93 F_X13_147 qr_950_73 ?_
  refine mj_iload_n dX13_line_96 0 rfl ?_
  refine mj_iconst (v := (-1)) dX13_line_97 (by decide) ?_
  refine t_iastK dX13_line_98 qa_995 (t_ixv c0) (fun s8 ws8 => t_letE hk ws8 (fun hk => ?_))
  refine mj_aload_n dX13_line_99 1 rfl ?_
  refine t_getR 996 dX13_line_100 F_X13_150 qr_950_74 ?_
  refine mj_iload_n dX13_line_103 0 rfl ?_
  refine mj_iconst (v := (-1)) dX13_line_104 (by decide) ?_
  refine t_iastK dX13_line_105 qa_996 (t_ixv c0) (fun s9 ws9 => t_letE hk ws9 (fun hk => ?_))
  refine mj_aload_n dX13_line_106 1 rfl ?_
  refine t_getR 997 dX13_line_107 F_X13_153 qr_950_75 ?_
  refine mj_iload_n dX13_line_110 0 rfl ?_
  refine mj_iconst (v := (-1)) dX13_line_111 (by decide) ?_
  refine t_iastK dX13_line_112 qa_997 (t_ixv c0) (fun s10 ws10 => t_letE hk ws10 (fun hk => ?_))
  refine mj_aload_n dX13_line_113 1 rfl ?_
  refine t_getR 998 dX13_line_114 F_X13_156 qr_950_76 ?_
  refine mj_iload_n dX13_line_117 0 rfl ?_
  refine mj_iconst (v := (-1)) dX13_line_118 (by decide) ?_
  refine t_iastK dX13_line_119 qa_998 (t_ixv c0) (fun s11 ws11 => t_letE hk ws11 (fun hk => ?_))
  refine mj_aload_n dX13_line_120 1 rfl ?_
  refine t_getR 999 dX13_line_121 F_X13_159 qr_950_77 ?_
  refine mj_iload_n dX13_line_124 0 rfl ?_
  refine mj_iconst (v := (-1)) dX13_line_125 (by decide) ?_
  refine t_iastK dX13_line_126 qa_999 (t_ixv c0) (fun s12 ws12 => t_letE hk ws12 (fun hk => ?_))
  refine mj_aload_n dX13_line_127 1 rfl ?_
  refine t_getR 1000 dX13_line_128 F_X13_162 qr_950_78 ?_
  refine mj_iload_n dX13_line_131 0 rfl ?_
  refine mj_iconst (v := (-1)) dX13_line_132 (by decide) ?_
  refine t_iastK dX13_line_133 qa_1000 (t_ixv c0) (fun s13 ws13 => t_letE hk ws13 (fun hk => ?_))
  refine mj_aload_n dX13_line_134 1 rfl ?_
  refine t_getR 1001 dX13_line_135 F_X13_165 qr_950_79 ?_
  refine mj_iload_n dX13_line_138 0 rfl ?_
  refine mj_aload_n dX13_line_139 1 rfl ?_
  refine t_getI dX13_line_140 F_X13_584 qf_950_33 ?_
  refine mj_sipush (v := 2000) dX13_line_143 (by decide) ?_
  refine mj_isub dX13_line_146 ?_
  refine t_iastK dX13_line_147 qa_1001 (t_ixv c0) (fun s14 ws14 => t_letE hk ws14 (fun hk => ?_))
  refine mj_aload_n dX13_line_148 1 rfl ?_
  refine t_getR 1002 dX13_line_149 F_X13_168 qr_950_80 ?_
  refine mj_iload_n dX13_line_152 0 rfl ?_
  refine mj_aload_n dX13_line_153 1 rfl ?_
  refine t_getI dX13_line_154 F_X13_621 qf_950_34 ?_
  refine t_iastK dX13_line_157 qa_1002 (t_ixv c0) (fun s15 ws15 => t_letE hk ws15 (fun hk => ?_))
  refine mj_iload_n dX13_line_158 0 rfl ?_
  exact t_somK hk (fun hf => t_iret dX13_line_159 rfl rfl ⟨_, rfl, hf⟩ (Nat.le_of_ble_eq_true rfl) (Nat.le_of_ble_eq_true rfl))
noncomputable def k_X13_line_19 (l1 : Int32) (l2 : Int32) (s : t_S) : Option (Int32 × t_S) :=
 if (400 : Int32) ≤ (s.1 950 81) then (k_X13_line_39 l1 l2 399 s)
 else (k_X13_line_39 l1 l2 (s.1 950 81) s)
set_option maxRecDepth 4000 in
set_option maxHeartbeats 1000000 in
theorem B_X13_line_19 {D : va_G} {cy : Nat → ClassId} {ad : Nat → Nat} {bs : Nat} {X : State → Heap → Prop} (l1 : Int32) (l2 : Int32) (s : t_S) (Q : Int32 × t_S → Prop) (hk : t_hk (k_X13_line_19 l1 l2 s) Q) : mj_G D cy ad bs X cX13_line 4 yX13_line.cls (some .int) yX13_line.name 1 0 0 1065 (t_P (fun v s' => ∃ x, v = some (.int x) ∧ Q ((x, s')))) 19 [(0, .ref 950), (1, .int l1), (2, .int l2)] [] (t_m s) 1065 0 0 := by
  refine mj_aload_n dX13_line_19 0 rfl ?_
  refine t_getI dX13_line_20 F_X13_639 qf_950_81 ?_
  refine mj_sipush (v := 400) dX13_line_23 (by decide) ?_
  refine mj_icmp_ge 36 dX13_line_26 (by decide) (fun z => t_posK hk z (fun hk => ?_)) (fun z => t_negK hk z (fun hk => ?_))
  · refine mj_sipush (v := 399) dX13_line_36 (by decide) ?_
    exact B_X13_line_39 _ _ _ _ _ hk
  · refine mj_aload_n dX13_line_29 0 rfl ?_
    refine t_getI dX13_line_30 F_X13_639 qf_950_81 ?_
    refine mj_goto 39 dX13_line_33 (by decide) ?_
    exact B_X13_line_39 _ _ _ _ _ hk
noncomputable def f_X13_line (x1 : Int32) (x2 : Int32) (s : t_S) : Option (Int32 × t_S) :=
 if (s.1 950 81) = (400 : Int32) then ((f_X13_fail (5 : Int32) (s.1 950 6) s).bind (fun r1 =>
 k_X13_line_19 x1 x2 r1))
 else (k_X13_line_19 x1 x2 s)
set_option maxRecDepth 4000 in
set_option maxHeartbeats 1000000 in
theorem C_X13_line (x1 : Int32) (x2 : Int32) (s : t_S) (r : Int32 × t_S) (hr : f_X13_line x1 x2 s = some r) : t_C yX13_line cX13_line 4 (some .int) 1 [.ref 950, .int x1, .int x2] s (fun v s' => v = some (.int r.1) ∧ s' = r.2) := by
  refine t_C.imp (P := fun v s' => ∃ x, v = some (.int x) ∧ (fun q => q = r) ((x, s'))) (t_C.of (by decide +kernel) (Nat.le_of_ble_eq_true rfl) ?_) (fun v s' hp => by obtain ⟨x, rfl, rfl⟩ := hp; exact ⟨rfl, rfl⟩)
  intro D cy ad bs X
  have hk : t_hk (f_X13_line x1 x2 s) (fun q => q = r) := ⟨r, hr, rfl⟩
  show mj_G D cy ad bs X cX13_line 4 yX13_line.cls (some .int) yX13_line.name 1 0 0 1065 (t_P (fun v s' => ∃ x, v = some (.int x) ∧ (fun q => q = r) ((x, s')))) 0 [(0, .ref 950), (1, .int x1), (2, .int x2)] [] (t_m s) 1065 0 0
  refine mj_aload_n dX13_line_0 0 rfl ?_
  refine t_getI dX13_line_1 F_X13_639 qf_950_81 ?_
  refine mj_sipush (v := 400) dX13_line_4 (by decide) ?_
  refine mj_icmp_ne 19 dX13_line_7 (by decide) (fun z => t_negK hk z (fun hk => ?_)) (fun z => t_posK hk z (fun hk => ?_))
  · exact B_X13_line_19 _ _ _ _ hk
  · refine mj_aload_n dX13_line_10 0 rfl ?_
    refine mj_iconst (v := 5) dX13_line_11 (by decide) ?_
    refine mj_aload_n dX13_line_12 0 rfl ?_
    refine t_getI dX13_line_13 F_X13_391 qf_950_6 ?_
    refine t_bndK hk (fun r1 er1 hk => ?_)
    refine t_callVvE dX13_line_16 M_X13_fail (C_X13_fail _ _ _ _ er1) ML_X13_411 IM_X13_fail SE_X13_fail qc_950 rfl (As := [.int 5, .int (s.1 950 6)]) rfl rfl (Nat.le_of_ble_eq_true rfl) (Nat.le_of_ble_eq_true rfl) (Nat.le_of_ble_eq_true rfl) (Nat.le_of_ble_eq_true rfl) ?_
    exact B_X13_line_19 _ _ _ _ hk

theorem dX13_mustWord_0 : decode cX13_mustWord 0 = .ok (.aload_n 0, 1) := by decide +kernel
theorem dX13_mustWord_1 : decode cX13_mustWord 1 = .ok (.iload_n 1, 1) := by decide +kernel
theorem dX13_mustWord_10 : decode cX13_mustWord 10 = .ok (.aload_n 0, 1) := by decide +kernel
theorem dX13_mustWord_11 : decode cX13_mustWord 11 = .ok (.getfield 391, 3) := by decide +kernel
theorem dX13_mustWord_14 : decode cX13_mustWord 14 = .ok (.invokevirtual 411, 3) := by decide +kernel
theorem dX13_mustWord_17 : decode cX13_mustWord 17 = .ok (.aload_n 0, 1) := by decide +kernel
theorem dX13_mustWord_18 : decode cX13_mustWord 18 = .ok (.invokevirtual 452, 3) := by decide +kernel
theorem dX13_mustWord_2 : decode cX13_mustWord 2 = .ok (.invokevirtual 455, 3) := by decide +kernel
theorem dX13_mustWord_21 : decode cX13_mustWord 21 = .ok (.return_, 1) := by decide +kernel
theorem dX13_mustWord_5 : decode cX13_mustWord 5 = .ok (.ifCond .ne 12, 3) := by decide +kernel
theorem dX13_mustWord_8 : decode cX13_mustWord 8 = .ok (.aload_n 0, 1) := by decide +kernel
theorem dX13_mustWord_9 : decode cX13_mustWord 9 = .ok (.iconst 2, 1) := by decide +kernel
noncomputable def k_X13_mustWord_17 (s : t_S) : Option (t_S) :=
 (f_X13_next s).bind (fun r1 =>
 some (r1))
set_option maxRecDepth 4000 in
set_option maxHeartbeats 1000000 in
theorem B_X13_mustWord_17 {D : va_G} {cy : Nat → ClassId} {ad : Nat → Nat} {bs : Nat} {X : State → Heap → Prop} (s : t_S) (Q : t_S → Prop) (hk : t_hk (k_X13_mustWord_17 s) Q) : mj_G D cy ad bs X cX13_mustWord 2 yX13_mustWord.cls none yX13_mustWord.name 6 0 0 1065 (t_P (fun v s' => v = none ∧ Q (s'))) 17 [(0, .ref 950)] [] (t_m s) 1065 0 0 := by
  refine mj_aload_n dX13_mustWord_17 0 rfl ?_
  refine t_bndK hk (fun r1 er1 hk => ?_)
  refine t_callVvE dX13_mustWord_18 M_X13_next (C_X13_next _ _ er1) ML_X13_452 IM_X13_next SE_X13_next qc_950 rfl (As := []) rfl rfl (Nat.le_of_ble_eq_true rfl) (Nat.le_of_ble_eq_true rfl) (Nat.le_of_ble_eq_true rfl) (Nat.le_of_ble_eq_true rfl) ?_
  exact t_somK hk (fun hf => t_vret dX13_mustWord_21 rfl ⟨rfl, hf⟩ (Nat.le_of_ble_eq_true rfl) (Nat.le_of_ble_eq_true rfl))
noncomputable def f_X13_mustWord (x1 : Int32) (s : t_S) : Option (t_S) :=
 if (f_X13_isWord x1 s) = (0 : Int32) then ((f_X13_fail (2 : Int32) (s.1 950 6) s).bind (fun r2 =>
 k_X13_mustWord_17 r2))
 else (k_X13_mustWord_17 s)
set_option maxRecDepth 4000 in
set_option maxHeartbeats 1000000 in
theorem C_X13_mustWord (x1 : Int32) (s : t_S) (r : t_S) (hr : f_X13_mustWord x1 s = some r) : t_C yX13_mustWord cX13_mustWord 2 none 6 [.ref 950, .int x1] s (fun v s' => v = none ∧ s' = r) := by
  refine t_C.imp (P := fun v s' => v = none ∧ (fun q => q = r) (s')) (t_C.of (by decide +kernel) (Nat.le_of_ble_eq_true rfl) ?_) (fun v s' hp => hp)
  intro D cy ad bs X
  have hk : t_hk (f_X13_mustWord x1 s) (fun q => q = r) := ⟨r, hr, rfl⟩
  show mj_G D cy ad bs X cX13_mustWord 2 yX13_mustWord.cls none yX13_mustWord.name 6 0 0 1065 (t_P (fun v s' => v = none ∧ (fun q => q = r) (s'))) 0 [(0, .ref 950), (1, .int x1)] [] (t_m s) 1065 0 0
  refine mj_aload_n dX13_mustWord_0 0 rfl ?_
  refine mj_iload_n dX13_mustWord_1 1 rfl ?_
  refine t_callViP dX13_mustWord_2 M_X13_isWord (C_X13_isWord _ _) ML_X13_455 IM_X13_isWord SE_X13_isWord qc_950 rfl (As := [.int x1]) rfl rfl (Nat.le_of_ble_eq_true rfl) (Nat.le_of_ble_eq_true rfl) (Nat.le_of_ble_eq_true rfl) (Nat.le_of_ble_eq_true rfl) ?_
  refine mj_if_ne 17 dX13_mustWord_5 (by decide) (fun z => t_negK hk z (fun hk => ?_)) (fun z => t_posK hk z (fun hk => ?_))
  · refine mj_sublv [(0, .ref 950)] [0] rfl ?_
    exact B_X13_mustWord_17 _ _ hk
  · refine mj_aload_n dX13_mustWord_8 0 rfl ?_
    refine mj_iconst (v := 2) dX13_mustWord_9 (by decide) ?_
    refine mj_aload_n dX13_mustWord_10 0 rfl ?_
    refine t_getI dX13_mustWord_11 F_X13_391 qf_950_6 ?_
    refine t_bndK hk (fun r2 er2 hk => ?_)
    refine t_callVvE dX13_mustWord_14 M_X13_fail (C_X13_fail _ _ _ _ er2) ML_X13_411 IM_X13_fail SE_X13_fail qc_950 rfl (As := [.int 2, .int (s.1 950 6)]) rfl rfl (Nat.le_of_ble_eq_true rfl) (Nat.le_of_ble_eq_true rfl) (Nat.le_of_ble_eq_true rfl) (Nat.le_of_ble_eq_true rfl) ?_
    refine mj_sublv [(0, .ref 950)] [0] rfl ?_
    exact B_X13_mustWord_17 _ _ hk

theorem dX13_simpleMore_0 : decode cX13_simpleMore 0 = .ok (.iload_n 2, 1) := by decide +kernel
theorem dX13_simpleMore_1 : decode cX13_simpleMore 1 = .ok (.tableswitch 213 51 59 #[51, 67, 213, 94, 132, 213, 213, 213, 191], 51) := by decide +kernel
theorem dX13_simpleMore_100 : decode cX13_simpleMore 100 = .ok (.bipush 15, 2) := by decide +kernel
theorem dX13_simpleMore_102 : decode cX13_simpleMore 102 = .ok (.iastore, 1) := by decide +kernel
theorem dX13_simpleMore_103 : decode cX13_simpleMore 103 = .ok (.aload_n 0, 1) := by decide +kernel
theorem dX13_simpleMore_104 : decode cX13_simpleMore 104 = .ok (.getfield 150, 3) := by decide +kernel
theorem dX13_simpleMore_107 : decode cX13_simpleMore 107 = .ok (.iload_n 1, 1) := by decide +kernel
theorem dX13_simpleMore_108 : decode cX13_simpleMore 108 = .ok (.aload_n 0, 1) := by decide +kernel
theorem dX13_simpleMore_109 : decode cX13_simpleMore 109 = .ok (.invokestatic 581, 3) := by decide +kernel
theorem dX13_simpleMore_112 : decode cX13_simpleMore 112 = .ok (.iastore, 1) := by decide +kernel
theorem dX13_simpleMore_113 : decode cX13_simpleMore 113 = .ok (.aload_n 0, 1) := by decide +kernel
theorem dX13_simpleMore_114 : decode cX13_simpleMore 114 = .ok (.bipush 53, 2) := by decide +kernel
theorem dX13_simpleMore_116 : decode cX13_simpleMore 116 = .ok (.invokevirtual 500, 3) := by decide +kernel
theorem dX13_simpleMore_119 : decode cX13_simpleMore 119 = .ok (.aload_n 0, 1) := by decide +kernel
theorem dX13_simpleMore_120 : decode cX13_simpleMore 120 = .ok (.getfield 147, 3) := by decide +kernel
theorem dX13_simpleMore_123 : decode cX13_simpleMore 123 = .ok (.iload_n 1, 1) := by decide +kernel
theorem dX13_simpleMore_124 : decode cX13_simpleMore 124 = .ok (.aload_n 0, 1) := by decide +kernel
theorem dX13_simpleMore_125 : decode cX13_simpleMore 125 = .ok (.iload_n 1, 1) := by decide +kernel
theorem dX13_simpleMore_126 : decode cX13_simpleMore 126 = .ok (.invokevirtual 764, 3) := by decide +kernel
theorem dX13_simpleMore_129 : decode cX13_simpleMore 129 = .ok (.iastore, 1) := by decide +kernel
theorem dX13_simpleMore_130 : decode cX13_simpleMore 130 = .ok (.goto 92, 3) := by decide +kernel
theorem dX13_simpleMore_133 : decode cX13_simpleMore 133 = .ok (.aload_n 0, 1) := by decide +kernel
theorem dX13_simpleMore_134 : decode cX13_simpleMore 134 = .ok (.getfield 126, 3) := by decide +kernel
theorem dX13_simpleMore_137 : decode cX13_simpleMore 137 = .ok (.iload_n 1, 1) := by decide +kernel
theorem dX13_simpleMore_138 : decode cX13_simpleMore 138 = .ok (.bipush 16, 2) := by decide +kernel
theorem dX13_simpleMore_140 : decode cX13_simpleMore 140 = .ok (.iastore, 1) := by decide +kernel
theorem dX13_simpleMore_141 : decode cX13_simpleMore 141 = .ok (.aload_n 0, 1) := by decide +kernel
theorem dX13_simpleMore_142 : decode cX13_simpleMore 142 = .ok (.getfield 147, 3) := by decide +kernel
theorem dX13_simpleMore_145 : decode cX13_simpleMore 145 = .ok (.iload_n 1, 1) := by decide +kernel
theorem dX13_simpleMore_146 : decode cX13_simpleMore 146 = .ok (.aload_n 0, 1) := by decide +kernel
theorem dX13_simpleMore_147 : decode cX13_simpleMore 147 = .ok (.invokestatic 581, 3) := by decide +kernel
theorem dX13_simpleMore_150 : decode cX13_simpleMore 150 = .ok (.iastore, 1) := by decide +kernel
theorem dX13_simpleMore_151 : decode cX13_simpleMore 151 = .ok (.aload_n 0, 1) := by decide +kernel
theorem dX13_simpleMore_152 : decode cX13_simpleMore 152 = .ok (.bipush 56, 2) := by decide +kernel
theorem dX13_simpleMore_154 : decode cX13_simpleMore 154 = .ok (.invokevirtual 500, 3) := by decide +kernel
theorem dX13_simpleMore_157 : decode cX13_simpleMore 157 = .ok (.aload_n 0, 1) := by decide +kernel
theorem dX13_simpleMore_158 : decode cX13_simpleMore 158 = .ok (.iload_n 1, 1) := by decide +kernel
theorem dX13_simpleMore_159 : decode cX13_simpleMore 159 = .ok (.invokevirtual 770, 3) := by decide +kernel
theorem dX13_simpleMore_162 : decode cX13_simpleMore 162 = .ok (.aload_n 0, 1) := by decide +kernel
theorem dX13_simpleMore_163 : decode cX13_simpleMore 163 = .ok (.bipush 57, 2) := by decide +kernel
theorem dX13_simpleMore_165 : decode cX13_simpleMore 165 = .ok (.invokevirtual 500, 3) := by decide +kernel
theorem dX13_simpleMore_168 : decode cX13_simpleMore 168 = .ok (.aload_n 0, 1) := by decide +kernel
theorem dX13_simpleMore_169 : decode cX13_simpleMore 169 = .ok (.getfield 150, 3) := by decide +kernel
theorem dX13_simpleMore_172 : decode cX13_simpleMore 172 = .ok (.iload_n 1, 1) := by decide +kernel
theorem dX13_simpleMore_173 : decode cX13_simpleMore 173 = .ok (.aload_n 0, 1) := by decide +kernel
theorem dX13_simpleMore_174 : decode cX13_simpleMore 174 = .ok (.invokestatic 581, 3) := by decide +kernel
theorem dX13_simpleMore_177 : decode cX13_simpleMore 177 = .ok (.iastore, 1) := by decide +kernel
theorem dX13_simpleMore_178 : decode cX13_simpleMore 178 = .ok (.aload_n 0, 1) := by decide +kernel
theorem dX13_simpleMore_179 : decode cX13_simpleMore 179 = .ok (.bipush 56, 2) := by decide +kernel
theorem dX13_simpleMore_181 : decode cX13_simpleMore 181 = .ok (.invokevirtual 500, 3) := by decide +kernel
theorem dX13_simpleMore_184 : decode cX13_simpleMore 184 = .ok (.aload_n 0, 1) := by decide +kernel
theorem dX13_simpleMore_185 : decode cX13_simpleMore 185 = .ok (.iload_n 1, 1) := by decide +kernel
theorem dX13_simpleMore_186 : decode cX13_simpleMore 186 = .ok (.invokevirtual 767, 3) := by decide +kernel
theorem dX13_simpleMore_189 : decode cX13_simpleMore 189 = .ok (.goto 33, 3) := by decide +kernel
theorem dX13_simpleMore_192 : decode cX13_simpleMore 192 = .ok (.aload_n 0, 1) := by decide +kernel
theorem dX13_simpleMore_193 : decode cX13_simpleMore 193 = .ok (.getfield 126, 3) := by decide +kernel
theorem dX13_simpleMore_196 : decode cX13_simpleMore 196 = .ok (.iload_n 1, 1) := by decide +kernel
theorem dX13_simpleMore_197 : decode cX13_simpleMore 197 = .ok (.bipush 18, 2) := by decide +kernel
theorem dX13_simpleMore_199 : decode cX13_simpleMore 199 = .ok (.iastore, 1) := by decide +kernel
theorem dX13_simpleMore_200 : decode cX13_simpleMore 200 = .ok (.aload_n 0, 1) := by decide +kernel
theorem dX13_simpleMore_201 : decode cX13_simpleMore 201 = .ok (.getfield 147, 3) := by decide +kernel
theorem dX13_simpleMore_204 : decode cX13_simpleMore 204 = .ok (.iload_n 1, 1) := by decide +kernel
theorem dX13_simpleMore_205 : decode cX13_simpleMore 205 = .ok (.aload_n 0, 1) := by decide +kernel
theorem dX13_simpleMore_206 : decode cX13_simpleMore 206 = .ok (.iload_n 1, 1) := by decide +kernel
theorem dX13_simpleMore_207 : decode cX13_simpleMore 207 = .ok (.invokevirtual 764, 3) := by decide +kernel
theorem dX13_simpleMore_210 : decode cX13_simpleMore 210 = .ok (.iastore, 1) := by decide +kernel
theorem dX13_simpleMore_211 : decode cX13_simpleMore 211 = .ok (.goto 11, 3) := by decide +kernel
theorem dX13_simpleMore_214 : decode cX13_simpleMore 214 = .ok (.aload_n 0, 1) := by decide +kernel
theorem dX13_simpleMore_215 : decode cX13_simpleMore 215 = .ok (.getfield 126, 3) := by decide +kernel
theorem dX13_simpleMore_218 : decode cX13_simpleMore 218 = .ok (.iload_n 1, 1) := by decide +kernel
theorem dX13_simpleMore_219 : decode cX13_simpleMore 219 = .ok (.bipush 19, 2) := by decide +kernel
theorem dX13_simpleMore_221 : decode cX13_simpleMore 221 = .ok (.iastore, 1) := by decide +kernel
theorem dX13_simpleMore_222 : decode cX13_simpleMore 222 = .ok (.return_, 1) := by decide +kernel
theorem dX13_simpleMore_52 : decode cX13_simpleMore 52 = .ok (.aload_n 0, 1) := by decide +kernel
theorem dX13_simpleMore_53 : decode cX13_simpleMore 53 = .ok (.getfield 126, 3) := by decide +kernel
theorem dX13_simpleMore_56 : decode cX13_simpleMore 56 = .ok (.iload_n 1, 1) := by decide +kernel
theorem dX13_simpleMore_57 : decode cX13_simpleMore 57 = .ok (.bipush 13, 2) := by decide +kernel
theorem dX13_simpleMore_59 : decode cX13_simpleMore 59 = .ok (.iastore, 1) := by decide +kernel
theorem dX13_simpleMore_60 : decode cX13_simpleMore 60 = .ok (.aload_n 0, 1) := by decide +kernel
theorem dX13_simpleMore_61 : decode cX13_simpleMore 61 = .ok (.iload_n 1, 1) := by decide +kernel
theorem dX13_simpleMore_62 : decode cX13_simpleMore 62 = .ok (.invokevirtual 770, 3) := by decide +kernel
theorem dX13_simpleMore_65 : decode cX13_simpleMore 65 = .ok (.goto 157, 3) := by decide +kernel
theorem dX13_simpleMore_68 : decode cX13_simpleMore 68 = .ok (.aload_n 0, 1) := by decide +kernel
theorem dX13_simpleMore_69 : decode cX13_simpleMore 69 = .ok (.getfield 126, 3) := by decide +kernel
theorem dX13_simpleMore_72 : decode cX13_simpleMore 72 = .ok (.iload_n 1, 1) := by decide +kernel
theorem dX13_simpleMore_73 : decode cX13_simpleMore 73 = .ok (.bipush 14, 2) := by decide +kernel
theorem dX13_simpleMore_75 : decode cX13_simpleMore 75 = .ok (.iastore, 1) := by decide +kernel
theorem dX13_simpleMore_76 : decode cX13_simpleMore 76 = .ok (.aload_n 0, 1) := by decide +kernel
theorem dX13_simpleMore_77 : decode cX13_simpleMore 77 = .ok (.iload_n 1, 1) := by decide +kernel
theorem dX13_simpleMore_78 : decode cX13_simpleMore 78 = .ok (.invokevirtual 770, 3) := by decide +kernel
theorem dX13_simpleMore_81 : decode cX13_simpleMore 81 = .ok (.aload_n 0, 1) := by decide +kernel
theorem dX13_simpleMore_82 : decode cX13_simpleMore 82 = .ok (.bipush 42, 2) := by decide +kernel
theorem dX13_simpleMore_84 : decode cX13_simpleMore 84 = .ok (.invokevirtual 500, 3) := by decide +kernel
theorem dX13_simpleMore_87 : decode cX13_simpleMore 87 = .ok (.aload_n 0, 1) := by decide +kernel
theorem dX13_simpleMore_88 : decode cX13_simpleMore 88 = .ok (.iload_n 1, 1) := by decide +kernel
theorem dX13_simpleMore_89 : decode cX13_simpleMore 89 = .ok (.invokevirtual 767, 3) := by decide +kernel
theorem dX13_simpleMore_92 : decode cX13_simpleMore 92 = .ok (.goto 130, 3) := by decide +kernel
theorem dX13_simpleMore_95 : decode cX13_simpleMore 95 = .ok (.aload_n 0, 1) := by decide +kernel
theorem dX13_simpleMore_96 : decode cX13_simpleMore 96 = .ok (.getfield 126, 3) := by decide +kernel
theorem dX13_simpleMore_99 : decode cX13_simpleMore 99 = .ok (.iload_n 1, 1) := by decide +kernel
noncomputable def f_X13_simpleMore (x1 : Int32) (x2 : Int32) (s : t_S) : Option (t_S) :=
 if x2.toInt < 51 ∨ 59 < x2.toInt then (if t_ix x1 401 = true then
  t_let (t_setI s 988 (x1.toNatClampNeg) (19 : Int32)) (fun s1 =>
 some (s1))
else none)
 else if x2.toInt = 51 then (if t_ix x1 401 = true then
  t_let (t_setI s 988 (x1.toNatClampNeg) (13 : Int32)) (fun s2 =>
 (f_X13_wordOf x1 s2).bind (fun r3 =>
 some (r3)))
else none)
 else if x2.toInt = 52 then (if t_ix x1 401 = true then
  t_let (t_setI s 988 (x1.toNatClampNeg) (14 : Int32)) (fun s3 =>
 (f_X13_wordOf x1 s3).bind (fun r5 =>
 (f_X13_mustWord (42 : Int32) r5).bind (fun r6 =>
 (f_X13_into x1 r6).bind (fun r7 =>
 some (r7)))))
else none)
 else if x2.toInt = 53 then (if t_ix x1 401 = true then
  t_let (t_setI s 988 (x1.toNatClampNeg) (19 : Int32)) (fun s4 =>
 some (s4))
else none)
 else if x2.toInt = 54 then (if t_ix x1 401 = true then
  t_let (t_setI s 988 (x1.toNatClampNeg) (15 : Int32)) (fun s5 =>
 (f_X13_exp s5).bind (fun r10 =>
 t_let (t_setI r10.2 996 (x1.toNatClampNeg) r10.1) (fun s6 =>
 (f_X13_mustWord (53 : Int32) s6).bind (fun r11 =>
 (f_X13_callOf x1 r11).bind (fun r12 =>
 t_let (t_setI r12.2 995 (x1.toNatClampNeg) r12.1) (fun s7 =>
 some (s7)))))))
else none)
 else if x2.toInt = 55 then (if t_ix x1 401 = true then
  t_let (t_setI s 988 (x1.toNatClampNeg) (16 : Int32)) (fun s8 =>
 (f_X13_exp s8).bind (fun r14 =>
 t_let (t_setI r14.2 995 (x1.toNatClampNeg) r14.1) (fun s9 =>
 (f_X13_mustWord (56 : Int32) s9).bind (fun r15 =>
 (f_X13_wordOf x1 r15).bind (fun r16 =>
 (f_X13_mustWord (57 : Int32) r16).bind (fun r17 =>
 (f_X13_exp r17).bind (fun r18 =>
 t_let (t_setI r18.2 996 (x1.toNatClampNeg) r18.1) (fun s10 =>
 (f_X13_mustWord (56 : Int32) s10).bind (fun r19 =>
 (f_X13_into x1 r19).bind (fun r20 =>
 some (r20)))))))))))
else none)
 else if x2.toInt = 56 then (if t_ix x1 401 = true then
  t_let (t_setI s 988 (x1.toNatClampNeg) (19 : Int32)) (fun s11 =>
 some (s11))
else none)
 else if x2.toInt = 57 then (if t_ix x1 401 = true then
  t_let (t_setI s 988 (x1.toNatClampNeg) (19 : Int32)) (fun s12 =>
 some (s12))
else none)
 else if x2.toInt = 58 then (if t_ix x1 401 = true then
  t_let (t_setI s 988 (x1.toNatClampNeg) (19 : Int32)) (fun s13 =>
 some (s13))
else none)
 else (if t_ix x1 401 = true then
  t_let (t_setI s 988 (x1.toNatClampNeg) (18 : Int32)) (fun s14 =>
 (f_X13_callOf x1 s14).bind (fun r25 =>
 t_let (t_setI r25.2 995 (x1.toNatClampNeg) r25.1) (fun s15 =>
 some (s15))))
else none)
set_option maxRecDepth 4000 in
set_option maxHeartbeats 1000000 in
theorem C_X13_simpleMore (x1 : Int32) (x2 : Int32) (s : t_S) (r : t_S) (hr : f_X13_simpleMore x1 x2 s = some r) : t_C yX13_simpleMore cX13_simpleMore 3 none 310 [.ref 950, .int x1, .int x2] s (fun v s' => v = none ∧ s' = r) := by
  refine t_C.imp (P := fun v s' => v = none ∧ (fun q => q = r) (s')) (t_C.of (by decide +kernel) (Nat.le_of_ble_eq_true rfl) ?_) (fun v s' hp => hp)
  intro D cy ad bs X
  have hk : t_hk (f_X13_simpleMore x1 x2 s) (fun q => q = r) := ⟨r, hr, rfl⟩
  show mj_G D cy ad bs X cX13_simpleMore 3 yX13_simpleMore.cls none yX13_simpleMore.name 310 0 0 1065 (t_P (fun v s' => v = none ∧ (fun q => q = r) (s'))) 0 [(0, .ref 950), (1, .int x1), (2, .int x2)] [] (t_m s) 1065 0 0
  refine mj_iload_n dX13_simpleMore_0 2 rfl ?_
  by_cases hout : x2.toInt < 51 ∨ 59 < x2.toInt
  · replace hk := t_pos hk hout
    refine mj_tableOut 214 dX13_simpleMore_1 hout (by decide) ?_
    refine mj_aload_n dX13_simpleMore_214 0 rfl ?_
    refine t_getR 988 dX13_simpleMore_215 F_X13_126 qr_950_66 ?_
    refine mj_iload_n dX13_simpleMore_218 1 rfl ?_
    refine mj_bipush (v := 19) dX13_simpleMore_219 (by decide) ?_
    refine t_chkK hk (fun c0 hk => ?_)
    refine t_iastK dX13_simpleMore_221 qa_988 (t_ixv c0) (fun s1 ws1 => t_letE hk ws1 (fun hk => ?_))
    exact t_somK hk (fun hf => t_vret dX13_simpleMore_222 rfl ⟨rfl, hf⟩ (Nat.le_of_ble_eq_true rfl) (Nat.le_of_ble_eq_true rfl))
  · replace hk := t_neg hk hout
    have hh1 : ¬ x2.toInt < 51 := fun z => hout (Or.inl z)
    have hh2 : ¬ (59 : Int) < x2.toInt := fun z => hout (Or.inr z)
    by_cases h0 : x2.toInt = 51
    · replace hk := t_pos hk h0
      refine mj_tableIn 52 dX13_simpleMore_1 hh1 hh2 (by rw [h0]; rfl) (by decide) ?_
      refine mj_aload_n dX13_simpleMore_52 0 rfl ?_
      refine t_getR 988 dX13_simpleMore_53 F_X13_126 qr_950_66 ?_
      refine mj_iload_n dX13_simpleMore_56 1 rfl ?_
      refine mj_bipush (v := 13) dX13_simpleMore_57 (by decide) ?_
      refine t_chkK hk (fun c1 hk => ?_)
      refine t_iastK dX13_simpleMore_59 qa_988 (t_ixv c1) (fun s2 ws2 => t_letE hk ws2 (fun hk => ?_))
      refine mj_aload_n dX13_simpleMore_60 0 rfl ?_
      refine mj_iload_n dX13_simpleMore_61 1 rfl ?_
      refine t_bndK hk (fun r3 er3 hk => ?_)
      refine t_callVvE dX13_simpleMore_62 M_X13_wordOf (C_X13_wordOf _ _ _ er3) ML_X13_770 IM_X13_wordOf SE_X13_wordOf qc_950 rfl (As := [.int x1]) rfl rfl (Nat.le_of_ble_eq_true rfl) (Nat.le_of_ble_eq_true rfl) (Nat.le_of_ble_eq_true rfl) (Nat.le_of_ble_eq_true rfl) ?_
      refine mj_goto 222 dX13_simpleMore_65 (by decide) ?_
      exact t_somK hk (fun hf => t_vret dX13_simpleMore_222 rfl ⟨rfl, hf⟩ (Nat.le_of_ble_eq_true rfl) (Nat.le_of_ble_eq_true rfl))
    replace hk := t_neg hk h0
    by_cases h1 : x2.toInt = 52
    · replace hk := t_pos hk h1
      refine mj_tableIn 68 dX13_simpleMore_1 hh1 hh2 (by rw [h1]; rfl) (by decide) ?_
      refine mj_aload_n dX13_simpleMore_68 0 rfl ?_
      refine t_getR 988 dX13_simpleMore_69 F_X13_126 qr_950_66 ?_
      refine mj_iload_n dX13_simpleMore_72 1 rfl ?_
      refine mj_bipush (v := 14) dX13_simpleMore_73 (by decide) ?_
      refine t_chkK hk (fun c3 hk => ?_)
      refine t_iastK dX13_simpleMore_75 qa_988 (t_ixv c3) (fun s3 ws3 => t_letE hk ws3 (fun hk => ?_))
      refine mj_aload_n dX13_simpleMore_76 0 rfl ?_
      refine mj_iload_n dX13_simpleMore_77 1 rfl ?_
      refine t_bndK hk (fun r5 er5 hk => ?_)
      refine t_callVvE dX13_simpleMore_78 M_X13_wordOf (C_X13_wordOf _ _ _ er5) ML_X13_770 IM_X13_wordOf SE_X13_wordOf qc_950 rfl (As := [.int x1]) rfl rfl (Nat.le_of_ble_eq_true rfl) (Nat.le_of_ble_eq_true rfl) (Nat.le_of_ble_eq_true rfl) (Nat.le_of_ble_eq_true rfl) ?_
      refine mj_aload_n dX13_simpleMore_81 0 rfl ?_
      refine mj_bipush (v := 42) dX13_simpleMore_82 (by decide) ?_
      refine t_bndK hk (fun r6 er6 hk => ?_)
      refine t_callVvE dX13_simpleMore_84 M_X13_mustWord (C_X13_mustWord _ _ _ er6) ML_X13_500 IM_X13_mustWord SE_X13_mustWord qc_950 rfl (As := [.int 42]) rfl rfl (Nat.le_of_ble_eq_true rfl) (Nat.le_of_ble_eq_true rfl) (Nat.le_of_ble_eq_true rfl) (Nat.le_of_ble_eq_true rfl) ?_
      refine mj_aload_n dX13_simpleMore_87 0 rfl ?_
      refine mj_iload_n dX13_simpleMore_88 1 rfl ?_
      refine t_bndK hk (fun r7 er7 hk => ?_)
      refine t_callVvE dX13_simpleMore_89 M_X13_into (C_X13_into _ _ _ er7) ML_X13_767 IM_X13_into SE_X13_into qc_950 rfl (As := [.int x1]) rfl rfl (Nat.le_of_ble_eq_true rfl) (Nat.le_of_ble_eq_true rfl) (Nat.le_of_ble_eq_true rfl) (Nat.le_of_ble_eq_true rfl) ?_
      refine mj_goto 222 dX13_simpleMore_92 (by decide) ?_
      exact t_somK hk (fun hf => t_vret dX13_simpleMore_222 rfl ⟨rfl, hf⟩ (Nat.le_of_ble_eq_true rfl) (Nat.le_of_ble_eq_true rfl))
    replace hk := t_neg hk h1
    by_cases h2 : x2.toInt = 53
    · replace hk := t_pos hk h2
      refine mj_tableIn 214 dX13_simpleMore_1 hh1 hh2 (by rw [h2]; rfl) (by decide) ?_
      refine mj_aload_n dX13_simpleMore_214 0 rfl ?_
      refine t_getR 988 dX13_simpleMore_215 F_X13_126 qr_950_66 ?_
      refine mj_iload_n dX13_simpleMore_218 1 rfl ?_
      refine mj_bipush (v := 19) dX13_simpleMore_219 (by decide) ?_
      refine t_chkK hk (fun c7 hk => ?_)
      refine t_iastK dX13_simpleMore_221 qa_988 (t_ixv c7) (fun s4 ws4 => t_letE hk ws4 (fun hk => ?_))
      exact t_somK hk (fun hf => t_vret dX13_simpleMore_222 rfl ⟨rfl, hf⟩ (Nat.le_of_ble_eq_true rfl) (Nat.le_of_ble_eq_true rfl))
    replace hk := t_neg hk h2
    by_cases h3 : x2.toInt = 54
    · replace hk := t_pos hk h3
      refine mj_tableIn 95 dX13_simpleMore_1 hh1 hh2 (by rw [h3]; rfl) (by decide) ?_
      refine mj_aload_n dX13_simpleMore_95 0 rfl ?_
      refine t_getR 988 dX13_simpleMore_96 F_X13_126 qr_950_66 ?_
      refine mj_iload_n dX13_simpleMore_99 1 rfl ?_
      refine mj_bipush (v := 15) dX13_simpleMore_100 (by decide) ?_
      refine t_chkK hk (fun c8 hk => ?_)
      refine t_iastK dX13_simpleMore_102 qa_988 (t_ixv c8) (fun s5 ws5 => t_letE hk ws5 (fun hk => ?_))
      refine mj_aload_n dX13_simpleMore_103 0 rfl ?_
      refine t_getR 996 dX13_simpleMore_104 F_X13_150 qr_950_74 ?_
      refine mj_iload_n dX13_simpleMore_107 1 rfl ?_
      refine mj_aload_n dX13_simpleMore_108 0 rfl ?_
      refine t_bndK hk (fun r10 er10 hk => ?_)
      refine t_callSiE dX13_simpleMore_109 M_X13_exp (C_X13_exp _ _ er10) ML_X13_581 SM_X13_exp (As := [.ref 950]) rfl rfl (Nat.le_of_ble_eq_true rfl) (Nat.le_of_ble_eq_true rfl) (Nat.le_of_ble_eq_true rfl) (Nat.le_of_ble_eq_true rfl) ?_
      refine t_iastK dX13_simpleMore_112 qa_996 (t_ixv c8) (fun s6 ws6 => t_letE hk ws6 (fun hk => ?_))
      refine mj_aload_n dX13_simpleMore_113 0 rfl ?_
      refine mj_bipush (v := 53) dX13_simpleMore_114 (by decide) ?_
      refine t_bndK hk (fun r11 er11 hk => ?_)
      refine t_callVvE dX13_simpleMore_116 M_X13_mustWord (C_X13_mustWord _ _ _ er11) ML_X13_500 IM_X13_mustWord SE_X13_mustWord qc_950 rfl (As := [.int 53]) rfl rfl (Nat.le_of_ble_eq_true rfl) (Nat.le_of_ble_eq_true rfl) (Nat.le_of_ble_eq_true rfl) (Nat.le_of_ble_eq_true rfl) ?_
      refine mj_aload_n dX13_simpleMore_119 0 rfl ?_
      refine t_getR 995 dX13_simpleMore_120 F_X13_147 qr_950_73 ?_
      refine mj_iload_n dX13_simpleMore_123 1 rfl ?_
      refine mj_aload_n dX13_simpleMore_124 0 rfl ?_
      refine mj_iload_n dX13_simpleMore_125 1 rfl ?_
      refine t_bndK hk (fun r12 er12 hk => ?_)
      refine t_callViE dX13_simpleMore_126 M_X13_callOf (C_X13_callOf _ _ _ er12) ML_X13_764 IM_X13_callOf SE_X13_callOf qc_950 rfl (As := [.int x1]) rfl rfl (Nat.le_of_ble_eq_true rfl) (Nat.le_of_ble_eq_true rfl) (Nat.le_of_ble_eq_true rfl) (Nat.le_of_ble_eq_true rfl) ?_
      refine t_iastK dX13_simpleMore_129 qa_995 (t_ixv c8) (fun s7 ws7 => t_letE hk ws7 (fun hk => ?_))
      refine mj_goto 222 dX13_simpleMore_130 (by decide) ?_
      exact t_somK hk (fun hf => t_vret dX13_simpleMore_222 rfl ⟨rfl, hf⟩ (Nat.le_of_ble_eq_true rfl) (Nat.le_of_ble_eq_true rfl))
    replace hk := t_neg hk h3
    by_cases h4 : x2.toInt = 55
    · replace hk := t_pos hk h4
      refine mj_tableIn 133 dX13_simpleMore_1 hh1 hh2 (by rw [h4]; rfl) (by decide) ?_
      refine mj_aload_n dX13_simpleMore_133 0 rfl ?_
      refine t_getR 988 dX13_simpleMore_134 F_X13_126 qr_950_66 ?_
      refine mj_iload_n dX13_simpleMore_137 1 rfl ?_
      refine mj_bipush (v := 16) dX13_simpleMore_138 (by decide) ?_
      refine t_chkK hk (fun c12 hk => ?_)
      refine t_iastK dX13_simpleMore_140 qa_988 (t_ixv c12) (fun s8 ws8 => t_letE hk ws8 (fun hk => ?_))
      refine mj_aload_n dX13_simpleMore_141 0 rfl ?_
      refine t_getR 995 dX13_simpleMore_142 F_X13_147 qr_950_73 ?_
      refine mj_iload_n dX13_simpleMore_145 1 rfl ?_
      refine mj_aload_n dX13_simpleMore_146 0 rfl ?_
      refine t_bndK hk (fun r14 er14 hk => ?_)
      refine t_callSiE dX13_simpleMore_147 M_X13_exp (C_X13_exp _ _ er14) ML_X13_581 SM_X13_exp (As := [.ref 950]) rfl rfl (Nat.le_of_ble_eq_true rfl) (Nat.le_of_ble_eq_true rfl) (Nat.le_of_ble_eq_true rfl) (Nat.le_of_ble_eq_true rfl) ?_
      refine t_iastK dX13_simpleMore_150 qa_995 (t_ixv c12) (fun s9 ws9 => t_letE hk ws9 (fun hk => ?_))
      refine mj_aload_n dX13_simpleMore_151 0 rfl ?_
      refine mj_bipush (v := 56) dX13_simpleMore_152 (by decide) ?_
      refine t_bndK hk (fun r15 er15 hk => ?_)
      refine t_callVvE dX13_simpleMore_154 M_X13_mustWord (C_X13_mustWord _ _ _ er15) ML_X13_500 IM_X13_mustWord SE_X13_mustWord qc_950 rfl (As := [.int 56]) rfl rfl (Nat.le_of_ble_eq_true rfl) (Nat.le_of_ble_eq_true rfl) (Nat.le_of_ble_eq_true rfl) (Nat.le_of_ble_eq_true rfl) ?_
      refine mj_aload_n dX13_simpleMore_157 0 rfl ?_
      refine mj_iload_n dX13_simpleMore_158 1 rfl ?_
      refine t_bndK hk (fun r16 er16 hk => ?_)
      refine t_callVvE dX13_simpleMore_159 M_X13_wordOf (C_X13_wordOf _ _ _ er16) ML_X13_770 IM_X13_wordOf SE_X13_wordOf qc_950 rfl (As := [.int x1]) rfl rfl (Nat.le_of_ble_eq_true rfl) (Nat.le_of_ble_eq_true rfl) (Nat.le_of_ble_eq_true rfl) (Nat.le_of_ble_eq_true rfl) ?_
      refine mj_aload_n dX13_simpleMore_162 0 rfl ?_
      refine mj_bipush (v := 57) dX13_simpleMore_163 (by decide) ?_
      refine t_bndK hk (fun r17 er17 hk => ?_)
      refine t_callVvE dX13_simpleMore_165 M_X13_mustWord (C_X13_mustWord _ _ _ er17) ML_X13_500 IM_X13_mustWord SE_X13_mustWord qc_950 rfl (As := [.int 57]) rfl rfl (Nat.le_of_ble_eq_true rfl) (Nat.le_of_ble_eq_true rfl) (Nat.le_of_ble_eq_true rfl) (Nat.le_of_ble_eq_true rfl) ?_
      refine mj_aload_n dX13_simpleMore_168 0 rfl ?_
      refine t_getR 996 dX13_simpleMore_169 F_X13_150 qr_950_74 ?_
      refine mj_iload_n dX13_simpleMore_172 1 rfl ?_
      refine mj_aload_n dX13_simpleMore_173 0 rfl ?_
      refine t_bndK hk (fun r18 er18 hk => ?_)
      refine t_callSiE dX13_simpleMore_174 M_X13_exp (C_X13_exp _ _ er18) ML_X13_581 SM_X13_exp (As := [.ref 950]) rfl rfl (Nat.le_of_ble_eq_true rfl) (Nat.le_of_ble_eq_true rfl) (Nat.le_of_ble_eq_true rfl) (Nat.le_of_ble_eq_true rfl) ?_
      refine t_iastK dX13_simpleMore_177 qa_996 (t_ixv c12) (fun s10 ws10 => t_letE hk ws10 (fun hk => ?_))
      refine mj_aload_n dX13_simpleMore_178 0 rfl ?_
      refine mj_bipush (v := 56) dX13_simpleMore_179 (by decide) ?_
      refine t_bndK hk (fun r19 er19 hk => ?_)
      refine t_callVvE dX13_simpleMore_181 M_X13_mustWord (C_X13_mustWord _ _ _ er19) ML_X13_500 IM_X13_mustWord SE_X13_mustWord qc_950 rfl (As := [.int 56]) rfl rfl (Nat.le_of_ble_eq_true rfl) (Nat.le_of_ble_eq_true rfl) (Nat.le_of_ble_eq_true rfl) (Nat.le_of_ble_eq_true rfl) ?_
      refine mj_aload_n dX13_simpleMore_184 0 rfl ?_
      refine mj_iload_n dX13_simpleMore_185 1 rfl ?_
      refine t_bndK hk (fun r20 er20 hk => ?_)
      refine t_callVvE dX13_simpleMore_186 M_X13_into (C_X13_into _ _ _ er20) ML_X13_767 IM_X13_into SE_X13_into qc_950 rfl (As := [.int x1]) rfl rfl (Nat.le_of_ble_eq_true rfl) (Nat.le_of_ble_eq_true rfl) (Nat.le_of_ble_eq_true rfl) (Nat.le_of_ble_eq_true rfl) ?_
      refine mj_goto 222 dX13_simpleMore_189 (by decide) ?_
      exact t_somK hk (fun hf => t_vret dX13_simpleMore_222 rfl ⟨rfl, hf⟩ (Nat.le_of_ble_eq_true rfl) (Nat.le_of_ble_eq_true rfl))
    replace hk := t_neg hk h4
    by_cases h5 : x2.toInt = 56
    · replace hk := t_pos hk h5
      refine mj_tableIn 214 dX13_simpleMore_1 hh1 hh2 (by rw [h5]; rfl) (by decide) ?_
      refine mj_aload_n dX13_simpleMore_214 0 rfl ?_
      refine t_getR 988 dX13_simpleMore_215 F_X13_126 qr_950_66 ?_
      refine mj_iload_n dX13_simpleMore_218 1 rfl ?_
      refine mj_bipush (v := 19) dX13_simpleMore_219 (by decide) ?_
      refine t_chkK hk (fun c20 hk => ?_)
      refine t_iastK dX13_simpleMore_221 qa_988 (t_ixv c20) (fun s11 ws11 => t_letE hk ws11 (fun hk => ?_))
      exact t_somK hk (fun hf => t_vret dX13_simpleMore_222 rfl ⟨rfl, hf⟩ (Nat.le_of_ble_eq_true rfl) (Nat.le_of_ble_eq_true rfl))
    replace hk := t_neg hk h5
    by_cases h6 : x2.toInt = 57
    · replace hk := t_pos hk h6
      refine mj_tableIn 214 dX13_simpleMore_1 hh1 hh2 (by rw [h6]; rfl) (by decide) ?_
      refine mj_aload_n dX13_simpleMore_214 0 rfl ?_
      refine t_getR 988 dX13_simpleMore_215 F_X13_126 qr_950_66 ?_
      refine mj_iload_n dX13_simpleMore_218 1 rfl ?_
      refine mj_bipush (v := 19) dX13_simpleMore_219 (by decide) ?_
      refine t_chkK hk (fun c21 hk => ?_)
      refine t_iastK dX13_simpleMore_221 qa_988 (t_ixv c21) (fun s12 ws12 => t_letE hk ws12 (fun hk => ?_))
      exact t_somK hk (fun hf => t_vret dX13_simpleMore_222 rfl ⟨rfl, hf⟩ (Nat.le_of_ble_eq_true rfl) (Nat.le_of_ble_eq_true rfl))
    replace hk := t_neg hk h6
    by_cases h7 : x2.toInt = 58
    · replace hk := t_pos hk h7
      refine mj_tableIn 214 dX13_simpleMore_1 hh1 hh2 (by rw [h7]; rfl) (by decide) ?_
      refine mj_aload_n dX13_simpleMore_214 0 rfl ?_
      refine t_getR 988 dX13_simpleMore_215 F_X13_126 qr_950_66 ?_
      refine mj_iload_n dX13_simpleMore_218 1 rfl ?_
      refine mj_bipush (v := 19) dX13_simpleMore_219 (by decide) ?_
      refine t_chkK hk (fun c22 hk => ?_)
      refine t_iastK dX13_simpleMore_221 qa_988 (t_ixv c22) (fun s13 ws13 => t_letE hk ws13 (fun hk => ?_))
      exact t_somK hk (fun hf => t_vret dX13_simpleMore_222 rfl ⟨rfl, hf⟩ (Nat.le_of_ble_eq_true rfl) (Nat.le_of_ble_eq_true rfl))
    replace hk := t_neg hk h7
    have h8 : x2.toInt = 59 := by omega
    refine mj_tableIn 192 dX13_simpleMore_1 hh1 hh2 (by rw [h8]; rfl) (by decide) ?_
    refine mj_aload_n dX13_simpleMore_192 0 rfl ?_
    refine t_getR 988 dX13_simpleMore_193 F_X13_126 qr_950_66 ?_
    refine mj_iload_n dX13_simpleMore_196 1 rfl ?_
    refine mj_bipush (v := 18) dX13_simpleMore_197 (by decide) ?_
    refine t_chkK hk (fun c23 hk => ?_)
    refine t_iastK dX13_simpleMore_199 qa_988 (t_ixv c23) (fun s14 ws14 => t_letE hk ws14 (fun hk => ?_))
    refine mj_aload_n dX13_simpleMore_200 0 rfl ?_
    refine t_getR 995 dX13_simpleMore_201 F_X13_147 qr_950_73 ?_
    refine mj_iload_n dX13_simpleMore_204 1 rfl ?_
    refine mj_aload_n dX13_simpleMore_205 0 rfl ?_
    refine mj_iload_n dX13_simpleMore_206 1 rfl ?_
    refine t_bndK hk (fun r25 er25 hk => ?_)
    refine t_callViE dX13_simpleMore_207 M_X13_callOf (C_X13_callOf _ _ _ er25) ML_X13_764 IM_X13_callOf SE_X13_callOf qc_950 rfl (As := [.int x1]) rfl rfl (Nat.le_of_ble_eq_true rfl) (Nat.le_of_ble_eq_true rfl) (Nat.le_of_ble_eq_true rfl) (Nat.le_of_ble_eq_true rfl) ?_
    refine t_iastK dX13_simpleMore_210 qa_995 (t_ixv c23) (fun s15 ws15 => t_letE hk ws15 (fun hk => ?_))
    refine mj_goto 222 dX13_simpleMore_211 (by decide) ?_
    exact t_somK hk (fun hf => t_vret dX13_simpleMore_222 rfl ⟨rfl, hf⟩ (Nat.le_of_ble_eq_true rfl) (Nat.le_of_ble_eq_true rfl))

theorem dX13_typeHint_0 : decode cX13_typeHint 0 = .ok (.aload_n 0, 1) := by decide +kernel
theorem dX13_typeHint_1 : decode cX13_typeHint 1 = .ok (.iconst (-1), 1) := by decide +kernel
theorem dX13_typeHint_10 : decode cX13_typeHint 10 = .ok (.aload_n 0, 1) := by decide +kernel
theorem dX13_typeHint_11 : decode cX13_typeHint 11 = .ok (.bipush 58, 2) := by decide +kernel
theorem dX13_typeHint_13 : decode cX13_typeHint 13 = .ok (.invokevirtual 449, 3) := by decide +kernel
theorem dX13_typeHint_16 : decode cX13_typeHint 16 = .ok (.ifCond .eq 27, 3) := by decide +kernel
theorem dX13_typeHint_19 : decode cX13_typeHint 19 = .ok (.aload_n 0, 1) := by decide +kernel
theorem dX13_typeHint_2 : decode cX13_typeHint 2 = .ok (.putfield 708, 3) := by decide +kernel
theorem dX13_typeHint_20 : decode cX13_typeHint 20 = .ok (.invokevirtual 452, 3) := by decide +kernel
theorem dX13_typeHint_23 : decode cX13_typeHint 23 = .ok (.aload_n 0, 1) := by decide +kernel
theorem dX13_typeHint_24 : decode cX13_typeHint 24 = .ok (.aload_n 0, 1) := by decide +kernel
theorem dX13_typeHint_25 : decode cX13_typeHint 25 = .ok (.getfield 391, 3) := by decide +kernel
theorem dX13_typeHint_28 : decode cX13_typeHint 28 = .ok (.putfield 711, 3) := by decide +kernel
theorem dX13_typeHint_31 : decode cX13_typeHint 31 = .ok (.aload_n 0, 1) := by decide +kernel
theorem dX13_typeHint_32 : decode cX13_typeHint 32 = .ok (.aload_n 0, 1) := by decide +kernel
theorem dX13_typeHint_33 : decode cX13_typeHint 33 = .ok (.invokevirtual 535, 3) := by decide +kernel
theorem dX13_typeHint_36 : decode cX13_typeHint 36 = .ok (.putfield 708, 3) := by decide +kernel
theorem dX13_typeHint_39 : decode cX13_typeHint 39 = .ok (.aload_n 0, 1) := by decide +kernel
theorem dX13_typeHint_40 : decode cX13_typeHint 40 = .ok (.invokevirtual 452, 3) := by decide +kernel
theorem dX13_typeHint_43 : decode cX13_typeHint 43 = .ok (.return_, 1) := by decide +kernel
theorem dX13_typeHint_5 : decode cX13_typeHint 5 = .ok (.aload_n 0, 1) := by decide +kernel
theorem dX13_typeHint_6 : decode cX13_typeHint 6 = .ok (.iconst 0, 1) := by decide +kernel
theorem dX13_typeHint_7 : decode cX13_typeHint 7 = .ok (.putfield 711, 3) := by decide +kernel
noncomputable def f_X13_typeHint (s : t_S) : Option (t_S) :=
 t_let (t_setI s 950 86 (-1 : Int32)) (fun s1 =>
 t_let (t_setI s1 950 87 (0 : Int32)) (fun s2 =>
 if (f_X13_is (58 : Int32) s2) = (0 : Int32) then (some (s2))
 else ((f_X13_next s2).bind (fun r2 =>
 t_let (t_setI r2 950 87 (r2.1 950 6)) (fun s3 =>
 (f_X13_freeName s3).bind (fun r3 =>
 t_let (t_setI r3.2 950 86 r3.1) (fun s4 =>
 (f_X13_next s4).bind (fun r4 =>
 some (r4)))))))))
set_option maxRecDepth 4000 in
set_option maxHeartbeats 1000000 in
theorem C_X13_typeHint (s : t_S) (r : t_S) (hr : f_X13_typeHint s = some r) : t_C yX13_typeHint cX13_typeHint 1 none 6 [.ref 950] s (fun v s' => v = none ∧ s' = r) := by
  refine t_C.imp (P := fun v s' => v = none ∧ (fun q => q = r) (s')) (t_C.of (by decide +kernel) (Nat.le_of_ble_eq_true rfl) ?_) (fun v s' hp => hp)
  intro D cy ad bs X
  have hk : t_hk (f_X13_typeHint s) (fun q => q = r) := ⟨r, hr, rfl⟩
  show mj_G D cy ad bs X cX13_typeHint 1 yX13_typeHint.cls none yX13_typeHint.name 6 0 0 1065 (t_P (fun v s' => v = none ∧ (fun q => q = r) (s'))) 0 [(0, .ref 950)] [] (t_m s) 1065 0 0
  refine mj_aload_n dX13_typeHint_0 0 rfl ?_
  refine mj_iconst (v := (-1)) dX13_typeHint_1 (by decide) ?_
  refine t_putIK dX13_typeHint_2 F_X13_708 qf_950_86 rfl (fun s1 ws1 => t_letE hk ws1 (fun hk => ?_))
  refine mj_aload_n dX13_typeHint_5 0 rfl ?_
  refine mj_iconst (v := 0) dX13_typeHint_6 (by decide) ?_
  refine t_putIK dX13_typeHint_7 F_X13_711 qf_950_87 rfl (fun s2 ws2 => t_letE hk ws2 (fun hk => ?_))
  refine mj_aload_n dX13_typeHint_10 0 rfl ?_
  refine mj_bipush (v := 58) dX13_typeHint_11 (by decide) ?_
  refine t_callViP dX13_typeHint_13 M_X13_is (C_X13_is _ _) ML_X13_449 IM_X13_is SE_X13_is qc_950 rfl (As := [.int 58]) rfl rfl (Nat.le_of_ble_eq_true rfl) (Nat.le_of_ble_eq_true rfl) (Nat.le_of_ble_eq_true rfl) (Nat.le_of_ble_eq_true rfl) ?_
  refine mj_if_eq 43 dX13_typeHint_16 (by decide) (fun z => t_posK hk z (fun hk => ?_)) (fun z => t_negK hk z (fun hk => ?_))
  · exact t_somK hk (fun hf => t_vret dX13_typeHint_43 rfl ⟨rfl, hf⟩ (Nat.le_of_ble_eq_true rfl) (Nat.le_of_ble_eq_true rfl))
  · refine mj_aload_n dX13_typeHint_19 0 rfl ?_
    refine t_bndK hk (fun r2 er2 hk => ?_)
    refine t_callVvE dX13_typeHint_20 M_X13_next (C_X13_next _ _ er2) ML_X13_452 IM_X13_next SE_X13_next qc_950 rfl (As := []) rfl rfl (Nat.le_of_ble_eq_true rfl) (Nat.le_of_ble_eq_true rfl) (Nat.le_of_ble_eq_true rfl) (Nat.le_of_ble_eq_true rfl) ?_
    refine mj_aload_n dX13_typeHint_23 0 rfl ?_
    refine mj_aload_n dX13_typeHint_24 0 rfl ?_
    refine t_getI dX13_typeHint_25 F_X13_391 qf_950_6 ?_
    refine t_putIK dX13_typeHint_28 F_X13_711 qf_950_87 rfl (fun s3 ws3 => t_letE hk ws3 (fun hk => ?_))
    refine mj_aload_n dX13_typeHint_31 0 rfl ?_
    refine mj_aload_n dX13_typeHint_32 0 rfl ?_
    refine t_bndK hk (fun r3 er3 hk => ?_)
    refine t_callViE dX13_typeHint_33 M_X13_freeName (C_X13_freeName _ _ er3) ML_X13_535 IM_X13_freeName SE_X13_freeName qc_950 rfl (As := []) rfl rfl (Nat.le_of_ble_eq_true rfl) (Nat.le_of_ble_eq_true rfl) (Nat.le_of_ble_eq_true rfl) (Nat.le_of_ble_eq_true rfl) ?_
    refine t_putIK dX13_typeHint_36 F_X13_708 qf_950_86 rfl (fun s4 ws4 => t_letE hk ws4 (fun hk => ?_))
    refine mj_aload_n dX13_typeHint_39 0 rfl ?_
    refine t_bndK hk (fun r4 er4 hk => ?_)
    refine t_callVvE dX13_typeHint_40 M_X13_next (C_X13_next _ _ er4) ML_X13_452 IM_X13_next SE_X13_next qc_950 rfl (As := []) rfl rfl (Nat.le_of_ble_eq_true rfl) (Nat.le_of_ble_eq_true rfl) (Nat.le_of_ble_eq_true rfl) (Nat.le_of_ble_eq_true rfl) ?_
    exact t_somK hk (fun hf => t_vret dX13_typeHint_43 rfl ⟨rfl, hf⟩ (Nat.le_of_ble_eq_true rfl) (Nat.le_of_ble_eq_true rfl))

