/-! Methods as functions, 95: X13_function, X13_hasComponent, X13_noComponent, X13_noPort, X13_give, X13_item -/
theorem qa_1010 : t_oka 1010 1 20000 = true := by decide +kernel
theorem qf_950_106 : t_okf 950 13 106 0 = true := by decide +kernel
theorem qr_950_105 : t_okr 950 13 105 1010 = true := by decide +kernel
theorem dX13_function_0 : decode cX13_function 0 = .ok (.aload_n 0, 1) := by decide +kernel
theorem dX13_function_1 : decode cX13_function 1 = .ok (.aload_n 0, 1) := by decide +kernel
theorem dX13_function_10 : decode cX13_function 10 = .ok (.istore_n 2, 1) := by decide +kernel
theorem dX13_function_100 : decode cX13_function 100 = .ok (.invokevirtual 452, 3) := by decide +kernel
theorem dX13_function_103 : decode cX13_function 103 = .ok (.aload_n 0, 1) := by decide +kernel
theorem dX13_function_104 : decode cX13_function 104 = .ok (.bipush 40, 2) := by decide +kernel
theorem dX13_function_106 : decode cX13_function 106 = .ok (.invokevirtual 528, 3) := by decide +kernel
theorem dX13_function_109 : decode cX13_function 109 = .ok (.aload_n 0, 1) := by decide +kernel
theorem dX13_function_11 : decode cX13_function 11 = .ok (.aload_n 0, 1) := by decide +kernel
theorem dX13_function_110 : decode cX13_function 110 = .ok (.bipush 41, 2) := by decide +kernel
theorem dX13_function_112 : decode cX13_function 112 = .ok (.invokevirtual 449, 3) := by decide +kernel
theorem dX13_function_115 : decode cX13_function 115 = .ok (.ifCond .ne 8, 3) := by decide +kernel
theorem dX13_function_118 : decode cX13_function 118 = .ok (.aload_n 0, 1) := by decide +kernel
theorem dX13_function_119 : decode cX13_function 119 = .ok (.iload_n 3, 1) := by decide +kernel
theorem dX13_function_12 : decode cX13_function 12 = .ok (.getfield 375, 3) := by decide +kernel
theorem dX13_function_120 : decode cX13_function 120 = .ok (.invokevirtual 717, 3) := by decide +kernel
theorem dX13_function_123 : decode cX13_function 123 = .ok (.aload_n 0, 1) := by decide +kernel
theorem dX13_function_124 : decode cX13_function 124 = .ok (.bipush 41, 2) := by decide +kernel
theorem dX13_function_126 : decode cX13_function 126 = .ok (.invokevirtual 528, 3) := by decide +kernel
theorem dX13_function_129 : decode cX13_function 129 = .ok (.aload_n 0, 1) := by decide +kernel
theorem dX13_function_130 : decode cX13_function 130 = .ok (.sipush 2000, 3) := by decide +kernel
theorem dX13_function_133 : decode cX13_function 133 = .ok (.iload_n 3, 1) := by decide +kernel
theorem dX13_function_134 : decode cX13_function 134 = .ok (.iadd, 1) := by decide +kernel
theorem dX13_function_135 : decode cX13_function 135 = .ok (.putfield 584, 3) := by decide +kernel
theorem dX13_function_138 : decode cX13_function 138 = .ok (.aload_n 0, 1) := by decide +kernel
theorem dX13_function_139 : decode cX13_function 139 = .ok (.aload_n 0, 1) := by decide +kernel
theorem dX13_function_140 : decode cX13_function 140 = .ok (.getfield 117, 3) := by decide +kernel
theorem dX13_function_143 : decode cX13_function 143 = .ok (.iload_n 3, 1) := by decide +kernel
theorem dX13_function_144 : decode cX13_function 144 = .ok (.iaload, 1) := by decide +kernel
theorem dX13_function_145 : decode cX13_function 145 = .ok (.putfield 621, 3) := by decide +kernel
theorem dX13_function_148 : decode cX13_function 148 = .ok (.aload_n 0, 1) := by decide +kernel
theorem dX13_function_149 : decode cX13_function 149 = .ok (.getfield 123, 3) := by decide +kernel
theorem dX13_function_15 : decode cX13_function 15 = .ok (.ifCond .eq 4, 3) := by decide +kernel
theorem dX13_function_152 : decode cX13_function 152 = .ok (.iload_n 3, 1) := by decide +kernel
theorem dX13_function_153 : decode cX13_function 153 = .ok (.iload_n 1, 1) := by decide +kernel
theorem dX13_function_154 : decode cX13_function 154 = .ok (.iconst 4, 1) := by decide +kernel
theorem dX13_function_155 : decode cX13_function 155 = .ok (.if_icmp .ne 12, 3) := by decide +kernel
theorem dX13_function_158 : decode cX13_function 158 = .ok (.aload_n 0, 1) := by decide +kernel
theorem dX13_function_159 : decode cX13_function 159 = .ok (.iconst (-1), 1) := by decide +kernel
theorem dX13_function_160 : decode cX13_function 160 = .ok (.iconst 0, 1) := by decide +kernel
theorem dX13_function_161 : decode cX13_function 161 = .ok (.invokestatic 720, 3) := by decide +kernel
theorem dX13_function_164 : decode cX13_function 164 = .ok (.goto 9, 3) := by decide +kernel
theorem dX13_function_167 : decode cX13_function 167 = .ok (.aload_n 0, 1) := by decide +kernel
theorem dX13_function_168 : decode cX13_function 168 = .ok (.iconst (-1), 1) := by decide +kernel
theorem dX13_function_169 : decode cX13_function 169 = .ok (.iconst 0, 1) := by decide +kernel
theorem dX13_function_170 : decode cX13_function 170 = .ok (.invokestatic 724, 3) := by decide +kernel
theorem dX13_function_173 : decode cX13_function 173 = .ok (.iastore, 1) := by decide +kernel
theorem dX13_function_174 : decode cX13_function 174 = .ok (.return_, 1) := by decide +kernel
theorem dX13_function_18 : decode cX13_function 18 = .ok (.return_, 1) := by decide +kernel
theorem dX13_function_19 : decode cX13_function 19 = .ok (.aload_n 0, 1) := by decide +kernel
theorem dX13_function_2 : decode cX13_function 2 = .ok (.getfield 633, 3) := by decide +kernel
theorem dX13_function_20 : decode cX13_function 20 = .ok (.getfield 633, 3) := by decide +kernel
theorem dX13_function_23 : decode cX13_function 23 = .ok (.istore_n 3, 1) := by decide +kernel
theorem dX13_function_24 : decode cX13_function 24 = .ok (.aload_n 0, 1) := by decide +kernel
theorem dX13_function_25 : decode cX13_function 25 = .ok (.dup, 1) := by decide +kernel
theorem dX13_function_26 : decode cX13_function 26 = .ok (.getfield 633, 3) := by decide +kernel
theorem dX13_function_29 : decode cX13_function 29 = .ok (.iconst 1, 1) := by decide +kernel
theorem dX13_function_30 : decode cX13_function 30 = .ok (.iadd, 1) := by decide +kernel
theorem dX13_function_31 : decode cX13_function 31 = .ok (.putfield 633, 3) := by decide +kernel
theorem dX13_function_34 : decode cX13_function 34 = .ok (.aload_n 0, 1) := by decide +kernel
theorem dX13_function_35 : decode cX13_function 35 = .ok (.getfield 102, 3) := by decide +kernel
theorem dX13_function_38 : decode cX13_function 38 = .ok (.iload_n 3, 1) := by decide +kernel
theorem dX13_function_39 : decode cX13_function 39 = .ok (.iload_n 2, 1) := by decide +kernel
theorem dX13_function_40 : decode cX13_function 40 = .ok (.iastore, 1) := by decide +kernel
theorem dX13_function_41 : decode cX13_function 41 = .ok (.aload_n 0, 1) := by decide +kernel
theorem dX13_function_42 : decode cX13_function 42 = .ok (.getfield 105, 3) := by decide +kernel
theorem dX13_function_45 : decode cX13_function 45 = .ok (.iload_n 3, 1) := by decide +kernel
theorem dX13_function_46 : decode cX13_function 46 = .ok (.iload_n 1, 1) := by decide +kernel
theorem dX13_function_47 : decode cX13_function 47 = .ok (.iastore, 1) := by decide +kernel
theorem dX13_function_48 : decode cX13_function 48 = .ok (.aload_n 0, 1) := by decide +kernel
theorem dX13_function_49 : decode cX13_function 49 = .ok (.getfield 117, 3) := by decide +kernel
theorem dX13_function_5 : decode cX13_function 5 = .ok (.bipush 40, 2) := by decide +kernel
theorem dX13_function_52 : decode cX13_function 52 = .ok (.iload_n 3, 1) := by decide +kernel
theorem dX13_function_53 : decode cX13_function 53 = .ok (.iconst 0, 1) := by decide +kernel
theorem dX13_function_54 : decode cX13_function 54 = .ok (.iastore, 1) := by decide +kernel
theorem dX13_function_55 : decode cX13_function 55 = .ok (.aload_n 0, 1) := by decide +kernel
theorem dX13_function_56 : decode cX13_function 56 = .ok (.getfield 120, 3) := by decide +kernel
theorem dX13_function_59 : decode cX13_function 59 = .ok (.iload_n 3, 1) := by decide +kernel
theorem dX13_function_60 : decode cX13_function 60 = .ok (.iconst 0, 1) := by decide +kernel
theorem dX13_function_61 : decode cX13_function 61 = .ok (.iastore, 1) := by decide +kernel
theorem dX13_function_62 : decode cX13_function 62 = .ok (.aload_n 0, 1) := by decide +kernel
theorem dX13_function_63 : decode cX13_function 63 = .ok (.getfield 123, 3) := by decide +kernel
theorem dX13_function_66 : decode cX13_function 66 = .ok (.iload_n 3, 1) := by decide +kernel
theorem dX13_function_67 : decode cX13_function 67 = .ok (.iconst (-1), 1) := by decide +kernel
theorem dX13_function_68 : decode cX13_function 68 = .ok (.iastore, 1) := by decide +kernel
theorem dX13_function_69 : decode cX13_function 69 = .ok (.aload_n 0, 1) := by decide +kernel
theorem dX13_function_7 : decode cX13_function 7 = .ok (.invokevirtual 684, 3) := by decide +kernel
theorem dX13_function_70 : decode cX13_function 70 = .ok (.invokevirtual 452, 3) := by decide +kernel
theorem dX13_function_73 : decode cX13_function 73 = .ok (.aload_n 0, 1) := by decide +kernel
theorem dX13_function_74 : decode cX13_function 74 = .ok (.bipush 6, 2) := by decide +kernel
theorem dX13_function_76 : decode cX13_function 76 = .ok (.invokevirtual 500, 3) := by decide +kernel
theorem dX13_function_79 : decode cX13_function 79 = .ok (.aload_n 0, 1) := by decide +kernel
theorem dX13_function_80 : decode cX13_function 80 = .ok (.getfield 111, 3) := by decide +kernel
theorem dX13_function_83 : decode cX13_function 83 = .ok (.iload_n 3, 1) := by decide +kernel
theorem dX13_function_84 : decode cX13_function 84 = .ok (.aload_n 0, 1) := by decide +kernel
theorem dX13_function_85 : decode cX13_function 85 = .ok (.getfield 391, 3) := by decide +kernel
theorem dX13_function_88 : decode cX13_function 88 = .ok (.iastore, 1) := by decide +kernel
theorem dX13_function_89 : decode cX13_function 89 = .ok (.aload_n 0, 1) := by decide +kernel
theorem dX13_function_90 : decode cX13_function 90 = .ok (.getfield 108, 3) := by decide +kernel
theorem dX13_function_93 : decode cX13_function 93 = .ok (.iload_n 3, 1) := by decide +kernel
theorem dX13_function_94 : decode cX13_function 94 = .ok (.aload_n 0, 1) := by decide +kernel
theorem dX13_function_95 : decode cX13_function 95 = .ok (.invokevirtual 535, 3) := by decide +kernel
theorem dX13_function_98 : decode cX13_function 98 = .ok (.iastore, 1) := by decide +kernel
theorem dX13_function_99 : decode cX13_function 99 = .ok (.aload_n 0, 1) := by decide +kernel
noncomputable def k_X13_function_173 (k0 : Int32) (k1 : Int32) (s : t_S) : Option (t_S) :=
 if t_ix k1 40 = true then
  t_let (t_setI s 987 (k1.toNatClampNeg) k0) (fun s1 =>
 some (s1))
else none
set_option maxRecDepth 4000 in
set_option maxHeartbeats 1000000 in
theorem B_X13_function_173 {D : va_G} {cy : Nat → ClassId} {ad : Nat → Nat} {bs : Nat} {X : State → Heap → Prop} (k0 : Int32) (k1 : Int32) (s : t_S) (Q : t_S → Prop) (hk : t_hk (k_X13_function_173 k0 k1 s) Q) : mj_G D cy ad bs X cX13_function 4 yX13_function.cls none yX13_function.name 413 0 0 1065 (t_P (fun v s' => v = none ∧ Q (s'))) 173 [] [.int k0, .int k1, .ref 987] (t_m s) 1065 0 0 := by
  refine t_chkK hk (fun c0 hk => ?_)
  refine t_iastK dX13_function_173 qa_987 (t_ixv c0) (fun s1 ws1 => t_letE hk ws1 (fun hk => ?_))
  exact t_somK hk (fun hf => t_vret dX13_function_174 rfl ⟨rfl, hf⟩ (Nat.le_of_ble_eq_true rfl) (Nat.le_of_ble_eq_true rfl))
noncomputable def k_X13_function_123 (l1 : Int32) (l3 : Int32) (s : t_S) : Option (t_S) :=
 (f_X13_mustBe (41 : Int32) s).bind (fun r1 =>
 t_let (t_setI r1 950 33 ((2000 : Int32) + l3)) (fun s1 =>
 if t_ix l3 40 = true then
  t_let (t_setI s1 950 34 (s1.1 985 (l3.toNatClampNeg))) (fun s2 =>
 if l1 = (4 : Int32) then ((f_X13_branches (-1 : Int32) (0 : Int32) s2).bind (fun r4 =>
 k_X13_function_173 r4.1 l3 r4.2))
 else ((f_X13_block (-1 : Int32) (0 : Int32) s2).bind (fun r3 =>
 k_X13_function_173 r3.1 l3 r3.2)))
else none))
set_option maxRecDepth 4000 in
set_option maxHeartbeats 1000000 in
theorem B_X13_function_123 {D : va_G} {cy : Nat → ClassId} {ad : Nat → Nat} {bs : Nat} {X : State → Heap → Prop} (l1 : Int32) (l3 : Int32) (s : t_S) (Q : t_S → Prop) (hk : t_hk (k_X13_function_123 l1 l3 s) Q) : mj_G D cy ad bs X cX13_function 4 yX13_function.cls none yX13_function.name 413 0 0 1065 (t_P (fun v s' => v = none ∧ Q (s'))) 123 [(0, .ref 950), (1, .int l1), (3, .int l3)] [] (t_m s) 1065 0 0 := by
  refine mj_aload_n dX13_function_123 0 rfl ?_
  refine mj_bipush (v := 41) dX13_function_124 (by decide) ?_
  refine t_bndK hk (fun r1 er1 hk => ?_)
  refine t_callVvE dX13_function_126 M_X13_mustBe (C_X13_mustBe _ _ _ er1) ML_X13_528 IM_X13_mustBe SE_X13_mustBe qc_950 rfl (As := [.int 41]) rfl rfl (Nat.le_of_ble_eq_true rfl) (Nat.le_of_ble_eq_true rfl) (Nat.le_of_ble_eq_true rfl) (Nat.le_of_ble_eq_true rfl) ?_
  refine mj_aload_n dX13_function_129 0 rfl ?_
  refine mj_sipush (v := 2000) dX13_function_130 (by decide) ?_
  refine mj_iload_n dX13_function_133 2 rfl ?_
  refine mj_iadd dX13_function_134 ?_
  refine t_putIK dX13_function_135 F_X13_584 qf_950_33 rfl (fun s1 ws1 => t_letE hk ws1 (fun hk => ?_))
  refine mj_aload_n dX13_function_138 0 rfl ?_
  refine mj_aload_n dX13_function_139 0 rfl ?_
  refine t_getR 985 dX13_function_140 F_X13_117 qr_950_61 ?_
  refine mj_iload_n dX13_function_143 2 rfl ?_
  refine t_chkK hk (fun c1 hk => ?_)
  refine t_iald dX13_function_144 qa_985 (t_ixv c1) ?_
  refine t_putIK dX13_function_145 F_X13_621 qf_950_34 rfl (fun s2 ws2 => t_letE hk ws2 (fun hk => ?_))
  refine mj_aload_n dX13_function_148 0 rfl ?_
  refine t_getR 987 dX13_function_149 F_X13_123 qr_950_63 ?_
  refine mj_iload_n dX13_function_152 2 rfl ?_
  refine mj_iload_n dX13_function_153 1 rfl ?_
  refine mj_iconst (v := 4) dX13_function_154 (by decide) ?_
  refine mj_icmp_ne 167 dX13_function_155 (by decide) (fun z => t_negK hk z (fun hk => ?_)) (fun z => t_posK hk z (fun hk => ?_))
  · refine mj_aload_n dX13_function_167 0 rfl ?_
    refine mj_iconst (v := (-1)) dX13_function_168 (by decide) ?_
    refine mj_iconst (v := 0) dX13_function_169 (by decide) ?_
    refine t_bndK hk (fun r3 er3 hk => ?_)
    refine t_callSiE dX13_function_170 M_X13_block (C_X13_block _ _ _ _ er3) ML_X13_724 SM_X13_block (As := [.ref 950, .int (-1), .int 0]) rfl rfl (Nat.le_of_ble_eq_true rfl) (Nat.le_of_ble_eq_true rfl) (Nat.le_of_ble_eq_true rfl) (Nat.le_of_ble_eq_true rfl) ?_
    refine mj_sublv [] [] rfl ?_
    exact B_X13_function_173 _ _ _ _ hk
  · refine mj_aload_n dX13_function_158 0 rfl ?_
    refine mj_iconst (v := (-1)) dX13_function_159 (by decide) ?_
    refine mj_iconst (v := 0) dX13_function_160 (by decide) ?_
    refine t_bndK hk (fun r4 er4 hk => ?_)
    refine t_callSiE dX13_function_161 M_X13_branches (C_X13_branches _ _ _ _ er4) ML_X13_720 SM_X13_branches (As := [.ref 950, .int (-1), .int 0]) rfl rfl (Nat.le_of_ble_eq_true rfl) (Nat.le_of_ble_eq_true rfl) (Nat.le_of_ble_eq_true rfl) (Nat.le_of_ble_eq_true rfl) ?_
    refine mj_goto 173 dX13_function_164 (by decide) ?_
    refine mj_sublv [] [] rfl ?_
    exact B_X13_function_173 _ _ _ _ hk
noncomputable def f_X13_function (x2 : Int32) (s : t_S) : Option (t_S) :=
 (f_X13_outside (s.1 950 64) (40 : Int32) s).bind (fun r1 =>
 if (r1.2.1 950 2) = (0 : Int32) then (t_let (t_setI r1.2 950 64 ((r1.2.1 950 64) + (1 : Int32))) (fun s1 =>
 if t_ix (r1.2.1 950 64) 40 = true then
  t_let (t_setI s1 980 ((r1.2.1 950 64).toNatClampNeg) r1.1) (fun s2 =>
 t_let (t_setI s2 981 ((r1.2.1 950 64).toNatClampNeg) x2) (fun s3 =>
 t_let (t_setI s3 985 ((r1.2.1 950 64).toNatClampNeg) (0 : Int32)) (fun s4 =>
 t_let (t_setI s4 986 ((r1.2.1 950 64).toNatClampNeg) (0 : Int32)) (fun s5 =>
 t_let (t_setI s5 987 ((r1.2.1 950 64).toNatClampNeg) (-1 : Int32)) (fun s6 =>
 (f_X13_next s6).bind (fun r3 =>
 (f_X13_mustWord (6 : Int32) r3).bind (fun r4 =>
 t_let (t_setI r4 983 ((r1.2.1 950 64).toNatClampNeg) (r4.1 950 6)) (fun s7 =>
 (f_X13_freeName s7).bind (fun r5 =>
 t_let (t_setI r5.2 982 ((r1.2.1 950 64).toNatClampNeg) r5.1) (fun s8 =>
 (f_X13_next s8).bind (fun r6 =>
 (f_X13_mustBe (40 : Int32) r6).bind (fun r7 =>
 if (f_X13_is (41 : Int32) r7) = (0 : Int32) then ((f_X13_parameters (r1.2.1 950 64) r7).bind (fun r9 =>
 k_X13_function_123 x2 (r1.2.1 950 64) r9))
 else (k_X13_function_123 x2 (r1.2.1 950 64) r7)))))))))))))
else none))
 else (some (r1.2)))
set_option maxRecDepth 4000 in
set_option maxHeartbeats 1000000 in
theorem C_X13_function (x2 : Int32) (s : t_S) (r : t_S) (hr : f_X13_function x2 s = some r) : t_C yX13_function cX13_function 4 none 413 [.ref 950, .int x2] s (fun v s' => v = none ∧ s' = r) := by
  refine t_C.imp (P := fun v s' => v = none ∧ (fun q => q = r) (s')) (t_C.of (by decide +kernel) (Nat.le_of_ble_eq_true rfl) ?_) (fun v s' hp => hp)
  intro D cy ad bs X
  have hk : t_hk (f_X13_function x2 s) (fun q => q = r) := ⟨r, hr, rfl⟩
  show mj_G D cy ad bs X cX13_function 4 yX13_function.cls none yX13_function.name 413 0 0 1065 (t_P (fun v s' => v = none ∧ (fun q => q = r) (s'))) 0 [(0, .ref 950), (1, .int x2)] [] (t_m s) 1065 0 0
  refine mj_aload_n dX13_function_0 0 rfl ?_
  refine mj_aload_n dX13_function_1 0 rfl ?_
  refine t_getI dX13_function_2 F_X13_633 qf_950_64 ?_
  refine mj_bipush (v := 40) dX13_function_5 (by decide) ?_
  refine t_bndK hk (fun r1 er1 hk => ?_)
  refine t_callViE dX13_function_7 M_X13_outside (C_X13_outside _ _ _ _ er1) ML_X13_684 IM_X13_outside SE_X13_outside qc_950 rfl (As := [.int (s.1 950 64), .int 40]) rfl rfl (Nat.le_of_ble_eq_true rfl) (Nat.le_of_ble_eq_true rfl) (Nat.le_of_ble_eq_true rfl) (Nat.le_of_ble_eq_true rfl) ?_
  refine mj_istore_n 2 (lv2 := [(2, .int r1.1), (0, .ref 950), (1, .int x2)]) dX13_function_10 rfl (by decide) rfl ?_
  refine mj_aload_n dX13_function_11 1 rfl ?_
  refine t_getI dX13_function_12 F_X13_375 qf_950_2 ?_
  refine mj_if_eq 19 dX13_function_15 (by decide) (fun z => t_posK hk z (fun hk => ?_)) (fun z => t_negK hk z (fun hk => ?_))
  · refine mj_aload_n dX13_function_19 1 rfl ?_
    refine t_getI dX13_function_20 F_X13_633 qf_950_64 ?_
    refine mj_istore_n 3 (lv2 := [(3, .int (r1.2.1 950 64)), (2, .int r1.1), (0, .ref 950), (1, .int x2)]) dX13_function_23 rfl (by decide) rfl ?_
    refine mj_aload_n dX13_function_24 2 rfl ?_
    refine mj_dup dX13_function_25 rfl ?_
    refine t_getI dX13_function_26 F_X13_633 qf_950_64 ?_
    refine mj_iconst (v := 1) dX13_function_29 (by decide) ?_
    refine mj_iadd dX13_function_30 ?_
    refine t_putIK dX13_function_31 F_X13_633 qf_950_64 rfl (fun s1 ws1 => t_letE hk ws1 (fun hk => ?_))
    refine mj_aload_n dX13_function_34 2 rfl ?_
    refine t_getR 980 dX13_function_35 F_X13_102 qr_950_56 ?_
    refine mj_iload_n dX13_function_38 0 rfl ?_
    refine mj_iload_n dX13_function_39 1 rfl ?_
    refine t_chkK hk (fun c1 hk => ?_)
    refine t_iastK dX13_function_40 qa_980 (t_ixv c1) (fun s2 ws2 => t_letE hk ws2 (fun hk => ?_))
    refine mj_aload_n dX13_function_41 2 rfl ?_
    refine t_getR 981 dX13_function_42 F_X13_105 qr_950_57 ?_
    refine mj_iload_n dX13_function_45 0 rfl ?_
    refine mj_iload_n dX13_function_46 3 rfl ?_
    refine t_iastK dX13_function_47 qa_981 (t_ixv c1) (fun s3 ws3 => t_letE hk ws3 (fun hk => ?_))
    refine mj_aload_n dX13_function_48 2 rfl ?_
    refine t_getR 985 dX13_function_49 F_X13_117 qr_950_61 ?_
    refine mj_iload_n dX13_function_52 0 rfl ?_
    refine mj_iconst (v := 0) dX13_function_53 (by decide) ?_
    refine t_iastK dX13_function_54 qa_985 (t_ixv c1) (fun s4 ws4 => t_letE hk ws4 (fun hk => ?_))
    refine mj_aload_n dX13_function_55 2 rfl ?_
    refine t_getR 986 dX13_function_56 F_X13_120 qr_950_62 ?_
    refine mj_iload_n dX13_function_59 0 rfl ?_
    refine mj_iconst (v := 0) dX13_function_60 (by decide) ?_
    refine t_iastK dX13_function_61 qa_986 (t_ixv c1) (fun s5 ws5 => t_letE hk ws5 (fun hk => ?_))
    refine mj_aload_n dX13_function_62 2 rfl ?_
    refine t_getR 987 dX13_function_63 F_X13_123 qr_950_63 ?_
    refine mj_iload_n dX13_function_66 0 rfl ?_
    refine mj_iconst (v := (-1)) dX13_function_67 (by decide) ?_
    refine t_iastK dX13_function_68 qa_987 (t_ixv c1) (fun s6 ws6 => t_letE hk ws6 (fun hk => ?_))
    refine mj_aload_n dX13_function_69 2 rfl ?_
    refine t_bndK hk (fun r3 er3 hk => ?_)
    refine t_callVvE dX13_function_70 M_X13_next (C_X13_next _ _ er3) ML_X13_452 IM_X13_next SE_X13_next qc_950 rfl (As := []) rfl rfl (Nat.le_of_ble_eq_true rfl) (Nat.le_of_ble_eq_true rfl) (Nat.le_of_ble_eq_true rfl) (Nat.le_of_ble_eq_true rfl) ?_
    refine mj_aload_n dX13_function_73 2 rfl ?_
    refine mj_bipush (v := 6) dX13_function_74 (by decide) ?_
    refine t_bndK hk (fun r4 er4 hk => ?_)
    refine t_callVvE dX13_function_76 M_X13_mustWord (C_X13_mustWord _ _ _ er4) ML_X13_500 IM_X13_mustWord SE_X13_mustWord qc_950 rfl (As := [.int 6]) rfl rfl (Nat.le_of_ble_eq_true rfl) (Nat.le_of_ble_eq_true rfl) (Nat.le_of_ble_eq_true rfl) (Nat.le_of_ble_eq_true rfl) ?_
    refine mj_aload_n dX13_function_79 2 rfl ?_
    refine t_getR 983 dX13_function_80 F_X13_111 qr_950_59 ?_
    refine mj_iload_n dX13_function_83 0 rfl ?_
    refine mj_aload_n dX13_function_84 2 rfl ?_
    refine t_getI dX13_function_85 F_X13_391 qf_950_6 ?_
    refine t_iastK dX13_function_88 qa_983 (t_ixv c1) (fun s7 ws7 => t_letE hk ws7 (fun hk => ?_))
    refine mj_aload_n dX13_function_89 2 rfl ?_
    refine t_getR 982 dX13_function_90 F_X13_108 qr_950_58 ?_
    refine mj_iload_n dX13_function_93 0 rfl ?_
    refine mj_aload_n dX13_function_94 2 rfl ?_
    refine t_bndK hk (fun r5 er5 hk => ?_)
    refine t_callViE dX13_function_95 M_X13_freeName (C_X13_freeName _ _ er5) ML_X13_535 IM_X13_freeName SE_X13_freeName qc_950 rfl (As := []) rfl rfl (Nat.le_of_ble_eq_true rfl) (Nat.le_of_ble_eq_true rfl) (Nat.le_of_ble_eq_true rfl) (Nat.le_of_ble_eq_true rfl) ?_
    refine t_iastK dX13_function_98 qa_982 (t_ixv c1) (fun s8 ws8 => t_letE hk ws8 (fun hk => ?_))
    refine mj_aload_n dX13_function_99 2 rfl ?_
    refine t_bndK hk (fun r6 er6 hk => ?_)
    refine t_callVvE dX13_function_100 M_X13_next (C_X13_next _ _ er6) ML_X13_452 IM_X13_next SE_X13_next qc_950 rfl (As := []) rfl rfl (Nat.le_of_ble_eq_true rfl) (Nat.le_of_ble_eq_true rfl) (Nat.le_of_ble_eq_true rfl) (Nat.le_of_ble_eq_true rfl) ?_
    refine mj_aload_n dX13_function_103 2 rfl ?_
    refine mj_bipush (v := 40) dX13_function_104 (by decide) ?_
    refine t_bndK hk (fun r7 er7 hk => ?_)
    refine t_callVvE dX13_function_106 M_X13_mustBe (C_X13_mustBe _ _ _ er7) ML_X13_528 IM_X13_mustBe SE_X13_mustBe qc_950 rfl (As := [.int 40]) rfl rfl (Nat.le_of_ble_eq_true rfl) (Nat.le_of_ble_eq_true rfl) (Nat.le_of_ble_eq_true rfl) (Nat.le_of_ble_eq_true rfl) ?_
    refine mj_aload_n dX13_function_109 2 rfl ?_
    refine mj_bipush (v := 41) dX13_function_110 (by decide) ?_
    refine t_callViP dX13_function_112 M_X13_is (C_X13_is _ _) ML_X13_449 IM_X13_is SE_X13_is qc_950 rfl (As := [.int 41]) rfl rfl (Nat.le_of_ble_eq_true rfl) (Nat.le_of_ble_eq_true rfl) (Nat.le_of_ble_eq_true rfl) (Nat.le_of_ble_eq_true rfl) ?_
    refine mj_if_ne 123 dX13_function_115 (by decide) (fun z => t_negK hk z (fun hk => ?_)) (fun z => t_posK hk z (fun hk => ?_))
    · refine mj_sublv [(0, .ref 950), (1, .int x2), (3, .int (r1.2.1 950 64))] [2, 3, 0] rfl ?_
      exact B_X13_function_123 _ _ _ _ hk
    · refine mj_aload_n dX13_function_118 2 rfl ?_
      refine mj_iload_n dX13_function_119 0 rfl ?_
      refine t_bndK hk (fun r9 er9 hk => ?_)
      refine t_callVvE dX13_function_120 M_X13_parameters (C_X13_parameters _ _ _ er9) ML_X13_717 IM_X13_parameters SE_X13_parameters qc_950 rfl (As := [.int (r1.2.1 950 64)]) rfl rfl (Nat.le_of_ble_eq_true rfl) (Nat.le_of_ble_eq_true rfl) (Nat.le_of_ble_eq_true rfl) (Nat.le_of_ble_eq_true rfl) ?_
      refine mj_sublv [(0, .ref 950), (1, .int x2), (3, .int (r1.2.1 950 64))] [2, 3, 0] rfl ?_
      exact B_X13_function_123 _ _ _ _ hk
  · exact t_somK hk (fun hf => t_vret dX13_function_18 rfl ⟨rfl, hf⟩ (Nat.le_of_ble_eq_true rfl) (Nat.le_of_ble_eq_true rfl))

theorem dX13_hasComponent_0 : decode cX13_hasComponent 0 = .ok (.aload_n 0, 1) := by decide +kernel
theorem dX13_hasComponent_1 : decode cX13_hasComponent 1 = .ok (.getfield 182, 3) := by decide +kernel
theorem dX13_hasComponent_10 : decode cX13_hasComponent 10 = .ok (.istore_n 3, 1) := by decide +kernel
theorem dX13_hasComponent_11 : decode cX13_hasComponent 11 = .ok (.iload_n 3, 1) := by decide +kernel
theorem dX13_hasComponent_12 : decode cX13_hasComponent 12 = .ok (.iload_n 2, 1) := by decide +kernel
theorem dX13_hasComponent_13 : decode cX13_hasComponent 13 = .ok (.if_icmp .ge 80, 3) := by decide +kernel
theorem dX13_hasComponent_16 : decode cX13_hasComponent 16 = .ok (.aload_n 0, 1) := by decide +kernel
theorem dX13_hasComponent_17 : decode cX13_hasComponent 17 = .ok (.getfield 182, 3) := by decide +kernel
theorem dX13_hasComponent_20 : decode cX13_hasComponent 20 = .ok (.iload_n 3, 1) := by decide +kernel
theorem dX13_hasComponent_21 : decode cX13_hasComponent 21 = .ok (.laload, 1) := by decide +kernel
theorem dX13_hasComponent_22 : decode cX13_hasComponent 22 = .ok (.l2i, 1) := by decide +kernel
theorem dX13_hasComponent_23 : decode cX13_hasComponent 23 = .ok (.istore 4, 2) := by decide +kernel
theorem dX13_hasComponent_25 : decode cX13_hasComponent 25 = .ok (.iload 4, 2) := by decide +kernel
theorem dX13_hasComponent_27 : decode cX13_hasComponent 27 = .ok (.iconst 5, 1) := by decide +kernel
theorem dX13_hasComponent_28 : decode cX13_hasComponent 28 = .ok (.if_icmp .ne 5, 3) := by decide +kernel
theorem dX13_hasComponent_31 : decode cX13_hasComponent 31 = .ok (.iconst 1, 1) := by decide +kernel
theorem dX13_hasComponent_32 : decode cX13_hasComponent 32 = .ok (.ireturn, 1) := by decide +kernel
theorem dX13_hasComponent_33 : decode cX13_hasComponent 33 = .ok (.iload_n 3, 1) := by decide +kernel
theorem dX13_hasComponent_34 : decode cX13_hasComponent 34 = .ok (.iload 4, 2) := by decide +kernel
theorem dX13_hasComponent_36 : decode cX13_hasComponent 36 = .ok (.iconst 4, 1) := by decide +kernel
theorem dX13_hasComponent_37 : decode cX13_hasComponent 37 = .ok (.if_icmp .ne 7, 3) := by decide +kernel
theorem dX13_hasComponent_4 : decode cX13_hasComponent 4 = .ok (.iload_n 1, 1) := by decide +kernel
theorem dX13_hasComponent_40 : decode cX13_hasComponent 40 = .ok (.iconst 1, 1) := by decide +kernel
theorem dX13_hasComponent_41 : decode cX13_hasComponent 41 = .ok (.goto 47, 3) := by decide +kernel
theorem dX13_hasComponent_44 : decode cX13_hasComponent 44 = .ok (.iload 4, 2) := by decide +kernel
theorem dX13_hasComponent_46 : decode cX13_hasComponent 46 = .ok (.iconst 2, 1) := by decide +kernel
theorem dX13_hasComponent_47 : decode cX13_hasComponent 47 = .ok (.if_icmp .ne 19, 3) := by decide +kernel
theorem dX13_hasComponent_5 : decode cX13_hasComponent 5 = .ok (.invokestatic 849, 3) := by decide +kernel
theorem dX13_hasComponent_50 : decode cX13_hasComponent 50 = .ok (.iconst 2, 1) := by decide +kernel
theorem dX13_hasComponent_51 : decode cX13_hasComponent 51 = .ok (.aload_n 0, 1) := by decide +kernel
theorem dX13_hasComponent_52 : decode cX13_hasComponent 52 = .ok (.getfield 182, 3) := by decide +kernel
theorem dX13_hasComponent_55 : decode cX13_hasComponent 55 = .ok (.iload_n 3, 1) := by decide +kernel
theorem dX13_hasComponent_56 : decode cX13_hasComponent 56 = .ok (.iconst 1, 1) := by decide +kernel
theorem dX13_hasComponent_57 : decode cX13_hasComponent 57 = .ok (.iadd, 1) := by decide +kernel
theorem dX13_hasComponent_58 : decode cX13_hasComponent 58 = .ok (.laload, 1) := by decide +kernel
theorem dX13_hasComponent_59 : decode cX13_hasComponent 59 = .ok (.invokestatic 845, 3) := by decide +kernel
theorem dX13_hasComponent_62 : decode cX13_hasComponent 62 = .ok (.iadd, 1) := by decide +kernel
theorem dX13_hasComponent_63 : decode cX13_hasComponent 63 = .ok (.goto 25, 3) := by decide +kernel
theorem dX13_hasComponent_66 : decode cX13_hasComponent 66 = .ok (.iload 4, 2) := by decide +kernel
theorem dX13_hasComponent_68 : decode cX13_hasComponent 68 = .ok (.bipush 6, 2) := by decide +kernel
theorem dX13_hasComponent_70 : decode cX13_hasComponent 70 = .ok (.if_icmp .ne 17, 3) := by decide +kernel
theorem dX13_hasComponent_73 : decode cX13_hasComponent 73 = .ok (.iconst 2, 1) := by decide +kernel
theorem dX13_hasComponent_74 : decode cX13_hasComponent 74 = .ok (.aload_n 0, 1) := by decide +kernel
theorem dX13_hasComponent_75 : decode cX13_hasComponent 75 = .ok (.getfield 182, 3) := by decide +kernel
theorem dX13_hasComponent_78 : decode cX13_hasComponent 78 = .ok (.iload_n 3, 1) := by decide +kernel
theorem dX13_hasComponent_79 : decode cX13_hasComponent 79 = .ok (.iconst 1, 1) := by decide +kernel
theorem dX13_hasComponent_8 : decode cX13_hasComponent 8 = .ok (.istore_n 2, 1) := by decide +kernel
theorem dX13_hasComponent_80 : decode cX13_hasComponent 80 = .ok (.iadd, 1) := by decide +kernel
theorem dX13_hasComponent_81 : decode cX13_hasComponent 81 = .ok (.laload, 1) := by decide +kernel
theorem dX13_hasComponent_82 : decode cX13_hasComponent 82 = .ok (.l2i, 1) := by decide +kernel
theorem dX13_hasComponent_83 : decode cX13_hasComponent 83 = .ok (.iadd, 1) := by decide +kernel
theorem dX13_hasComponent_84 : decode cX13_hasComponent 84 = .ok (.goto 4, 3) := by decide +kernel
theorem dX13_hasComponent_87 : decode cX13_hasComponent 87 = .ok (.iconst 2, 1) := by decide +kernel
theorem dX13_hasComponent_88 : decode cX13_hasComponent 88 = .ok (.iadd, 1) := by decide +kernel
theorem dX13_hasComponent_89 : decode cX13_hasComponent 89 = .ok (.istore_n 3, 1) := by decide +kernel
theorem dX13_hasComponent_9 : decode cX13_hasComponent 9 = .ok (.iload_n 1, 1) := by decide +kernel
theorem dX13_hasComponent_90 : decode cX13_hasComponent 90 = .ok (.goto (-79), 3) := by decide +kernel
theorem dX13_hasComponent_93 : decode cX13_hasComponent 93 = .ok (.iconst 0, 1) := by decide +kernel
theorem dX13_hasComponent_94 : decode cX13_hasComponent 94 = .ok (.ireturn, 1) := by decide +kernel
noncomputable def k_X13_hasComponent_88 (l2 : Int32) (k0 : Int32) (k1 : Int32) (s : t_S) : Option ((Int32 × Int32) ⊕ (Int32)) :=
 some (.inl (l2, (k1 + k0)))
set_option maxRecDepth 4000 in
set_option maxHeartbeats 1000000 in
theorem B_X13_hasComponent_88 {D : va_G} {cy : Nat → ClassId} {ad : Nat → Nat} {bs : Nat} {X : State → Heap → Prop} (l2 : Int32) (k0 : Int32) (k1 : Int32) (s : t_S) (Q : (Int32 × Int32) ⊕ (Int32) → Prop) (Hb11 : ∀ (y0 : Int32) (y1 : Int32), Q (.inl (y0, y1)) → mj_G D cy ad bs X cX13_hasComponent 5 yX13_hasComponent.cls (some .boolean) yX13_hasComponent.name 2 0 0 1065 (t_P (fun v s' => s' = s ∧ ∃ x, v = some (.int x) ∧ Q (.inr (x)))) 11 [(0, .ref 950), (2, .int (y0)), (3, .int (y1))] [] (t_m s) 1065 0 0) (hk : t_hk (k_X13_hasComponent_88 l2 k0 k1 s) Q) : mj_G D cy ad bs X cX13_hasComponent 5 yX13_hasComponent.cls (some .boolean) yX13_hasComponent.name 2 0 0 1065 (t_P (fun v s' => s' = s ∧ ∃ x, v = some (.int x) ∧ Q (.inr (x)))) 88 [(0, .ref 950), (2, .int l2)] [.int k0, .int k1] (t_m s) 1065 0 0 := by
  refine mj_iadd dX13_hasComponent_88 ?_
  refine mj_istore_n 3 (lv2 := [(3, .int (k1 + k0)), (0, .ref 950), (2, .int l2)]) dX13_hasComponent_89 rfl (by decide) rfl ?_
  refine mj_goto 11 dX13_hasComponent_90 (by decide) ?_
  refine mj_sublv [(0, .ref 950), (2, .int l2), (3, .int (k1 + k0))] [1, 2, 0] rfl ?_
  exact t_somK hk (fun hf => Hb11 l2 (k1 + k0) hf)
noncomputable def k_X13_hasComponent_11 (l2 : Int32) (l3 : Int32) (s : t_S) : Option ((Int32 × Int32) ⊕ (Int32)) :=
 if l2 ≤ l3 then ((some (0 : Int32)).map Sum.inr)
 else (if t_ix l3 626600 = true then
  if ((s.2.1 1006 (l3.toNatClampNeg)).toInt32) = (5 : Int32) then ((some (1 : Int32)).map Sum.inr)
 else (if ((s.2.1 1006 (l3.toNatClampNeg)).toInt32) = (4 : Int32) then (k_X13_hasComponent_88 l2 1 l3 s)
 else (if ((s.2.1 1006 (l3.toNatClampNeg)).toInt32) = (2 : Int32) then (if t_ix (l3 + (1 : Int32)) 626600 = true then
  (f_X13_packs (s.2.1 1006 ((l3 + (1 : Int32)).toNatClampNeg)) s).bind (fun r4 =>
 k_X13_hasComponent_88 l2 ((2 : Int32) + r4) l3 s)
else none)
 else (if ((s.2.1 1006 (l3.toNatClampNeg)).toInt32) = (6 : Int32) then (if t_ix (l3 + (1 : Int32)) 626600 = true then
  k_X13_hasComponent_88 l2 ((2 : Int32) + ((s.2.1 1006 ((l3 + (1 : Int32)).toNatClampNeg)).toInt32)) l3 s
else none)
 else (k_X13_hasComponent_88 l2 2 l3 s))))
else none)
set_option maxRecDepth 4000 in
set_option maxHeartbeats 1000000 in
theorem B_X13_hasComponent_11 {D : va_G} {cy : Nat → ClassId} {ad : Nat → Nat} {bs : Nat} {X : State → Heap → Prop} (l2 : Int32) (l3 : Int32) (s : t_S) (Q : (Int32 × Int32) ⊕ (Int32) → Prop) (Hb11 : ∀ (y0 : Int32) (y1 : Int32), Q (.inl (y0, y1)) → mj_G D cy ad bs X cX13_hasComponent 5 yX13_hasComponent.cls (some .boolean) yX13_hasComponent.name 2 0 0 1065 (t_P (fun v s' => s' = s ∧ ∃ x, v = some (.int x) ∧ Q (.inr (x)))) 11 [(0, .ref 950), (2, .int (y0)), (3, .int (y1))] [] (t_m s) 1065 0 0) (hk : t_hk (k_X13_hasComponent_11 l2 l3 s) Q) : mj_G D cy ad bs X cX13_hasComponent 5 yX13_hasComponent.cls (some .boolean) yX13_hasComponent.name 2 0 0 1065 (t_P (fun v s' => s' = s ∧ ∃ x, v = some (.int x) ∧ Q (.inr (x)))) 11 [(0, .ref 950), (2, .int l2), (3, .int l3)] [] (t_m s) 1065 0 0 := by
  refine mj_iload_n dX13_hasComponent_11 2 rfl ?_
  refine mj_iload_n dX13_hasComponent_12 1 rfl ?_
  refine mj_icmp_ge 93 dX13_hasComponent_13 (by decide) (fun z => t_posK hk z (fun hk => ?_)) (fun z => t_negK hk z (fun hk => ?_))
  · refine t_mapK hk (fun hk => ?_)
    refine mj_iconst (v := 0) dX13_hasComponent_93 (by decide) ?_
    exact t_somK hk (fun hf => t_iret dX13_hasComponent_94 rfl (by decide) ⟨rfl, _, rfl, hf⟩ (Nat.le_of_ble_eq_true rfl) (Nat.le_of_ble_eq_true rfl))
  · refine mj_aload_n dX13_hasComponent_16 0 rfl ?_
    refine t_getR 1006 dX13_hasComponent_17 F_X13_182 qr_950_95 ?_
    refine mj_iload_n dX13_hasComponent_20 2 rfl ?_
    refine t_chkK hk (fun c0 hk => ?_)
    refine t_lald dX13_hasComponent_21 qa_1006 (t_ixv c0) ?_
    refine mj_l2i (v := (s.2.1 1006 (l3.toNatClampNeg)).toInt32) dX13_hasComponent_22 rfl ?_
    refine mj_istore (lv2 := [(4, .int ((s.2.1 1006 (l3.toNatClampNeg)).toInt32)), (0, .ref 950), (2, .int l2), (3, .int l3)]) dX13_hasComponent_23 (by decide) rfl ?_
    refine mj_iload dX13_hasComponent_25 0 rfl ?_
    refine mj_iconst (v := 5) dX13_hasComponent_27 (by decide) ?_
    refine mj_icmp_ne 33 dX13_hasComponent_28 (by decide) (fun z => t_negK hk z (fun hk => ?_)) (fun z => t_posK hk z (fun hk => ?_))
    · refine mj_iload_n dX13_hasComponent_33 3 rfl ?_
      refine mj_iload dX13_hasComponent_34 0 rfl ?_
      refine mj_iconst (v := 4) dX13_hasComponent_36 (by decide) ?_
      refine mj_icmp_ne 44 dX13_hasComponent_37 (by decide) (fun z => t_negK hk z (fun hk => ?_)) (fun z => t_posK hk z (fun hk => ?_))
      · refine mj_iload dX13_hasComponent_44 0 rfl ?_
        refine mj_iconst (v := 2) dX13_hasComponent_46 (by decide) ?_
        refine mj_icmp_ne 66 dX13_hasComponent_47 (by decide) (fun z => t_negK hk z (fun hk => ?_)) (fun z => t_posK hk z (fun hk => ?_))
        · refine mj_iload dX13_hasComponent_66 0 rfl ?_
          refine mj_bipush (v := 6) dX13_hasComponent_68 (by decide) ?_
          refine mj_icmp_ne 87 dX13_hasComponent_70 (by decide) (fun z => t_negK hk z (fun hk => ?_)) (fun z => t_posK hk z (fun hk => ?_))
          · refine mj_iconst (v := 2) dX13_hasComponent_87 (by decide) ?_
            refine mj_sublv [(0, .ref 950), (2, .int l2)] [1, 2] rfl ?_
            exact B_X13_hasComponent_88 _ _ _ _ _ (fun y0 y1 hx => Hb11 y0 y1 hx) hk
          · refine mj_iconst (v := 2) dX13_hasComponent_73 (by decide) ?_
            refine mj_aload_n dX13_hasComponent_74 1 rfl ?_
            refine t_getR 1006 dX13_hasComponent_75 F_X13_182 qr_950_95 ?_
            refine mj_iload_n dX13_hasComponent_78 3 rfl ?_
            refine mj_iconst (v := 1) dX13_hasComponent_79 (by decide) ?_
            refine mj_iadd dX13_hasComponent_80 ?_
            refine t_chkK hk (fun c1 hk => ?_)
            refine t_lald dX13_hasComponent_81 qa_1006 (t_ixv c1) ?_
            refine mj_l2i (v := (s.2.1 1006 ((l3 + (1 : Int32)).toNatClampNeg)).toInt32) dX13_hasComponent_82 rfl ?_
            refine mj_iadd dX13_hasComponent_83 ?_
            refine mj_goto 88 dX13_hasComponent_84 (by decide) ?_
            refine mj_sublv [(0, .ref 950), (2, .int l2)] [1, 2] rfl ?_
            exact B_X13_hasComponent_88 _ _ _ _ _ (fun y0 y1 hx => Hb11 y0 y1 hx) hk
        · refine mj_iconst (v := 2) dX13_hasComponent_50 (by decide) ?_
          refine mj_aload_n dX13_hasComponent_51 1 rfl ?_
          refine t_getR 1006 dX13_hasComponent_52 F_X13_182 qr_950_95 ?_
          refine mj_iload_n dX13_hasComponent_55 3 rfl ?_
          refine mj_iconst (v := 1) dX13_hasComponent_56 (by decide) ?_
          refine mj_iadd dX13_hasComponent_57 ?_
          refine t_chkK hk (fun c2 hk => ?_)
          refine t_lald dX13_hasComponent_58 qa_1006 (t_ixv c2) ?_
          refine t_bndK hk (fun r4 er4 hk => ?_)
          refine t_callSiP dX13_hasComponent_59 M_X13_packs (C_X13_packs _ _ _ er4) ML_X13_845 SM_X13_packs (As := [.long (s.2.1 1006 ((l3 + (1 : Int32)).toNatClampNeg))]) rfl rfl (Nat.le_of_ble_eq_true rfl) (Nat.le_of_ble_eq_true rfl) (Nat.le_of_ble_eq_true rfl) (Nat.le_of_ble_eq_true rfl) ?_
          refine mj_iadd dX13_hasComponent_62 ?_
          refine mj_goto 88 dX13_hasComponent_63 (by decide) ?_
          refine mj_sublv [(0, .ref 950), (2, .int l2)] [1, 2] rfl ?_
          exact B_X13_hasComponent_88 _ _ _ _ _ (fun y0 y1 hx => Hb11 y0 y1 hx) hk
      · refine mj_iconst (v := 1) dX13_hasComponent_40 (by decide) ?_
        refine mj_goto 88 dX13_hasComponent_41 (by decide) ?_
        refine mj_sublv [(0, .ref 950), (2, .int l2)] [1, 2] rfl ?_
        exact B_X13_hasComponent_88 _ _ _ _ _ (fun y0 y1 hx => Hb11 y0 y1 hx) hk
    · refine t_mapK hk (fun hk => ?_)
      refine mj_iconst (v := 1) dX13_hasComponent_31 (by decide) ?_
      exact t_somK hk (fun hf => t_iret dX13_hasComponent_32 rfl (by decide) ⟨rfl, _, rfl, hf⟩ (Nat.le_of_ble_eq_true rfl) (Nat.le_of_ble_eq_true rfl))
noncomputable def b_X13_hasComponent_11 (s : t_S) (x : Int32 × Int32) : Option ((Int32 × Int32) ⊕ (Int32)) := k_X13_hasComponent_11 x.1 x.2 s
set_option maxRecDepth 4000 in
set_option maxHeartbeats 1000000 in
theorem LH_X13_hasComponent_11 {D : va_G} {cy : Nat → ClassId} {ad : Nat → Nat} {bs : Nat} {X : State → Heap → Prop} (s : t_S) : ∀ (n : Nat) (y0 : Int32) (y1 : Int32) (Q : Int32 → Prop) (hk : t_hk (t_loop (b_X13_hasComponent_11 s) n (y0, y1)) Q), mj_G D cy ad bs X cX13_hasComponent 5 yX13_hasComponent.cls (some .boolean) yX13_hasComponent.name 2 0 0 1065 (t_P (fun v s' => s' = s ∧ ∃ x, v = some (.int x) ∧ Q (x))) 11 [(0, .ref 950), (2, .int (y0)), (3, .int (y1))] [] (t_m s) 1065 0 0 := by
  intro n
  induction n with
  | zero => intro y0 y1 Q hk; obtain ⟨r, hr, _⟩ := hk; cases hr
  | succ n ih =>
    intro y0 y1 Q hk
    exact B_X13_hasComponent_11 y0 y1 s (fun y => t_lq (b_X13_hasComponent_11 s) n Q y) (fun y0' y1' hy => ih y0' y1' Q hy) (t_lp (b := b_X13_hasComponent_11 s) (n := n) (x := (y0, y1)) hk)
noncomputable def f_X13_hasComponent (x1 : Int32) (s : t_S) : Option (Int32) :=
 (f_X13_endOf 1006 x1 s).bind (fun r1 =>
 t_loop (b_X13_hasComponent_11 s) t_N (r1, x1))
set_option maxRecDepth 4000 in
set_option maxHeartbeats 1000000 in
theorem C_X13_hasComponent (x1 : Int32) (s : t_S) (r : Int32) (hr : f_X13_hasComponent x1 s = some r) : t_C yX13_hasComponent cX13_hasComponent 5 (some .boolean) 2 [.ref 950, .int x1] s (fun v s' => v = some (.int r) ∧ s' = s) := by
  refine t_C.imp (P := fun v s' => s' = s ∧ ∃ x, v = some (.int x) ∧ (fun q => q = r) (x)) (t_C.of (by decide +kernel) (Nat.le_of_ble_eq_true rfl) ?_) (fun v s' hp => by obtain ⟨rfl, x, rfl, rfl⟩ := hp; exact ⟨rfl, rfl⟩)
  intro D cy ad bs X
  have hk : t_hk (f_X13_hasComponent x1 s) (fun q => q = r) := ⟨r, hr, rfl⟩
  show mj_G D cy ad bs X cX13_hasComponent 5 yX13_hasComponent.cls (some .boolean) yX13_hasComponent.name 2 0 0 1065 (t_P (fun v s' => s' = s ∧ ∃ x, v = some (.int x) ∧ (fun q => q = r) (x))) 0 [(0, .ref 950), (1, .int x1)] [] (t_m s) 1065 0 0
  refine mj_aload_n dX13_hasComponent_0 0 rfl ?_
  refine t_getR 1006 dX13_hasComponent_1 F_X13_182 qr_950_95 ?_
  refine mj_iload_n dX13_hasComponent_4 1 rfl ?_
  refine t_bndK hk (fun r1 er1 hk => ?_)
  refine t_callSiP dX13_hasComponent_5 M_X13_endOf (C_X13_endOf _ _ _ _ er1) ML_X13_849 SM_X13_endOf (As := [.ref 1006, .int x1]) rfl rfl (Nat.le_of_ble_eq_true rfl) (Nat.le_of_ble_eq_true rfl) (Nat.le_of_ble_eq_true rfl) (Nat.le_of_ble_eq_true rfl) ?_
  refine mj_istore_n 2 (lv2 := [(2, .int r1), (0, .ref 950), (1, .int x1)]) dX13_hasComponent_8 rfl (by decide) rfl ?_
  refine mj_iload_n dX13_hasComponent_9 2 rfl ?_
  refine mj_istore_n 3 (lv2 := [(3, .int x1), (2, .int r1), (0, .ref 950), (1, .int x1)]) dX13_hasComponent_10 rfl (by decide) rfl ?_
  refine mj_sublv [(0, .ref 950), (2, .int r1), (3, .int x1)] [2, 1, 0] rfl ?_
  exact LH_X13_hasComponent_11 _ _ r1 x1 _ hk

theorem dX13_noComponent_0 : decode cX13_noComponent 0 = .ok (.aload_n 0, 1) := by decide +kernel
theorem dX13_noComponent_1 : decode cX13_noComponent 1 = .ok (.getfield 645, 3) := by decide +kernel
theorem dX13_noComponent_11 : decode cX13_noComponent 11 = .ok (.iload_n 1, 1) := by decide +kernel
theorem dX13_noComponent_12 : decode cX13_noComponent 12 = .ok (.aload_n 0, 1) := by decide +kernel
theorem dX13_noComponent_13 : decode cX13_noComponent 13 = .ok (.getfield 1315, 3) := by decide +kernel
theorem dX13_noComponent_16 : decode cX13_noComponent 16 = .ok (.if_icmp .lt 7, 3) := by decide +kernel
theorem dX13_noComponent_19 : decode cX13_noComponent 19 = .ok (.iconst 1, 1) := by decide +kernel
theorem dX13_noComponent_20 : decode cX13_noComponent 20 = .ok (.goto 4, 3) := by decide +kernel
theorem dX13_noComponent_23 : decode cX13_noComponent 23 = .ok (.iconst 0, 1) := by decide +kernel
theorem dX13_noComponent_24 : decode cX13_noComponent 24 = .ok (.ireturn, 1) := by decide +kernel
theorem dX13_noComponent_4 : decode cX13_noComponent 4 = .ok (.ifCond .eq 15, 3) := by decide +kernel
theorem dX13_noComponent_7 : decode cX13_noComponent 7 = .ok (.iload_n 1, 1) := by decide +kernel
theorem dX13_noComponent_8 : decode cX13_noComponent 8 = .ok (.ifCond .lt 11, 3) := by decide +kernel
noncomputable def k_X13_noComponent_19 (s : t_S) : Int32 :=
 (1 : Int32)
set_option maxRecDepth 4000 in
set_option maxHeartbeats 1000000 in
theorem B_X13_noComponent_19 {D : va_G} {cy : Nat → ClassId} {ad : Nat → Nat} {bs : Nat} {X : State → Heap → Prop} (s : t_S) (Q : Int32 → Prop) (hk : t_ht (k_X13_noComponent_19 s) Q) : mj_G D cy ad bs X cX13_noComponent 2 yX13_noComponent.cls (some .boolean) yX13_noComponent.name 0 0 0 1065 (t_P (fun v s' => s' = s ∧ ∃ x, v = some (.int x) ∧ Q (x))) 19 [] [] (t_m s) 1065 0 0 := by
  refine mj_iconst (v := 1) dX13_noComponent_19 (by decide) ?_
  refine mj_goto 24 dX13_noComponent_20 (by decide) ?_
  exact t_iret dX13_noComponent_24 rfl (by decide) ⟨rfl, _, rfl, hk⟩ (Nat.le_of_ble_eq_true rfl) (Nat.le_of_ble_eq_true rfl)
noncomputable def f_X13_noComponent (x1 : Int32) (s : t_S) : Int32 :=
 if (s.1 950 147) = (0 : Int32) then (k_X13_noComponent_19 s)
 else (if x1 < (0 : Int32) then (k_X13_noComponent_19 s)
 else (if x1 < (s.1 950 149) then ((0 : Int32))
 else (k_X13_noComponent_19 s)))
set_option maxRecDepth 4000 in
set_option maxHeartbeats 1000000 in
theorem C_X13_noComponent (x1 : Int32) (s : t_S) : t_C yX13_noComponent cX13_noComponent 2 (some .boolean) 0 [.ref 950, .int x1] s (fun v s' => v = some (.int (f_X13_noComponent x1 s)) ∧ s' = s) := by
  refine t_C.imp (P := fun v s' => s' = s ∧ ∃ x, v = some (.int x) ∧ (fun r => r = f_X13_noComponent x1 s) (x)) (t_C.of (by decide +kernel) (Nat.le_of_ble_eq_true rfl) ?_) (fun v s' hp => by obtain ⟨rfl, x, rfl, rfl⟩ := hp; exact ⟨rfl, rfl⟩)
  intro D cy ad bs X
  have hk : t_ht (f_X13_noComponent x1 s) (fun r => r = f_X13_noComponent x1 s) := rfl
  show mj_G D cy ad bs X cX13_noComponent 2 yX13_noComponent.cls (some .boolean) yX13_noComponent.name 0 0 0 1065 (t_P (fun v s' => s' = s ∧ ∃ x, v = some (.int x) ∧ (fun r => r = f_X13_noComponent x1 s) (x))) 0 [(0, .ref 950), (1, .int x1)] [] (t_m s) 1065 0 0
  refine mj_aload_n dX13_noComponent_0 0 rfl ?_
  refine t_getI dX13_noComponent_1 F_X13_645 qf_950_147 ?_
  refine mj_if_eq 19 dX13_noComponent_4 (by decide) (fun z => t_posTK hk z (fun hk => ?_)) (fun z => t_negTK hk z (fun hk => ?_))
  · refine mj_sublv [] [] rfl ?_
    exact B_X13_noComponent_19 _ _ hk
  · refine mj_iload_n dX13_noComponent_7 1 rfl ?_
    refine mj_if_lt 19 dX13_noComponent_8 (by decide) (fun z => t_posTK hk z (fun hk => ?_)) (fun z => t_negTK hk z (fun hk => ?_))
    · refine mj_sublv [] [] rfl ?_
      exact B_X13_noComponent_19 _ _ hk
    · refine mj_iload_n dX13_noComponent_11 1 rfl ?_
      refine mj_aload_n dX13_noComponent_12 0 rfl ?_
      refine t_getI dX13_noComponent_13 F_X13_1315 qf_950_149 ?_
      refine mj_icmp_lt 23 dX13_noComponent_16 (by decide) (fun z => t_posTK hk z (fun hk => ?_)) (fun z => t_negTK hk z (fun hk => ?_))
      · refine mj_iconst (v := 0) dX13_noComponent_23 (by decide) ?_
        exact t_iret dX13_noComponent_24 rfl (by decide) ⟨rfl, _, rfl, hk⟩ (Nat.le_of_ble_eq_true rfl) (Nat.le_of_ble_eq_true rfl)
      · refine mj_sublv [] [] rfl ?_
        exact B_X13_noComponent_19 _ _ hk

theorem dX13_noPort_0 : decode cX13_noPort 0 = .ok (.aload_n 0, 1) := by decide +kernel
theorem dX13_noPort_1 : decode cX13_noPort 1 = .ok (.iload_n 1, 1) := by decide +kernel
theorem dX13_noPort_12 : decode cX13_noPort 12 = .ok (.iload_n 2, 1) := by decide +kernel
theorem dX13_noPort_13 : decode cX13_noPort 13 = .ok (.aload_n 0, 1) := by decide +kernel
theorem dX13_noPort_14 : decode cX13_noPort 14 = .ok (.getfield 78, 3) := by decide +kernel
theorem dX13_noPort_17 : decode cX13_noPort 17 = .ok (.aload_n 0, 1) := by decide +kernel
theorem dX13_noPort_18 : decode cX13_noPort 18 = .ok (.getfield 273, 3) := by decide +kernel
theorem dX13_noPort_2 : decode cX13_noPort 2 = .ok (.invokevirtual 1352, 3) := by decide +kernel
theorem dX13_noPort_21 : decode cX13_noPort 21 = .ok (.iload_n 1, 1) := by decide +kernel
theorem dX13_noPort_22 : decode cX13_noPort 22 = .ok (.iaload, 1) := by decide +kernel
theorem dX13_noPort_23 : decode cX13_noPort 23 = .ok (.iaload, 1) := by decide +kernel
theorem dX13_noPort_24 : decode cX13_noPort 24 = .ok (.if_icmp .lt 7, 3) := by decide +kernel
theorem dX13_noPort_27 : decode cX13_noPort 27 = .ok (.iconst 1, 1) := by decide +kernel
theorem dX13_noPort_28 : decode cX13_noPort 28 = .ok (.goto 4, 3) := by decide +kernel
theorem dX13_noPort_31 : decode cX13_noPort 31 = .ok (.iconst 0, 1) := by decide +kernel
theorem dX13_noPort_32 : decode cX13_noPort 32 = .ok (.ireturn, 1) := by decide +kernel
theorem dX13_noPort_5 : decode cX13_noPort 5 = .ok (.ifCond .ne 22, 3) := by decide +kernel
theorem dX13_noPort_8 : decode cX13_noPort 8 = .ok (.iload_n 2, 1) := by decide +kernel
theorem dX13_noPort_9 : decode cX13_noPort 9 = .ok (.ifCond .lt 18, 3) := by decide +kernel
noncomputable def k_X13_noPort_27 (s : t_S) : Option (Int32) :=
 some (1 : Int32)
set_option maxRecDepth 4000 in
set_option maxHeartbeats 1000000 in
theorem B_X13_noPort_27 {D : va_G} {cy : Nat → ClassId} {ad : Nat → Nat} {bs : Nat} {X : State → Heap → Prop} (s : t_S) (Q : Int32 → Prop) (hk : t_hk (k_X13_noPort_27 s) Q) : mj_G D cy ad bs X cX13_noPort 3 yX13_noPort.cls (some .boolean) yX13_noPort.name 1 0 0 1065 (t_P (fun v s' => s' = s ∧ ∃ x, v = some (.int x) ∧ Q (x))) 27 [] [] (t_m s) 1065 0 0 := by
  refine mj_iconst (v := 1) dX13_noPort_27 (by decide) ?_
  refine mj_goto 32 dX13_noPort_28 (by decide) ?_
  exact t_somK hk (fun hf => t_iret dX13_noPort_32 rfl (by decide) ⟨rfl, _, rfl, hf⟩ (Nat.le_of_ble_eq_true rfl) (Nat.le_of_ble_eq_true rfl))
noncomputable def f_X13_noPort (x1 : Int32) (x2 : Int32) (s : t_S) : Option (Int32) :=
 if (f_X13_noComponent x1 s) = (0 : Int32) then (if x2 < (0 : Int32) then (k_X13_noPort_27 s)
 else (if t_ix x1 8 = true then
  if t_ix (s.1 1035 (x1.toNatClampNeg)) 8 = true then
  if x2 < (s.1 972 ((s.1 1035 (x1.toNatClampNeg)).toNatClampNeg)) then (some (0 : Int32))
 else (k_X13_noPort_27 s)
else none
else none))
 else (k_X13_noPort_27 s)
set_option maxRecDepth 4000 in
set_option maxHeartbeats 1000000 in
theorem C_X13_noPort (x1 : Int32) (x2 : Int32) (s : t_S) (r : Int32) (hr : f_X13_noPort x1 x2 s = some r) : t_C yX13_noPort cX13_noPort 3 (some .boolean) 1 [.ref 950, .int x1, .int x2] s (fun v s' => v = some (.int r) ∧ s' = s) := by
  refine t_C.imp (P := fun v s' => s' = s ∧ ∃ x, v = some (.int x) ∧ (fun q => q = r) (x)) (t_C.of (by decide +kernel) (Nat.le_of_ble_eq_true rfl) ?_) (fun v s' hp => by obtain ⟨rfl, x, rfl, rfl⟩ := hp; exact ⟨rfl, rfl⟩)
  intro D cy ad bs X
  have hk : t_hk (f_X13_noPort x1 x2 s) (fun q => q = r) := ⟨r, hr, rfl⟩
  show mj_G D cy ad bs X cX13_noPort 3 yX13_noPort.cls (some .boolean) yX13_noPort.name 1 0 0 1065 (t_P (fun v s' => s' = s ∧ ∃ x, v = some (.int x) ∧ (fun q => q = r) (x))) 0 [(0, .ref 950), (1, .int x1), (2, .int x2)] [] (t_m s) 1065 0 0
  refine mj_aload_n dX13_noPort_0 0 rfl ?_
  refine mj_iload_n dX13_noPort_1 1 rfl ?_
  refine t_callViP dX13_noPort_2 M_X13_noComponent (C_X13_noComponent _ _) ML_X13_1352 IM_X13_noComponent SE_X13_noComponent qc_950 rfl (As := [.int x1]) rfl rfl (Nat.le_of_ble_eq_true rfl) (Nat.le_of_ble_eq_true rfl) (Nat.le_of_ble_eq_true rfl) (Nat.le_of_ble_eq_true rfl) ?_
  refine mj_if_ne 27 dX13_noPort_5 (by decide) (fun z => t_negK hk z (fun hk => ?_)) (fun z => t_posK hk z (fun hk => ?_))
  · refine mj_sublv [] [] rfl ?_
    exact B_X13_noPort_27 _ _ hk
  · refine mj_iload_n dX13_noPort_8 2 rfl ?_
    refine mj_if_lt 27 dX13_noPort_9 (by decide) (fun z => t_posK hk z (fun hk => ?_)) (fun z => t_negK hk z (fun hk => ?_))
    · refine mj_sublv [] [] rfl ?_
      exact B_X13_noPort_27 _ _ hk
    · refine mj_iload_n dX13_noPort_12 2 rfl ?_
      refine mj_aload_n dX13_noPort_13 0 rfl ?_
      refine t_getR 972 dX13_noPort_14 F_X13_78 qr_950_47 ?_
      refine mj_aload_n dX13_noPort_17 0 rfl ?_
      refine t_getR 1035 dX13_noPort_18 F_X13_273 qr_950_150 ?_
      refine mj_iload_n dX13_noPort_21 1 rfl ?_
      refine t_chkK hk (fun c1 hk => ?_)
      refine t_iald dX13_noPort_22 qa_1035 (t_ixv c1) ?_
      refine t_chkK hk (fun c2 hk => ?_)
      refine t_iald dX13_noPort_23 qa_972 (t_ixv c2) ?_
      refine mj_icmp_lt 31 dX13_noPort_24 (by decide) (fun z => t_posK hk z (fun hk => ?_)) (fun z => t_negK hk z (fun hk => ?_))
      · refine mj_iconst (v := 0) dX13_noPort_31 (by decide) ?_
        exact t_somK hk (fun hf => t_iret dX13_noPort_32 rfl (by decide) ⟨rfl, _, rfl, hf⟩ (Nat.le_of_ble_eq_true rfl) (Nat.le_of_ble_eq_true rfl))
      · refine mj_sublv [] [] rfl ?_
        exact B_X13_noPort_27 _ _ hk

theorem dX13_give_0 : decode cX13_give 0 = .ok (.aload_n 0, 1) := by decide +kernel
theorem dX13_give_1 : decode cX13_give 1 = .ok (.iload_n 1, 1) := by decide +kernel
theorem dX13_give_10 : decode cX13_give 10 = .ok (.iload_n 3, 1) := by decide +kernel
theorem dX13_give_11 : decode cX13_give 11 = .ok (.invokevirtual 1002, 3) := by decide +kernel
theorem dX13_give_14 : decode cX13_give 14 = .ok (.ifCond .eq 5, 3) := by decide +kernel
theorem dX13_give_17 : decode cX13_give 17 = .ok (.iconst (-1), 1) := by decide +kernel
theorem dX13_give_18 : decode cX13_give 18 = .ok (.ireturn, 1) := by decide +kernel
theorem dX13_give_19 : decode cX13_give 19 = .ok (.sipush 260, 3) := by decide +kernel
theorem dX13_give_2 : decode cX13_give 2 = .ok (.iload_n 2, 1) := by decide +kernel
theorem dX13_give_22 : decode cX13_give 22 = .ok (.iconst 0, 1) := by decide +kernel
theorem dX13_give_23 : decode cX13_give 23 = .ok (.iload_n 3, 1) := by decide +kernel
theorem dX13_give_24 : decode cX13_give 24 = .ok (.iadd, 1) := by decide +kernel
theorem dX13_give_25 : decode cX13_give 25 = .ok (.imul, 1) := by decide +kernel
theorem dX13_give_26 : decode cX13_give 26 = .ok (.istore 4, 2) := by decide +kernel
theorem dX13_give_28 : decode cX13_give 28 = .ok (.aload_n 0, 1) := by decide +kernel
theorem dX13_give_29 : decode cX13_give 29 = .ok (.getfield 182, 3) := by decide +kernel
theorem dX13_give_3 : decode cX13_give 3 = .ok (.invokevirtual 1487, 3) := by decide +kernel
theorem dX13_give_32 : decode cX13_give 32 = .ok (.iload 4, 2) := by decide +kernel
theorem dX13_give_34 : decode cX13_give 34 = .ok (.laload, 1) := by decide +kernel
theorem dX13_give_35 : decode cX13_give 35 = .ok (.ldc2_w 969, 3) := by decide +kernel
theorem dX13_give_38 : decode cX13_give 38 = .ok (.lcmp, 1) := by decide +kernel
theorem dX13_give_39 : decode cX13_give 39 = .ok (.ifCond .eq 12, 3) := by decide +kernel
theorem dX13_give_42 : decode cX13_give 42 = .ok (.aload_n 0, 1) := by decide +kernel
theorem dX13_give_43 : decode cX13_give 43 = .ok (.iload 4, 2) := by decide +kernel
theorem dX13_give_45 : decode cX13_give 45 = .ok (.invokevirtual 1490, 3) := by decide +kernel
theorem dX13_give_48 : decode cX13_give 48 = .ok (.ifCond .eq 5, 3) := by decide +kernel
theorem dX13_give_51 : decode cX13_give 51 = .ok (.iconst (-1), 1) := by decide +kernel
theorem dX13_give_52 : decode cX13_give 52 = .ok (.ireturn, 1) := by decide +kernel
theorem dX13_give_53 : decode cX13_give 53 = .ok (.aload_n 0, 1) := by decide +kernel
theorem dX13_give_54 : decode cX13_give 54 = .ok (.iload_n 1, 1) := by decide +kernel
theorem dX13_give_55 : decode cX13_give 55 = .ok (.iload_n 2, 1) := by decide +kernel
theorem dX13_give_56 : decode cX13_give 56 = .ok (.iload 4, 2) := by decide +kernel
theorem dX13_give_58 : decode cX13_give 58 = .ok (.iconst (-1), 1) := by decide +kernel
theorem dX13_give_59 : decode cX13_give 59 = .ok (.invokevirtual 1451, 3) := by decide +kernel
theorem dX13_give_6 : decode cX13_give 6 = .ok (.ifCond .ne 11, 3) := by decide +kernel
theorem dX13_give_62 : decode cX13_give 62 = .ok (.ifCond .eq 7, 3) := by decide +kernel
theorem dX13_give_65 : decode cX13_give 65 = .ok (.iconst 1, 1) := by decide +kernel
theorem dX13_give_66 : decode cX13_give 66 = .ok (.goto 4, 3) := by decide +kernel
theorem dX13_give_69 : decode cX13_give 69 = .ok (.iconst 0, 1) := by decide +kernel
theorem dX13_give_70 : decode cX13_give 70 = .ok (.ireturn, 1) := by decide +kernel
theorem dX13_give_9 : decode cX13_give 9 = .ok (.aload_n 0, 1) := by decide +kernel
noncomputable def f_X13_give (x1 : Int32) (x2 : Int32) (x3 : Int32) (s : t_S) : Option (Int32 × t_S) :=
 (f_X13_noPort x1 x2 s).bind (fun r1 =>
 if r1 = (0 : Int32) then (if (f_X13_noValue x3 s) = (0 : Int32) then (if t_ix ((260 : Int32) * ((0 : Int32) + x3)) 626600 = true then
  if (lg_cmp (s.2.1 1006 (((260 : Int32) * ((0 : Int32) + x3)).toNatClampNeg)) (4 : Int64)) = (0 : Int32) then (some ((-1 : Int32), s))
 else ((f_X13_hasComponent ((260 : Int32) * ((0 : Int32) + x3)) s).bind (fun r4 =>
 if r4 = (0 : Int32) then ((f_X13_queueUp x1 x2 ((260 : Int32) * ((0 : Int32) + x3)) (-1 : Int32) s).bind (fun r5 =>
 if r5.1 = (0 : Int32) then (some ((0 : Int32), r5.2))
 else (some ((1 : Int32), r5.2))))
 else (some ((-1 : Int32), s))))
else none)
 else (some ((-1 : Int32), s)))
 else (some ((-1 : Int32), s)))
set_option maxRecDepth 4000 in
set_option maxHeartbeats 1000000 in
theorem C_X13_give (x1 : Int32) (x2 : Int32) (x3 : Int32) (s : t_S) (r : Int32 × t_S) (hr : f_X13_give x1 x2 x3 s = some r) : t_C yX13_give cX13_give 5 (some .int) 4 [.ref 950, .int x1, .int x2, .int x3] s (fun v s' => v = some (.int r.1) ∧ s' = r.2) := by
  refine t_C.imp (P := fun v s' => ∃ x, v = some (.int x) ∧ (fun q => q = r) ((x, s'))) (t_C.of (by decide +kernel) (Nat.le_of_ble_eq_true rfl) ?_) (fun v s' hp => by obtain ⟨x, rfl, rfl⟩ := hp; exact ⟨rfl, rfl⟩)
  intro D cy ad bs X
  have hk : t_hk (f_X13_give x1 x2 x3 s) (fun q => q = r) := ⟨r, hr, rfl⟩
  show mj_G D cy ad bs X cX13_give 5 yX13_give.cls (some .int) yX13_give.name 4 0 0 1065 (t_P (fun v s' => ∃ x, v = some (.int x) ∧ (fun q => q = r) ((x, s')))) 0 [(0, .ref 950), (1, .int x1), (2, .int x2), (3, .int x3)] [] (t_m s) 1065 0 0
  refine mj_aload_n dX13_give_0 0 rfl ?_
  refine mj_iload_n dX13_give_1 1 rfl ?_
  refine mj_iload_n dX13_give_2 2 rfl ?_
  refine t_bndK hk (fun r1 er1 hk => ?_)
  refine t_callViP dX13_give_3 M_X13_noPort (C_X13_noPort _ _ _ _ er1) ML_X13_1487 IM_X13_noPort SE_X13_noPort qc_950 rfl (As := [.int x1, .int x2]) rfl rfl (Nat.le_of_ble_eq_true rfl) (Nat.le_of_ble_eq_true rfl) (Nat.le_of_ble_eq_true rfl) (Nat.le_of_ble_eq_true rfl) ?_
  refine mj_if_ne 17 dX13_give_6 (by decide) (fun z => t_negK hk z (fun hk => ?_)) (fun z => t_posK hk z (fun hk => ?_))
  · refine mj_iconst (v := (-1)) dX13_give_17 (by decide) ?_
    exact t_somK hk (fun hf => t_iret dX13_give_18 rfl rfl ⟨_, rfl, hf⟩ (Nat.le_of_ble_eq_true rfl) (Nat.le_of_ble_eq_true rfl))
  · refine mj_aload_n dX13_give_9 0 rfl ?_
    refine mj_iload_n dX13_give_10 3 rfl ?_
    refine t_callViP dX13_give_11 M_X13_noValue (C_X13_noValue _ _) ML_X13_1002 IM_X13_noValue SE_X13_noValue qc_950 rfl (As := [.int x3]) rfl rfl (Nat.le_of_ble_eq_true rfl) (Nat.le_of_ble_eq_true rfl) (Nat.le_of_ble_eq_true rfl) (Nat.le_of_ble_eq_true rfl) ?_
    refine mj_if_eq 19 dX13_give_14 (by decide) (fun z => t_posK hk z (fun hk => ?_)) (fun z => t_negK hk z (fun hk => ?_))
    · refine mj_sipush (v := 260) dX13_give_19 (by decide) ?_
      refine mj_iconst (v := 0) dX13_give_22 (by decide) ?_
      refine mj_iload_n dX13_give_23 3 rfl ?_
      refine mj_iadd dX13_give_24 ?_
      refine mj_imul dX13_give_25 ?_
      refine mj_istore (lv2 := [(4, .int ((260 : Int32) * ((0 : Int32) + x3))), (0, .ref 950), (1, .int x1), (2, .int x2), (3, .int x3)]) dX13_give_26 (by decide) rfl ?_
      refine mj_aload_n dX13_give_28 1 rfl ?_
      refine t_getR 1006 dX13_give_29 F_X13_182 qr_950_95 ?_
      refine mj_iload dX13_give_32 0 rfl ?_
      refine t_chkK hk (fun c2 hk => ?_)
      refine t_lald dX13_give_34 qa_1006 (t_ixv c2) ?_
      refine mj_ldc2 dX13_give_35 K_X13_969 ?_
      refine mj_lcmp dX13_give_38 ?_
      refine mj_if_eq 51 dX13_give_39 (by decide) (fun z => t_posK hk z (fun hk => ?_)) (fun z => t_negK hk z (fun hk => ?_))
      · refine mj_iconst (v := (-1)) dX13_give_51 (by decide) ?_
        exact t_somK hk (fun hf => t_iret dX13_give_52 rfl rfl ⟨_, rfl, hf⟩ (Nat.le_of_ble_eq_true rfl) (Nat.le_of_ble_eq_true rfl))
      · refine mj_aload_n dX13_give_42 1 rfl ?_
        refine mj_iload dX13_give_43 0 rfl ?_
        refine t_bndK hk (fun r4 er4 hk => ?_)
        refine t_callViP dX13_give_45 M_X13_hasComponent (C_X13_hasComponent _ _ _ er4) ML_X13_1490 IM_X13_hasComponent SE_X13_hasComponent qc_950 rfl (As := [.int ((260 : Int32) * ((0 : Int32) + x3))]) rfl rfl (Nat.le_of_ble_eq_true rfl) (Nat.le_of_ble_eq_true rfl) (Nat.le_of_ble_eq_true rfl) (Nat.le_of_ble_eq_true rfl) ?_
        refine mj_if_eq 53 dX13_give_48 (by decide) (fun z => t_posK hk z (fun hk => ?_)) (fun z => t_negK hk z (fun hk => ?_))
        · refine mj_aload_n dX13_give_53 1 rfl ?_
          refine mj_iload_n dX13_give_54 2 rfl ?_
          refine mj_iload_n dX13_give_55 3 rfl ?_
          refine mj_iload dX13_give_56 0 rfl ?_
          refine mj_iconst (v := (-1)) dX13_give_58 (by decide) ?_
          refine t_bndK hk (fun r5 er5 hk => ?_)
          refine t_callViE dX13_give_59 M_X13_queueUp (C_X13_queueUp _ _ _ _ _ _ er5) ML_X13_1451 IM_X13_queueUp SE_X13_queueUp qc_950 rfl (As := [.int x1, .int x2, .int ((260 : Int32) * ((0 : Int32) + x3)), .int (-1)]) rfl rfl (Nat.le_of_ble_eq_true rfl) (Nat.le_of_ble_eq_true rfl) (Nat.le_of_ble_eq_true rfl) (Nat.le_of_ble_eq_true rfl) ?_
          refine mj_if_eq 69 dX13_give_62 (by decide) (fun z => t_posK hk z (fun hk => ?_)) (fun z => t_negK hk z (fun hk => ?_))
          · refine mj_iconst (v := 0) dX13_give_69 (by decide) ?_
            exact t_somK hk (fun hf => t_iret dX13_give_70 rfl rfl ⟨_, rfl, hf⟩ (Nat.le_of_ble_eq_true rfl) (Nat.le_of_ble_eq_true rfl))
          · refine mj_iconst (v := 1) dX13_give_65 (by decide) ?_
            refine mj_goto 70 dX13_give_66 (by decide) ?_
            exact t_somK hk (fun hf => t_iret dX13_give_70 rfl rfl ⟨_, rfl, hf⟩ (Nat.le_of_ble_eq_true rfl) (Nat.le_of_ble_eq_true rfl))
        · refine mj_iconst (v := (-1)) dX13_give_51 (by decide) ?_
          exact t_somK hk (fun hf => t_iret dX13_give_52 rfl rfl ⟨_, rfl, hf⟩ (Nat.le_of_ble_eq_true rfl) (Nat.le_of_ble_eq_true rfl))
    · refine mj_iconst (v := (-1)) dX13_give_17 (by decide) ?_
      exact t_somK hk (fun hf => t_iret dX13_give_18 rfl rfl ⟨_, rfl, hf⟩ (Nat.le_of_ble_eq_true rfl) (Nat.le_of_ble_eq_true rfl))

theorem dX13_item_0 : decode cX13_item 0 = .ok (.aload_n 0, 1) := by decide +kernel
theorem dX13_item_1 : decode cX13_item 1 = .ok (.getfield 385, 3) := by decide +kernel
theorem dX13_item_100 : decode cX13_item 100 = .ok (.iload 4, 2) := by decide +kernel
theorem dX13_item_102 : decode cX13_item 102 = .ok (.iload_n 3, 1) := by decide +kernel
theorem dX13_item_103 : decode cX13_item 103 = .ok (.iastore, 1) := by decide +kernel
theorem dX13_item_104 : decode cX13_item 104 = .ok (.aload_n 0, 1) := by decide +kernel
theorem dX13_item_105 : decode cX13_item 105 = .ok (.getfield 60, 3) := by decide +kernel
theorem dX13_item_108 : decode cX13_item 108 = .ok (.iload 4, 2) := by decide +kernel
theorem dX13_item_110 : decode cX13_item 110 = .ok (.iload_n 2, 1) := by decide +kernel
theorem dX13_item_111 : decode cX13_item 111 = .ok (.iastore, 1) := by decide +kernel
theorem dX13_item_112 : decode cX13_item 112 = .ok (.aload_n 0, 1) := by decide +kernel
theorem dX13_item_113 : decode cX13_item 113 = .ok (.dup, 1) := by decide +kernel
theorem dX13_item_114 : decode cX13_item 114 = .ok (.getfield 624, 3) := by decide +kernel
theorem dX13_item_117 : decode cX13_item 117 = .ok (.iconst 1, 1) := by decide +kernel
theorem dX13_item_118 : decode cX13_item 118 = .ok (.iadd, 1) := by decide +kernel
theorem dX13_item_119 : decode cX13_item 119 = .ok (.putfield 624, 3) := by decide +kernel
theorem dX13_item_12 : decode cX13_item 12 = .ok (.goto 4, 3) := by decide +kernel
theorem dX13_item_122 : decode cX13_item 122 = .ok (.aload_n 0, 1) := by decide +kernel
theorem dX13_item_123 : decode cX13_item 123 = .ok (.invokevirtual 452, 3) := by decide +kernel
theorem dX13_item_126 : decode cX13_item 126 = .ok (.aload_n 0, 1) := by decide +kernel
theorem dX13_item_127 : decode cX13_item 127 = .ok (.bipush 61, 2) := by decide +kernel
theorem dX13_item_129 : decode cX13_item 129 = .ok (.invokevirtual 528, 3) := by decide +kernel
theorem dX13_item_132 : decode cX13_item 132 = .ok (.aload_n 0, 1) := by decide +kernel
theorem dX13_item_133 : decode cX13_item 133 = .ok (.invokestatic 503, 3) := by decide +kernel
theorem dX13_item_136 : decode cX13_item 136 = .ok (.istore 5, 2) := by decide +kernel
theorem dX13_item_138 : decode cX13_item 138 = .ok (.aload_n 0, 1) := by decide +kernel
theorem dX13_item_139 : decode cX13_item 139 = .ok (.getfield 375, 3) := by decide +kernel
theorem dX13_item_142 : decode cX13_item 142 = .ok (.ifCond .ne 12, 3) := by decide +kernel
theorem dX13_item_145 : decode cX13_item 145 = .ok (.aload_n 0, 1) := by decide +kernel
theorem dX13_item_146 : decode cX13_item 146 = .ok (.getfield 57, 3) := by decide +kernel
theorem dX13_item_149 : decode cX13_item 149 = .ok (.iload 4, 2) := by decide +kernel
theorem dX13_item_15 : decode cX13_item 15 = .ok (.iconst (-1), 1) := by decide +kernel
theorem dX13_item_151 : decode cX13_item 151 = .ok (.iload 5, 2) := by decide +kernel
theorem dX13_item_153 : decode cX13_item 153 = .ok (.iastore, 1) := by decide +kernel
theorem dX13_item_154 : decode cX13_item 154 = .ok (.aload_n 0, 1) := by decide +kernel
theorem dX13_item_155 : decode cX13_item 155 = .ok (.bipush 59, 2) := by decide +kernel
theorem dX13_item_157 : decode cX13_item 157 = .ok (.invokevirtual 528, 3) := by decide +kernel
theorem dX13_item_16 : decode cX13_item 16 = .ok (.istore_n 1, 1) := by decide +kernel
theorem dX13_item_160 : decode cX13_item 160 = .ok (.goto 116, 3) := by decide +kernel
theorem dX13_item_163 : decode cX13_item 163 = .ok (.iload_n 1, 1) := by decide +kernel
theorem dX13_item_164 : decode cX13_item 164 = .ok (.iconst 1, 1) := by decide +kernel
theorem dX13_item_165 : decode cX13_item 165 = .ok (.if_icmp .ne 94, 3) := by decide +kernel
theorem dX13_item_168 : decode cX13_item 168 = .ok (.aload_n 0, 1) := by decide +kernel
theorem dX13_item_169 : decode cX13_item 169 = .ok (.aload_n 0, 1) := by decide +kernel
theorem dX13_item_17 : decode cX13_item 17 = .ok (.iload_n 1, 1) := by decide +kernel
theorem dX13_item_170 : decode cX13_item 170 = .ok (.getfield 627, 3) := by decide +kernel
theorem dX13_item_173 : decode cX13_item 173 = .ok (.bipush 60, 2) := by decide +kernel
theorem dX13_item_175 : decode cX13_item 175 = .ok (.invokevirtual 684, 3) := by decide +kernel
theorem dX13_item_178 : decode cX13_item 178 = .ok (.istore_n 3, 1) := by decide +kernel
theorem dX13_item_179 : decode cX13_item 179 = .ok (.aload_n 0, 1) := by decide +kernel
theorem dX13_item_18 : decode cX13_item 18 = .ok (.i2l, 1) := by decide +kernel
theorem dX13_item_180 : decode cX13_item 180 = .ok (.getfield 627, 3) := by decide +kernel
theorem dX13_item_183 : decode cX13_item 183 = .ok (.istore 4, 2) := by decide +kernel
theorem dX13_item_185 : decode cX13_item 185 = .ok (.aload_n 0, 1) := by decide +kernel
theorem dX13_item_186 : decode cX13_item 186 = .ok (.getfield 375, 3) := by decide +kernel
theorem dX13_item_189 : decode cX13_item 189 = .ok (.ifCond .ne 29, 3) := by decide +kernel
theorem dX13_item_19 : decode cX13_item 19 = .ok (.lconst 0, 1) := by decide +kernel
theorem dX13_item_192 : decode cX13_item 192 = .ok (.aload_n 0, 1) := by decide +kernel
theorem dX13_item_193 : decode cX13_item 193 = .ok (.getfield 63, 3) := by decide +kernel
theorem dX13_item_196 : decode cX13_item 196 = .ok (.iload 4, 2) := by decide +kernel
theorem dX13_item_198 : decode cX13_item 198 = .ok (.iload_n 3, 1) := by decide +kernel
theorem dX13_item_199 : decode cX13_item 199 = .ok (.iastore, 1) := by decide +kernel
theorem dX13_item_20 : decode cX13_item 20 = .ok (.ldc2_w 682, 3) := by decide +kernel
theorem dX13_item_200 : decode cX13_item 200 = .ok (.aload_n 0, 1) := by decide +kernel
theorem dX13_item_201 : decode cX13_item 201 = .ok (.getfield 69, 3) := by decide +kernel
theorem dX13_item_204 : decode cX13_item 204 = .ok (.iload 4, 2) := by decide +kernel
theorem dX13_item_206 : decode cX13_item 206 = .ok (.iload_n 2, 1) := by decide +kernel
theorem dX13_item_207 : decode cX13_item 207 = .ok (.iastore, 1) := by decide +kernel
theorem dX13_item_208 : decode cX13_item 208 = .ok (.aload_n 0, 1) := by decide +kernel
theorem dX13_item_209 : decode cX13_item 209 = .ok (.dup, 1) := by decide +kernel
theorem dX13_item_210 : decode cX13_item 210 = .ok (.getfield 627, 3) := by decide +kernel
theorem dX13_item_213 : decode cX13_item 213 = .ok (.iconst 1, 1) := by decide +kernel
theorem dX13_item_214 : decode cX13_item 214 = .ok (.iadd, 1) := by decide +kernel
theorem dX13_item_215 : decode cX13_item 215 = .ok (.putfield 627, 3) := by decide +kernel
theorem dX13_item_218 : decode cX13_item 218 = .ok (.aload_n 0, 1) := by decide +kernel
theorem dX13_item_219 : decode cX13_item 219 = .ok (.invokevirtual 452, 3) := by decide +kernel
theorem dX13_item_222 : decode cX13_item 222 = .ok (.aload_n 0, 1) := by decide +kernel
theorem dX13_item_223 : decode cX13_item 223 = .ok (.bipush 61, 2) := by decide +kernel
theorem dX13_item_225 : decode cX13_item 225 = .ok (.invokevirtual 528, 3) := by decide +kernel
theorem dX13_item_228 : decode cX13_item 228 = .ok (.aload_n 0, 1) := by decide +kernel
theorem dX13_item_229 : decode cX13_item 229 = .ok (.invokestatic 574, 3) := by decide +kernel
theorem dX13_item_23 : decode cX13_item 23 = .ok (.invokestatic 371, 3) := by decide +kernel
theorem dX13_item_232 : decode cX13_item 232 = .ok (.istore 5, 2) := by decide +kernel
theorem dX13_item_234 : decode cX13_item 234 = .ok (.aload_n 0, 1) := by decide +kernel
theorem dX13_item_235 : decode cX13_item 235 = .ok (.getfield 375, 3) := by decide +kernel
theorem dX13_item_238 : decode cX13_item 238 = .ok (.ifCond .ne 12, 3) := by decide +kernel
theorem dX13_item_241 : decode cX13_item 241 = .ok (.aload_n 0, 1) := by decide +kernel
theorem dX13_item_242 : decode cX13_item 242 = .ok (.getfield 66, 3) := by decide +kernel
theorem dX13_item_245 : decode cX13_item 245 = .ok (.iload 4, 2) := by decide +kernel
theorem dX13_item_247 : decode cX13_item 247 = .ok (.iload 5, 2) := by decide +kernel
theorem dX13_item_249 : decode cX13_item 249 = .ok (.iastore, 1) := by decide +kernel
theorem dX13_item_250 : decode cX13_item 250 = .ok (.aload_n 0, 1) := by decide +kernel
theorem dX13_item_251 : decode cX13_item 251 = .ok (.bipush 59, 2) := by decide +kernel
theorem dX13_item_253 : decode cX13_item 253 = .ok (.invokevirtual 528, 3) := by decide +kernel
theorem dX13_item_256 : decode cX13_item 256 = .ok (.goto 20, 3) := by decide +kernel
theorem dX13_item_259 : decode cX13_item 259 = .ok (.iload_n 1, 1) := by decide +kernel
theorem dX13_item_26 : decode cX13_item 26 = .ok (.ifCond .ne 13, 3) := by decide +kernel
theorem dX13_item_260 : decode cX13_item 260 = .ok (.iconst 2, 1) := by decide +kernel
theorem dX13_item_261 : decode cX13_item 261 = .ok (.if_icmp .ne 10, 3) := by decide +kernel
theorem dX13_item_264 : decode cX13_item 264 = .ok (.aload_n 0, 1) := by decide +kernel
theorem dX13_item_265 : decode cX13_item 265 = .ok (.invokevirtual 688, 3) := by decide +kernel
theorem dX13_item_268 : decode cX13_item 268 = .ok (.goto 8, 3) := by decide +kernel
theorem dX13_item_271 : decode cX13_item 271 = .ok (.aload_n 0, 1) := by decide +kernel
theorem dX13_item_272 : decode cX13_item 272 = .ok (.iload_n 1, 1) := by decide +kernel
theorem dX13_item_273 : decode cX13_item 273 = .ok (.invokestatic 691, 3) := by decide +kernel
theorem dX13_item_276 : decode cX13_item 276 = .ok (.return_, 1) := by decide +kernel
theorem dX13_item_29 : decode cX13_item 29 = .ok (.aload_n 0, 1) := by decide +kernel
theorem dX13_item_30 : decode cX13_item 30 = .ok (.iconst 2, 1) := by decide +kernel
theorem dX13_item_31 : decode cX13_item 31 = .ok (.aload_n 0, 1) := by decide +kernel
theorem dX13_item_32 : decode cX13_item 32 = .ok (.getfield 391, 3) := by decide +kernel
theorem dX13_item_35 : decode cX13_item 35 = .ok (.invokevirtual 411, 3) := by decide +kernel
theorem dX13_item_38 : decode cX13_item 38 = .ok (.return_, 1) := by decide +kernel
theorem dX13_item_39 : decode cX13_item 39 = .ok (.aload_n 0, 1) := by decide +kernel
theorem dX13_item_4 : decode cX13_item 4 = .ok (.iconst 1, 1) := by decide +kernel
theorem dX13_item_40 : decode cX13_item 40 = .ok (.invokevirtual 452, 3) := by decide +kernel
theorem dX13_item_43 : decode cX13_item 43 = .ok (.aload_n 0, 1) := by decide +kernel
theorem dX13_item_44 : decode cX13_item 44 = .ok (.getfield 391, 3) := by decide +kernel
theorem dX13_item_47 : decode cX13_item 47 = .ok (.istore_n 2, 1) := by decide +kernel
theorem dX13_item_48 : decode cX13_item 48 = .ok (.aload_n 0, 1) := by decide +kernel
theorem dX13_item_49 : decode cX13_item 49 = .ok (.iconst 0, 1) := by decide +kernel
theorem dX13_item_5 : decode cX13_item 5 = .ok (.if_icmp .ne 10, 3) := by decide +kernel
theorem dX13_item_50 : decode cX13_item 50 = .ok (.putfield 485, 3) := by decide +kernel
theorem dX13_item_53 : decode cX13_item 53 = .ok (.aload_n 0, 1) := by decide +kernel
theorem dX13_item_54 : decode cX13_item 54 = .ok (.iconst 0, 1) := by decide +kernel
theorem dX13_item_55 : decode cX13_item 55 = .ok (.putfield 552, 3) := by decide +kernel
theorem dX13_item_58 : decode cX13_item 58 = .ok (.aload_n 0, 1) := by decide +kernel
theorem dX13_item_59 : decode cX13_item 59 = .ok (.iconst 0, 1) := by decide +kernel
theorem dX13_item_60 : decode cX13_item 60 = .ok (.putfield 584, 3) := by decide +kernel
theorem dX13_item_63 : decode cX13_item 63 = .ok (.aload_n 0, 1) := by decide +kernel
theorem dX13_item_64 : decode cX13_item 64 = .ok (.iconst 0, 1) := by decide +kernel
theorem dX13_item_65 : decode cX13_item 65 = .ok (.putfield 621, 3) := by decide +kernel
theorem dX13_item_68 : decode cX13_item 68 = .ok (.iload_n 1, 1) := by decide +kernel
theorem dX13_item_69 : decode cX13_item 69 = .ok (.ifCond .ne 94, 3) := by decide +kernel
theorem dX13_item_72 : decode cX13_item 72 = .ok (.aload_n 0, 1) := by decide +kernel
theorem dX13_item_73 : decode cX13_item 73 = .ok (.aload_n 0, 1) := by decide +kernel
theorem dX13_item_74 : decode cX13_item 74 = .ok (.getfield 624, 3) := by decide +kernel
theorem dX13_item_77 : decode cX13_item 77 = .ok (.bipush 60, 2) := by decide +kernel
theorem dX13_item_79 : decode cX13_item 79 = .ok (.invokevirtual 684, 3) := by decide +kernel
theorem dX13_item_8 : decode cX13_item 8 = .ok (.aload_n 0, 1) := by decide +kernel
theorem dX13_item_82 : decode cX13_item 82 = .ok (.istore_n 3, 1) := by decide +kernel
theorem dX13_item_83 : decode cX13_item 83 = .ok (.aload_n 0, 1) := by decide +kernel
theorem dX13_item_84 : decode cX13_item 84 = .ok (.getfield 624, 3) := by decide +kernel
theorem dX13_item_87 : decode cX13_item 87 = .ok (.istore 4, 2) := by decide +kernel
theorem dX13_item_89 : decode cX13_item 89 = .ok (.aload_n 0, 1) := by decide +kernel
theorem dX13_item_9 : decode cX13_item 9 = .ok (.getfield 397, 3) := by decide +kernel
theorem dX13_item_90 : decode cX13_item 90 = .ok (.getfield 375, 3) := by decide +kernel
theorem dX13_item_93 : decode cX13_item 93 = .ok (.ifCond .ne 29, 3) := by decide +kernel
theorem dX13_item_96 : decode cX13_item 96 = .ok (.aload_n 0, 1) := by decide +kernel
theorem dX13_item_97 : decode cX13_item 97 = .ok (.getfield 54, 3) := by decide +kernel
noncomputable def k_X13_item_250 (s : t_S) : Option (t_S) :=
 (f_X13_mustBe (59 : Int32) s).bind (fun r1 =>
 some (r1))
set_option maxRecDepth 4000 in
set_option maxHeartbeats 1000000 in
theorem B_X13_item_250 {D : va_G} {cy : Nat → ClassId} {ad : Nat → Nat} {bs : Nat} {X : State → Heap → Prop} (s : t_S) (Q : t_S → Prop) (hk : t_hk (k_X13_item_250 s) Q) : mj_G D cy ad bs X cX13_item 6 yX13_item.cls none yX13_item.name 414 0 0 1065 (t_P (fun v s' => v = none ∧ Q (s'))) 250 [(0, .ref 950)] [] (t_m s) 1065 0 0 := by
  refine mj_aload_n dX13_item_250 0 rfl ?_
  refine mj_bipush (v := 59) dX13_item_251 (by decide) ?_
  refine t_bndK hk (fun r1 er1 hk => ?_)
  refine t_callVvE dX13_item_253 M_X13_mustBe (C_X13_mustBe _ _ _ er1) ML_X13_528 IM_X13_mustBe SE_X13_mustBe qc_950 rfl (As := [.int 59]) rfl rfl (Nat.le_of_ble_eq_true rfl) (Nat.le_of_ble_eq_true rfl) (Nat.le_of_ble_eq_true rfl) (Nat.le_of_ble_eq_true rfl) ?_
  refine mj_goto 276 dX13_item_256 (by decide) ?_
  exact t_somK hk (fun hf => t_vret dX13_item_276 rfl ⟨rfl, hf⟩ (Nat.le_of_ble_eq_true rfl) (Nat.le_of_ble_eq_true rfl))
noncomputable def k_X13_item_218 (l4 : Int32) (s : t_S) : Option (t_S) :=
 (f_X13_next s).bind (fun r1 =>
 (f_X13_mustBe (61 : Int32) r1).bind (fun r2 =>
 (f_X13_templ r2).bind (fun r3 =>
 if (r3.2.1 950 2) = (0 : Int32) then (if t_ix l4 60 = true then
  t_let (t_setI r3.2 968 (l4.toNatClampNeg) r3.1) (fun s1 =>
 k_X13_item_250 s1)
else none)
 else (k_X13_item_250 r3.2))))
set_option maxRecDepth 4000 in
set_option maxHeartbeats 1000000 in
theorem B_X13_item_218 {D : va_G} {cy : Nat → ClassId} {ad : Nat → Nat} {bs : Nat} {X : State → Heap → Prop} (l4 : Int32) (s : t_S) (Q : t_S → Prop) (hk : t_hk (k_X13_item_218 l4 s) Q) : mj_G D cy ad bs X cX13_item 6 yX13_item.cls none yX13_item.name 414 0 0 1065 (t_P (fun v s' => v = none ∧ Q (s'))) 218 [(0, .ref 950), (4, .int l4)] [] (t_m s) 1065 0 0 := by
  refine mj_aload_n dX13_item_218 0 rfl ?_
  refine t_bndK hk (fun r1 er1 hk => ?_)
  refine t_callVvE dX13_item_219 M_X13_next (C_X13_next _ _ er1) ML_X13_452 IM_X13_next SE_X13_next qc_950 rfl (As := []) rfl rfl (Nat.le_of_ble_eq_true rfl) (Nat.le_of_ble_eq_true rfl) (Nat.le_of_ble_eq_true rfl) (Nat.le_of_ble_eq_true rfl) ?_
  refine mj_aload_n dX13_item_222 0 rfl ?_
  refine mj_bipush (v := 61) dX13_item_223 (by decide) ?_
  refine t_bndK hk (fun r2 er2 hk => ?_)
  refine t_callVvE dX13_item_225 M_X13_mustBe (C_X13_mustBe _ _ _ er2) ML_X13_528 IM_X13_mustBe SE_X13_mustBe qc_950 rfl (As := [.int 61]) rfl rfl (Nat.le_of_ble_eq_true rfl) (Nat.le_of_ble_eq_true rfl) (Nat.le_of_ble_eq_true rfl) (Nat.le_of_ble_eq_true rfl) ?_
  refine mj_aload_n dX13_item_228 0 rfl ?_
  refine t_bndK hk (fun r3 er3 hk => ?_)
  refine t_callSiE dX13_item_229 M_X13_templ (C_X13_templ _ _ er3) ML_X13_574 SM_X13_templ (As := [.ref 950]) rfl rfl (Nat.le_of_ble_eq_true rfl) (Nat.le_of_ble_eq_true rfl) (Nat.le_of_ble_eq_true rfl) (Nat.le_of_ble_eq_true rfl) ?_
  refine mj_istore (lv2 := [(5, .int r3.1), (0, .ref 950), (4, .int l4)]) dX13_item_232 (by decide) rfl ?_
  refine mj_aload_n dX13_item_234 1 rfl ?_
  refine t_getI dX13_item_235 F_X13_375 qf_950_2 ?_
  refine mj_if_ne 250 dX13_item_238 (by decide) (fun z => t_negK hk z (fun hk => ?_)) (fun z => t_posK hk z (fun hk => ?_))
  · refine mj_sublv [(0, .ref 950)] [1] rfl ?_
    exact B_X13_item_250 _ _ hk
  · refine mj_aload_n dX13_item_241 1 rfl ?_
    refine t_getR 968 dX13_item_242 F_X13_66 qr_950_42 ?_
    refine mj_iload dX13_item_245 2 rfl ?_
    refine mj_iload dX13_item_247 0 rfl ?_
    refine t_chkK hk (fun c3 hk => ?_)
    refine t_iastK dX13_item_249 qa_968 (t_ixv c3) (fun s1 ws1 => t_letE hk ws1 (fun hk => ?_))
    refine mj_sublv [(0, .ref 950)] [1] rfl ?_
    exact B_X13_item_250 _ _ hk
noncomputable def k_X13_item_154 (s : t_S) : Option (t_S) :=
 (f_X13_mustBe (59 : Int32) s).bind (fun r1 =>
 some (r1))
set_option maxRecDepth 4000 in
set_option maxHeartbeats 1000000 in
theorem B_X13_item_154 {D : va_G} {cy : Nat → ClassId} {ad : Nat → Nat} {bs : Nat} {X : State → Heap → Prop} (s : t_S) (Q : t_S → Prop) (hk : t_hk (k_X13_item_154 s) Q) : mj_G D cy ad bs X cX13_item 6 yX13_item.cls none yX13_item.name 414 0 0 1065 (t_P (fun v s' => v = none ∧ Q (s'))) 154 [(0, .ref 950)] [] (t_m s) 1065 0 0 := by
  refine mj_aload_n dX13_item_154 0 rfl ?_
  refine mj_bipush (v := 59) dX13_item_155 (by decide) ?_
  refine t_bndK hk (fun r1 er1 hk => ?_)
  refine t_callVvE dX13_item_157 M_X13_mustBe (C_X13_mustBe _ _ _ er1) ML_X13_528 IM_X13_mustBe SE_X13_mustBe qc_950 rfl (As := [.int 59]) rfl rfl (Nat.le_of_ble_eq_true rfl) (Nat.le_of_ble_eq_true rfl) (Nat.le_of_ble_eq_true rfl) (Nat.le_of_ble_eq_true rfl) ?_
  refine mj_goto 276 dX13_item_160 (by decide) ?_
  exact t_somK hk (fun hf => t_vret dX13_item_276 rfl ⟨rfl, hf⟩ (Nat.le_of_ble_eq_true rfl) (Nat.le_of_ble_eq_true rfl))
noncomputable def k_X13_item_122 (l4 : Int32) (s : t_S) : Option (t_S) :=
 (f_X13_next s).bind (fun r1 =>
 (f_X13_mustBe (61 : Int32) r1).bind (fun r2 =>
 (f_X13_type r2).bind (fun r3 =>
 if (r3.2.1 950 2) = (0 : Int32) then (if t_ix l4 60 = true then
  t_let (t_setI r3.2 965 (l4.toNatClampNeg) r3.1) (fun s1 =>
 k_X13_item_154 s1)
else none)
 else (k_X13_item_154 r3.2))))
set_option maxRecDepth 4000 in
set_option maxHeartbeats 1000000 in
theorem B_X13_item_122 {D : va_G} {cy : Nat → ClassId} {ad : Nat → Nat} {bs : Nat} {X : State → Heap → Prop} (l4 : Int32) (s : t_S) (Q : t_S → Prop) (hk : t_hk (k_X13_item_122 l4 s) Q) : mj_G D cy ad bs X cX13_item 6 yX13_item.cls none yX13_item.name 414 0 0 1065 (t_P (fun v s' => v = none ∧ Q (s'))) 122 [(0, .ref 950), (4, .int l4)] [] (t_m s) 1065 0 0 := by
  refine mj_aload_n dX13_item_122 0 rfl ?_
  refine t_bndK hk (fun r1 er1 hk => ?_)
  refine t_callVvE dX13_item_123 M_X13_next (C_X13_next _ _ er1) ML_X13_452 IM_X13_next SE_X13_next qc_950 rfl (As := []) rfl rfl (Nat.le_of_ble_eq_true rfl) (Nat.le_of_ble_eq_true rfl) (Nat.le_of_ble_eq_true rfl) (Nat.le_of_ble_eq_true rfl) ?_
  refine mj_aload_n dX13_item_126 0 rfl ?_
  refine mj_bipush (v := 61) dX13_item_127 (by decide) ?_
  refine t_bndK hk (fun r2 er2 hk => ?_)
  refine t_callVvE dX13_item_129 M_X13_mustBe (C_X13_mustBe _ _ _ er2) ML_X13_528 IM_X13_mustBe SE_X13_mustBe qc_950 rfl (As := [.int 61]) rfl rfl (Nat.le_of_ble_eq_true rfl) (Nat.le_of_ble_eq_true rfl) (Nat.le_of_ble_eq_true rfl) (Nat.le_of_ble_eq_true rfl) ?_
  refine mj_aload_n dX13_item_132 0 rfl ?_
  refine t_bndK hk (fun r3 er3 hk => ?_)
  refine t_callSiE dX13_item_133 M_X13_type (C_X13_type _ _ er3) ML_X13_503 SM_X13_type (As := [.ref 950]) rfl rfl (Nat.le_of_ble_eq_true rfl) (Nat.le_of_ble_eq_true rfl) (Nat.le_of_ble_eq_true rfl) (Nat.le_of_ble_eq_true rfl) ?_
  refine mj_istore (lv2 := [(5, .int r3.1), (0, .ref 950), (4, .int l4)]) dX13_item_136 (by decide) rfl ?_
  refine mj_aload_n dX13_item_138 1 rfl ?_
  refine t_getI dX13_item_139 F_X13_375 qf_950_2 ?_
  refine mj_if_ne 154 dX13_item_142 (by decide) (fun z => t_negK hk z (fun hk => ?_)) (fun z => t_posK hk z (fun hk => ?_))
  · refine mj_sublv [(0, .ref 950)] [1] rfl ?_
    exact B_X13_item_154 _ _ hk
  · refine mj_aload_n dX13_item_145 1 rfl ?_
    refine t_getR 965 dX13_item_146 F_X13_57 qr_950_38 ?_
    refine mj_iload dX13_item_149 2 rfl ?_
    refine mj_iload dX13_item_151 0 rfl ?_
    refine t_chkK hk (fun c3 hk => ?_)
    refine t_iastK dX13_item_153 qa_965 (t_ixv c3) (fun s1 ws1 => t_letE hk ws1 (fun hk => ?_))
    refine mj_sublv [(0, .ref 950)] [1] rfl ?_
    exact B_X13_item_154 _ _ hk
noncomputable def k_X13_item_16 (k0 : Int32) (s : t_S) : Option (t_S) :=
 if (f_X13_in k0.toInt64 (0 : Int64) (5 : Int64) s) = (0 : Int32) then ((f_X13_fail (2 : Int32) (s.1 950 6) s).bind (fun r9 =>
 some (r9)))
 else ((f_X13_next s).bind (fun r2 =>
 t_let (t_setI r2 950 31 (0 : Int32)) (fun s1 =>
 t_let (t_setI s1 950 32 (0 : Int32)) (fun s2 =>
 t_let (t_setI s2 950 33 (0 : Int32)) (fun s3 =>
 t_let (t_setI s3 950 34 (0 : Int32)) (fun s4 =>
 if k0 = (0 : Int32) then ((f_X13_outside (s4.1 950 40) (60 : Int32) s4).bind (fun r7 =>
 if (r7.2.1 950 2) = (0 : Int32) then (if t_ix (r7.2.1 950 40) 60 = true then
  t_let (t_setI r7.2 964 ((r7.2.1 950 40).toNatClampNeg) r7.1) (fun s8 =>
 t_let (t_setI s8 966 ((r7.2.1 950 40).toNatClampNeg) (r2.1 950 6)) (fun s9 =>
 t_let (t_setI s9 950 40 ((s9.1 950 40) + (1 : Int32))) (fun s10 =>
 k_X13_item_122 (r7.2.1 950 40) s10)))
else none)
 else (k_X13_item_122 (r7.2.1 950 40) r7.2)))
 else (if k0 = (1 : Int32) then ((f_X13_outside (s4.1 950 44) (60 : Int32) s4).bind (fun r5 =>
 if (r5.2.1 950 2) = (0 : Int32) then (if t_ix (r5.2.1 950 44) 60 = true then
  t_let (t_setI r5.2 967 ((r5.2.1 950 44).toNatClampNeg) r5.1) (fun s5 =>
 t_let (t_setI s5 969 ((r5.2.1 950 44).toNatClampNeg) (r2.1 950 6)) (fun s6 =>
 t_let (t_setI s6 950 44 ((s6.1 950 44) + (1 : Int32))) (fun s7 =>
 k_X13_item_218 (r5.2.1 950 44) s7)))
else none)
 else (k_X13_item_218 (r5.2.1 950 44) r5.2)))
 else (if k0 = (2 : Int32) then ((f_X13_component s4).bind (fun r4 =>
 some (r4)))
 else ((f_X13_function k0 s4).bind (fun r3 =>
 some (r3)))))))))))
set_option maxRecDepth 4000 in
set_option maxHeartbeats 1000000 in
theorem B_X13_item_16 {D : va_G} {cy : Nat → ClassId} {ad : Nat → Nat} {bs : Nat} {X : State → Heap → Prop} (k0 : Int32) (s : t_S) (Q : t_S → Prop) (hk : t_hk (k_X13_item_16 k0 s) Q) : mj_G D cy ad bs X cX13_item 6 yX13_item.cls none yX13_item.name 414 0 0 1065 (t_P (fun v s' => v = none ∧ Q (s'))) 16 [(0, .ref 950)] [.int k0] (t_m s) 1065 0 0 := by
  refine mj_istore_n 1 (lv2 := [(1, .int k0), (0, .ref 950)]) dX13_item_16 rfl (by decide) rfl ?_
  refine mj_iload_n dX13_item_17 0 rfl ?_
  refine mj_i2l (v := k0.toInt64) dX13_item_18 rfl ?_
  refine mj_lconst (v := 0) dX13_item_19 (by decide) ?_
  refine mj_ldc2 dX13_item_20 K_X13_682 ?_
  refine t_callSiP dX13_item_23 M_X13_in (C_X13_in _ _ _ _) ML_X13_371 SM_X13_in (As := [.long k0.toInt64, .long 0, .long 5]) rfl rfl (Nat.le_of_ble_eq_true rfl) (Nat.le_of_ble_eq_true rfl) (Nat.le_of_ble_eq_true rfl) (Nat.le_of_ble_eq_true rfl) ?_
  refine mj_if_ne 39 dX13_item_26 (by decide) (fun z => t_negK hk z (fun hk => ?_)) (fun z => t_posK hk z (fun hk => ?_))
  · refine mj_aload_n dX13_item_39 1 rfl ?_
    refine t_bndK hk (fun r2 er2 hk => ?_)
    refine t_callVvE dX13_item_40 M_X13_next (C_X13_next _ _ er2) ML_X13_452 IM_X13_next SE_X13_next qc_950 rfl (As := []) rfl rfl (Nat.le_of_ble_eq_true rfl) (Nat.le_of_ble_eq_true rfl) (Nat.le_of_ble_eq_true rfl) (Nat.le_of_ble_eq_true rfl) ?_
    refine mj_aload_n dX13_item_43 1 rfl ?_
    refine t_getI dX13_item_44 F_X13_391 qf_950_6 ?_
    refine mj_istore_n 2 (lv2 := [(2, .int (r2.1 950 6)), (1, .int k0), (0, .ref 950)]) dX13_item_47 rfl (by decide) rfl ?_
    refine mj_aload_n dX13_item_48 2 rfl ?_
    refine mj_iconst (v := 0) dX13_item_49 (by decide) ?_
    refine t_putIK dX13_item_50 F_X13_485 qf_950_31 rfl (fun s1 ws1 => t_letE hk ws1 (fun hk => ?_))
    refine mj_aload_n dX13_item_53 2 rfl ?_
    refine mj_iconst (v := 0) dX13_item_54 (by decide) ?_
    refine t_putIK dX13_item_55 F_X13_552 qf_950_32 rfl (fun s2 ws2 => t_letE hk ws2 (fun hk => ?_))
    refine mj_aload_n dX13_item_58 2 rfl ?_
    refine mj_iconst (v := 0) dX13_item_59 (by decide) ?_
    refine t_putIK dX13_item_60 F_X13_584 qf_950_33 rfl (fun s3 ws3 => t_letE hk ws3 (fun hk => ?_))
    refine mj_aload_n dX13_item_63 2 rfl ?_
    refine mj_iconst (v := 0) dX13_item_64 (by decide) ?_
    refine t_putIK dX13_item_65 F_X13_621 qf_950_34 rfl (fun s4 ws4 => t_letE hk ws4 (fun hk => ?_))
    refine mj_iload_n dX13_item_68 1 rfl ?_
    refine mj_if_ne 163 dX13_item_69 (by decide) (fun z => t_negK hk z (fun hk => ?_)) (fun z => t_posK hk z (fun hk => ?_))
    · refine mj_iload_n dX13_item_163 1 rfl ?_
      refine mj_iconst (v := 1) dX13_item_164 (by decide) ?_
      refine mj_icmp_ne 259 dX13_item_165 (by decide) (fun z => t_negK hk z (fun hk => ?_)) (fun z => t_posK hk z (fun hk => ?_))
      · refine mj_iload_n dX13_item_259 1 rfl ?_
        refine mj_iconst (v := 2) dX13_item_260 (by decide) ?_
        refine mj_icmp_ne 271 dX13_item_261 (by decide) (fun z => t_negK hk z (fun hk => ?_)) (fun z => t_posK hk z (fun hk => ?_))
        · refine mj_aload_n dX13_item_271 2 rfl ?_
          refine mj_iload_n dX13_item_272 1 rfl ?_
          refine t_bndK hk (fun r3 er3 hk => ?_)
          refine t_callSvE dX13_item_273 M_X13_function (C_X13_function _ _ _ er3) ML_X13_691 SM_X13_function (As := [.ref 950, .int k0]) rfl rfl (Nat.le_of_ble_eq_true rfl) (Nat.le_of_ble_eq_true rfl) (Nat.le_of_ble_eq_true rfl) (Nat.le_of_ble_eq_true rfl) ?_
          exact t_somK hk (fun hf => t_vret dX13_item_276 rfl ⟨rfl, hf⟩ (Nat.le_of_ble_eq_true rfl) (Nat.le_of_ble_eq_true rfl))
        · refine mj_aload_n dX13_item_264 2 rfl ?_
          refine t_bndK hk (fun r4 er4 hk => ?_)
          refine t_callVvE dX13_item_265 M_X13_component (C_X13_component _ _ er4) ML_X13_688 IM_X13_component SE_X13_component qc_950 rfl (As := []) rfl rfl (Nat.le_of_ble_eq_true rfl) (Nat.le_of_ble_eq_true rfl) (Nat.le_of_ble_eq_true rfl) (Nat.le_of_ble_eq_true rfl) ?_
          refine mj_goto 276 dX13_item_268 (by decide) ?_
          exact t_somK hk (fun hf => t_vret dX13_item_276 rfl ⟨rfl, hf⟩ (Nat.le_of_ble_eq_true rfl) (Nat.le_of_ble_eq_true rfl))
      · refine mj_aload_n dX13_item_168 2 rfl ?_
        refine mj_aload_n dX13_item_169 2 rfl ?_
        refine t_getI dX13_item_170 F_X13_627 qf_950_44 ?_
        refine mj_bipush (v := 60) dX13_item_173 (by decide) ?_
        refine t_bndK hk (fun r5 er5 hk => ?_)
        refine t_callViE dX13_item_175 M_X13_outside (C_X13_outside _ _ _ _ er5) ML_X13_684 IM_X13_outside SE_X13_outside qc_950 rfl (As := [.int (s4.1 950 44), .int 60]) rfl rfl (Nat.le_of_ble_eq_true rfl) (Nat.le_of_ble_eq_true rfl) (Nat.le_of_ble_eq_true rfl) (Nat.le_of_ble_eq_true rfl) ?_
        refine mj_istore_n 3 (lv2 := [(3, .int r5.1), (2, .int (r2.1 950 6)), (1, .int k0), (0, .ref 950)]) dX13_item_178 rfl (by decide) rfl ?_
        refine mj_aload_n dX13_item_179 3 rfl ?_
        refine t_getI dX13_item_180 F_X13_627 qf_950_44 ?_
        refine mj_istore (lv2 := [(4, .int (r5.2.1 950 44)), (3, .int r5.1), (2, .int (r2.1 950 6)), (1, .int k0), (0, .ref 950)]) dX13_item_183 (by decide) rfl ?_
        refine mj_aload_n dX13_item_185 4 rfl ?_
        refine t_getI dX13_item_186 F_X13_375 qf_950_2 ?_
        refine mj_if_ne 218 dX13_item_189 (by decide) (fun z => t_negK hk z (fun hk => ?_)) (fun z => t_posK hk z (fun hk => ?_))
        · refine mj_sublv [(0, .ref 950), (4, .int (r5.2.1 950 44))] [4, 0] rfl ?_
          exact B_X13_item_218 _ _ _ hk
        · refine mj_aload_n dX13_item_192 4 rfl ?_
          refine t_getR 967 dX13_item_193 F_X13_63 qr_950_41 ?_
          refine mj_iload dX13_item_196 0 rfl ?_
          refine mj_iload_n dX13_item_198 1 rfl ?_
          refine t_chkK hk (fun c5 hk => ?_)
          refine t_iastK dX13_item_199 qa_967 (t_ixv c5) (fun s5 ws5 => t_letE hk ws5 (fun hk => ?_))
          refine mj_aload_n dX13_item_200 4 rfl ?_
          refine t_getR 969 dX13_item_201 F_X13_69 qr_950_43 ?_
          refine mj_iload dX13_item_204 0 rfl ?_
          refine mj_iload_n dX13_item_206 2 rfl ?_
          refine t_iastK dX13_item_207 qa_969 (t_ixv c5) (fun s6 ws6 => t_letE hk ws6 (fun hk => ?_))
          refine mj_aload_n dX13_item_208 4 rfl ?_
          refine mj_dup dX13_item_209 rfl ?_
          refine t_getI dX13_item_210 F_X13_627 qf_950_44 ?_
          refine mj_iconst (v := 1) dX13_item_213 (by decide) ?_
          refine mj_iadd dX13_item_214 ?_
          refine t_putIK dX13_item_215 F_X13_627 qf_950_44 rfl (fun s7 ws7 => t_letE hk ws7 (fun hk => ?_))
          refine mj_sublv [(0, .ref 950), (4, .int (r5.2.1 950 44))] [4, 0] rfl ?_
          exact B_X13_item_218 _ _ _ hk
    · refine mj_aload_n dX13_item_72 2 rfl ?_
      refine mj_aload_n dX13_item_73 2 rfl ?_
      refine t_getI dX13_item_74 F_X13_624 qf_950_40 ?_
      refine mj_bipush (v := 60) dX13_item_77 (by decide) ?_
      refine t_bndK hk (fun r7 er7 hk => ?_)
      refine t_callViE dX13_item_79 M_X13_outside (C_X13_outside _ _ _ _ er7) ML_X13_684 IM_X13_outside SE_X13_outside qc_950 rfl (As := [.int (s4.1 950 40), .int 60]) rfl rfl (Nat.le_of_ble_eq_true rfl) (Nat.le_of_ble_eq_true rfl) (Nat.le_of_ble_eq_true rfl) (Nat.le_of_ble_eq_true rfl) ?_
      refine mj_istore_n 3 (lv2 := [(3, .int r7.1), (2, .int (r2.1 950 6)), (1, .int k0), (0, .ref 950)]) dX13_item_82 rfl (by decide) rfl ?_
      refine mj_aload_n dX13_item_83 3 rfl ?_
      refine t_getI dX13_item_84 F_X13_624 qf_950_40 ?_
      refine mj_istore (lv2 := [(4, .int (r7.2.1 950 40)), (3, .int r7.1), (2, .int (r2.1 950 6)), (1, .int k0), (0, .ref 950)]) dX13_item_87 (by decide) rfl ?_
      refine mj_aload_n dX13_item_89 4 rfl ?_
      refine t_getI dX13_item_90 F_X13_375 qf_950_2 ?_
      refine mj_if_ne 122 dX13_item_93 (by decide) (fun z => t_negK hk z (fun hk => ?_)) (fun z => t_posK hk z (fun hk => ?_))
      · refine mj_sublv [(0, .ref 950), (4, .int (r7.2.1 950 40))] [4, 0] rfl ?_
        exact B_X13_item_122 _ _ _ hk
      · refine mj_aload_n dX13_item_96 4 rfl ?_
        refine t_getR 964 dX13_item_97 F_X13_54 qr_950_37 ?_
        refine mj_iload dX13_item_100 0 rfl ?_
        refine mj_iload_n dX13_item_102 1 rfl ?_
        refine t_chkK hk (fun c7 hk => ?_)
        refine t_iastK dX13_item_103 qa_964 (t_ixv c7) (fun s8 ws8 => t_letE hk ws8 (fun hk => ?_))
        refine mj_aload_n dX13_item_104 4 rfl ?_
        refine t_getR 966 dX13_item_105 F_X13_60 qr_950_39 ?_
        refine mj_iload dX13_item_108 0 rfl ?_
        refine mj_iload_n dX13_item_110 2 rfl ?_
        refine t_iastK dX13_item_111 qa_966 (t_ixv c7) (fun s9 ws9 => t_letE hk ws9 (fun hk => ?_))
        refine mj_aload_n dX13_item_112 4 rfl ?_
        refine mj_dup dX13_item_113 rfl ?_
        refine t_getI dX13_item_114 F_X13_624 qf_950_40 ?_
        refine mj_iconst (v := 1) dX13_item_117 (by decide) ?_
        refine mj_iadd dX13_item_118 ?_
        refine t_putIK dX13_item_119 F_X13_624 qf_950_40 rfl (fun s10 ws10 => t_letE hk ws10 (fun hk => ?_))
        refine mj_sublv [(0, .ref 950), (4, .int (r7.2.1 950 40))] [4, 0] rfl ?_
        exact B_X13_item_122 _ _ _ hk
  · refine mj_aload_n dX13_item_29 1 rfl ?_
    refine mj_iconst (v := 2) dX13_item_30 (by decide) ?_
    refine mj_aload_n dX13_item_31 1 rfl ?_
    refine t_getI dX13_item_32 F_X13_391 qf_950_6 ?_
    refine t_bndK hk (fun r9 er9 hk => ?_)
    refine t_callVvE dX13_item_35 M_X13_fail (C_X13_fail _ _ _ _ er9) ML_X13_411 IM_X13_fail SE_X13_fail qc_950 rfl (As := [.int 2, .int (s.1 950 6)]) rfl rfl (Nat.le_of_ble_eq_true rfl) (Nat.le_of_ble_eq_true rfl) (Nat.le_of_ble_eq_true rfl) (Nat.le_of_ble_eq_true rfl) ?_
    exact t_somK hk (fun hf => t_vret dX13_item_38 rfl ⟨rfl, hf⟩ (Nat.le_of_ble_eq_true rfl) (Nat.le_of_ble_eq_true rfl))
noncomputable def f_X13_item (s : t_S) : Option (t_S) :=
 if (s.1 950 5) = (1 : Int32) then (k_X13_item_16 (s.1 950 10) s)
 else (k_X13_item_16 (-1) s)
set_option maxRecDepth 4000 in
set_option maxHeartbeats 1000000 in
theorem C_X13_item (s : t_S) (r : t_S) (hr : f_X13_item s = some r) : t_C yX13_item cX13_item 6 none 414 [.ref 950] s (fun v s' => v = none ∧ s' = r) := by
  refine t_C.imp (P := fun v s' => v = none ∧ (fun q => q = r) (s')) (t_C.of (by decide +kernel) (Nat.le_of_ble_eq_true rfl) ?_) (fun v s' hp => hp)
  intro D cy ad bs X
  have hk : t_hk (f_X13_item s) (fun q => q = r) := ⟨r, hr, rfl⟩
  show mj_G D cy ad bs X cX13_item 6 yX13_item.cls none yX13_item.name 414 0 0 1065 (t_P (fun v s' => v = none ∧ (fun q => q = r) (s'))) 0 [(0, .ref 950)] [] (t_m s) 1065 0 0
  refine mj_aload_n dX13_item_0 0 rfl ?_
  refine t_getI dX13_item_1 F_X13_385 qf_950_5 ?_
  refine mj_iconst (v := 1) dX13_item_4 (by decide) ?_
  refine mj_icmp_ne 15 dX13_item_5 (by decide) (fun z => t_negK hk z (fun hk => ?_)) (fun z => t_posK hk z (fun hk => ?_))
  · refine mj_iconst (v := (-1)) dX13_item_15 (by decide) ?_
    exact B_X13_item_16 _ _ _ hk
  · refine mj_aload_n dX13_item_8 0 rfl ?_
    refine t_getI dX13_item_9 F_X13_397 qf_950_10 ?_
    refine mj_goto 16 dX13_item_12 (by decide) ?_
    exact B_X13_item_16 _ _ _ hk

