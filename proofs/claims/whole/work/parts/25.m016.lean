/-! Methods as functions, 16: X7_workVars, X7_open, X12_begin, X12_bit, X1_put, X12_bits, X12_clock, X12_count, X12_isType, X1_fieldAt, X1_putCell -/
theorem qa_437 : t_oka 437 1 40 = true := by decide +kernel
theorem qa_438 : t_oka 438 1 40 = true := by decide +kernel
theorem qa_858 : t_oka 858 0 8000 = true := by decide +kernel
theorem qa_859 : t_oka 859 2 240 = true := by decide +kernel
theorem qa_861 : t_oka 861 1 240 = true := by decide +kernel
theorem qa_862 : t_oka 862 1 240 = true := by decide +kernel
theorem qa_863 : t_oka 863 1 240 = true := by decide +kernel
theorem qc_856 : t_okc 856 1 = true := by decide +kernel
theorem qf_0_10 : t_okf 0 12 10 0 = true := by decide +kernel
theorem qf_0_11 : t_okf 0 12 11 0 = true := by decide +kernel
theorem qf_0_12 : t_okf 0 12 12 0 = true := by decide +kernel
theorem qf_1_1 : t_okf 1 2 1 0 = true := by decide +kernel
theorem qf_428_0 : t_okf 428 5 0 0 = true := by decide +kernel
theorem qf_428_18 : t_okf 428 5 18 0 = true := by decide +kernel
theorem qf_428_9 : t_okf 428 5 9 0 = true := by decide +kernel
theorem qf_845_11 : t_okf 845 6 11 0 = true := by decide +kernel
theorem qf_856_10 : t_okf 856 1 10 0 = true := by decide +kernel
theorem qf_856_15 : t_okf 856 1 15 0 = true := by decide +kernel
theorem qf_856_5 : t_okf 856 1 5 0 = true := by decide +kernel
theorem qf_856_7 : t_okf 856 1 7 0 = true := by decide +kernel
theorem qr_0_0 : t_okr 0 12 0 1 = true := by decide +kernel
theorem qr_0_2 : t_okr 0 12 2 316 = true := by decide +kernel
theorem qr_0_4 : t_okr 0 12 4 353 = true := by decide +kernel
theorem qr_0_5 : t_okr 0 12 5 428 = true := by decide +kernel
theorem qr_0_6 : t_okr 0 12 6 845 = true := by decide +kernel
theorem qr_0_7 : t_okr 0 12 7 856 = true := by decide +kernel
theorem qr_428_10 : t_okr 428 5 10 437 = true := by decide +kernel
theorem qr_428_11 : t_okr 428 5 11 438 = true := by decide +kernel
theorem qr_856_1 : t_okr 856 1 1 316 = true := by decide +kernel
theorem qr_856_12 : t_okr 856 1 12 861 = true := by decide +kernel
theorem qr_856_13 : t_okr 856 1 13 862 = true := by decide +kernel
theorem qr_856_14 : t_okr 856 1 14 863 = true := by decide +kernel
theorem qr_856_4 : t_okr 856 1 4 858 = true := by decide +kernel
theorem qr_856_6 : t_okr 856 1 6 859 = true := by decide +kernel
theorem dX7_workVars_0 : decode cX7_workVars 0 = .ok (.aload_n 0, 1) := by decide +kernel
theorem dX7_workVars_1 : decode cX7_workVars 1 = .ok (.getfield 15, 3) := by decide +kernel
theorem dX7_workVars_100 : decode cX7_workVars 100 = .ok (.getfield 19, 3) := by decide +kernel
theorem dX7_workVars_103 : decode cX7_workVars 103 = .ok (.aload_n 0, 1) := by decide +kernel
theorem dX7_workVars_104 : decode cX7_workVars 104 = .ok (.getfield 23, 3) := by decide +kernel
theorem dX7_workVars_107 : decode cX7_workVars 107 = .ok (.getfield 130, 3) := by decide +kernel
theorem dX7_workVars_11 : decode cX7_workVars 11 = .ok (.invokevirtual 103, 3) := by decide +kernel
theorem dX7_workVars_110 : decode cX7_workVars 110 = .ok (.aload_n 0, 1) := by decide +kernel
theorem dX7_workVars_111 : decode cX7_workVars 111 = .ok (.getfield 23, 3) := by decide +kernel
theorem dX7_workVars_114 : decode cX7_workVars 114 = .ok (.invokevirtual 134, 3) := by decide +kernel
theorem dX7_workVars_117 : decode cX7_workVars 117 = .ok (.aload_n 0, 1) := by decide +kernel
theorem dX7_workVars_118 : decode cX7_workVars 118 = .ok (.getfield 19, 3) := by decide +kernel
theorem dX7_workVars_121 : decode cX7_workVars 121 = .ok (.getfield 138, 3) := by decide +kernel
theorem dX7_workVars_124 : decode cX7_workVars 124 = .ok (.iload 4, 2) := by decide +kernel
theorem dX7_workVars_126 : decode cX7_workVars 126 = .ok (.iaload, 1) := by decide +kernel
theorem dX7_workVars_127 : decode cX7_workVars 127 = .ok (.invokevirtual 143, 3) := by decide +kernel
theorem dX7_workVars_130 : decode cX7_workVars 130 = .ok (.ifCond .ne 5, 3) := by decide +kernel
theorem dX7_workVars_133 : decode cX7_workVars 133 = .ok (.iconst 4, 1) := by decide +kernel
theorem dX7_workVars_134 : decode cX7_workVars 134 = .ok (.ireturn, 1) := by decide +kernel
theorem dX7_workVars_135 : decode cX7_workVars 135 = .ok (.aload_n 0, 1) := by decide +kernel
theorem dX7_workVars_136 : decode cX7_workVars 136 = .ok (.getfield 15, 3) := by decide +kernel
theorem dX7_workVars_139 : decode cX7_workVars 139 = .ok (.aload_n 1, 1) := by decide +kernel
theorem dX7_workVars_14 : decode cX7_workVars 14 = .ok (.aload_n 0, 1) := by decide +kernel
theorem dX7_workVars_140 : decode cX7_workVars 140 = .ok (.iload_n 2, 1) := by decide +kernel
theorem dX7_workVars_141 : decode cX7_workVars 141 = .ok (.invokevirtual 99, 3) := by decide +kernel
theorem dX7_workVars_144 : decode cX7_workVars 144 = .ok (.aload_n 0, 1) := by decide +kernel
theorem dX7_workVars_145 : decode cX7_workVars 145 = .ok (.getfield 23, 3) := by decide +kernel
theorem dX7_workVars_148 : decode cX7_workVars 148 = .ok (.getfield 130, 3) := by decide +kernel
theorem dX7_workVars_15 : decode cX7_workVars 15 = .ok (.aload_n 1, 1) := by decide +kernel
theorem dX7_workVars_151 : decode cX7_workVars 151 = .ok (.aload_n 0, 1) := by decide +kernel
theorem dX7_workVars_152 : decode cX7_workVars 152 = .ok (.getfield 23, 3) := by decide +kernel
theorem dX7_workVars_155 : decode cX7_workVars 155 = .ok (.invokevirtual 134, 3) := by decide +kernel
theorem dX7_workVars_158 : decode cX7_workVars 158 = .ok (.invokevirtual 147, 3) := by decide +kernel
theorem dX7_workVars_16 : decode cX7_workVars 16 = .ok (.invokevirtual 107, 3) := by decide +kernel
theorem dX7_workVars_161 : decode cX7_workVars 161 = .ok (.iinc 2 1, 3) := by decide +kernel
theorem dX7_workVars_164 : decode cX7_workVars 164 = .ok (.goto (-143), 3) := by decide +kernel
theorem dX7_workVars_167 : decode cX7_workVars 167 = .ok (.iconst 0, 1) := by decide +kernel
theorem dX7_workVars_168 : decode cX7_workVars 168 = .ok (.ireturn, 1) := by decide +kernel
theorem dX7_workVars_19 : decode cX7_workVars 19 = .ok (.iconst 0, 1) := by decide +kernel
theorem dX7_workVars_20 : decode cX7_workVars 20 = .ok (.istore_n 2, 1) := by decide +kernel
theorem dX7_workVars_21 : decode cX7_workVars 21 = .ok (.iload_n 2, 1) := by decide +kernel
theorem dX7_workVars_22 : decode cX7_workVars 22 = .ok (.aload_n 0, 1) := by decide +kernel
theorem dX7_workVars_23 : decode cX7_workVars 23 = .ok (.getfield 31, 3) := by decide +kernel
theorem dX7_workVars_26 : decode cX7_workVars 26 = .ok (.getfield 110, 3) := by decide +kernel
theorem dX7_workVars_29 : decode cX7_workVars 29 = .ok (.aload_n 1, 1) := by decide +kernel
theorem dX7_workVars_30 : decode cX7_workVars 30 = .ok (.getfield 113, 3) := by decide +kernel
theorem dX7_workVars_33 : decode cX7_workVars 33 = .ok (.iaload, 1) := by decide +kernel
theorem dX7_workVars_34 : decode cX7_workVars 34 = .ok (.if_icmp .ge 133, 3) := by decide +kernel
theorem dX7_workVars_37 : decode cX7_workVars 37 = .ok (.aload_n 0, 1) := by decide +kernel
theorem dX7_workVars_38 : decode cX7_workVars 38 = .ok (.getfield 23, 3) := by decide +kernel
theorem dX7_workVars_4 : decode cX7_workVars 4 = .ok (.aload_n 1, 1) := by decide +kernel
theorem dX7_workVars_41 : decode cX7_workVars 41 = .ok (.invokevirtual 116, 3) := by decide +kernel
theorem dX7_workVars_44 : decode cX7_workVars 44 = .ok (.aload_n 0, 1) := by decide +kernel
theorem dX7_workVars_45 : decode cX7_workVars 45 = .ok (.getfield 23, 3) := by decide +kernel
theorem dX7_workVars_48 : decode cX7_workVars 48 = .ok (.aload_n 0, 1) := by decide +kernel
theorem dX7_workVars_49 : decode cX7_workVars 49 = .ok (.getfield 31, 3) := by decide +kernel
theorem dX7_workVars_5 : decode cX7_workVars 5 = .ok (.iconst 0, 1) := by decide +kernel
theorem dX7_workVars_52 : decode cX7_workVars 52 = .ok (.getfield 121, 3) := by decide +kernel
theorem dX7_workVars_55 : decode cX7_workVars 55 = .ok (.aload_n 1, 1) := by decide +kernel
theorem dX7_workVars_56 : decode cX7_workVars 56 = .ok (.getfield 113, 3) := by decide +kernel
theorem dX7_workVars_59 : decode cX7_workVars 59 = .ok (.bipush 8, 2) := by decide +kernel
theorem dX7_workVars_6 : decode cX7_workVars 6 = .ok (.invokevirtual 99, 3) := by decide +kernel
theorem dX7_workVars_61 : decode cX7_workVars 61 = .ok (.imul, 1) := by decide +kernel
theorem dX7_workVars_62 : decode cX7_workVars 62 = .ok (.iload_n 2, 1) := by decide +kernel
theorem dX7_workVars_63 : decode cX7_workVars 63 = .ok (.iadd, 1) := by decide +kernel
theorem dX7_workVars_64 : decode cX7_workVars 64 = .ok (.iaload, 1) := by decide +kernel
theorem dX7_workVars_65 : decode cX7_workVars 65 = .ok (.invokevirtual 124, 3) := by decide +kernel
theorem dX7_workVars_68 : decode cX7_workVars 68 = .ok (.istore_n 3, 1) := by decide +kernel
theorem dX7_workVars_69 : decode cX7_workVars 69 = .ok (.iload_n 3, 1) := by decide +kernel
theorem dX7_workVars_70 : decode cX7_workVars 70 = .ok (.ifCond .eq 5, 3) := by decide +kernel
theorem dX7_workVars_73 : decode cX7_workVars 73 = .ok (.iload_n 3, 1) := by decide +kernel
theorem dX7_workVars_74 : decode cX7_workVars 74 = .ok (.ireturn, 1) := by decide +kernel
theorem dX7_workVars_75 : decode cX7_workVars 75 = .ok (.aload_n 0, 1) := by decide +kernel
theorem dX7_workVars_76 : decode cX7_workVars 76 = .ok (.getfield 31, 3) := by decide +kernel
theorem dX7_workVars_79 : decode cX7_workVars 79 = .ok (.getfield 127, 3) := by decide +kernel
theorem dX7_workVars_82 : decode cX7_workVars 82 = .ok (.aload_n 1, 1) := by decide +kernel
theorem dX7_workVars_83 : decode cX7_workVars 83 = .ok (.getfield 113, 3) := by decide +kernel
theorem dX7_workVars_86 : decode cX7_workVars 86 = .ok (.bipush 8, 2) := by decide +kernel
theorem dX7_workVars_88 : decode cX7_workVars 88 = .ok (.imul, 1) := by decide +kernel
theorem dX7_workVars_89 : decode cX7_workVars 89 = .ok (.iload_n 2, 1) := by decide +kernel
theorem dX7_workVars_9 : decode cX7_workVars 9 = .ok (.bipush 72, 2) := by decide +kernel
theorem dX7_workVars_90 : decode cX7_workVars 90 = .ok (.iadd, 1) := by decide +kernel
theorem dX7_workVars_91 : decode cX7_workVars 91 = .ok (.iaload, 1) := by decide +kernel
theorem dX7_workVars_92 : decode cX7_workVars 92 = .ok (.istore 4, 2) := by decide +kernel
theorem dX7_workVars_94 : decode cX7_workVars 94 = .ok (.iload 4, 2) := by decide +kernel
theorem dX7_workVars_96 : decode cX7_workVars 96 = .ok (.ifCond .lt 39, 3) := by decide +kernel
theorem dX7_workVars_99 : decode cX7_workVars 99 = .ok (.aload_n 0, 1) := by decide +kernel
noncomputable def k_X7_workVars_135 (l1 : Nat) (l2 : Int32) (s : t_S) : Option ((Nat × Int32 × t_S) ⊕ (Int32 × t_S)) :=
 if t_isP l1 = true then
  (f_X4_varSlot l1 l2 s).bind (fun r2 =>
 (f_X0_topAt s).bind (fun r3 =>
 (f_X8_put r2 338 r3 s).bind (fun r4 =>
 some (.inl (l1, (l2 + 1), r4)))))
else none
set_option maxRecDepth 4000 in
set_option maxHeartbeats 1000000 in
theorem B_X7_workVars_135 {D : va_G} {cy : Nat → ClassId} {ad : Nat → Nat} {bs : Nat} {X : State → Heap → Prop} (l1 : Nat) (l2 : Int32) (s : t_S) (Q : (Nat × Int32 × t_S) ⊕ (Int32 × t_S) → Prop) (Hb21 : ∀ (y0 : Nat) (y1 : Int32) (y2 : t_S), Q (.inl (y0, y1, y2)) → mj_G D cy ad bs X cX7_workVars 5 yX7_workVars.cls (some .int) yX7_workVars.name 406 0 0 1065 (t_P (fun v s' => ∃ x, v = some (.int x) ∧ Q (.inr ((x, s'))))) 21 [(0, .ref 864), (1, .ref (y0)), (2, .int (y1))] [] (t_m y2) 1065 0 0) (hk : t_hk (k_X7_workVars_135 l1 l2 s) Q) : mj_G D cy ad bs X cX7_workVars 5 yX7_workVars.cls (some .int) yX7_workVars.name 406 0 0 1065 (t_P (fun v s' => ∃ x, v = some (.int x) ∧ Q (.inr ((x, s'))))) 135 [(0, .ref 864), (1, .ref l1), (2, .int l2)] [] (t_m s) 1065 0 0 := by
  refine mj_aload_n dX7_workVars_135 0 rfl ?_
  refine t_getR 12 dX7_workVars_136 F_X7_15 qr_864_0 ?_
  refine mj_aload_n dX7_workVars_139 1 rfl ?_
  refine mj_iload_n dX7_workVars_140 2 rfl ?_
  refine t_chkK hk (fun c0 hk => ?_)
  refine t_bndK hk (fun r2 er2 hk => ?_)
  refine t_callViP dX7_workVars_141 M_X4_varSlot (C_X4_varSlot _ _ _ _ er2) ML_X7_99 IM_X4_varSlot SE_X4_varSlot (t_pc c0) rfl (As := [.int l2]) rfl rfl (Nat.le_of_ble_eq_true rfl) (Nat.le_of_ble_eq_true rfl) (Nat.le_of_ble_eq_true rfl) (Nat.le_of_ble_eq_true rfl) ?_
  refine mj_aload_n dX7_workVars_144 0 rfl ?_
  refine t_getR 334 dX7_workVars_145 F_X7_23 qr_864_2 ?_
  refine t_getR 338 dX7_workVars_148 F_X7_130 qr_334_5 ?_
  refine mj_aload_n dX7_workVars_151 0 rfl ?_
  refine t_getR 334 dX7_workVars_152 F_X7_23 qr_864_2 ?_
  refine t_bndK hk (fun r3 er3 hk => ?_)
  refine t_callViP dX7_workVars_155 M_X0_topAt (C_X0_topAt _ _ er3) ML_X7_134 IM_X0_topAt SE_X0_topAt qc_334 rfl (As := []) rfl rfl (Nat.le_of_ble_eq_true rfl) (Nat.le_of_ble_eq_true rfl) (Nat.le_of_ble_eq_true rfl) (Nat.le_of_ble_eq_true rfl) ?_
  refine t_bndK hk (fun r4 er4 hk => ?_)
  refine t_callVvE dX7_workVars_158 M_X8_put (C_X8_put _ _ _ _ _ er4) ML_X7_147 IM_X8_put SE_X8_put qc_12 rfl (As := [.int r2, .ref 338, .int r3]) rfl rfl (Nat.le_of_ble_eq_true rfl) (Nat.le_of_ble_eq_true rfl) (Nat.le_of_ble_eq_true rfl) (Nat.le_of_ble_eq_true rfl) ?_
  refine mj_iinc (k := 2) (v := (l2 + 1)) (lv2 := [(2, .int (l2 + 1)), (0, .ref 864), (1, .ref l1)]) dX7_workVars_161 rfl rfl (by decide) rfl ?_
  refine mj_goto 21 dX7_workVars_164 (by decide) ?_
  refine mj_sublv [(0, .ref 864), (1, .ref l1), (2, .int (l2 + 1))] [1, 2, 0] rfl ?_
  exact t_somK hk (fun hf => Hb21 l1 (l2 + 1) r4 hf)
noncomputable def k_X7_workVars_21 (l1 : Nat) (l2 : Int32) (s : t_S) : Option ((Nat × Int32 × t_S) ⊕ (Int32 × t_S)) :=
 if t_isP l1 = true then
  if t_ix (s.1 l1 1) 8 = true then
  if (s.1 433 ((s.1 l1 1).toNatClampNeg)) ≤ l2 then ((some ((0 : Int32), s)).map Sum.inr)
 else ((f_X0_clear s).bind (fun r3 =>
 if t_ix (((r3.1 l1 1) * (8 : Int32)) + l2) 64 = true then
  (f_X0_work (r3.1 436 ((((r3.1 l1 1) * (8 : Int32)) + l2).toNatClampNeg)) r3).bind (fun r5 =>
 if r5.1 = (0 : Int32) then (if t_ix (((r5.2.1 l1 1) * (8 : Int32)) + l2) 64 = true then
  if (r5.2.1 435 ((((r5.2.1 l1 1) * (8 : Int32)) + l2).toNatClampNeg)) < (0 : Int32) then (k_X7_workVars_135 l1 l2 r5.2)
 else ((f_X0_topAt r5.2).bind (fun r7 =>
 if t_ix (r5.2.1 435 ((((r5.2.1 l1 1) * (8 : Int32)) + l2).toNatClampNeg)) 60 = true then
  (f_X11_holds 338 r7 (r5.2.1 326 ((r5.2.1 435 ((((r5.2.1 l1 1) * (8 : Int32)) + l2).toNatClampNeg)).toNatClampNeg)) r5.2).bind (fun r9 =>
 if r9.1 = (0 : Int32) then ((some ((4 : Int32), r9.2)).map Sum.inr)
 else (k_X7_workVars_135 l1 l2 r9.2))
else none))
else none)
 else ((some (r5.1, r5.2)).map Sum.inr))
else none))
else none
else none
set_option maxRecDepth 4000 in
set_option maxHeartbeats 1000000 in
theorem B_X7_workVars_21 {D : va_G} {cy : Nat → ClassId} {ad : Nat → Nat} {bs : Nat} {X : State → Heap → Prop} (l1 : Nat) (l2 : Int32) (s : t_S) (Q : (Nat × Int32 × t_S) ⊕ (Int32 × t_S) → Prop) (Hb21 : ∀ (y0 : Nat) (y1 : Int32) (y2 : t_S), Q (.inl (y0, y1, y2)) → mj_G D cy ad bs X cX7_workVars 5 yX7_workVars.cls (some .int) yX7_workVars.name 406 0 0 1065 (t_P (fun v s' => ∃ x, v = some (.int x) ∧ Q (.inr ((x, s'))))) 21 [(0, .ref 864), (1, .ref (y0)), (2, .int (y1))] [] (t_m y2) 1065 0 0) (hk : t_hk (k_X7_workVars_21 l1 l2 s) Q) : mj_G D cy ad bs X cX7_workVars 5 yX7_workVars.cls (some .int) yX7_workVars.name 406 0 0 1065 (t_P (fun v s' => ∃ x, v = some (.int x) ∧ Q (.inr ((x, s'))))) 21 [(0, .ref 864), (1, .ref l1), (2, .int l2)] [] (t_m s) 1065 0 0 := by
  refine mj_iload_n dX7_workVars_21 2 rfl ?_
  refine mj_aload_n dX7_workVars_22 0 rfl ?_
  refine t_getR 428 dX7_workVars_23 F_X7_31 qr_864_4 ?_
  refine t_getR 433 dX7_workVars_26 F_X7_110 qr_428_5 ?_
  refine mj_aload_n dX7_workVars_29 1 rfl ?_
  refine t_chkK hk (fun c0 hk => ?_)
  refine t_getI dX7_workVars_30 F_X7_113 (t_pf1 c0) ?_
  refine t_chkK hk (fun c1 hk => ?_)
  refine t_iald dX7_workVars_33 qa_433 (t_ixv c1) ?_
  refine mj_icmp_ge 167 dX7_workVars_34 (by decide) (fun z => t_posK hk z (fun hk => ?_)) (fun z => t_negK hk z (fun hk => ?_))
  · refine t_mapK hk (fun hk => ?_)
    refine mj_iconst (v := 0) dX7_workVars_167 (by decide) ?_
    exact t_somK hk (fun hf => t_iret dX7_workVars_168 rfl rfl ⟨_, rfl, hf⟩ (Nat.le_of_ble_eq_true rfl) (Nat.le_of_ble_eq_true rfl))
  · refine mj_aload_n dX7_workVars_37 0 rfl ?_
    refine t_getR 334 dX7_workVars_38 F_X7_23 qr_864_2 ?_
    refine t_bndK hk (fun r3 er3 hk => ?_)
    refine t_callVvE dX7_workVars_41 M_X0_clear (C_X0_clear _ _ er3) ML_X7_116 IM_X0_clear SE_X0_clear qc_334 rfl (As := []) rfl rfl (Nat.le_of_ble_eq_true rfl) (Nat.le_of_ble_eq_true rfl) (Nat.le_of_ble_eq_true rfl) (Nat.le_of_ble_eq_true rfl) ?_
    refine mj_aload_n dX7_workVars_44 0 rfl ?_
    refine t_getR 334 dX7_workVars_45 F_X7_23 qr_864_2 ?_
    refine mj_aload_n dX7_workVars_48 0 rfl ?_
    refine t_getR 428 dX7_workVars_49 F_X7_31 qr_864_4 ?_
    refine t_getR 436 dX7_workVars_52 F_X7_121 qr_428_8 ?_
    refine mj_aload_n dX7_workVars_55 1 rfl ?_
    refine t_getI dX7_workVars_56 F_X7_113 (t_pf1 c0) ?_
    refine mj_bipush (v := 8) dX7_workVars_59 (by decide) ?_
    refine mj_imul dX7_workVars_61 ?_
    refine mj_iload_n dX7_workVars_62 2 rfl ?_
    refine mj_iadd dX7_workVars_63 ?_
    refine t_chkK hk (fun c3 hk => ?_)
    refine t_iald dX7_workVars_64 qa_436 (t_ixv c3) ?_
    refine t_bndK hk (fun r5 er5 hk => ?_)
    refine t_callViE dX7_workVars_65 M_X0_work (C_X0_work _ _ _ er5) ML_X7_124 IM_X0_work SE_X0_work qc_334 rfl (As := [.int (r3.1 436 ((((r3.1 l1 1) * (8 : Int32)) + l2).toNatClampNeg))]) rfl rfl (Nat.le_of_ble_eq_true rfl) (Nat.le_of_ble_eq_true rfl) (Nat.le_of_ble_eq_true rfl) (Nat.le_of_ble_eq_true rfl) ?_
    refine mj_istore_n 3 (lv2 := [(3, .int r5.1), (0, .ref 864), (1, .ref l1), (2, .int l2)]) dX7_workVars_68 rfl (by decide) rfl ?_
    refine mj_iload_n dX7_workVars_69 0 rfl ?_
    refine mj_if_eq 75 dX7_workVars_70 (by decide) (fun z => t_posK hk z (fun hk => ?_)) (fun z => t_negK hk z (fun hk => ?_))
    · refine mj_aload_n dX7_workVars_75 1 rfl ?_
      refine t_getR 428 dX7_workVars_76 F_X7_31 qr_864_4 ?_
      refine t_getR 435 dX7_workVars_79 F_X7_127 qr_428_7 ?_
      refine mj_aload_n dX7_workVars_82 2 rfl ?_
      refine t_getI dX7_workVars_83 F_X7_113 (t_pf1 c0) ?_
      refine mj_bipush (v := 8) dX7_workVars_86 (by decide) ?_
      refine mj_imul dX7_workVars_88 ?_
      refine mj_iload_n dX7_workVars_89 3 rfl ?_
      refine mj_iadd dX7_workVars_90 ?_
      refine t_chkK hk (fun c5 hk => ?_)
      refine t_iald dX7_workVars_91 qa_435 (t_ixv c5) ?_
      refine mj_istore (lv2 := [(4, .int (r5.2.1 435 ((((r5.2.1 l1 1) * (8 : Int32)) + l2).toNatClampNeg))), (3, .int r5.1), (0, .ref 864), (1, .ref l1), (2, .int l2)]) dX7_workVars_92 (by decide) rfl ?_
      refine mj_iload dX7_workVars_94 0 rfl ?_
      refine mj_if_lt 135 dX7_workVars_96 (by decide) (fun z => t_posK hk z (fun hk => ?_)) (fun z => t_negK hk z (fun hk => ?_))
      · refine mj_sublv [(0, .ref 864), (1, .ref l1), (2, .int l2)] [2, 3, 4] rfl ?_
        exact B_X7_workVars_135 _ _ _ _ (fun y0 y1 y2 hx => Hb21 y0 y1 y2 hx) hk
      · refine mj_aload_n dX7_workVars_99 2 rfl ?_
        refine t_getR 316 dX7_workVars_100 F_X7_19 qr_864_1 ?_
        refine mj_aload_n dX7_workVars_103 2 rfl ?_
        refine t_getR 334 dX7_workVars_104 F_X7_23 qr_864_2 ?_
        refine t_getR 338 dX7_workVars_107 F_X7_130 qr_334_5 ?_
        refine mj_aload_n dX7_workVars_110 2 rfl ?_
        refine t_getR 334 dX7_workVars_111 F_X7_23 qr_864_2 ?_
        refine t_bndK hk (fun r7 er7 hk => ?_)
        refine t_callViP dX7_workVars_114 M_X0_topAt (C_X0_topAt _ _ er7) ML_X7_134 IM_X0_topAt SE_X0_topAt qc_334 rfl (As := []) rfl rfl (Nat.le_of_ble_eq_true rfl) (Nat.le_of_ble_eq_true rfl) (Nat.le_of_ble_eq_true rfl) (Nat.le_of_ble_eq_true rfl) ?_
        refine mj_aload_n dX7_workVars_117 2 rfl ?_
        refine t_getR 316 dX7_workVars_118 F_X7_19 qr_864_1 ?_
        refine t_getR 326 dX7_workVars_121 F_X7_138 qr_316_11 ?_
        refine mj_iload dX7_workVars_124 0 rfl ?_
        refine t_chkK hk (fun c7 hk => ?_)
        refine t_iald dX7_workVars_126 qa_326 (t_ixv c7) ?_
        refine t_bndK hk (fun r9 er9 hk => ?_)
        refine t_callViE dX7_workVars_127 M_X11_holds (C_X11_holds _ _ _ _ _ er9) ML_X7_143 IM_X11_holds SE_X11_holds qc_316 rfl (As := [.ref 338, .int r7, .int (r5.2.1 326 ((r5.2.1 435 ((((r5.2.1 l1 1) * (8 : Int32)) + l2).toNatClampNeg)).toNatClampNeg))]) rfl rfl (Nat.le_of_ble_eq_true rfl) (Nat.le_of_ble_eq_true rfl) (Nat.le_of_ble_eq_true rfl) (Nat.le_of_ble_eq_true rfl) ?_
        refine mj_if_ne 135 dX7_workVars_130 (by decide) (fun z => t_negK hk z (fun hk => ?_)) (fun z => t_posK hk z (fun hk => ?_))
        · refine mj_sublv [(0, .ref 864), (1, .ref l1), (2, .int l2)] [2, 3, 4] rfl ?_
          exact B_X7_workVars_135 _ _ _ _ (fun y0 y1 y2 hx => Hb21 y0 y1 y2 hx) hk
        · refine t_mapK hk (fun hk => ?_)
          refine mj_iconst (v := 4) dX7_workVars_133 (by decide) ?_
          exact t_somK hk (fun hf => t_iret dX7_workVars_134 rfl rfl ⟨_, rfl, hf⟩ (Nat.le_of_ble_eq_true rfl) (Nat.le_of_ble_eq_true rfl))
    · refine t_mapK hk (fun hk => ?_)
      refine mj_iload_n dX7_workVars_73 0 rfl ?_
      exact t_somK hk (fun hf => t_iret dX7_workVars_74 rfl rfl ⟨_, rfl, hf⟩ (Nat.le_of_ble_eq_true rfl) (Nat.le_of_ble_eq_true rfl))
noncomputable def b_X7_workVars_21 (x : Nat × Int32 × t_S) : Option ((Nat × Int32 × t_S) ⊕ (Int32 × t_S)) := k_X7_workVars_21 x.1 x.2.1 x.2.2
set_option maxRecDepth 4000 in
set_option maxHeartbeats 1000000 in
theorem LH_X7_workVars_21 {D : va_G} {cy : Nat → ClassId} {ad : Nat → Nat} {bs : Nat} {X : State → Heap → Prop} : ∀ (n : Nat) (y0 : Nat) (y1 : Int32) (y2 : t_S) (Q : Int32 × t_S → Prop) (hk : t_hk (t_loop (b_X7_workVars_21) n (y0, y1, y2)) Q), mj_G D cy ad bs X cX7_workVars 5 yX7_workVars.cls (some .int) yX7_workVars.name 406 0 0 1065 (t_P (fun v s' => ∃ x, v = some (.int x) ∧ Q ((x, s')))) 21 [(0, .ref 864), (1, .ref (y0)), (2, .int (y1))] [] (t_m y2) 1065 0 0 := by
  intro n
  induction n with
  | zero => intro y0 y1 y2 Q hk; obtain ⟨r, hr, _⟩ := hk; cases hr
  | succ n ih =>
    intro y0 y1 y2 Q hk
    exact B_X7_workVars_21 y0 y1 y2 (fun y => t_lq (b_X7_workVars_21) n Q y) (fun y0' y1' y2' hy => ih y0' y1' y2' Q hy) (t_lp hk)
noncomputable def f_X7_workVars (x1 : Nat) (s : t_S) : Option (Int32 × t_S) :=
 if t_isP x1 = true then
  (f_X4_varSlot x1 (0 : Int32) s).bind (fun r2 =>
 (f_X8_empty r2 (72 : Int32) s).bind (fun r3 =>
 (f_X7_see x1 r3).bind (fun r4 =>
 t_loop (b_X7_workVars_21) t_N (x1, 0, r4))))
else none
set_option maxRecDepth 4000 in
set_option maxHeartbeats 1000000 in
theorem C_X7_workVars (x1 : Nat) (s : t_S) (r : Int32 × t_S) (hr : f_X7_workVars x1 s = some r) : t_C yX7_workVars cX7_workVars 5 (some .int) 406 [.ref 864, .ref x1] s (fun v s' => v = some (.int r.1) ∧ s' = r.2) := by
  refine t_C.imp (P := fun v s' => ∃ x, v = some (.int x) ∧ (fun q => q = r) ((x, s'))) (t_C.of (by decide +kernel) (Nat.le_of_ble_eq_true rfl) ?_) (fun v s' hp => by obtain ⟨x, rfl, rfl⟩ := hp; exact ⟨rfl, rfl⟩)
  intro D cy ad bs X
  have hk : t_hk (f_X7_workVars x1 s) (fun q => q = r) := ⟨r, hr, rfl⟩
  show mj_G D cy ad bs X cX7_workVars 5 yX7_workVars.cls (some .int) yX7_workVars.name 406 0 0 1065 (t_P (fun v s' => ∃ x, v = some (.int x) ∧ (fun q => q = r) ((x, s')))) 0 [(0, .ref 864), (1, .ref x1)] [] (t_m s) 1065 0 0
  refine mj_aload_n dX7_workVars_0 0 rfl ?_
  refine t_getR 12 dX7_workVars_1 F_X7_15 qr_864_0 ?_
  refine mj_aload_n dX7_workVars_4 1 rfl ?_
  refine mj_iconst (v := 0) dX7_workVars_5 (by decide) ?_
  refine t_chkK hk (fun c0 hk => ?_)
  refine t_bndK hk (fun r2 er2 hk => ?_)
  refine t_callViP dX7_workVars_6 M_X4_varSlot (C_X4_varSlot _ _ _ _ er2) ML_X7_99 IM_X4_varSlot SE_X4_varSlot (t_pc c0) rfl (As := [.int 0]) rfl rfl (Nat.le_of_ble_eq_true rfl) (Nat.le_of_ble_eq_true rfl) (Nat.le_of_ble_eq_true rfl) (Nat.le_of_ble_eq_true rfl) ?_
  refine mj_bipush (v := 72) dX7_workVars_9 (by decide) ?_
  refine t_bndK hk (fun r3 er3 hk => ?_)
  refine t_callVvE dX7_workVars_11 M_X8_empty (C_X8_empty _ _ _ _ er3) ML_X7_103 IM_X8_empty SE_X8_empty qc_12 rfl (As := [.int r2, .int 72]) rfl rfl (Nat.le_of_ble_eq_true rfl) (Nat.le_of_ble_eq_true rfl) (Nat.le_of_ble_eq_true rfl) (Nat.le_of_ble_eq_true rfl) ?_
  refine mj_aload_n dX7_workVars_14 0 rfl ?_
  refine mj_aload_n dX7_workVars_15 1 rfl ?_
  refine t_bndK hk (fun r4 er4 hk => ?_)
  refine t_callVvE dX7_workVars_16 M_X7_see (C_X7_see _ _ _ er4) ML_X7_107 IM_X7_see SE_X7_see qc_864 rfl (As := [.ref x1]) rfl rfl (Nat.le_of_ble_eq_true rfl) (Nat.le_of_ble_eq_true rfl) (Nat.le_of_ble_eq_true rfl) (Nat.le_of_ble_eq_true rfl) ?_
  refine mj_iconst (v := 0) dX7_workVars_19 (by decide) ?_
  refine mj_istore_n 2 (lv2 := [(2, .int 0), (0, .ref 864), (1, .ref x1)]) dX7_workVars_20 rfl (by decide) rfl ?_
  refine mj_sublv [(0, .ref 864), (1, .ref x1), (2, .int 0)] [1, 2, 0] rfl ?_
  exact LH_X7_workVars_21 _ x1 0 r4 _ hk

theorem dX7_open_0 : decode cX7_open 0 = .ok (.aload_n 0, 1) := by decide +kernel
theorem dX7_open_1 : decode cX7_open 1 = .ok (.invokevirtual 55, 3) := by decide +kernel
theorem dX7_open_10 : decode cX7_open 10 = .ok (.getfield 11, 3) := by decide +kernel
theorem dX7_open_13 : decode cX7_open 13 = .ok (.iconst 0, 1) := by decide +kernel
theorem dX7_open_14 : decode cX7_open 14 = .ok (.aaload, 1) := by decide +kernel
theorem dX7_open_15 : decode cX7_open 15 = .ok (.astore_n 2, 1) := by decide +kernel
theorem dX7_open_16 : decode cX7_open 16 = .ok (.aload_n 0, 1) := by decide +kernel
theorem dX7_open_17 : decode cX7_open 17 = .ok (.getfield 31, 3) := by decide +kernel
theorem dX7_open_20 : decode cX7_open 20 = .ok (.getfield 58, 3) := by decide +kernel
theorem dX7_open_23 : decode cX7_open 23 = .ok (.iload_n 1, 1) := by decide +kernel
theorem dX7_open_24 : decode cX7_open 24 = .ok (.iaload, 1) := by decide +kernel
theorem dX7_open_25 : decode cX7_open 25 = .ok (.istore_n 3, 1) := by decide +kernel
theorem dX7_open_26 : decode cX7_open 26 = .ok (.aload_n 2, 1) := by decide +kernel
theorem dX7_open_27 : decode cX7_open 27 = .ok (.iload_n 3, 1) := by decide +kernel
theorem dX7_open_28 : decode cX7_open 28 = .ok (.invokevirtual 64, 3) := by decide +kernel
theorem dX7_open_31 : decode cX7_open 31 = .ok (.aload_n 0, 1) := by decide +kernel
theorem dX7_open_32 : decode cX7_open 32 = .ok (.iconst 1, 1) := by decide +kernel
theorem dX7_open_33 : decode cX7_open 33 = .ok (.putfield 42, 3) := by decide +kernel
theorem dX7_open_36 : decode cX7_open 36 = .ok (.aload_n 0, 1) := by decide +kernel
theorem dX7_open_37 : decode cX7_open 37 = .ok (.getfield 15, 3) := by decide +kernel
theorem dX7_open_4 : decode cX7_open 4 = .ok (.aload_n 0, 1) := by decide +kernel
theorem dX7_open_40 : decode cX7_open 40 = .ok (.bipush 8, 2) := by decide +kernel
theorem dX7_open_42 : decode cX7_open 42 = .ok (.iconst 0, 1) := by decide +kernel
theorem dX7_open_43 : decode cX7_open 43 = .ok (.iload_n 3, 1) := by decide +kernel
theorem dX7_open_44 : decode cX7_open 44 = .ok (.invokevirtual 67, 3) := by decide +kernel
theorem dX7_open_47 : decode cX7_open 47 = .ok (.aload_n 0, 1) := by decide +kernel
theorem dX7_open_48 : decode cX7_open 48 = .ok (.aload_n 2, 1) := by decide +kernel
theorem dX7_open_49 : decode cX7_open 49 = .ok (.invokevirtual 71, 3) := by decide +kernel
theorem dX7_open_5 : decode cX7_open 5 = .ok (.iconst 1, 1) := by decide +kernel
theorem dX7_open_52 : decode cX7_open 52 = .ok (.istore 4, 2) := by decide +kernel
theorem dX7_open_54 : decode cX7_open 54 = .ok (.iload 4, 2) := by decide +kernel
theorem dX7_open_56 : decode cX7_open 56 = .ok (.ifCond .eq 12, 3) := by decide +kernel
theorem dX7_open_59 : decode cX7_open 59 = .ok (.aload_n 0, 1) := by decide +kernel
theorem dX7_open_6 : decode cX7_open 6 = .ok (.putfield 38, 3) := by decide +kernel
theorem dX7_open_60 : decode cX7_open 60 = .ok (.aload_n 2, 1) := by decide +kernel
theorem dX7_open_61 : decode cX7_open 61 = .ok (.iload 4, 2) := by decide +kernel
theorem dX7_open_63 : decode cX7_open 63 = .ok (.invokevirtual 75, 3) := by decide +kernel
theorem dX7_open_66 : decode cX7_open 66 = .ok (.iconst 0, 1) := by decide +kernel
theorem dX7_open_67 : decode cX7_open 67 = .ok (.ireturn, 1) := by decide +kernel
theorem dX7_open_68 : decode cX7_open 68 = .ok (.aload_n 0, 1) := by decide +kernel
theorem dX7_open_69 : decode cX7_open 69 = .ok (.aload_n 2, 1) := by decide +kernel
theorem dX7_open_70 : decode cX7_open 70 = .ok (.iload_n 1, 1) := by decide +kernel
theorem dX7_open_71 : decode cX7_open 71 = .ok (.invokevirtual 79, 3) := by decide +kernel
theorem dX7_open_74 : decode cX7_open 74 = .ok (.iconst 1, 1) := by decide +kernel
theorem dX7_open_75 : decode cX7_open 75 = .ok (.ireturn, 1) := by decide +kernel
theorem dX7_open_9 : decode cX7_open 9 = .ok (.aload_n 0, 1) := by decide +kernel
noncomputable def f_X7_open (x1 : Int32) (s : t_S) : Option (Int32 × t_S) :=
 (f_X7_close s).bind (fun r1 =>
 t_let (t_setI r1 864 8 (1 : Int32)) (fun s1 =>
 if t_ix x1 40 = true then
  if t_isP (866 + 10 * ((0 : Int32).toNatClampNeg)) = true then
  (f_X4_renew (866 + 10 * ((0 : Int32).toNatClampNeg)) (s1.1 438 (x1.toNatClampNeg)) s1).bind (fun r4 =>
 t_let (t_setI r4 864 6 (1 : Int32)) (fun s2 =>
 (f_X8_note (8 : Int32) (0 : Int32) (s1.1 438 (x1.toNatClampNeg)) s2).bind (fun r5 =>
 (f_X7_workVars (866 + 10 * ((0 : Int32).toNatClampNeg)) r5).bind (fun r6 =>
 if r6.1 = (0 : Int32) then ((f_X7_launch (866 + 10 * ((0 : Int32).toNatClampNeg)) x1 r6.2).bind (fun r7 =>
 some ((1 : Int32), r7)))
 else ((f_X7_fail (866 + 10 * ((0 : Int32).toNatClampNeg)) r6.1 r6.2).bind (fun r8 =>
 some ((0 : Int32), r8)))))))
else none
else none))
set_option maxRecDepth 4000 in
set_option maxHeartbeats 1000000 in
theorem C_X7_open (x1 : Int32) (s : t_S) (r : Int32 × t_S) (hr : f_X7_open x1 s = some r) : t_C yX7_open cX7_open 5 (some .boolean) 407 [.ref 864, .int x1] s (fun v s' => v = some (.int r.1) ∧ s' = r.2) := by
  refine t_C.imp (P := fun v s' => ∃ x, v = some (.int x) ∧ (fun q => q = r) ((x, s'))) (t_C.of (by decide +kernel) (Nat.le_of_ble_eq_true rfl) ?_) (fun v s' hp => by obtain ⟨x, rfl, rfl⟩ := hp; exact ⟨rfl, rfl⟩)
  intro D cy ad bs X
  have hk : t_hk (f_X7_open x1 s) (fun q => q = r) := ⟨r, hr, rfl⟩
  show mj_G D cy ad bs X cX7_open 5 yX7_open.cls (some .boolean) yX7_open.name 407 0 0 1065 (t_P (fun v s' => ∃ x, v = some (.int x) ∧ (fun q => q = r) ((x, s')))) 0 [(0, .ref 864), (1, .int x1)] [] (t_m s) 1065 0 0
  refine mj_aload_n dX7_open_0 0 rfl ?_
  refine t_bndK hk (fun r1 er1 hk => ?_)
  refine t_callVvE dX7_open_1 M_X7_close (C_X7_close _ _ er1) ML_X7_55 IM_X7_close SE_X7_close qc_864 rfl (As := []) rfl rfl (Nat.le_of_ble_eq_true rfl) (Nat.le_of_ble_eq_true rfl) (Nat.le_of_ble_eq_true rfl) (Nat.le_of_ble_eq_true rfl) ?_
  refine mj_aload_n dX7_open_4 0 rfl ?_
  refine mj_iconst (v := 1) dX7_open_5 (by decide) ?_
  refine t_putIK dX7_open_6 F_X7_38 qf_864_8 (by decide) (fun s1 ws1 => t_letE hk ws1 (fun hk => ?_))
  refine mj_aload_n dX7_open_9 0 rfl ?_
  refine t_getR 865 dX7_open_10 F_X7_11 qr_864_5 ?_
  refine mj_iconst (v := 0) dX7_open_13 (by decide) ?_
  refine t_aaldP dX7_open_14 qq_865 (by unfold vp_in; decide) ?_
  refine mj_astore_n 2 (lv2 := [(2, .ref (866 + 10 * ((0 : Int32).toNatClampNeg))), (0, .ref 864), (1, .int x1)]) dX7_open_15 rfl (by decide) rfl ?_
  refine mj_aload_n dX7_open_16 1 rfl ?_
  refine t_getR 428 dX7_open_17 F_X7_31 qr_864_4 ?_
  refine t_getR 438 dX7_open_20 F_X7_58 qr_428_11 ?_
  refine mj_iload_n dX7_open_23 2 rfl ?_
  refine t_chkK hk (fun c1 hk => ?_)
  refine t_iald dX7_open_24 qa_438 (t_ixv c1) ?_
  refine mj_istore_n 3 (lv2 := [(3, .int (s1.1 438 (x1.toNatClampNeg))), (2, .ref (866 + 10 * ((0 : Int32).toNatClampNeg))), (0, .ref 864), (1, .int x1)]) dX7_open_25 rfl (by decide) rfl ?_
  refine mj_aload_n dX7_open_26 1 rfl ?_
  refine mj_iload_n dX7_open_27 0 rfl ?_
  refine t_chkK hk (fun c2 hk => ?_)
  refine t_bndK hk (fun r4 er4 hk => ?_)
  refine t_callVvE dX7_open_28 M_X4_renew (C_X4_renew _ _ _ _ er4) ML_X7_64 IM_X4_renew SE_X4_renew (t_pc c2) rfl (As := [.int (s1.1 438 (x1.toNatClampNeg))]) rfl rfl (Nat.le_of_ble_eq_true rfl) (Nat.le_of_ble_eq_true rfl) (Nat.le_of_ble_eq_true rfl) (Nat.le_of_ble_eq_true rfl) ?_
  refine mj_aload_n dX7_open_31 2 rfl ?_
  refine mj_iconst (v := 1) dX7_open_32 (by decide) ?_
  refine t_putIK dX7_open_33 F_X7_42 qf_864_6 rfl (fun s2 ws2 => t_letE hk ws2 (fun hk => ?_))
  refine mj_aload_n dX7_open_36 2 rfl ?_
  refine t_getR 12 dX7_open_37 F_X7_15 qr_864_0 ?_
  refine mj_bipush (v := 8) dX7_open_40 (by decide) ?_
  refine mj_iconst (v := 0) dX7_open_42 (by decide) ?_
  refine mj_iload_n dX7_open_43 0 rfl ?_
  refine t_bndK hk (fun r5 er5 hk => ?_)
  refine t_callVvE dX7_open_44 M_X8_note (C_X8_note _ _ _ _ _ er5) ML_X7_67 IM_X8_note SE_X8_note qc_12 rfl (As := [.int 8, .int 0, .int (s1.1 438 (x1.toNatClampNeg))]) rfl rfl (Nat.le_of_ble_eq_true rfl) (Nat.le_of_ble_eq_true rfl) (Nat.le_of_ble_eq_true rfl) (Nat.le_of_ble_eq_true rfl) ?_
  refine mj_aload_n dX7_open_47 2 rfl ?_
  refine mj_aload_n dX7_open_48 1 rfl ?_
  refine t_bndK hk (fun r6 er6 hk => ?_)
  refine t_callViE dX7_open_49 M_X7_workVars (C_X7_workVars _ _ _ er6) ML_X7_71 IM_X7_workVars SE_X7_workVars qc_864 rfl (As := [.ref (866 + 10 * ((0 : Int32).toNatClampNeg))]) rfl rfl (Nat.le_of_ble_eq_true rfl) (Nat.le_of_ble_eq_true rfl) (Nat.le_of_ble_eq_true rfl) (Nat.le_of_ble_eq_true rfl) ?_
  refine mj_istore (lv2 := [(4, .int r6.1), (3, .int (s1.1 438 (x1.toNatClampNeg))), (2, .ref (866 + 10 * ((0 : Int32).toNatClampNeg))), (0, .ref 864), (1, .int x1)]) dX7_open_52 (by decide) rfl ?_
  refine mj_iload dX7_open_54 0 rfl ?_
  refine mj_if_eq 68 dX7_open_56 (by decide) (fun z => t_posK hk z (fun hk => ?_)) (fun z => t_negK hk z (fun hk => ?_))
  · refine mj_aload_n dX7_open_68 3 rfl ?_
    refine mj_aload_n dX7_open_69 2 rfl ?_
    refine mj_iload_n dX7_open_70 4 rfl ?_
    refine t_bndK hk (fun r7 er7 hk => ?_)
    refine t_callVvE dX7_open_71 M_X7_launch (C_X7_launch _ _ _ _ er7) ML_X7_79 IM_X7_launch SE_X7_launch qc_864 rfl (As := [.ref (866 + 10 * ((0 : Int32).toNatClampNeg)), .int x1]) rfl rfl (Nat.le_of_ble_eq_true rfl) (Nat.le_of_ble_eq_true rfl) (Nat.le_of_ble_eq_true rfl) (Nat.le_of_ble_eq_true rfl) ?_
    refine mj_iconst (v := 1) dX7_open_74 (by decide) ?_
    exact t_somK hk (fun hf => t_iret dX7_open_75 rfl (by decide) ⟨_, rfl, hf⟩ (Nat.le_of_ble_eq_true rfl) (Nat.le_of_ble_eq_true rfl))
  · refine mj_aload_n dX7_open_59 3 rfl ?_
    refine mj_aload_n dX7_open_60 2 rfl ?_
    refine mj_iload dX7_open_61 0 rfl ?_
    refine t_bndK hk (fun r8 er8 hk => ?_)
    refine t_callVvE dX7_open_63 M_X7_fail (C_X7_fail _ _ _ _ er8) ML_X7_75 IM_X7_fail SE_X7_fail qc_864 rfl (As := [.ref (866 + 10 * ((0 : Int32).toNatClampNeg)), .int r6.1]) rfl rfl (Nat.le_of_ble_eq_true rfl) (Nat.le_of_ble_eq_true rfl) (Nat.le_of_ble_eq_true rfl) (Nat.le_of_ble_eq_true rfl) ?_
    refine mj_iconst (v := 0) dX7_open_66 (by decide) ?_
    exact t_somK hk (fun hf => t_iret dX7_open_67 rfl (by decide) ⟨_, rfl, hf⟩ (Nat.le_of_ble_eq_true rfl) (Nat.le_of_ble_eq_true rfl))

theorem dX12_begin_0 : decode cX12_begin 0 = .ok (.aload_n 0, 1) := by decide +kernel
theorem dX12_begin_1 : decode cX12_begin 1 = .ok (.getfield 121, 3) := by decide +kernel
theorem dX12_begin_11 : decode cX12_begin 11 = .ok (.iload_n 1, 1) := by decide +kernel
theorem dX12_begin_12 : decode cX12_begin 12 = .ok (.aload_n 0, 1) := by decide +kernel
theorem dX12_begin_13 : decode cX12_begin 13 = .ok (.getfield 52, 3) := by decide +kernel
theorem dX12_begin_16 : decode cX12_begin 16 = .ok (.getfield 139, 3) := by decide +kernel
theorem dX12_begin_19 : decode cX12_begin 19 = .ok (.if_icmp .ge 16, 3) := by decide +kernel
theorem dX12_begin_22 : decode cX12_begin 22 = .ok (.aload_n 0, 1) := by decide +kernel
theorem dX12_begin_23 : decode cX12_begin 23 = .ok (.getfield 52, 3) := by decide +kernel
theorem dX12_begin_26 : decode cX12_begin 26 = .ok (.getfield 265, 3) := by decide +kernel
theorem dX12_begin_29 : decode cX12_begin 29 = .ok (.iload_n 1, 1) := by decide +kernel
theorem dX12_begin_30 : decode cX12_begin 30 = .ok (.iaload, 1) := by decide +kernel
theorem dX12_begin_31 : decode cX12_begin 31 = .ok (.iconst 2, 1) := by decide +kernel
theorem dX12_begin_32 : decode cX12_begin 32 = .ok (.if_icmp .eq 5, 3) := by decide +kernel
theorem dX12_begin_35 : decode cX12_begin 35 = .ok (.iconst (-1), 1) := by decide +kernel
theorem dX12_begin_36 : decode cX12_begin 36 = .ok (.ireturn, 1) := by decide +kernel
theorem dX12_begin_37 : decode cX12_begin 37 = .ok (.aload_n 0, 1) := by decide +kernel
theorem dX12_begin_38 : decode cX12_begin 38 = .ok (.getfield 84, 3) := by decide +kernel
theorem dX12_begin_4 : decode cX12_begin 4 = .ok (.ifCond .eq 31, 3) := by decide +kernel
theorem dX12_begin_41 : decode cX12_begin 41 = .ok (.iload_n 1, 1) := by decide +kernel
theorem dX12_begin_42 : decode cX12_begin 42 = .ok (.invokevirtual 268, 3) := by decide +kernel
theorem dX12_begin_45 : decode cX12_begin 45 = .ok (.ifCond .eq 7, 3) := by decide +kernel
theorem dX12_begin_48 : decode cX12_begin 48 = .ok (.iconst 1, 1) := by decide +kernel
theorem dX12_begin_49 : decode cX12_begin 49 = .ok (.goto 4, 3) := by decide +kernel
theorem dX12_begin_52 : decode cX12_begin 52 = .ok (.iconst 0, 1) := by decide +kernel
theorem dX12_begin_53 : decode cX12_begin 53 = .ok (.ireturn, 1) := by decide +kernel
theorem dX12_begin_7 : decode cX12_begin 7 = .ok (.iload_n 1, 1) := by decide +kernel
theorem dX12_begin_8 : decode cX12_begin 8 = .ok (.ifCond .lt 27, 3) := by decide +kernel
noncomputable def f_X12_begin (x1 : Int32) (s : t_S) : Option (Int32 × t_S) :=
 if (s.1 0 12) = (0 : Int32) then (some ((-1 : Int32), s))
 else (if x1 < (0 : Int32) then (some ((-1 : Int32), s))
 else (if (s.1 428 9) ≤ x1 then (some ((-1 : Int32), s))
 else (if t_ix x1 40 = true then
  if (s.1 437 (x1.toNatClampNeg)) = (2 : Int32) then ((f_X7_open x1 s).bind (fun r2 =>
 if r2.1 = (0 : Int32) then (some ((0 : Int32), r2.2))
 else (some ((1 : Int32), r2.2))))
 else (some ((-1 : Int32), s))
else none)))
set_option maxRecDepth 4000 in
set_option maxHeartbeats 1000000 in
theorem C_X12_begin (x1 : Int32) (s : t_S) (r : Int32 × t_S) (hr : f_X12_begin x1 s = some r) : t_C yX12_begin cX12_begin 2 (some .int) 408 [.ref 0, .int x1] s (fun v s' => v = some (.int r.1) ∧ s' = r.2) := by
  refine t_C.imp (P := fun v s' => ∃ x, v = some (.int x) ∧ (fun q => q = r) ((x, s'))) (t_C.of (by decide +kernel) (Nat.le_of_ble_eq_true rfl) ?_) (fun v s' hp => by obtain ⟨x, rfl, rfl⟩ := hp; exact ⟨rfl, rfl⟩)
  intro D cy ad bs X
  have hk : t_hk (f_X12_begin x1 s) (fun q => q = r) := ⟨r, hr, rfl⟩
  show mj_G D cy ad bs X cX12_begin 2 yX12_begin.cls (some .int) yX12_begin.name 408 0 0 1065 (t_P (fun v s' => ∃ x, v = some (.int x) ∧ (fun q => q = r) ((x, s')))) 0 [(0, .ref 0), (1, .int x1)] [] (t_m s) 1065 0 0
  refine mj_aload_n dX12_begin_0 0 rfl ?_
  refine t_getI dX12_begin_1 F_X12_121 qf_0_12 ?_
  refine mj_if_eq 35 dX12_begin_4 (by decide) (fun z => t_posK hk z (fun hk => ?_)) (fun z => t_negK hk z (fun hk => ?_))
  · refine mj_iconst (v := (-1)) dX12_begin_35 (by decide) ?_
    exact t_somK hk (fun hf => t_iret dX12_begin_36 rfl rfl ⟨_, rfl, hf⟩ (Nat.le_of_ble_eq_true rfl) (Nat.le_of_ble_eq_true rfl))
  · refine mj_iload_n dX12_begin_7 1 rfl ?_
    refine mj_if_lt 35 dX12_begin_8 (by decide) (fun z => t_posK hk z (fun hk => ?_)) (fun z => t_negK hk z (fun hk => ?_))
    · refine mj_iconst (v := (-1)) dX12_begin_35 (by decide) ?_
      exact t_somK hk (fun hf => t_iret dX12_begin_36 rfl rfl ⟨_, rfl, hf⟩ (Nat.le_of_ble_eq_true rfl) (Nat.le_of_ble_eq_true rfl))
    · refine mj_iload_n dX12_begin_11 1 rfl ?_
      refine mj_aload_n dX12_begin_12 0 rfl ?_
      refine t_getR 428 dX12_begin_13 F_X12_52 qr_0_5 ?_
      refine t_getI dX12_begin_16 F_X12_139 qf_428_9 ?_
      refine mj_icmp_ge 35 dX12_begin_19 (by decide) (fun z => t_posK hk z (fun hk => ?_)) (fun z => t_negK hk z (fun hk => ?_))
      · refine mj_iconst (v := (-1)) dX12_begin_35 (by decide) ?_
        exact t_somK hk (fun hf => t_iret dX12_begin_36 rfl rfl ⟨_, rfl, hf⟩ (Nat.le_of_ble_eq_true rfl) (Nat.le_of_ble_eq_true rfl))
      · refine mj_aload_n dX12_begin_22 0 rfl ?_
        refine t_getR 428 dX12_begin_23 F_X12_52 qr_0_5 ?_
        refine t_getR 437 dX12_begin_26 F_X12_265 qr_428_10 ?_
        refine mj_iload_n dX12_begin_29 1 rfl ?_
        refine t_chkK hk (fun c0 hk => ?_)
        refine t_iald dX12_begin_30 qa_437 (t_ixv c0) ?_
        refine mj_iconst (v := 2) dX12_begin_31 (by decide) ?_
        refine mj_icmp_eq 37 dX12_begin_32 (by decide) (fun z => t_posK hk z (fun hk => ?_)) (fun z => t_negK hk z (fun hk => ?_))
        · refine mj_aload_n dX12_begin_37 0 rfl ?_
          refine t_getR 864 dX12_begin_38 F_X12_84 qr_0_8 ?_
          refine mj_iload_n dX12_begin_41 1 rfl ?_
          refine t_bndK hk (fun r2 er2 hk => ?_)
          refine t_callViE dX12_begin_42 M_X7_open (C_X7_open _ _ _ er2) ML_X12_268 IM_X7_open SE_X7_open qc_864 rfl (As := [.int x1]) rfl rfl (Nat.le_of_ble_eq_true rfl) (Nat.le_of_ble_eq_true rfl) (Nat.le_of_ble_eq_true rfl) (Nat.le_of_ble_eq_true rfl) ?_
          refine mj_if_eq 52 dX12_begin_45 (by decide) (fun z => t_posK hk z (fun hk => ?_)) (fun z => t_negK hk z (fun hk => ?_))
          · refine mj_iconst (v := 0) dX12_begin_52 (by decide) ?_
            exact t_somK hk (fun hf => t_iret dX12_begin_53 rfl rfl ⟨_, rfl, hf⟩ (Nat.le_of_ble_eq_true rfl) (Nat.le_of_ble_eq_true rfl))
          · refine mj_iconst (v := 1) dX12_begin_48 (by decide) ?_
            refine mj_goto 53 dX12_begin_49 (by decide) ?_
            exact t_somK hk (fun hf => t_iret dX12_begin_53 rfl rfl ⟨_, rfl, hf⟩ (Nat.le_of_ble_eq_true rfl) (Nat.le_of_ble_eq_true rfl))
        · refine mj_iconst (v := (-1)) dX12_begin_35 (by decide) ?_
          exact t_somK hk (fun hf => t_iret dX12_begin_36 rfl rfl ⟨_, rfl, hf⟩ (Nat.le_of_ble_eq_true rfl) (Nat.le_of_ble_eq_true rfl))

theorem dX12_bit_0 : decode cX12_bit 0 = .ok (.iload_n 1, 1) := by decide +kernel
theorem dX12_bit_1 : decode cX12_bit 1 = .ok (.ifCond .lt 14, 3) := by decide +kernel
theorem dX12_bit_12 : decode cX12_bit 12 = .ok (.if_icmp .lt 8, 3) := by decide +kernel
theorem dX12_bit_15 : decode cX12_bit 15 = .ok (.bipush (-2), 2) := by decide +kernel
theorem dX12_bit_17 : decode cX12_bit 17 = .ok (.goto 12, 3) := by decide +kernel
theorem dX12_bit_20 : decode cX12_bit 20 = .ok (.aload_n 0, 1) := by decide +kernel
theorem dX12_bit_21 : decode cX12_bit 21 = .ok (.getfield 75, 3) := by decide +kernel
theorem dX12_bit_24 : decode cX12_bit 24 = .ok (.getfield 252, 3) := by decide +kernel
theorem dX12_bit_27 : decode cX12_bit 27 = .ok (.iload_n 1, 1) := by decide +kernel
theorem dX12_bit_28 : decode cX12_bit 28 = .ok (.baload, 1) := by decide +kernel
theorem dX12_bit_29 : decode cX12_bit 29 = .ok (.ireturn, 1) := by decide +kernel
theorem dX12_bit_4 : decode cX12_bit 4 = .ok (.iload_n 1, 1) := by decide +kernel
theorem dX12_bit_5 : decode cX12_bit 5 = .ok (.aload_n 0, 1) := by decide +kernel
theorem dX12_bit_6 : decode cX12_bit 6 = .ok (.getfield 75, 3) := by decide +kernel
theorem dX12_bit_9 : decode cX12_bit 9 = .ok (.getfield 148, 3) := by decide +kernel
noncomputable def k_X12_bit_15 (s : t_S) : Option (Int32) :=
 some (-2 : Int32)
set_option maxRecDepth 4000 in
set_option maxHeartbeats 1000000 in
theorem B_X12_bit_15 {D : va_G} {cy : Nat → ClassId} {ad : Nat → Nat} {bs : Nat} {X : State → Heap → Prop} (s : t_S) (Q : Int32 → Prop) (hk : t_hk (k_X12_bit_15 s) Q) : mj_G D cy ad bs X cX12_bit 2 yX12_bit.cls (some .int) yX12_bit.name 0 0 0 1065 (t_P (fun v s' => s' = s ∧ ∃ x, v = some (.int x) ∧ Q (x))) 15 [] [] (t_m s) 1065 0 0 := by
  refine mj_bipush (v := (-2)) dX12_bit_15 (by decide) ?_
  refine mj_goto 29 dX12_bit_17 (by decide) ?_
  exact t_somK hk (fun hf => t_iret dX12_bit_29 rfl rfl ⟨rfl, _, rfl, hf⟩ (Nat.le_of_ble_eq_true rfl) (Nat.le_of_ble_eq_true rfl))
noncomputable def f_X12_bit (x1 : Int32) (s : t_S) : Option (Int32) :=
 if x1 < (0 : Int32) then (k_X12_bit_15 s)
 else (if x1 < (s.1 856 5) then (if t_ix x1 8000 = true then
  some (s.1 858 (x1.toNatClampNeg))
else none)
 else (k_X12_bit_15 s))
set_option maxRecDepth 4000 in
set_option maxHeartbeats 1000000 in
theorem C_X12_bit (x1 : Int32) (s : t_S) (r : Int32) (hr : f_X12_bit x1 s = some r) : t_C yX12_bit cX12_bit 2 (some .int) 0 [.ref 0, .int x1] s (fun v s' => v = some (.int r) ∧ s' = s) := by
  refine t_C.imp (P := fun v s' => s' = s ∧ ∃ x, v = some (.int x) ∧ (fun q => q = r) (x)) (t_C.of (by decide +kernel) (Nat.le_of_ble_eq_true rfl) ?_) (fun v s' hp => by obtain ⟨rfl, x, rfl, rfl⟩ := hp; exact ⟨rfl, rfl⟩)
  intro D cy ad bs X
  have hk : t_hk (f_X12_bit x1 s) (fun q => q = r) := ⟨r, hr, rfl⟩
  show mj_G D cy ad bs X cX12_bit 2 yX12_bit.cls (some .int) yX12_bit.name 0 0 0 1065 (t_P (fun v s' => s' = s ∧ ∃ x, v = some (.int x) ∧ (fun q => q = r) (x))) 0 [(0, .ref 0), (1, .int x1)] [] (t_m s) 1065 0 0
  refine mj_iload_n dX12_bit_0 1 rfl ?_
  refine mj_if_lt 15 dX12_bit_1 (by decide) (fun z => t_posK hk z (fun hk => ?_)) (fun z => t_negK hk z (fun hk => ?_))
  · refine mj_sublv [] [] rfl ?_
    exact B_X12_bit_15 _ _ hk
  · refine mj_iload_n dX12_bit_4 1 rfl ?_
    refine mj_aload_n dX12_bit_5 0 rfl ?_
    refine t_getR 856 dX12_bit_6 F_X12_75 qr_0_7 ?_
    refine t_getI dX12_bit_9 F_X12_148 qf_856_5 ?_
    refine mj_icmp_lt 20 dX12_bit_12 (by decide) (fun z => t_posK hk z (fun hk => ?_)) (fun z => t_negK hk z (fun hk => ?_))
    · refine mj_aload_n dX12_bit_20 0 rfl ?_
      refine t_getR 856 dX12_bit_21 F_X12_75 qr_0_7 ?_
      refine t_getR 858 dX12_bit_24 F_X12_252 qr_856_4 ?_
      refine mj_iload_n dX12_bit_27 1 rfl ?_
      refine t_chkK hk (fun c0 hk => ?_)
      refine t_bald dX12_bit_28 qa_858 (t_ixv c0) ?_
      exact t_somK hk (fun hf => t_iret dX12_bit_29 rfl rfl ⟨rfl, _, rfl, hf⟩ (Nat.le_of_ble_eq_true rfl) (Nat.le_of_ble_eq_true rfl))
    · refine mj_sublv [] [] rfl ?_
      exact B_X12_bit_15 _ _ hk

theorem dX1_put_0 : decode cX1_put 0 = .ok (.iload_n 3, 1) := by decide +kernel
theorem dX1_put_1 : decode cX1_put 1 = .ok (.iconst 1, 1) := by decide +kernel
theorem dX1_put_10 : decode cX1_put 10 = .ok (.aload_n 0, 1) := by decide +kernel
theorem dX1_put_11 : decode cX1_put 11 = .ok (.getfield 132, 3) := by decide +kernel
theorem dX1_put_14 : decode cX1_put 14 = .ok (.sipush 8000, 3) := by decide +kernel
theorem dX1_put_17 : decode cX1_put 17 = .ok (.if_icmp .ge 36, 3) := by decide +kernel
theorem dX1_put_2 : decode cX1_put 2 = .ok (.isub, 1) := by decide +kernel
theorem dX1_put_20 : decode cX1_put 20 = .ok (.aload_n 0, 1) := by decide +kernel
theorem dX1_put_21 : decode cX1_put 21 = .ok (.getfield 13, 3) := by decide +kernel
theorem dX1_put_24 : decode cX1_put 24 = .ok (.aload_n 0, 1) := by decide +kernel
theorem dX1_put_25 : decode cX1_put 25 = .ok (.getfield 132, 3) := by decide +kernel
theorem dX1_put_28 : decode cX1_put 28 = .ok (.lload_n 1, 1) := by decide +kernel
theorem dX1_put_29 : decode cX1_put 29 = .ok (.iload 4, 2) := by decide +kernel
theorem dX1_put_3 : decode cX1_put 3 = .ok (.istore 4, 2) := by decide +kernel
theorem dX1_put_31 : decode cX1_put 31 = .ok (.lshr, 1) := by decide +kernel
theorem dX1_put_32 : decode cX1_put 32 = .ok (.lconst 1, 1) := by decide +kernel
theorem dX1_put_33 : decode cX1_put 33 = .ok (.land, 1) := by decide +kernel
theorem dX1_put_34 : decode cX1_put 34 = .ok (.l2i, 1) := by decide +kernel
theorem dX1_put_35 : decode cX1_put 35 = .ok (.i2b, 1) := by decide +kernel
theorem dX1_put_36 : decode cX1_put 36 = .ok (.bastore, 1) := by decide +kernel
theorem dX1_put_37 : decode cX1_put 37 = .ok (.aload_n 0, 1) := by decide +kernel
theorem dX1_put_38 : decode cX1_put 38 = .ok (.dup, 1) := by decide +kernel
theorem dX1_put_39 : decode cX1_put 39 = .ok (.getfield 132, 3) := by decide +kernel
theorem dX1_put_42 : decode cX1_put 42 = .ok (.iconst 1, 1) := by decide +kernel
theorem dX1_put_43 : decode cX1_put 43 = .ok (.iadd, 1) := by decide +kernel
theorem dX1_put_44 : decode cX1_put 44 = .ok (.putfield 132, 3) := by decide +kernel
theorem dX1_put_47 : decode cX1_put 47 = .ok (.iinc 4 (-1), 3) := by decide +kernel
theorem dX1_put_5 : decode cX1_put 5 = .ok (.iload 4, 2) := by decide +kernel
theorem dX1_put_50 : decode cX1_put 50 = .ok (.goto (-45), 3) := by decide +kernel
theorem dX1_put_53 : decode cX1_put 53 = .ok (.return_, 1) := by decide +kernel
theorem dX1_put_7 : decode cX1_put 7 = .ok (.ifCond .lt 46, 3) := by decide +kernel
noncomputable def k_X1_put_5 (l1 : Int64) (l4 : Int32) (s : t_S) : Option ((Int64 × Int32 × t_S) ⊕ (t_S)) :=
 if l4 < (0 : Int32) then ((some (s)).map Sum.inr)
 else (if (8000 : Int32) ≤ (s.1 856 5) then ((some (s)).map Sum.inr)
 else (if t_ix (s.1 856 5) 8000 = true then
  t_let (t_setI s 858 ((s.1 856 5).toNatClampNeg) (((((l1 >>> (l4.toInt64 &&& 63)) &&& (1 : Int64)).toInt32).toInt8.toInt32).toInt8.toInt32)) (fun s1 =>
 t_let (t_setI s1 856 5 ((s1.1 856 5) + (1 : Int32))) (fun s2 =>
 some (.inl (l1, (l4 + (-1)), s2))))
else none))
set_option maxRecDepth 4000 in
set_option maxHeartbeats 1000000 in
theorem B_X1_put_5 {D : va_G} {cy : Nat → ClassId} {ad : Nat → Nat} {bs : Nat} {X : State → Heap → Prop} (l1 : Int64) (l4 : Int32) (s : t_S) (Q : (Int64 × Int32 × t_S) ⊕ (t_S) → Prop) (Hb5 : ∀ (y0 : Int64) (y1 : Int32) (y2 : t_S), Q (.inl (y0, y1, y2)) → mj_G D cy ad bs X cX1_put 5 yX1_put.cls none yX1_put.name 0 0 0 1065 (t_P (fun v s' => v = none ∧ Q (.inr (s')))) 5 [(0, .ref 856), (1, .long (y0)), (4, .int (y1))] [] (t_m y2) 1065 0 0) (hk : t_hk (k_X1_put_5 l1 l4 s) Q) : mj_G D cy ad bs X cX1_put 5 yX1_put.cls none yX1_put.name 0 0 0 1065 (t_P (fun v s' => v = none ∧ Q (.inr (s')))) 5 [(0, .ref 856), (1, .long l1), (4, .int l4)] [] (t_m s) 1065 0 0 := by
  refine mj_iload dX1_put_5 2 rfl ?_
  refine mj_if_lt 53 dX1_put_7 (by decide) (fun z => t_posK hk z (fun hk => ?_)) (fun z => t_negK hk z (fun hk => ?_))
  · refine t_mapK hk (fun hk => ?_)
    exact t_somK hk (fun hf => t_vret dX1_put_53 rfl ⟨rfl, hf⟩ (Nat.le_of_ble_eq_true rfl) (Nat.le_of_ble_eq_true rfl))
  · refine mj_aload_n dX1_put_10 0 rfl ?_
    refine t_getI dX1_put_11 F_X1_132 qf_856_5 ?_
    refine mj_sipush (v := 8000) dX1_put_14 (by decide) ?_
    refine mj_icmp_ge 53 dX1_put_17 (by decide) (fun z => t_posK hk z (fun hk => ?_)) (fun z => t_negK hk z (fun hk => ?_))
    · refine t_mapK hk (fun hk => ?_)
      exact t_somK hk (fun hf => t_vret dX1_put_53 rfl ⟨rfl, hf⟩ (Nat.le_of_ble_eq_true rfl) (Nat.le_of_ble_eq_true rfl))
    · refine mj_aload_n dX1_put_20 0 rfl ?_
      refine t_getR 858 dX1_put_21 F_X1_13 qr_856_4 ?_
      refine mj_aload_n dX1_put_24 0 rfl ?_
      refine t_getI dX1_put_25 F_X1_132 qf_856_5 ?_
      refine mj_lload_n dX1_put_28 1 rfl ?_
      refine mj_iload dX1_put_29 2 rfl ?_
      refine mj_lshr dX1_put_31 rfl ?_
      refine mj_lconst (v := 1) dX1_put_32 (by decide) ?_
      refine mj_land dX1_put_33 ?_
      refine mj_l2i (v := ((l1 >>> (l4.toInt64 &&& 63)) &&& (1 : Int64)).toInt32) dX1_put_34 rfl ?_
      refine mj_i2b (v := (((l1 >>> (l4.toInt64 &&& 63)) &&& (1 : Int64)).toInt32).toInt8.toInt32) dX1_put_35 rfl ?_
      refine t_chkK hk (fun c0 hk => ?_)
      refine t_bastK dX1_put_36 qa_858 (t_ixv c0) (fun s1 ws1 => t_letE hk ws1 (fun hk => ?_))
      refine mj_aload_n dX1_put_37 0 rfl ?_
      refine mj_dup dX1_put_38 rfl ?_
      refine t_getI dX1_put_39 F_X1_132 qf_856_5 ?_
      refine mj_iconst (v := 1) dX1_put_42 (by decide) ?_
      refine mj_iadd dX1_put_43 ?_
      refine t_putIK dX1_put_44 F_X1_132 qf_856_5 rfl (fun s2 ws2 => t_letE hk ws2 (fun hk => ?_))
      refine mj_iinc (k := 2) (v := (l4 + (-1))) (lv2 := [(4, .int (l4 + (-1))), (0, .ref 856), (1, .long l1)]) dX1_put_47 rfl rfl (by decide) rfl ?_
      refine mj_goto 5 dX1_put_50 (by decide) ?_
      refine mj_sublv [(0, .ref 856), (1, .long l1), (4, .int (l4 + (-1)))] [1, 2, 0] rfl ?_
      exact t_somK hk (fun hf => Hb5 l1 (l4 + (-1)) s2 hf)
noncomputable def b_X1_put_5 (x : Int64 × Int32 × t_S) : Option ((Int64 × Int32 × t_S) ⊕ (t_S)) := k_X1_put_5 x.1 x.2.1 x.2.2
set_option maxRecDepth 4000 in
set_option maxHeartbeats 1000000 in
theorem LH_X1_put_5 {D : va_G} {cy : Nat → ClassId} {ad : Nat → Nat} {bs : Nat} {X : State → Heap → Prop} : ∀ (n : Nat) (y0 : Int64) (y1 : Int32) (y2 : t_S) (Q : t_S → Prop) (hk : t_hk (t_loop (b_X1_put_5) n (y0, y1, y2)) Q), mj_G D cy ad bs X cX1_put 5 yX1_put.cls none yX1_put.name 0 0 0 1065 (t_P (fun v s' => v = none ∧ Q (s'))) 5 [(0, .ref 856), (1, .long (y0)), (4, .int (y1))] [] (t_m y2) 1065 0 0 := by
  intro n
  induction n with
  | zero => intro y0 y1 y2 Q hk; obtain ⟨r, hr, _⟩ := hk; cases hr
  | succ n ih =>
    intro y0 y1 y2 Q hk
    exact B_X1_put_5 y0 y1 y2 (fun y => t_lq (b_X1_put_5) n Q y) (fun y0' y1' y2' hy => ih y0' y1' y2' Q hy) (t_lp hk)
noncomputable def f_X1_put (x1 : Int64) (x2 : Int32) (s : t_S) : Option (t_S) :=
 t_loop (b_X1_put_5) t_N (x1, (x2 - (1 : Int32)), s)
set_option maxRecDepth 4000 in
set_option maxHeartbeats 1000000 in
theorem C_X1_put (x1 : Int64) (x2 : Int32) (s : t_S) (r : t_S) (hr : f_X1_put x1 x2 s = some r) : t_C yX1_put cX1_put 5 none 0 [.ref 856, .long x1, .int x2] s (fun v s' => v = none ∧ s' = r) := by
  refine t_C.imp (P := fun v s' => v = none ∧ (fun q => q = r) (s')) (t_C.of (by decide +kernel) (Nat.le_of_ble_eq_true rfl) ?_) (fun v s' hp => hp)
  intro D cy ad bs X
  have hk : t_hk (f_X1_put x1 x2 s) (fun q => q = r) := ⟨r, hr, rfl⟩
  show mj_G D cy ad bs X cX1_put 5 yX1_put.cls none yX1_put.name 0 0 0 1065 (t_P (fun v s' => v = none ∧ (fun q => q = r) (s'))) 0 [(0, .ref 856), (1, .long x1), (3, .int x2)] [] (t_m s) 1065 0 0
  refine mj_iload_n dX1_put_0 2 rfl ?_
  refine mj_iconst (v := 1) dX1_put_1 (by decide) ?_
  refine mj_isub dX1_put_2 ?_
  refine mj_istore (lv2 := [(4, .int (x2 - (1 : Int32))), (0, .ref 856), (1, .long x1), (3, .int x2)]) dX1_put_3 (by decide) rfl ?_
  refine mj_sublv [(0, .ref 856), (1, .long x1), (4, .int (x2 - (1 : Int32)))] [1, 2, 0] rfl ?_
  exact LH_X1_put_5 _ x1 (x2 - (1 : Int32)) s _ hk

theorem dX12_bits_0 : decode cX12_bits 0 = .ok (.iload_n 2, 1) := by decide +kernel
theorem dX12_bits_1 : decode cX12_bits 1 = .ok (.ifCond .lt 9, 3) := by decide +kernel
theorem dX12_bits_10 : decode cX12_bits 10 = .ok (.iconst (-1), 1) := by decide +kernel
theorem dX12_bits_11 : decode cX12_bits 11 = .ok (.ireturn, 1) := by decide +kernel
theorem dX12_bits_12 : decode cX12_bits 12 = .ok (.aload_n 0, 1) := by decide +kernel
theorem dX12_bits_13 : decode cX12_bits 13 = .ok (.getfield 75, 3) := by decide +kernel
theorem dX12_bits_16 : decode cX12_bits 16 = .ok (.getfield 148, 3) := by decide +kernel
theorem dX12_bits_19 : decode cX12_bits 19 = .ok (.iload_n 2, 1) := by decide +kernel
theorem dX12_bits_20 : decode cX12_bits 20 = .ok (.iadd, 1) := by decide +kernel
theorem dX12_bits_21 : decode cX12_bits 21 = .ok (.sipush 8000, 3) := by decide +kernel
theorem dX12_bits_24 : decode cX12_bits 24 = .ok (.if_icmp .le 6, 3) := by decide +kernel
theorem dX12_bits_27 : decode cX12_bits 27 = .ok (.bipush (-3), 2) := by decide +kernel
theorem dX12_bits_29 : decode cX12_bits 29 = .ok (.ireturn, 1) := by decide +kernel
theorem dX12_bits_30 : decode cX12_bits 30 = .ok (.aload_n 0, 1) := by decide +kernel
theorem dX12_bits_31 : decode cX12_bits 31 = .ok (.getfield 75, 3) := by decide +kernel
theorem dX12_bits_34 : decode cX12_bits 34 = .ok (.iload_n 1, 1) := by decide +kernel
theorem dX12_bits_35 : decode cX12_bits 35 = .ok (.i2l, 1) := by decide +kernel
theorem dX12_bits_36 : decode cX12_bits 36 = .ok (.iload_n 2, 1) := by decide +kernel
theorem dX12_bits_37 : decode cX12_bits 37 = .ok (.invokevirtual 255, 3) := by decide +kernel
theorem dX12_bits_4 : decode cX12_bits 4 = .ok (.iload_n 2, 1) := by decide +kernel
theorem dX12_bits_40 : decode cX12_bits 40 = .ok (.aload_n 0, 1) := by decide +kernel
theorem dX12_bits_41 : decode cX12_bits 41 = .ok (.getfield 75, 3) := by decide +kernel
theorem dX12_bits_44 : decode cX12_bits 44 = .ok (.getfield 148, 3) := by decide +kernel
theorem dX12_bits_47 : decode cX12_bits 47 = .ok (.ireturn, 1) := by decide +kernel
theorem dX12_bits_5 : decode cX12_bits 5 = .ok (.bipush 32, 2) := by decide +kernel
theorem dX12_bits_7 : decode cX12_bits 7 = .ok (.if_icmp .le 5, 3) := by decide +kernel
noncomputable def f_X12_bits (x1 : Int32) (x2 : Int32) (s : t_S) : Option (Int32 × t_S) :=
 if x2 < (0 : Int32) then (some ((-1 : Int32), s))
 else (if x2 ≤ (32 : Int32) then (if ((s.1 856 5) + x2) ≤ (8000 : Int32) then ((f_X1_put x1.toInt64 x2 s).bind (fun r1 =>
 some ((r1.1 856 5), r1)))
 else (some ((-3 : Int32), s)))
 else (some ((-1 : Int32), s)))
set_option maxRecDepth 4000 in
set_option maxHeartbeats 1000000 in
theorem C_X12_bits (x1 : Int32) (x2 : Int32) (s : t_S) (r : Int32 × t_S) (hr : f_X12_bits x1 x2 s = some r) : t_C yX12_bits cX12_bits 3 (some .int) 1 [.ref 0, .int x1, .int x2] s (fun v s' => v = some (.int r.1) ∧ s' = r.2) := by
  refine t_C.imp (P := fun v s' => ∃ x, v = some (.int x) ∧ (fun q => q = r) ((x, s'))) (t_C.of (by decide +kernel) (Nat.le_of_ble_eq_true rfl) ?_) (fun v s' hp => by obtain ⟨x, rfl, rfl⟩ := hp; exact ⟨rfl, rfl⟩)
  intro D cy ad bs X
  have hk : t_hk (f_X12_bits x1 x2 s) (fun q => q = r) := ⟨r, hr, rfl⟩
  show mj_G D cy ad bs X cX12_bits 3 yX12_bits.cls (some .int) yX12_bits.name 1 0 0 1065 (t_P (fun v s' => ∃ x, v = some (.int x) ∧ (fun q => q = r) ((x, s')))) 0 [(0, .ref 0), (1, .int x1), (2, .int x2)] [] (t_m s) 1065 0 0
  refine mj_iload_n dX12_bits_0 2 rfl ?_
  refine mj_if_lt 10 dX12_bits_1 (by decide) (fun z => t_posK hk z (fun hk => ?_)) (fun z => t_negK hk z (fun hk => ?_))
  · refine mj_iconst (v := (-1)) dX12_bits_10 (by decide) ?_
    exact t_somK hk (fun hf => t_iret dX12_bits_11 rfl rfl ⟨_, rfl, hf⟩ (Nat.le_of_ble_eq_true rfl) (Nat.le_of_ble_eq_true rfl))
  · refine mj_iload_n dX12_bits_4 2 rfl ?_
    refine mj_bipush (v := 32) dX12_bits_5 (by decide) ?_
    refine mj_icmp_le 12 dX12_bits_7 (by decide) (fun z => t_posK hk z (fun hk => ?_)) (fun z => t_negK hk z (fun hk => ?_))
    · refine mj_aload_n dX12_bits_12 0 rfl ?_
      refine t_getR 856 dX12_bits_13 F_X12_75 qr_0_7 ?_
      refine t_getI dX12_bits_16 F_X12_148 qf_856_5 ?_
      refine mj_iload_n dX12_bits_19 2 rfl ?_
      refine mj_iadd dX12_bits_20 ?_
      refine mj_sipush (v := 8000) dX12_bits_21 (by decide) ?_
      refine mj_icmp_le 30 dX12_bits_24 (by decide) (fun z => t_posK hk z (fun hk => ?_)) (fun z => t_negK hk z (fun hk => ?_))
      · refine mj_aload_n dX12_bits_30 0 rfl ?_
        refine t_getR 856 dX12_bits_31 F_X12_75 qr_0_7 ?_
        refine mj_iload_n dX12_bits_34 1 rfl ?_
        refine mj_i2l (v := x1.toInt64) dX12_bits_35 rfl ?_
        refine mj_iload_n dX12_bits_36 2 rfl ?_
        refine t_bndK hk (fun r1 er1 hk => ?_)
        refine t_callVvE dX12_bits_37 M_X1_put (C_X1_put _ _ _ _ er1) ML_X12_255 IM_X1_put SE_X1_put qc_856 rfl (As := [.long x1.toInt64, .int x2]) rfl rfl (Nat.le_of_ble_eq_true rfl) (Nat.le_of_ble_eq_true rfl) (Nat.le_of_ble_eq_true rfl) (Nat.le_of_ble_eq_true rfl) ?_
        refine mj_aload_n dX12_bits_40 0 rfl ?_
        refine t_getR 856 dX12_bits_41 F_X12_75 qr_0_7 ?_
        refine t_getI dX12_bits_44 F_X12_148 qf_856_5 ?_
        exact t_somK hk (fun hf => t_iret dX12_bits_47 rfl rfl ⟨_, rfl, hf⟩ (Nat.le_of_ble_eq_true rfl) (Nat.le_of_ble_eq_true rfl))
      · refine mj_bipush (v := (-3)) dX12_bits_27 (by decide) ?_
        exact t_somK hk (fun hf => t_iret dX12_bits_29 rfl rfl ⟨_, rfl, hf⟩ (Nat.le_of_ble_eq_true rfl) (Nat.le_of_ble_eq_true rfl))
    · refine mj_iconst (v := (-1)) dX12_bits_10 (by decide) ?_
      exact t_somK hk (fun hf => t_iret dX12_bits_11 rfl rfl ⟨_, rfl, hf⟩ (Nat.le_of_ble_eq_true rfl) (Nat.le_of_ble_eq_true rfl))

theorem dX12_clock_0 : decode cX12_clock 0 = .ok (.aload_n 0, 1) := by decide +kernel
theorem dX12_clock_1 : decode cX12_clock 1 = .ok (.getfield 84, 3) := by decide +kernel
theorem dX12_clock_10 : decode cX12_clock 10 = .ok (.iload_n 1, 1) := by decide +kernel
theorem dX12_clock_11 : decode cX12_clock 11 = .ok (.ifCond .lt 10, 3) := by decide +kernel
theorem dX12_clock_14 : decode cX12_clock 14 = .ok (.iload_n 1, 1) := by decide +kernel
theorem dX12_clock_15 : decode cX12_clock 15 = .ok (.ldc_w 279, 3) := by decide +kernel
theorem dX12_clock_18 : decode cX12_clock 18 = .ok (.if_icmp .le 5, 3) := by decide +kernel
theorem dX12_clock_21 : decode cX12_clock 21 = .ok (.iconst (-1), 1) := by decide +kernel
theorem dX12_clock_22 : decode cX12_clock 22 = .ok (.ireturn, 1) := by decide +kernel
theorem dX12_clock_23 : decode cX12_clock 23 = .ok (.aload_n 0, 1) := by decide +kernel
theorem dX12_clock_24 : decode cX12_clock 24 = .ok (.getfield 84, 3) := by decide +kernel
theorem dX12_clock_27 : decode cX12_clock 27 = .ok (.getfield 280, 3) := by decide +kernel
theorem dX12_clock_30 : decode cX12_clock 30 = .ok (.iload_n 1, 1) := by decide +kernel
theorem dX12_clock_31 : decode cX12_clock 31 = .ok (.i2l, 1) := by decide +kernel
theorem dX12_clock_32 : decode cX12_clock 32 = .ok (.ladd, 1) := by decide +kernel
theorem dX12_clock_33 : decode cX12_clock 33 = .ok (.ldc2_w 284, 3) := by decide +kernel
theorem dX12_clock_36 : decode cX12_clock 36 = .ok (.lcmp, 1) := by decide +kernel
theorem dX12_clock_37 : decode cX12_clock 37 = .ok (.ifCond .le 5, 3) := by decide +kernel
theorem dX12_clock_4 : decode cX12_clock 4 = .ok (.getfield 277, 3) := by decide +kernel
theorem dX12_clock_40 : decode cX12_clock 40 = .ok (.iconst 0, 1) := by decide +kernel
theorem dX12_clock_41 : decode cX12_clock 41 = .ok (.ireturn, 1) := by decide +kernel
theorem dX12_clock_42 : decode cX12_clock 42 = .ok (.aload_n 0, 1) := by decide +kernel
theorem dX12_clock_43 : decode cX12_clock 43 = .ok (.getfield 84, 3) := by decide +kernel
theorem dX12_clock_46 : decode cX12_clock 46 = .ok (.dup, 1) := by decide +kernel
theorem dX12_clock_47 : decode cX12_clock 47 = .ok (.getfield 280, 3) := by decide +kernel
theorem dX12_clock_50 : decode cX12_clock 50 = .ok (.iload_n 1, 1) := by decide +kernel
theorem dX12_clock_51 : decode cX12_clock 51 = .ok (.i2l, 1) := by decide +kernel
theorem dX12_clock_52 : decode cX12_clock 52 = .ok (.ladd, 1) := by decide +kernel
theorem dX12_clock_53 : decode cX12_clock 53 = .ok (.putfield 280, 3) := by decide +kernel
theorem dX12_clock_56 : decode cX12_clock 56 = .ok (.iconst 1, 1) := by decide +kernel
theorem dX12_clock_57 : decode cX12_clock 57 = .ok (.ireturn, 1) := by decide +kernel
theorem dX12_clock_7 : decode cX12_clock 7 = .ok (.ifCond .eq 14, 3) := by decide +kernel
noncomputable def f_X12_clock (x1 : Int32) (s : t_S) : Option (Int32 × t_S) :=
 if (s.1 864 8) = (0 : Int32) then (some ((-1 : Int32), s))
 else (if x1 < (0 : Int32) then (some ((-1 : Int32), s))
 else (if x1 ≤ (1000000000 : Int32) then (if (lg_cmp ((s.2.1 864 7) + x1.toInt64) (1000000000000 : Int64)) ≤ (0 : Int32) then (t_let (t_setJ s 864 7 ((s.2.1 864 7) + x1.toInt64)) (fun s1 =>
 some ((1 : Int32), s1)))
 else (some ((0 : Int32), s)))
 else (some ((-1 : Int32), s))))
set_option maxRecDepth 4000 in
set_option maxHeartbeats 1000000 in
theorem C_X12_clock (x1 : Int32) (s : t_S) (r : Int32 × t_S) (hr : f_X12_clock x1 s = some r) : t_C yX12_clock cX12_clock 2 (some .int) 0 [.ref 0, .int x1] s (fun v s' => v = some (.int r.1) ∧ s' = r.2) := by
  refine t_C.imp (P := fun v s' => ∃ x, v = some (.int x) ∧ (fun q => q = r) ((x, s'))) (t_C.of (by decide +kernel) (Nat.le_of_ble_eq_true rfl) ?_) (fun v s' hp => by obtain ⟨x, rfl, rfl⟩ := hp; exact ⟨rfl, rfl⟩)
  intro D cy ad bs X
  have hk : t_hk (f_X12_clock x1 s) (fun q => q = r) := ⟨r, hr, rfl⟩
  show mj_G D cy ad bs X cX12_clock 2 yX12_clock.cls (some .int) yX12_clock.name 0 0 0 1065 (t_P (fun v s' => ∃ x, v = some (.int x) ∧ (fun q => q = r) ((x, s')))) 0 [(0, .ref 0), (1, .int x1)] [] (t_m s) 1065 0 0
  refine mj_aload_n dX12_clock_0 0 rfl ?_
  refine t_getR 864 dX12_clock_1 F_X12_84 qr_0_8 ?_
  refine t_getI dX12_clock_4 F_X12_277 qf_864_8 ?_
  refine mj_if_eq 21 dX12_clock_7 (by decide) (fun z => t_posK hk z (fun hk => ?_)) (fun z => t_negK hk z (fun hk => ?_))
  · refine mj_iconst (v := (-1)) dX12_clock_21 (by decide) ?_
    exact t_somK hk (fun hf => t_iret dX12_clock_22 rfl rfl ⟨_, rfl, hf⟩ (Nat.le_of_ble_eq_true rfl) (Nat.le_of_ble_eq_true rfl))
  · refine mj_iload_n dX12_clock_10 1 rfl ?_
    refine mj_if_lt 21 dX12_clock_11 (by decide) (fun z => t_posK hk z (fun hk => ?_)) (fun z => t_negK hk z (fun hk => ?_))
    · refine mj_iconst (v := (-1)) dX12_clock_21 (by decide) ?_
      exact t_somK hk (fun hf => t_iret dX12_clock_22 rfl rfl ⟨_, rfl, hf⟩ (Nat.le_of_ble_eq_true rfl) (Nat.le_of_ble_eq_true rfl))
    · refine mj_iload_n dX12_clock_14 1 rfl ?_
      refine mj_ldcw dX12_clock_15 K_X12_279 ?_
      refine mj_icmp_le 23 dX12_clock_18 (by decide) (fun z => t_posK hk z (fun hk => ?_)) (fun z => t_negK hk z (fun hk => ?_))
      · refine mj_aload_n dX12_clock_23 0 rfl ?_
        refine t_getR 864 dX12_clock_24 F_X12_84 qr_0_8 ?_
        refine t_getJ dX12_clock_27 F_X12_280 qf_864_7 ?_
        refine mj_iload_n dX12_clock_30 1 rfl ?_
        refine mj_i2l (v := x1.toInt64) dX12_clock_31 rfl ?_
        refine mj_ladd dX12_clock_32 ?_
        refine mj_ldc2 dX12_clock_33 K_X12_284 ?_
        refine mj_lcmp dX12_clock_36 ?_
        refine mj_if_le 42 dX12_clock_37 (by decide) (fun z => t_posK hk z (fun hk => ?_)) (fun z => t_negK hk z (fun hk => ?_))
        · refine mj_aload_n dX12_clock_42 0 rfl ?_
          refine t_getR 864 dX12_clock_43 F_X12_84 qr_0_8 ?_
          refine mj_dup dX12_clock_46 rfl ?_
          refine t_getJ dX12_clock_47 F_X12_280 qf_864_7 ?_
          refine mj_iload_n dX12_clock_50 1 rfl ?_
          refine mj_i2l (v := x1.toInt64) dX12_clock_51 rfl ?_
          refine mj_ladd dX12_clock_52 ?_
          refine t_putJK dX12_clock_53 F_X12_280 qf_864_7 rfl (fun s1 ws1 => t_letE hk ws1 (fun hk => ?_))
          refine mj_iconst (v := 1) dX12_clock_56 (by decide) ?_
          exact t_somK hk (fun hf => t_iret dX12_clock_57 rfl rfl ⟨_, rfl, hf⟩ (Nat.le_of_ble_eq_true rfl) (Nat.le_of_ble_eq_true rfl))
        · refine mj_iconst (v := 0) dX12_clock_40 (by decide) ?_
          exact t_somK hk (fun hf => t_iret dX12_clock_41 rfl rfl ⟨_, rfl, hf⟩ (Nat.le_of_ble_eq_true rfl) (Nat.le_of_ble_eq_true rfl))
      · refine mj_iconst (v := (-1)) dX12_clock_21 (by decide) ?_
        exact t_somK hk (fun hf => t_iret dX12_clock_22 rfl rfl ⟨_, rfl, hf⟩ (Nat.le_of_ble_eq_true rfl) (Nat.le_of_ble_eq_true rfl))

theorem dX12_count_0 : decode cX12_count 0 = .ok (.iload_n 1, 1) := by decide +kernel
theorem dX12_count_1 : decode cX12_count 1 = .ok (.tableswitch 207 0 10 #[59, 64, 69, 77, 96, 115, 134, 153, 172, 191, 199], 59) := by decide +kernel
theorem dX12_count_101 : decode cX12_count 101 = .ok (.ifCond .eq 13, 3) := by decide +kernel
theorem dX12_count_104 : decode cX12_count 104 = .ok (.aload_n 0, 1) := by decide +kernel
theorem dX12_count_105 : decode cX12_count 105 = .ok (.getfield 44, 3) := by decide +kernel
theorem dX12_count_108 : decode cX12_count 108 = .ok (.getfield 135, 3) := by decide +kernel
theorem dX12_count_111 : decode cX12_count 111 = .ok (.goto 4, 3) := by decide +kernel
theorem dX12_count_114 : decode cX12_count 114 = .ok (.iconst 0, 1) := by decide +kernel
theorem dX12_count_115 : decode cX12_count 115 = .ok (.ireturn, 1) := by decide +kernel
theorem dX12_count_116 : decode cX12_count 116 = .ok (.aload_n 0, 1) := by decide +kernel
theorem dX12_count_117 : decode cX12_count 117 = .ok (.getfield 121, 3) := by decide +kernel
theorem dX12_count_120 : decode cX12_count 120 = .ok (.ifCond .eq 13, 3) := by decide +kernel
theorem dX12_count_123 : decode cX12_count 123 = .ok (.aload_n 0, 1) := by decide +kernel
theorem dX12_count_124 : decode cX12_count 124 = .ok (.getfield 52, 3) := by decide +kernel
theorem dX12_count_127 : decode cX12_count 127 = .ok (.getfield 136, 3) := by decide +kernel
theorem dX12_count_130 : decode cX12_count 130 = .ok (.goto 4, 3) := by decide +kernel
theorem dX12_count_133 : decode cX12_count 133 = .ok (.iconst 0, 1) := by decide +kernel
theorem dX12_count_134 : decode cX12_count 134 = .ok (.ireturn, 1) := by decide +kernel
theorem dX12_count_135 : decode cX12_count 135 = .ok (.aload_n 0, 1) := by decide +kernel
theorem dX12_count_136 : decode cX12_count 136 = .ok (.getfield 121, 3) := by decide +kernel
theorem dX12_count_139 : decode cX12_count 139 = .ok (.ifCond .eq 13, 3) := by decide +kernel
theorem dX12_count_142 : decode cX12_count 142 = .ok (.aload_n 0, 1) := by decide +kernel
theorem dX12_count_143 : decode cX12_count 143 = .ok (.getfield 52, 3) := by decide +kernel
theorem dX12_count_146 : decode cX12_count 146 = .ok (.getfield 139, 3) := by decide +kernel
theorem dX12_count_149 : decode cX12_count 149 = .ok (.goto 4, 3) := by decide +kernel
theorem dX12_count_152 : decode cX12_count 152 = .ok (.iconst 0, 1) := by decide +kernel
theorem dX12_count_153 : decode cX12_count 153 = .ok (.ireturn, 1) := by decide +kernel
theorem dX12_count_154 : decode cX12_count 154 = .ok (.aload_n 0, 1) := by decide +kernel
theorem dX12_count_155 : decode cX12_count 155 = .ok (.getfield 121, 3) := by decide +kernel
theorem dX12_count_158 : decode cX12_count 158 = .ok (.ifCond .eq 13, 3) := by decide +kernel
theorem dX12_count_161 : decode cX12_count 161 = .ok (.aload_n 0, 1) := by decide +kernel
theorem dX12_count_162 : decode cX12_count 162 = .ok (.getfield 52, 3) := by decide +kernel
theorem dX12_count_165 : decode cX12_count 165 = .ok (.getfield 142, 3) := by decide +kernel
theorem dX12_count_168 : decode cX12_count 168 = .ok (.goto 4, 3) := by decide +kernel
theorem dX12_count_171 : decode cX12_count 171 = .ok (.iconst 0, 1) := by decide +kernel
theorem dX12_count_172 : decode cX12_count 172 = .ok (.ireturn, 1) := by decide +kernel
theorem dX12_count_173 : decode cX12_count 173 = .ok (.aload_n 0, 1) := by decide +kernel
theorem dX12_count_174 : decode cX12_count 174 = .ok (.getfield 121, 3) := by decide +kernel
theorem dX12_count_177 : decode cX12_count 177 = .ok (.ifCond .eq 13, 3) := by decide +kernel
theorem dX12_count_180 : decode cX12_count 180 = .ok (.aload_n 0, 1) := by decide +kernel
theorem dX12_count_181 : decode cX12_count 181 = .ok (.getfield 66, 3) := by decide +kernel
theorem dX12_count_184 : decode cX12_count 184 = .ok (.getfield 145, 3) := by decide +kernel
theorem dX12_count_187 : decode cX12_count 187 = .ok (.goto 4, 3) := by decide +kernel
theorem dX12_count_190 : decode cX12_count 190 = .ok (.iconst 0, 1) := by decide +kernel
theorem dX12_count_191 : decode cX12_count 191 = .ok (.ireturn, 1) := by decide +kernel
theorem dX12_count_192 : decode cX12_count 192 = .ok (.aload_n 0, 1) := by decide +kernel
theorem dX12_count_193 : decode cX12_count 193 = .ok (.getfield 19, 3) := by decide +kernel
theorem dX12_count_196 : decode cX12_count 196 = .ok (.getfield 107, 3) := by decide +kernel
theorem dX12_count_199 : decode cX12_count 199 = .ok (.ireturn, 1) := by decide +kernel
theorem dX12_count_200 : decode cX12_count 200 = .ok (.aload_n 0, 1) := by decide +kernel
theorem dX12_count_201 : decode cX12_count 201 = .ok (.getfield 75, 3) := by decide +kernel
theorem dX12_count_204 : decode cX12_count 204 = .ok (.getfield 148, 3) := by decide +kernel
theorem dX12_count_207 : decode cX12_count 207 = .ok (.ireturn, 1) := by decide +kernel
theorem dX12_count_208 : decode cX12_count 208 = .ok (.iconst (-1), 1) := by decide +kernel
theorem dX12_count_209 : decode cX12_count 209 = .ok (.ireturn, 1) := by decide +kernel
theorem dX12_count_60 : decode cX12_count 60 = .ok (.aload_n 0, 1) := by decide +kernel
theorem dX12_count_61 : decode cX12_count 61 = .ok (.getfield 119, 3) := by decide +kernel
theorem dX12_count_64 : decode cX12_count 64 = .ok (.ireturn, 1) := by decide +kernel
theorem dX12_count_65 : decode cX12_count 65 = .ok (.aload_n 0, 1) := by decide +kernel
theorem dX12_count_66 : decode cX12_count 66 = .ok (.getfield 95, 3) := by decide +kernel
theorem dX12_count_69 : decode cX12_count 69 = .ok (.ireturn, 1) := by decide +kernel
theorem dX12_count_70 : decode cX12_count 70 = .ok (.aload_n 0, 1) := by decide +kernel
theorem dX12_count_71 : decode cX12_count 71 = .ok (.getfield 10, 3) := by decide +kernel
theorem dX12_count_74 : decode cX12_count 74 = .ok (.getfield 129, 3) := by decide +kernel
theorem dX12_count_77 : decode cX12_count 77 = .ok (.ireturn, 1) := by decide +kernel
theorem dX12_count_78 : decode cX12_count 78 = .ok (.aload_n 0, 1) := by decide +kernel
theorem dX12_count_79 : decode cX12_count 79 = .ok (.getfield 121, 3) := by decide +kernel
theorem dX12_count_82 : decode cX12_count 82 = .ok (.ifCond .eq 13, 3) := by decide +kernel
theorem dX12_count_85 : decode cX12_count 85 = .ok (.aload_n 0, 1) := by decide +kernel
theorem dX12_count_86 : decode cX12_count 86 = .ok (.getfield 26, 3) := by decide +kernel
theorem dX12_count_89 : decode cX12_count 89 = .ok (.getfield 132, 3) := by decide +kernel
theorem dX12_count_92 : decode cX12_count 92 = .ok (.goto 4, 3) := by decide +kernel
theorem dX12_count_95 : decode cX12_count 95 = .ok (.iconst 0, 1) := by decide +kernel
theorem dX12_count_96 : decode cX12_count 96 = .ok (.ireturn, 1) := by decide +kernel
theorem dX12_count_97 : decode cX12_count 97 = .ok (.aload_n 0, 1) := by decide +kernel
theorem dX12_count_98 : decode cX12_count 98 = .ok (.getfield 121, 3) := by decide +kernel
noncomputable def f_X12_count (x1 : Int32) (s : t_S) : Int32 :=
 if x1.toInt < 0 ∨ 10 < x1.toInt then ((-1 : Int32))
 else if x1.toInt = 0 then ((s.1 0 10))
 else if x1.toInt = 1 then ((s.1 0 11))
 else if x1.toInt = 2 then ((s.1 1 1))
 else if x1.toInt = 3 then (if (s.1 0 12) = (0 : Int32) then ((0 : Int32))
 else ((s.1 316 13)))
 else if x1.toInt = 4 then (if (s.1 0 12) = (0 : Int32) then ((0 : Int32))
 else ((s.1 353 11)))
 else if x1.toInt = 5 then (if (s.1 0 12) = (0 : Int32) then ((0 : Int32))
 else ((s.1 428 0)))
 else if x1.toInt = 6 then (if (s.1 0 12) = (0 : Int32) then ((0 : Int32))
 else ((s.1 428 9)))
 else if x1.toInt = 7 then (if (s.1 0 12) = (0 : Int32) then ((0 : Int32))
 else ((s.1 428 18)))
 else if x1.toInt = 8 then (if (s.1 0 12) = (0 : Int32) then ((0 : Int32))
 else ((s.1 845 11)))
 else if x1.toInt = 9 then ((s.1 12 2))
 else ((s.1 856 5))
set_option maxRecDepth 4000 in
set_option maxHeartbeats 1000000 in
theorem C_X12_count (x1 : Int32) (s : t_S) : t_C yX12_count cX12_count 2 (some .int) 0 [.ref 0, .int x1] s (fun v s' => v = some (.int (f_X12_count x1 s)) ∧ s' = s) := by
  refine t_C.imp (P := fun v s' => s' = s ∧ ∃ x, v = some (.int x) ∧ (fun r => r = f_X12_count x1 s) (x)) (t_C.of (by decide +kernel) (Nat.le_of_ble_eq_true rfl) ?_) (fun v s' hp => by obtain ⟨rfl, x, rfl, rfl⟩ := hp; exact ⟨rfl, rfl⟩)
  intro D cy ad bs X
  have hk : t_ht (f_X12_count x1 s) (fun r => r = f_X12_count x1 s) := rfl
  show mj_G D cy ad bs X cX12_count 2 yX12_count.cls (some .int) yX12_count.name 0 0 0 1065 (t_P (fun v s' => s' = s ∧ ∃ x, v = some (.int x) ∧ (fun r => r = f_X12_count x1 s) (x))) 0 [(0, .ref 0), (1, .int x1)] [] (t_m s) 1065 0 0
  refine mj_iload_n dX12_count_0 1 rfl ?_
  by_cases hout : x1.toInt < 0 ∨ 10 < x1.toInt
  · replace hk := t_posT hk hout
    refine mj_tableOut 208 dX12_count_1 hout (by decide) ?_
    refine mj_iconst (v := (-1)) dX12_count_208 (by decide) ?_
    exact t_iret dX12_count_209 rfl rfl ⟨rfl, _, rfl, hk⟩ (Nat.le_of_ble_eq_true rfl) (Nat.le_of_ble_eq_true rfl)
  · replace hk := t_negT hk hout
    have hh1 : ¬ x1.toInt < 0 := fun z => hout (Or.inl z)
    have hh2 : ¬ (10 : Int) < x1.toInt := fun z => hout (Or.inr z)
    by_cases h0 : x1.toInt = 0
    · replace hk := t_posT hk h0
      refine mj_tableIn 60 dX12_count_1 hh1 hh2 (by rw [h0]; rfl) (by decide) ?_
      refine mj_aload_n dX12_count_60 0 rfl ?_
      refine t_getI dX12_count_61 F_X12_119 qf_0_10 ?_
      exact t_iret dX12_count_64 rfl rfl ⟨rfl, _, rfl, hk⟩ (Nat.le_of_ble_eq_true rfl) (Nat.le_of_ble_eq_true rfl)
    replace hk := t_negT hk h0
    by_cases h1 : x1.toInt = 1
    · replace hk := t_posT hk h1
      refine mj_tableIn 65 dX12_count_1 hh1 hh2 (by rw [h1]; rfl) (by decide) ?_
      refine mj_aload_n dX12_count_65 0 rfl ?_
      refine t_getI dX12_count_66 F_X12_95 qf_0_11 ?_
      exact t_iret dX12_count_69 rfl rfl ⟨rfl, _, rfl, hk⟩ (Nat.le_of_ble_eq_true rfl) (Nat.le_of_ble_eq_true rfl)
    replace hk := t_negT hk h1
    by_cases h2 : x1.toInt = 2
    · replace hk := t_posT hk h2
      refine mj_tableIn 70 dX12_count_1 hh1 hh2 (by rw [h2]; rfl) (by decide) ?_
      refine mj_aload_n dX12_count_70 0 rfl ?_
      refine t_getR 1 dX12_count_71 F_X12_10 qr_0_0 ?_
      refine t_getI dX12_count_74 F_X12_129 qf_1_1 ?_
      exact t_iret dX12_count_77 rfl rfl ⟨rfl, _, rfl, hk⟩ (Nat.le_of_ble_eq_true rfl) (Nat.le_of_ble_eq_true rfl)
    replace hk := t_negT hk h2
    by_cases h3 : x1.toInt = 3
    · replace hk := t_posT hk h3
      refine mj_tableIn 78 dX12_count_1 hh1 hh2 (by rw [h3]; rfl) (by decide) ?_
      refine mj_aload_n dX12_count_78 0 rfl ?_
      refine t_getI dX12_count_79 F_X12_121 qf_0_12 ?_
      refine mj_if_eq 95 dX12_count_82 (by decide) (fun z => t_posTK hk z (fun hk => ?_)) (fun z => t_negTK hk z (fun hk => ?_))
      · refine mj_iconst (v := 0) dX12_count_95 (by decide) ?_
        exact t_iret dX12_count_96 rfl rfl ⟨rfl, _, rfl, hk⟩ (Nat.le_of_ble_eq_true rfl) (Nat.le_of_ble_eq_true rfl)
      · refine mj_aload_n dX12_count_85 0 rfl ?_
        refine t_getR 316 dX12_count_86 F_X12_26 qr_0_2 ?_
        refine t_getI dX12_count_89 F_X12_132 qf_316_13 ?_
        refine mj_goto 96 dX12_count_92 (by decide) ?_
        exact t_iret dX12_count_96 rfl rfl ⟨rfl, _, rfl, hk⟩ (Nat.le_of_ble_eq_true rfl) (Nat.le_of_ble_eq_true rfl)
    replace hk := t_negT hk h3
    by_cases h4 : x1.toInt = 4
    · replace hk := t_posT hk h4
      refine mj_tableIn 97 dX12_count_1 hh1 hh2 (by rw [h4]; rfl) (by decide) ?_
      refine mj_aload_n dX12_count_97 0 rfl ?_
      refine t_getI dX12_count_98 F_X12_121 qf_0_12 ?_
      refine mj_if_eq 114 dX12_count_101 (by decide) (fun z => t_posTK hk z (fun hk => ?_)) (fun z => t_negTK hk z (fun hk => ?_))
      · refine mj_iconst (v := 0) dX12_count_114 (by decide) ?_
        exact t_iret dX12_count_115 rfl rfl ⟨rfl, _, rfl, hk⟩ (Nat.le_of_ble_eq_true rfl) (Nat.le_of_ble_eq_true rfl)
      · refine mj_aload_n dX12_count_104 0 rfl ?_
        refine t_getR 353 dX12_count_105 F_X12_44 qr_0_4 ?_
        refine t_getI dX12_count_108 F_X12_135 qf_353_11 ?_
        refine mj_goto 115 dX12_count_111 (by decide) ?_
        exact t_iret dX12_count_115 rfl rfl ⟨rfl, _, rfl, hk⟩ (Nat.le_of_ble_eq_true rfl) (Nat.le_of_ble_eq_true rfl)
    replace hk := t_negT hk h4
    by_cases h5 : x1.toInt = 5
    · replace hk := t_posT hk h5
      refine mj_tableIn 116 dX12_count_1 hh1 hh2 (by rw [h5]; rfl) (by decide) ?_
      refine mj_aload_n dX12_count_116 0 rfl ?_
      refine t_getI dX12_count_117 F_X12_121 qf_0_12 ?_
      refine mj_if_eq 133 dX12_count_120 (by decide) (fun z => t_posTK hk z (fun hk => ?_)) (fun z => t_negTK hk z (fun hk => ?_))
      · refine mj_iconst (v := 0) dX12_count_133 (by decide) ?_
        exact t_iret dX12_count_134 rfl rfl ⟨rfl, _, rfl, hk⟩ (Nat.le_of_ble_eq_true rfl) (Nat.le_of_ble_eq_true rfl)
      · refine mj_aload_n dX12_count_123 0 rfl ?_
        refine t_getR 428 dX12_count_124 F_X12_52 qr_0_5 ?_
        refine t_getI dX12_count_127 F_X12_136 qf_428_0 ?_
        refine mj_goto 134 dX12_count_130 (by decide) ?_
        exact t_iret dX12_count_134 rfl rfl ⟨rfl, _, rfl, hk⟩ (Nat.le_of_ble_eq_true rfl) (Nat.le_of_ble_eq_true rfl)
    replace hk := t_negT hk h5
    by_cases h6 : x1.toInt = 6
    · replace hk := t_posT hk h6
      refine mj_tableIn 135 dX12_count_1 hh1 hh2 (by rw [h6]; rfl) (by decide) ?_
      refine mj_aload_n dX12_count_135 0 rfl ?_
      refine t_getI dX12_count_136 F_X12_121 qf_0_12 ?_
      refine mj_if_eq 152 dX12_count_139 (by decide) (fun z => t_posTK hk z (fun hk => ?_)) (fun z => t_negTK hk z (fun hk => ?_))
      · refine mj_iconst (v := 0) dX12_count_152 (by decide) ?_
        exact t_iret dX12_count_153 rfl rfl ⟨rfl, _, rfl, hk⟩ (Nat.le_of_ble_eq_true rfl) (Nat.le_of_ble_eq_true rfl)
      · refine mj_aload_n dX12_count_142 0 rfl ?_
        refine t_getR 428 dX12_count_143 F_X12_52 qr_0_5 ?_
        refine t_getI dX12_count_146 F_X12_139 qf_428_9 ?_
        refine mj_goto 153 dX12_count_149 (by decide) ?_
        exact t_iret dX12_count_153 rfl rfl ⟨rfl, _, rfl, hk⟩ (Nat.le_of_ble_eq_true rfl) (Nat.le_of_ble_eq_true rfl)
    replace hk := t_negT hk h6
    by_cases h7 : x1.toInt = 7
    · replace hk := t_posT hk h7
      refine mj_tableIn 154 dX12_count_1 hh1 hh2 (by rw [h7]; rfl) (by decide) ?_
      refine mj_aload_n dX12_count_154 0 rfl ?_
      refine t_getI dX12_count_155 F_X12_121 qf_0_12 ?_
      refine mj_if_eq 171 dX12_count_158 (by decide) (fun z => t_posTK hk z (fun hk => ?_)) (fun z => t_negTK hk z (fun hk => ?_))
      · refine mj_iconst (v := 0) dX12_count_171 (by decide) ?_
        exact t_iret dX12_count_172 rfl rfl ⟨rfl, _, rfl, hk⟩ (Nat.le_of_ble_eq_true rfl) (Nat.le_of_ble_eq_true rfl)
      · refine mj_aload_n dX12_count_161 0 rfl ?_
        refine t_getR 428 dX12_count_162 F_X12_52 qr_0_5 ?_
        refine t_getI dX12_count_165 F_X12_142 qf_428_18 ?_
        refine mj_goto 172 dX12_count_168 (by decide) ?_
        exact t_iret dX12_count_172 rfl rfl ⟨rfl, _, rfl, hk⟩ (Nat.le_of_ble_eq_true rfl) (Nat.le_of_ble_eq_true rfl)
    replace hk := t_negT hk h7
    by_cases h8 : x1.toInt = 8
    · replace hk := t_posT hk h8
      refine mj_tableIn 173 dX12_count_1 hh1 hh2 (by rw [h8]; rfl) (by decide) ?_
      refine mj_aload_n dX12_count_173 0 rfl ?_
      refine t_getI dX12_count_174 F_X12_121 qf_0_12 ?_
      refine mj_if_eq 190 dX12_count_177 (by decide) (fun z => t_posTK hk z (fun hk => ?_)) (fun z => t_negTK hk z (fun hk => ?_))
      · refine mj_iconst (v := 0) dX12_count_190 (by decide) ?_
        exact t_iret dX12_count_191 rfl rfl ⟨rfl, _, rfl, hk⟩ (Nat.le_of_ble_eq_true rfl) (Nat.le_of_ble_eq_true rfl)
      · refine mj_aload_n dX12_count_180 0 rfl ?_
        refine t_getR 845 dX12_count_181 F_X12_66 qr_0_6 ?_
        refine t_getI dX12_count_184 F_X12_145 qf_845_11 ?_
        refine mj_goto 191 dX12_count_187 (by decide) ?_
        exact t_iret dX12_count_191 rfl rfl ⟨rfl, _, rfl, hk⟩ (Nat.le_of_ble_eq_true rfl) (Nat.le_of_ble_eq_true rfl)
    replace hk := t_negT hk h8
    by_cases h9 : x1.toInt = 9
    · replace hk := t_posT hk h9
      refine mj_tableIn 192 dX12_count_1 hh1 hh2 (by rw [h9]; rfl) (by decide) ?_
      refine mj_aload_n dX12_count_192 0 rfl ?_
      refine t_getR 12 dX12_count_193 F_X12_19 qr_0_1 ?_
      refine t_getI dX12_count_196 F_X12_107 qf_12_2 ?_
      exact t_iret dX12_count_199 rfl rfl ⟨rfl, _, rfl, hk⟩ (Nat.le_of_ble_eq_true rfl) (Nat.le_of_ble_eq_true rfl)
    replace hk := t_negT hk h9
    have h10 : x1.toInt = 10 := by omega
    refine mj_tableIn 200 dX12_count_1 hh1 hh2 (by rw [h10]; rfl) (by decide) ?_
    refine mj_aload_n dX12_count_200 0 rfl ?_
    refine t_getR 856 dX12_count_201 F_X12_75 qr_0_7 ?_
    refine t_getI dX12_count_204 F_X12_148 qf_856_5 ?_
    exact t_iret dX12_count_207 rfl rfl ⟨rfl, _, rfl, hk⟩ (Nat.le_of_ble_eq_true rfl) (Nat.le_of_ble_eq_true rfl)

theorem dX12_isType_0 : decode cX12_isType 0 = .ok (.aload_n 0, 1) := by decide +kernel
theorem dX12_isType_1 : decode cX12_isType 1 = .ok (.getfield 121, 3) := by decide +kernel
theorem dX12_isType_11 : decode cX12_isType 11 = .ok (.iload_n 1, 1) := by decide +kernel
theorem dX12_isType_12 : decode cX12_isType 12 = .ok (.aload_n 0, 1) := by decide +kernel
theorem dX12_isType_13 : decode cX12_isType 13 = .ok (.getfield 26, 3) := by decide +kernel
theorem dX12_isType_16 : decode cX12_isType 16 = .ok (.getfield 132, 3) := by decide +kernel
theorem dX12_isType_19 : decode cX12_isType 19 = .ok (.if_icmp .ge 7, 3) := by decide +kernel
theorem dX12_isType_22 : decode cX12_isType 22 = .ok (.iconst 1, 1) := by decide +kernel
theorem dX12_isType_23 : decode cX12_isType 23 = .ok (.goto 4, 3) := by decide +kernel
theorem dX12_isType_26 : decode cX12_isType 26 = .ok (.iconst 0, 1) := by decide +kernel
theorem dX12_isType_27 : decode cX12_isType 27 = .ok (.ireturn, 1) := by decide +kernel
theorem dX12_isType_4 : decode cX12_isType 4 = .ok (.ifCond .eq 22, 3) := by decide +kernel
theorem dX12_isType_7 : decode cX12_isType 7 = .ok (.iload_n 1, 1) := by decide +kernel
theorem dX12_isType_8 : decode cX12_isType 8 = .ok (.ifCond .lt 18, 3) := by decide +kernel
noncomputable def f_X12_isType (x1 : Int32) (s : t_S) : Int32 :=
 if (s.1 0 12) = (0 : Int32) then ((0 : Int32))
 else (if x1 < (0 : Int32) then ((0 : Int32))
 else (if (s.1 316 13) ≤ x1 then ((0 : Int32))
 else ((1 : Int32))))
set_option maxRecDepth 4000 in
set_option maxHeartbeats 1000000 in
theorem C_X12_isType (x1 : Int32) (s : t_S) : t_C yX12_isType cX12_isType 2 (some .boolean) 0 [.ref 0, .int x1] s (fun v s' => v = some (.int (f_X12_isType x1 s)) ∧ s' = s) := by
  refine t_C.imp (P := fun v s' => s' = s ∧ ∃ x, v = some (.int x) ∧ (fun r => r = f_X12_isType x1 s) (x)) (t_C.of (by decide +kernel) (Nat.le_of_ble_eq_true rfl) ?_) (fun v s' hp => by obtain ⟨rfl, x, rfl, rfl⟩ := hp; exact ⟨rfl, rfl⟩)
  intro D cy ad bs X
  have hk : t_ht (f_X12_isType x1 s) (fun r => r = f_X12_isType x1 s) := rfl
  show mj_G D cy ad bs X cX12_isType 2 yX12_isType.cls (some .boolean) yX12_isType.name 0 0 0 1065 (t_P (fun v s' => s' = s ∧ ∃ x, v = some (.int x) ∧ (fun r => r = f_X12_isType x1 s) (x))) 0 [(0, .ref 0), (1, .int x1)] [] (t_m s) 1065 0 0
  refine mj_aload_n dX12_isType_0 0 rfl ?_
  refine t_getI dX12_isType_1 F_X12_121 qf_0_12 ?_
  refine mj_if_eq 26 dX12_isType_4 (by decide) (fun z => t_posTK hk z (fun hk => ?_)) (fun z => t_negTK hk z (fun hk => ?_))
  · refine mj_iconst (v := 0) dX12_isType_26 (by decide) ?_
    exact t_iret dX12_isType_27 rfl (by decide) ⟨rfl, _, rfl, hk⟩ (Nat.le_of_ble_eq_true rfl) (Nat.le_of_ble_eq_true rfl)
  · refine mj_iload_n dX12_isType_7 1 rfl ?_
    refine mj_if_lt 26 dX12_isType_8 (by decide) (fun z => t_posTK hk z (fun hk => ?_)) (fun z => t_negTK hk z (fun hk => ?_))
    · refine mj_iconst (v := 0) dX12_isType_26 (by decide) ?_
      exact t_iret dX12_isType_27 rfl (by decide) ⟨rfl, _, rfl, hk⟩ (Nat.le_of_ble_eq_true rfl) (Nat.le_of_ble_eq_true rfl)
    · refine mj_iload_n dX12_isType_11 1 rfl ?_
      refine mj_aload_n dX12_isType_12 0 rfl ?_
      refine t_getR 316 dX12_isType_13 F_X12_26 qr_0_2 ?_
      refine t_getI dX12_isType_16 F_X12_132 qf_316_13 ?_
      refine mj_icmp_ge 26 dX12_isType_19 (by decide) (fun z => t_posTK hk z (fun hk => ?_)) (fun z => t_negTK hk z (fun hk => ?_))
      · refine mj_iconst (v := 0) dX12_isType_26 (by decide) ?_
        exact t_iret dX12_isType_27 rfl (by decide) ⟨rfl, _, rfl, hk⟩ (Nat.le_of_ble_eq_true rfl) (Nat.le_of_ble_eq_true rfl)
      · refine mj_iconst (v := 1) dX12_isType_22 (by decide) ?_
        refine mj_goto 27 dX12_isType_23 (by decide) ?_
        exact t_iret dX12_isType_27 rfl (by decide) ⟨rfl, _, rfl, hk⟩ (Nat.le_of_ble_eq_true rfl) (Nat.le_of_ble_eq_true rfl)

theorem dX1_fieldAt_0 : decode cX1_fieldAt 0 = .ok (.aload_n 0, 1) := by decide +kernel
theorem dX1_fieldAt_1 : decode cX1_fieldAt 1 = .ok (.getfield 39, 3) := by decide +kernel
theorem dX1_fieldAt_10 : decode cX1_fieldAt 10 = .ok (.iconst 0, 1) := by decide +kernel
theorem dX1_fieldAt_11 : decode cX1_fieldAt 11 = .ok (.istore 4, 2) := by decide +kernel
theorem dX1_fieldAt_13 : decode cX1_fieldAt 13 = .ok (.iload 4, 2) := by decide +kernel
theorem dX1_fieldAt_15 : decode cX1_fieldAt 15 = .ok (.iload_n 2, 1) := by decide +kernel
theorem dX1_fieldAt_16 : decode cX1_fieldAt 16 = .ok (.if_icmp .ge 23, 3) := by decide +kernel
theorem dX1_fieldAt_19 : decode cX1_fieldAt 19 = .ok (.iload_n 3, 1) := by decide +kernel
theorem dX1_fieldAt_20 : decode cX1_fieldAt 20 = .ok (.ifCond .lt 19, 3) := by decide +kernel
theorem dX1_fieldAt_23 : decode cX1_fieldAt 23 = .ok (.aload_n 0, 1) := by decide +kernel
theorem dX1_fieldAt_24 : decode cX1_fieldAt 24 = .ok (.getfield 39, 3) := by decide +kernel
theorem dX1_fieldAt_27 : decode cX1_fieldAt 27 = .ok (.getfield 198, 3) := by decide +kernel
theorem dX1_fieldAt_30 : decode cX1_fieldAt 30 = .ok (.iload_n 3, 1) := by decide +kernel
theorem dX1_fieldAt_31 : decode cX1_fieldAt 31 = .ok (.iaload, 1) := by decide +kernel
theorem dX1_fieldAt_32 : decode cX1_fieldAt 32 = .ok (.istore_n 3, 1) := by decide +kernel
theorem dX1_fieldAt_33 : decode cX1_fieldAt 33 = .ok (.iinc 4 1, 3) := by decide +kernel
theorem dX1_fieldAt_36 : decode cX1_fieldAt 36 = .ok (.goto (-23), 3) := by decide +kernel
theorem dX1_fieldAt_39 : decode cX1_fieldAt 39 = .ok (.iload_n 3, 1) := by decide +kernel
theorem dX1_fieldAt_4 : decode cX1_fieldAt 4 = .ok (.getfield 181, 3) := by decide +kernel
theorem dX1_fieldAt_40 : decode cX1_fieldAt 40 = .ok (.ireturn, 1) := by decide +kernel
theorem dX1_fieldAt_7 : decode cX1_fieldAt 7 = .ok (.iload_n 1, 1) := by decide +kernel
theorem dX1_fieldAt_8 : decode cX1_fieldAt 8 = .ok (.iaload, 1) := by decide +kernel
theorem dX1_fieldAt_9 : decode cX1_fieldAt 9 = .ok (.istore_n 3, 1) := by decide +kernel
noncomputable def k_X1_fieldAt_13 (l2 : Int32) (l3 : Int32) (l4 : Int32) (s : t_S) : Option ((Int32 × Int32 × Int32) ⊕ (Int32)) :=
 if l2 ≤ l4 then ((some (l3)).map Sum.inr)
 else (if l3 < (0 : Int32) then ((some (l3)).map Sum.inr)
 else (if t_ix l3 3001 = true then
  some (.inl (l2, (s.1 319 (l3.toNatClampNeg)), (l4 + 1)))
else none))
set_option maxRecDepth 4000 in
set_option maxHeartbeats 1000000 in
theorem B_X1_fieldAt_13 {D : va_G} {cy : Nat → ClassId} {ad : Nat → Nat} {bs : Nat} {X : State → Heap → Prop} (l2 : Int32) (l3 : Int32) (l4 : Int32) (s : t_S) (Q : (Int32 × Int32 × Int32) ⊕ (Int32) → Prop) (Hb13 : ∀ (y0 : Int32) (y1 : Int32) (y2 : Int32), Q (.inl (y0, y1, y2)) → mj_G D cy ad bs X cX1_fieldAt 5 yX1_fieldAt.cls (some .int) yX1_fieldAt.name 0 0 0 1065 (t_P (fun v s' => s' = s ∧ ∃ x, v = some (.int x) ∧ Q (.inr (x)))) 13 [(0, .ref 856), (2, .int (y0)), (3, .int (y1)), (4, .int (y2))] [] (t_m s) 1065 0 0) (hk : t_hk (k_X1_fieldAt_13 l2 l3 l4 s) Q) : mj_G D cy ad bs X cX1_fieldAt 5 yX1_fieldAt.cls (some .int) yX1_fieldAt.name 0 0 0 1065 (t_P (fun v s' => s' = s ∧ ∃ x, v = some (.int x) ∧ Q (.inr (x)))) 13 [(0, .ref 856), (2, .int l2), (3, .int l3), (4, .int l4)] [] (t_m s) 1065 0 0 := by
  refine mj_iload dX1_fieldAt_13 3 rfl ?_
  refine mj_iload_n dX1_fieldAt_15 1 rfl ?_
  refine mj_icmp_ge 39 dX1_fieldAt_16 (by decide) (fun z => t_posK hk z (fun hk => ?_)) (fun z => t_negK hk z (fun hk => ?_))
  · refine t_mapK hk (fun hk => ?_)
    refine mj_iload_n dX1_fieldAt_39 2 rfl ?_
    exact t_somK hk (fun hf => t_iret dX1_fieldAt_40 rfl rfl ⟨rfl, _, rfl, hf⟩ (Nat.le_of_ble_eq_true rfl) (Nat.le_of_ble_eq_true rfl))
  · refine mj_iload_n dX1_fieldAt_19 2 rfl ?_
    refine mj_if_lt 39 dX1_fieldAt_20 (by decide) (fun z => t_posK hk z (fun hk => ?_)) (fun z => t_negK hk z (fun hk => ?_))
    · refine t_mapK hk (fun hk => ?_)
      refine mj_iload_n dX1_fieldAt_39 2 rfl ?_
      exact t_somK hk (fun hf => t_iret dX1_fieldAt_40 rfl rfl ⟨rfl, _, rfl, hf⟩ (Nat.le_of_ble_eq_true rfl) (Nat.le_of_ble_eq_true rfl))
    · refine mj_aload_n dX1_fieldAt_23 0 rfl ?_
      refine t_getR 316 dX1_fieldAt_24 F_X1_39 qr_856_1 ?_
      refine t_getR 319 dX1_fieldAt_27 F_X1_198 qr_316_2 ?_
      refine mj_iload_n dX1_fieldAt_30 2 rfl ?_
      refine t_chkK hk (fun c0 hk => ?_)
      refine t_iald dX1_fieldAt_31 qa_319 (t_ixv c0) ?_
      refine mj_istore_n 3 (lv2 := [(3, .int (s.1 319 (l3.toNatClampNeg))), (0, .ref 856), (2, .int l2), (4, .int l4)]) dX1_fieldAt_32 rfl (by decide) rfl ?_
      refine mj_iinc (k := 3) (v := (l4 + 1)) (lv2 := [(4, .int (l4 + 1)), (3, .int (s.1 319 (l3.toNatClampNeg))), (0, .ref 856), (2, .int l2)]) dX1_fieldAt_33 rfl rfl (by decide) rfl ?_
      refine mj_goto 13 dX1_fieldAt_36 (by decide) ?_
      refine mj_sublv [(0, .ref 856), (2, .int l2), (3, .int (s.1 319 (l3.toNatClampNeg))), (4, .int (l4 + 1))] [2, 3, 1, 0] rfl ?_
      exact t_somK hk (fun hf => Hb13 l2 (s.1 319 (l3.toNatClampNeg)) (l4 + 1) hf)
noncomputable def b_X1_fieldAt_13 (s : t_S) (x : Int32 × Int32 × Int32) : Option ((Int32 × Int32 × Int32) ⊕ (Int32)) := k_X1_fieldAt_13 x.1 x.2.1 x.2.2 s
set_option maxRecDepth 4000 in
set_option maxHeartbeats 1000000 in
theorem LH_X1_fieldAt_13 {D : va_G} {cy : Nat → ClassId} {ad : Nat → Nat} {bs : Nat} {X : State → Heap → Prop} (s : t_S) : ∀ (n : Nat) (y0 : Int32) (y1 : Int32) (y2 : Int32) (Q : Int32 → Prop) (hk : t_hk (t_loop (b_X1_fieldAt_13 s) n (y0, y1, y2)) Q), mj_G D cy ad bs X cX1_fieldAt 5 yX1_fieldAt.cls (some .int) yX1_fieldAt.name 0 0 0 1065 (t_P (fun v s' => s' = s ∧ ∃ x, v = some (.int x) ∧ Q (x))) 13 [(0, .ref 856), (2, .int (y0)), (3, .int (y1)), (4, .int (y2))] [] (t_m s) 1065 0 0 := by
  intro n
  induction n with
  | zero => intro y0 y1 y2 Q hk; obtain ⟨r, hr, _⟩ := hk; cases hr
  | succ n ih =>
    intro y0 y1 y2 Q hk
    exact B_X1_fieldAt_13 y0 y1 y2 s (fun y => t_lq (b_X1_fieldAt_13 s) n Q y) (fun y0' y1' y2' hy => ih y0' y1' y2' Q hy) (t_lp hk)
noncomputable def f_X1_fieldAt (x1 : Int32) (x2 : Int32) (s : t_S) : Option (Int32) :=
 if t_ix x1 3001 = true then
  t_loop (b_X1_fieldAt_13 s) t_N (x2, (s.1 318 (x1.toNatClampNeg)), 0)
else none
set_option maxRecDepth 4000 in
set_option maxHeartbeats 1000000 in
theorem C_X1_fieldAt (x1 : Int32) (x2 : Int32) (s : t_S) (r : Int32) (hr : f_X1_fieldAt x1 x2 s = some r) : t_C yX1_fieldAt cX1_fieldAt 5 (some .int) 0 [.ref 856, .int x1, .int x2] s (fun v s' => v = some (.int r) ∧ s' = s) := by
  refine t_C.imp (P := fun v s' => s' = s ∧ ∃ x, v = some (.int x) ∧ (fun q => q = r) (x)) (t_C.of (by decide +kernel) (Nat.le_of_ble_eq_true rfl) ?_) (fun v s' hp => by obtain ⟨rfl, x, rfl, rfl⟩ := hp; exact ⟨rfl, rfl⟩)
  intro D cy ad bs X
  have hk : t_hk (f_X1_fieldAt x1 x2 s) (fun q => q = r) := ⟨r, hr, rfl⟩
  show mj_G D cy ad bs X cX1_fieldAt 5 yX1_fieldAt.cls (some .int) yX1_fieldAt.name 0 0 0 1065 (t_P (fun v s' => s' = s ∧ ∃ x, v = some (.int x) ∧ (fun q => q = r) (x))) 0 [(0, .ref 856), (1, .int x1), (2, .int x2)] [] (t_m s) 1065 0 0
  refine mj_aload_n dX1_fieldAt_0 0 rfl ?_
  refine t_getR 316 dX1_fieldAt_1 F_X1_39 qr_856_1 ?_
  refine t_getR 318 dX1_fieldAt_4 F_X1_181 qr_316_1 ?_
  refine mj_iload_n dX1_fieldAt_7 1 rfl ?_
  refine t_chkK hk (fun c0 hk => ?_)
  refine t_iald dX1_fieldAt_8 qa_318 (t_ixv c0) ?_
  refine mj_istore_n 3 (lv2 := [(3, .int (s.1 318 (x1.toNatClampNeg))), (0, .ref 856), (1, .int x1), (2, .int x2)]) dX1_fieldAt_9 rfl (by decide) rfl ?_
  refine mj_iconst (v := 0) dX1_fieldAt_10 (by decide) ?_
  refine mj_istore (lv2 := [(4, .int 0), (3, .int (s.1 318 (x1.toNatClampNeg))), (0, .ref 856), (1, .int x1), (2, .int x2)]) dX1_fieldAt_11 (by decide) rfl ?_
  refine mj_sublv [(0, .ref 856), (2, .int x2), (3, .int (s.1 318 (x1.toNatClampNeg))), (4, .int 0)] [2, 4, 1, 0] rfl ?_
  exact LH_X1_fieldAt_13 _ _ x2 (s.1 318 (x1.toNatClampNeg)) 0 _ hk

theorem dX1_putCell_0 : decode cX1_putCell 0 = .ok (.aload_n 0, 1) := by decide +kernel
theorem dX1_putCell_1 : decode cX1_putCell 1 = .ok (.getfield 212, 3) := by decide +kernel
theorem dX1_putCell_12 : decode cX1_putCell 12 = .ok (.return_, 1) := by decide +kernel
theorem dX1_putCell_13 : decode cX1_putCell 13 = .ok (.aload_n 0, 1) := by decide +kernel
theorem dX1_putCell_14 : decode cX1_putCell 14 = .ok (.getfield 18, 3) := by decide +kernel
theorem dX1_putCell_17 : decode cX1_putCell 17 = .ok (.aload_n 0, 1) := by decide +kernel
theorem dX1_putCell_18 : decode cX1_putCell 18 = .ok (.getfield 212, 3) := by decide +kernel
theorem dX1_putCell_21 : decode cX1_putCell 21 = .ok (.lload_n 1, 1) := by decide +kernel
theorem dX1_putCell_22 : decode cX1_putCell 22 = .ok (.lastore, 1) := by decide +kernel
theorem dX1_putCell_23 : decode cX1_putCell 23 = .ok (.aload_n 0, 1) := by decide +kernel
theorem dX1_putCell_24 : decode cX1_putCell 24 = .ok (.dup, 1) := by decide +kernel
theorem dX1_putCell_25 : decode cX1_putCell 25 = .ok (.getfield 212, 3) := by decide +kernel
theorem dX1_putCell_28 : decode cX1_putCell 28 = .ok (.iconst 1, 1) := by decide +kernel
theorem dX1_putCell_29 : decode cX1_putCell 29 = .ok (.iadd, 1) := by decide +kernel
theorem dX1_putCell_30 : decode cX1_putCell 30 = .ok (.putfield 212, 3) := by decide +kernel
theorem dX1_putCell_33 : decode cX1_putCell 33 = .ok (.return_, 1) := by decide +kernel
theorem dX1_putCell_4 : decode cX1_putCell 4 = .ok (.aload_n 0, 1) := by decide +kernel
theorem dX1_putCell_5 : decode cX1_putCell 5 = .ok (.getfield 18, 3) := by decide +kernel
theorem dX1_putCell_8 : decode cX1_putCell 8 = .ok (.arraylength, 1) := by decide +kernel
theorem dX1_putCell_9 : decode cX1_putCell 9 = .ok (.if_icmp .lt 4, 3) := by decide +kernel
noncomputable def f_X1_putCell (x1 : Int64) (s : t_S) : Option (t_S) :=
 if (s.1 856 7) < (240 : Int32) then (if t_ix (s.1 856 7) 240 = true then
  t_let (t_setJ s 859 ((s.1 856 7).toNatClampNeg) x1) (fun s1 =>
 t_let (t_setI s1 856 7 ((s1.1 856 7) + (1 : Int32))) (fun s2 =>
 some (s2)))
else none)
 else (some (s))
set_option maxRecDepth 4000 in
set_option maxHeartbeats 1000000 in
theorem C_X1_putCell (x1 : Int64) (s : t_S) (r : t_S) (hr : f_X1_putCell x1 s = some r) : t_C yX1_putCell cX1_putCell 3 none 0 [.ref 856, .long x1] s (fun v s' => v = none ∧ s' = r) := by
  refine t_C.imp (P := fun v s' => v = none ∧ (fun q => q = r) (s')) (t_C.of (by decide +kernel) (Nat.le_of_ble_eq_true rfl) ?_) (fun v s' hp => hp)
  intro D cy ad bs X
  have hk : t_hk (f_X1_putCell x1 s) (fun q => q = r) := ⟨r, hr, rfl⟩
  show mj_G D cy ad bs X cX1_putCell 3 yX1_putCell.cls none yX1_putCell.name 0 0 0 1065 (t_P (fun v s' => v = none ∧ (fun q => q = r) (s'))) 0 [(0, .ref 856), (1, .long x1)] [] (t_m s) 1065 0 0
  refine mj_aload_n dX1_putCell_0 0 rfl ?_
  refine t_getI dX1_putCell_1 F_X1_212 qf_856_7 ?_
  refine mj_aload_n dX1_putCell_4 0 rfl ?_
  refine t_getR 859 dX1_putCell_5 F_X1_18 qr_856_6 ?_
  refine t_alen2 (v := 240) dX1_putCell_8 qa_859 (by decide) ?_
  refine mj_icmp_lt 13 dX1_putCell_9 (by decide) (fun z => t_posK hk z (fun hk => ?_)) (fun z => t_negK hk z (fun hk => ?_))
  · refine mj_aload_n dX1_putCell_13 0 rfl ?_
    refine t_getR 859 dX1_putCell_14 F_X1_18 qr_856_6 ?_
    refine mj_aload_n dX1_putCell_17 0 rfl ?_
    refine t_getI dX1_putCell_18 F_X1_212 qf_856_7 ?_
    refine mj_lload_n dX1_putCell_21 1 rfl ?_
    refine t_chkK hk (fun c0 hk => ?_)
    refine t_lastK dX1_putCell_22 qa_859 (t_ixv c0) (fun s1 ws1 => t_letE hk ws1 (fun hk => ?_))
    refine mj_aload_n dX1_putCell_23 0 rfl ?_
    refine mj_dup dX1_putCell_24 rfl ?_
    refine t_getI dX1_putCell_25 F_X1_212 qf_856_7 ?_
    refine mj_iconst (v := 1) dX1_putCell_28 (by decide) ?_
    refine mj_iadd dX1_putCell_29 ?_
    refine t_putIK dX1_putCell_30 F_X1_212 qf_856_7 rfl (fun s2 ws2 => t_letE hk ws2 (fun hk => ?_))
    exact t_somK hk (fun hf => t_vret dX1_putCell_33 rfl ⟨rfl, hf⟩ (Nat.le_of_ble_eq_true rfl) (Nat.le_of_ble_eq_true rfl))
  · exact t_somK hk (fun hf => t_vret dX1_putCell_12 rfl ⟨rfl, hf⟩ (Nat.le_of_ble_eq_true rfl) (Nat.le_of_ble_eq_true rfl))

