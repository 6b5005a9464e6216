/-! Methods as functions, 9: X10_explainUntold, X10_firstWrongElement, X10_firstWrongField, X10_isPlainRow, X10_pieceOf, X10_explain, X10_firstWrong, X10_measure, X10_settleOne, X10_settle -/
theorem qa_317 : t_oka 317 1 3001 = true := by decide +kernel
theorem qa_318 : t_oka 318 1 3001 = true := by decide +kernel
theorem qa_319 : t_oka 319 1 3001 = true := by decide +kernel
theorem qa_320 : t_oka 320 1 3001 = true := by decide +kernel
theorem qa_321 : t_oka 321 1 3001 = true := by decide +kernel
theorem qa_322 : t_oka 322 2 3001 = true := by decide +kernel
theorem qa_323 : t_oka 323 2 3001 = true := by decide +kernel
theorem qf_316_8 : t_okf 316 11 8 0 = true := by decide +kernel
theorem qr_316_0 : t_okr 316 11 0 317 = true := by decide +kernel
theorem qr_316_1 : t_okr 316 11 1 318 = true := by decide +kernel
theorem qr_316_2 : t_okr 316 11 2 319 = true := by decide +kernel
theorem qr_316_3 : t_okr 316 11 3 320 = true := by decide +kernel
theorem qr_316_4 : t_okr 316 11 4 321 = true := by decide +kernel
theorem qr_316_5 : t_okr 316 11 5 322 = true := by decide +kernel
theorem qr_316_6 : t_okr 316 11 6 323 = true := by decide +kernel
theorem dX10_explainUntold_0 : decode cX10_explainUntold 0 = .ok (.aload_n 0, 1) := by decide +kernel
theorem dX10_explainUntold_1 : decode cX10_explainUntold 1 = .ok (.getfield 67, 3) := by decide +kernel
theorem dX10_explainUntold_10 : decode cX10_explainUntold 10 = .ok (.laload, 1) := by decide +kernel
theorem dX10_explainUntold_102 : decode cX10_explainUntold 102 = .ok (.iload 7, 2) := by decide +kernel
theorem dX10_explainUntold_104 : decode cX10_explainUntold 104 = .ok (.ifCond .ne 17, 3) := by decide +kernel
theorem dX10_explainUntold_107 : decode cX10_explainUntold 107 = .ok (.aload_n 0, 1) := by decide +kernel
theorem dX10_explainUntold_108 : decode cX10_explainUntold 108 = .ok (.sipush 1000, 3) := by decide +kernel
theorem dX10_explainUntold_11 : decode cX10_explainUntold 11 = .ok (.invokestatic 185, 3) := by decide +kernel
theorem dX10_explainUntold_111 : decode cX10_explainUntold 111 = .ok (.iload 6, 2) := by decide +kernel
theorem dX10_explainUntold_113 : decode cX10_explainUntold 113 = .ok (.iadd, 1) := by decide +kernel
theorem dX10_explainUntold_114 : decode cX10_explainUntold 114 = .ok (.bipush 66, 2) := by decide +kernel
theorem dX10_explainUntold_116 : decode cX10_explainUntold 116 = .ok (.isub, 1) := by decide +kernel
theorem dX10_explainUntold_117 : decode cX10_explainUntold 117 = .ok (.invokevirtual 236, 3) := by decide +kernel
theorem dX10_explainUntold_120 : decode cX10_explainUntold 120 = .ok (.return_, 1) := by decide +kernel
theorem dX10_explainUntold_121 : decode cX10_explainUntold 121 = .ok (.iload 4, 2) := by decide +kernel
theorem dX10_explainUntold_123 : decode cX10_explainUntold 123 = .ok (.iconst 1, 1) := by decide +kernel
theorem dX10_explainUntold_124 : decode cX10_explainUntold 124 = .ok (.aload_n 0, 1) := by decide +kernel
theorem dX10_explainUntold_125 : decode cX10_explainUntold 125 = .ok (.getfield 67, 3) := by decide +kernel
theorem dX10_explainUntold_128 : decode cX10_explainUntold 128 = .ok (.iload 4, 2) := by decide +kernel
theorem dX10_explainUntold_130 : decode cX10_explainUntold 130 = .ok (.iconst 1, 1) := by decide +kernel
theorem dX10_explainUntold_131 : decode cX10_explainUntold 131 = .ok (.iadd, 1) := by decide +kernel
theorem dX10_explainUntold_132 : decode cX10_explainUntold 132 = .ok (.laload, 1) := by decide +kernel
theorem dX10_explainUntold_133 : decode cX10_explainUntold 133 = .ok (.invokestatic 125, 3) := by decide +kernel
theorem dX10_explainUntold_136 : decode cX10_explainUntold 136 = .ok (.iadd, 1) := by decide +kernel
theorem dX10_explainUntold_137 : decode cX10_explainUntold 137 = .ok (.iadd, 1) := by decide +kernel
theorem dX10_explainUntold_138 : decode cX10_explainUntold 138 = .ok (.istore 4, 2) := by decide +kernel
theorem dX10_explainUntold_14 : decode cX10_explainUntold 14 = .ok (.istore_n 3, 1) := by decide +kernel
theorem dX10_explainUntold_140 : decode cX10_explainUntold 140 = .ok (.iinc 5 1, 3) := by decide +kernel
theorem dX10_explainUntold_143 : decode cX10_explainUntold 143 = .ok (.goto (-115), 3) := by decide +kernel
theorem dX10_explainUntold_146 : decode cX10_explainUntold 146 = .ok (.return_, 1) := by decide +kernel
theorem dX10_explainUntold_15 : decode cX10_explainUntold 15 = .ok (.aload_n 0, 1) := by decide +kernel
theorem dX10_explainUntold_16 : decode cX10_explainUntold 16 = .ok (.getfield 132, 3) := by decide +kernel
theorem dX10_explainUntold_19 : decode cX10_explainUntold 19 = .ok (.iload_n 2, 1) := by decide +kernel
theorem dX10_explainUntold_20 : decode cX10_explainUntold 20 = .ok (.iadd, 1) := by decide +kernel
theorem dX10_explainUntold_21 : decode cX10_explainUntold 21 = .ok (.iconst 1, 1) := by decide +kernel
theorem dX10_explainUntold_22 : decode cX10_explainUntold 22 = .ok (.iadd, 1) := by decide +kernel
theorem dX10_explainUntold_23 : decode cX10_explainUntold 23 = .ok (.istore 4, 2) := by decide +kernel
theorem dX10_explainUntold_25 : decode cX10_explainUntold 25 = .ok (.iconst 0, 1) := by decide +kernel
theorem dX10_explainUntold_26 : decode cX10_explainUntold 26 = .ok (.istore 5, 2) := by decide +kernel
theorem dX10_explainUntold_28 : decode cX10_explainUntold 28 = .ok (.iload 5, 2) := by decide +kernel
theorem dX10_explainUntold_30 : decode cX10_explainUntold 30 = .ok (.iload_n 3, 1) := by decide +kernel
theorem dX10_explainUntold_31 : decode cX10_explainUntold 31 = .ok (.if_icmp .ge 115, 3) := by decide +kernel
theorem dX10_explainUntold_34 : decode cX10_explainUntold 34 = .ok (.aload_n 0, 1) := by decide +kernel
theorem dX10_explainUntold_35 : decode cX10_explainUntold 35 = .ok (.getfield 67, 3) := by decide +kernel
theorem dX10_explainUntold_38 : decode cX10_explainUntold 38 = .ok (.iload 4, 2) := by decide +kernel
theorem dX10_explainUntold_4 : decode cX10_explainUntold 4 = .ok (.aload_n 0, 1) := by decide +kernel
theorem dX10_explainUntold_40 : decode cX10_explainUntold 40 = .ok (.laload, 1) := by decide +kernel
theorem dX10_explainUntold_41 : decode cX10_explainUntold 41 = .ok (.invokestatic 171, 3) := by decide +kernel
theorem dX10_explainUntold_44 : decode cX10_explainUntold 44 = .ok (.istore 6, 2) := by decide +kernel
theorem dX10_explainUntold_46 : decode cX10_explainUntold 46 = .ok (.iconst 0, 1) := by decide +kernel
theorem dX10_explainUntold_47 : decode cX10_explainUntold 47 = .ok (.istore 7, 2) := by decide +kernel
theorem dX10_explainUntold_49 : decode cX10_explainUntold 49 = .ok (.aload_n 0, 1) := by decide +kernel
theorem dX10_explainUntold_5 : decode cX10_explainUntold 5 = .ok (.getfield 132, 3) := by decide +kernel
theorem dX10_explainUntold_50 : decode cX10_explainUntold 50 = .ok (.getfield 15, 3) := by decide +kernel
theorem dX10_explainUntold_53 : decode cX10_explainUntold 53 = .ok (.iload_n 1, 1) := by decide +kernel
theorem dX10_explainUntold_54 : decode cX10_explainUntold 54 = .ok (.iaload, 1) := by decide +kernel
theorem dX10_explainUntold_55 : decode cX10_explainUntold 55 = .ok (.istore 8, 2) := by decide +kernel
theorem dX10_explainUntold_57 : decode cX10_explainUntold 57 = .ok (.iconst 0, 1) := by decide +kernel
theorem dX10_explainUntold_58 : decode cX10_explainUntold 58 = .ok (.istore 9, 2) := by decide +kernel
theorem dX10_explainUntold_60 : decode cX10_explainUntold 60 = .ok (.iload 9, 2) := by decide +kernel
theorem dX10_explainUntold_62 : decode cX10_explainUntold 62 = .ok (.bipush 16, 2) := by decide +kernel
theorem dX10_explainUntold_64 : decode cX10_explainUntold 64 = .ok (.if_icmp .ge 38, 3) := by decide +kernel
theorem dX10_explainUntold_67 : decode cX10_explainUntold 67 = .ok (.iload 8, 2) := by decide +kernel
theorem dX10_explainUntold_69 : decode cX10_explainUntold 69 = .ok (.ifCond .lt 33, 3) := by decide +kernel
theorem dX10_explainUntold_72 : decode cX10_explainUntold 72 = .ok (.aload_n 0, 1) := by decide +kernel
theorem dX10_explainUntold_73 : decode cX10_explainUntold 73 = .ok (.getfield 21, 3) := by decide +kernel
theorem dX10_explainUntold_76 : decode cX10_explainUntold 76 = .ok (.iload 8, 2) := by decide +kernel
theorem dX10_explainUntold_78 : decode cX10_explainUntold 78 = .ok (.iaload, 1) := by decide +kernel
theorem dX10_explainUntold_79 : decode cX10_explainUntold 79 = .ok (.iload 6, 2) := by decide +kernel
theorem dX10_explainUntold_8 : decode cX10_explainUntold 8 = .ok (.iload_n 2, 1) := by decide +kernel
theorem dX10_explainUntold_81 : decode cX10_explainUntold 81 = .ok (.if_icmp .ne 6, 3) := by decide +kernel
theorem dX10_explainUntold_84 : decode cX10_explainUntold 84 = .ok (.iconst 1, 1) := by decide +kernel
theorem dX10_explainUntold_85 : decode cX10_explainUntold 85 = .ok (.istore 7, 2) := by decide +kernel
theorem dX10_explainUntold_87 : decode cX10_explainUntold 87 = .ok (.aload_n 0, 1) := by decide +kernel
theorem dX10_explainUntold_88 : decode cX10_explainUntold 88 = .ok (.getfield 18, 3) := by decide +kernel
theorem dX10_explainUntold_9 : decode cX10_explainUntold 9 = .ok (.iadd, 1) := by decide +kernel
theorem dX10_explainUntold_91 : decode cX10_explainUntold 91 = .ok (.iload 8, 2) := by decide +kernel
theorem dX10_explainUntold_93 : decode cX10_explainUntold 93 = .ok (.iaload, 1) := by decide +kernel
theorem dX10_explainUntold_94 : decode cX10_explainUntold 94 = .ok (.istore 8, 2) := by decide +kernel
theorem dX10_explainUntold_96 : decode cX10_explainUntold 96 = .ok (.iinc 9 1, 3) := by decide +kernel
theorem dX10_explainUntold_99 : decode cX10_explainUntold 99 = .ok (.goto (-39), 3) := by decide +kernel
noncomputable def k_X10_explainUntold_102 (l1 : Int32) (l3 : Int32) (l4 : Int32) (l5 : Int32) (l6 : Int32) (l7 : Int32) (s : t_S) : Option ((Int32 × Int32 × Int32 × Int32 × t_S) ⊕ (t_S)) :=
 if l7 = (0 : Int32) then (((f_X10_step (((1000 : Int32) + l6) - (66 : Int32)) s).bind (fun r4 =>
 some (r4))).map Sum.inr)
 else (if t_oka (s.2.2 353 14) 2 (t_ln (s.2.2 353 14)) = true then
  if t_ix (l4 + (1 : Int32)) (t_ln (s.2.2 353 14)) = true then
  some (.inl (l1, l3, (l4 + ((1 : Int32) + (f_X8_size (s.2.1 (s.2.2 353 14) ((l4 + (1 : Int32)).toNatClampNeg)) s))), (l5 + 1), s))
else none
else none)
set_option maxRecDepth 4000 in
set_option maxHeartbeats 1000000 in
theorem B_X10_explainUntold_102 {D : va_G} {cy : Nat → ClassId} {ad : Nat → Nat} {bs : Nat} {X : State → Heap → Prop} (l1 : Int32) (l3 : Int32) (l4 : Int32) (l5 : Int32) (l6 : Int32) (l7 : Int32) (s : t_S) (Q : (Int32 × Int32 × Int32 × Int32 × t_S) ⊕ (t_S) → Prop) (Hb28 : ∀ (y0 : Int32) (y1 : Int32) (y2 : Int32) (y3 : Int32) (y4 : t_S), Q (.inl (y0, y1, y2, y3, y4)) → mj_G D cy ad bs X cX10_explainUntold 10 yX10_explainUntold.cls none yX10_explainUntold.name 1 0 0 1065 (t_P (fun v s' => v = none ∧ Q (.inr (s')))) 28 [(0, .ref 353), (1, .int (y0)), (3, .int (y1)), (4, .int (y2)), (5, .int (y3))] [] (t_m y4) 1065 0 0) (hk : t_hk (k_X10_explainUntold_102 l1 l3 l4 l5 l6 l7 s) Q) : mj_G D cy ad bs X cX10_explainUntold 10 yX10_explainUntold.cls none yX10_explainUntold.name 1 0 0 1065 (t_P (fun v s' => v = none ∧ Q (.inr (s')))) 102 [(0, .ref 353), (1, .int l1), (3, .int l3), (4, .int l4), (5, .int l5), (6, .int l6), (7, .int l7)] [] (t_m s) 1065 0 0 := by
  refine mj_iload dX10_explainUntold_102 6 rfl ?_
  refine mj_if_ne 121 dX10_explainUntold_104 (by decide) (fun z => t_negK hk z (fun hk => ?_)) (fun z => t_posK hk z (fun hk => ?_))
  · refine mj_iload dX10_explainUntold_121 3 rfl ?_
    refine mj_iconst (v := 1) dX10_explainUntold_123 (by decide) ?_
    refine mj_aload_n dX10_explainUntold_124 0 rfl ?_
    refine t_getD dX10_explainUntold_125 F_X10_67 qf_353_14 ?_
    refine mj_iload dX10_explainUntold_128 3 rfl ?_
    refine mj_iconst (v := 1) dX10_explainUntold_130 (by decide) ?_
    refine mj_iadd dX10_explainUntold_131 ?_
    refine t_chkK hk (fun c0 hk => ?_)
    refine t_chkK hk (fun c1 hk => ?_)
    refine t_lald dX10_explainUntold_132 c0 (t_ixv c1) ?_
    refine t_callSiP dX10_explainUntold_133 M_X8_size (C_X8_size _ _) ML_X10_125 SM_X8_size (As := [.long (s.2.1 (s.2.2 353 14) ((l4 + (1 : Int32)).toNatClampNeg))]) rfl rfl (Nat.le_of_ble_eq_true rfl) (Nat.le_of_ble_eq_true rfl) (Nat.le_of_ble_eq_true rfl) (Nat.le_of_ble_eq_true rfl) ?_
    refine mj_iadd dX10_explainUntold_136 ?_
    refine mj_iadd dX10_explainUntold_137 ?_
    refine mj_istore (lv2 := [(4, .int (l4 + ((1 : Int32) + (f_X8_size (s.2.1 (s.2.2 353 14) ((l4 + (1 : Int32)).toNatClampNeg)) s)))), (0, .ref 353), (1, .int l1), (3, .int l3), (5, .int l5), (6, .int l6), (7, .int l7)]) dX10_explainUntold_138 (by decide) rfl ?_
    refine mj_iinc (k := 4) (v := (l5 + 1)) (lv2 := [(5, .int (l5 + 1)), (4, .int (l4 + ((1 : Int32) + (f_X8_size (s.2.1 (s.2.2 353 14) ((l4 + (1 : Int32)).toNatClampNeg)) s)))), (0, .ref 353), (1, .int l1), (3, .int l3), (6, .int l6), (7, .int l7)]) dX10_explainUntold_140 rfl rfl (by decide) rfl ?_
    refine mj_goto 28 dX10_explainUntold_143 (by decide) ?_
    refine mj_sublv [(0, .ref 353), (1, .int l1), (3, .int l3), (4, .int (l4 + ((1 : Int32) + (f_X8_size (s.2.1 (s.2.2 353 14) ((l4 + (1 : Int32)).toNatClampNeg)) s)))), (5, .int (l5 + 1))] [2, 3, 4, 1, 0] rfl ?_
    exact t_somK hk (fun hf => Hb28 l1 l3 (l4 + ((1 : Int32) + (f_X8_size (s.2.1 (s.2.2 353 14) ((l4 + (1 : Int32)).toNatClampNeg)) s))) (l5 + 1) s hf)
  · refine t_mapK hk (fun hk => ?_)
    refine mj_aload_n dX10_explainUntold_107 0 rfl ?_
    refine mj_sipush (v := 1000) dX10_explainUntold_108 (by decide) ?_
    refine mj_iload dX10_explainUntold_111 5 rfl ?_
    refine mj_iadd dX10_explainUntold_113 ?_
    refine mj_bipush (v := 66) dX10_explainUntold_114 (by decide) ?_
    refine mj_isub dX10_explainUntold_116 ?_
    refine t_bndK hk (fun r4 er4 hk => ?_)
    refine t_callVvE dX10_explainUntold_117 M_X10_step (C_X10_step _ _ _ er4) ML_X10_236 IM_X10_step SE_X10_step qc_353 rfl (As := [.int (((1000 : Int32) + l6) - (66 : Int32))]) rfl rfl (Nat.le_of_ble_eq_true rfl) (Nat.le_of_ble_eq_true rfl) (Nat.le_of_ble_eq_true rfl) (Nat.le_of_ble_eq_true rfl) ?_
    exact t_somK hk (fun hf => t_vret dX10_explainUntold_120 rfl ⟨rfl, hf⟩ (Nat.le_of_ble_eq_true rfl) (Nat.le_of_ble_eq_true rfl))
noncomputable def k_X10_explainUntold_87 (l1 : Int32) (l3 : Int32) (l4 : Int32) (l5 : Int32) (l6 : Int32) (l7 : Int32) (l8 : Int32) (l9 : Int32) (s : t_S) : Option ((Int32 × Int32 × Int32 × Int32 × Int32 × Int32 × Int32 × Int32 × t_S) ⊕ ((Int32 × Int32 × Int32 × Int32 × t_S) ⊕ (t_S))) :=
 if t_ix l8 6100 = true then
  some (.inl (l1, l3, l4, l5, l6, l7, (s.1 356 (l8.toNatClampNeg)), (l9 + 1), s))
else none
set_option maxRecDepth 4000 in
set_option maxHeartbeats 1000000 in
theorem B_X10_explainUntold_87 {D : va_G} {cy : Nat → ClassId} {ad : Nat → Nat} {bs : Nat} {X : State → Heap → Prop} (l1 : Int32) (l3 : Int32) (l4 : Int32) (l5 : Int32) (l6 : Int32) (l7 : Int32) (l8 : Int32) (l9 : Int32) (s : t_S) (Q : (Int32 × Int32 × Int32 × Int32 × Int32 × Int32 × Int32 × Int32 × t_S) ⊕ ((Int32 × Int32 × Int32 × Int32 × t_S) ⊕ (t_S)) → Prop) (Hb28 : ∀ (y0 : Int32) (y1 : Int32) (y2 : Int32) (y3 : Int32) (y4 : t_S), Q (.inr (.inl (y0, y1, y2, y3, y4))) → mj_G D cy ad bs X cX10_explainUntold 10 yX10_explainUntold.cls none yX10_explainUntold.name 1 0 0 1065 (t_P (fun v s' => v = none ∧ Q (.inr (.inr (s'))))) 28 [(0, .ref 353), (1, .int (y0)), (3, .int (y1)), (4, .int (y2)), (5, .int (y3))] [] (t_m y4) 1065 0 0) (Hb60 : ∀ (y0 : Int32) (y1 : Int32) (y2 : Int32) (y3 : Int32) (y4 : Int32) (y5 : Int32) (y6 : Int32) (y7 : Int32) (y8 : t_S), Q (.inl (y0, y1, y2, y3, y4, y5, y6, y7, y8)) → mj_G D cy ad bs X cX10_explainUntold 10 yX10_explainUntold.cls none yX10_explainUntold.name 1 0 0 1065 (t_P (fun v s' => v = none ∧ Q (.inr (.inr (s'))))) 60 [(0, .ref 353), (1, .int (y0)), (3, .int (y1)), (4, .int (y2)), (5, .int (y3)), (6, .int (y4)), (7, .int (y5)), (8, .int (y6)), (9, .int (y7))] [] (t_m y8) 1065 0 0) (hk : t_hk (k_X10_explainUntold_87 l1 l3 l4 l5 l6 l7 l8 l9 s) Q) : mj_G D cy ad bs X cX10_explainUntold 10 yX10_explainUntold.cls none yX10_explainUntold.name 1 0 0 1065 (t_P (fun v s' => v = none ∧ Q (.inr (.inr (s'))))) 87 [(0, .ref 353), (1, .int l1), (3, .int l3), (4, .int l4), (5, .int l5), (6, .int l6), (7, .int l7), (8, .int l8), (9, .int l9)] [] (t_m s) 1065 0 0 := by
  refine mj_aload_n dX10_explainUntold_87 0 rfl ?_
  refine t_getR 356 dX10_explainUntold_88 F_X10_18 qr_353_2 ?_
  refine mj_iload dX10_explainUntold_91 7 rfl ?_
  refine t_chkK hk (fun c0 hk => ?_)
  refine t_iald dX10_explainUntold_93 qa_356 (t_ixv c0) ?_
  refine mj_istore (lv2 := [(8, .int (s.1 356 (l8.toNatClampNeg))), (0, .ref 353), (1, .int l1), (3, .int l3), (4, .int l4), (5, .int l5), (6, .int l6), (7, .int l7), (9, .int l9)]) dX10_explainUntold_94 (by decide) rfl ?_
  refine mj_iinc (k := 8) (v := (l9 + 1)) (lv2 := [(9, .int (l9 + 1)), (8, .int (s.1 356 (l8.toNatClampNeg))), (0, .ref 353), (1, .int l1), (3, .int l3), (4, .int l4), (5, .int l5), (6, .int l6), (7, .int l7)]) dX10_explainUntold_96 rfl rfl (by decide) rfl ?_
  refine mj_goto 60 dX10_explainUntold_99 (by decide) ?_
  refine mj_sublv [(0, .ref 353), (1, .int l1), (3, .int l3), (4, .int l4), (5, .int l5), (6, .int l6), (7, .int l7), (8, .int (s.1 356 (l8.toNatClampNeg))), (9, .int (l9 + 1))] [2, 3, 4, 5, 6, 7, 8, 1, 0] rfl ?_
  exact t_somK hk (fun hf => Hb60 l1 l3 l4 l5 l6 l7 (s.1 356 (l8.toNatClampNeg)) (l9 + 1) s hf)
noncomputable def k_X10_explainUntold_60 (l1 : Int32) (l3 : Int32) (l4 : Int32) (l5 : Int32) (l6 : Int32) (l7 : Int32) (l8 : Int32) (l9 : Int32) (s : t_S) : Option ((Int32 × Int32 × Int32 × Int32 × Int32 × Int32 × Int32 × Int32 × t_S) ⊕ ((Int32 × Int32 × Int32 × Int32 × t_S) ⊕ (t_S))) :=
 if (16 : Int32) ≤ l9 then ((k_X10_explainUntold_102 l1 l3 l4 l5 l6 l7 s).map Sum.inr)
 else (if l8 < (0 : Int32) then ((k_X10_explainUntold_102 l1 l3 l4 l5 l6 l7 s).map Sum.inr)
 else (if t_ix l8 6100 = true then
  if (s.1 357 (l8.toNatClampNeg)) = l6 then (k_X10_explainUntold_87 l1 l3 l4 l5 l6 1 l8 l9 s)
 else (k_X10_explainUntold_87 l1 l3 l4 l5 l6 l7 l8 l9 s)
else none))
set_option maxRecDepth 4000 in
set_option maxHeartbeats 1000000 in
theorem B_X10_explainUntold_60 {D : va_G} {cy : Nat → ClassId} {ad : Nat → Nat} {bs : Nat} {X : State → Heap → Prop} (l1 : Int32) (l3 : Int32) (l4 : Int32) (l5 : Int32) (l6 : Int32) (l7 : Int32) (l8 : Int32) (l9 : Int32) (s : t_S) (Q : (Int32 × Int32 × Int32 × Int32 × Int32 × Int32 × Int32 × Int32 × t_S) ⊕ ((Int32 × Int32 × Int32 × Int32 × t_S) ⊕ (t_S)) → Prop) (Hb28 : ∀ (y0 : Int32) (y1 : Int32) (y2 : Int32) (y3 : Int32) (y4 : t_S), Q (.inr (.inl (y0, y1, y2, y3, y4))) → mj_G D cy ad bs X cX10_explainUntold 10 yX10_explainUntold.cls none yX10_explainUntold.name 1 0 0 1065 (t_P (fun v s' => v = none ∧ Q (.inr (.inr (s'))))) 28 [(0, .ref 353), (1, .int (y0)), (3, .int (y1)), (4, .int (y2)), (5, .int (y3))] [] (t_m y4) 1065 0 0) (Hb60 : ∀ (y0 : Int32) (y1 : Int32) (y2 : Int32) (y3 : Int32) (y4 : Int32) (y5 : Int32) (y6 : Int32) (y7 : Int32) (y8 : t_S), Q (.inl (y0, y1, y2, y3, y4, y5, y6, y7, y8)) → mj_G D cy ad bs X cX10_explainUntold 10 yX10_explainUntold.cls none yX10_explainUntold.name 1 0 0 1065 (t_P (fun v s' => v = none ∧ Q (.inr (.inr (s'))))) 60 [(0, .ref 353), (1, .int (y0)), (3, .int (y1)), (4, .int (y2)), (5, .int (y3)), (6, .int (y4)), (7, .int (y5)), (8, .int (y6)), (9, .int (y7))] [] (t_m y8) 1065 0 0) (hk : t_hk (k_X10_explainUntold_60 l1 l3 l4 l5 l6 l7 l8 l9 s) Q) : mj_G D cy ad bs X cX10_explainUntold 10 yX10_explainUntold.cls none yX10_explainUntold.name 1 0 0 1065 (t_P (fun v s' => v = none ∧ Q (.inr (.inr (s'))))) 60 [(0, .ref 353), (1, .int l1), (3, .int l3), (4, .int l4), (5, .int l5), (6, .int l6), (7, .int l7), (8, .int l8), (9, .int l9)] [] (t_m s) 1065 0 0 := by
  refine mj_iload dX10_explainUntold_60 8 rfl ?_
  refine mj_bipush (v := 16) dX10_explainUntold_62 (by decide) ?_
  refine mj_icmp_ge 102 dX10_explainUntold_64 (by decide) (fun z => t_posK hk z (fun hk => ?_)) (fun z => t_negK hk z (fun hk => ?_))
  · refine mj_sublv [(0, .ref 353), (1, .int l1), (3, .int l3), (4, .int l4), (5, .int l5), (6, .int l6), (7, .int l7)] [0, 1, 2, 3, 4, 5, 6] rfl ?_
    refine t_mapK hk (fun hk => ?_)
    exact B_X10_explainUntold_102 _ _ _ _ _ _ _ _ (fun y0 y1 y2 y3 y4 hx => Hb28 y0 y1 y2 y3 y4 hx) hk
  · refine mj_iload dX10_explainUntold_67 7 rfl ?_
    refine mj_if_lt 102 dX10_explainUntold_69 (by decide) (fun z => t_posK hk z (fun hk => ?_)) (fun z => t_negK hk z (fun hk => ?_))
    · refine mj_sublv [(0, .ref 353), (1, .int l1), (3, .int l3), (4, .int l4), (5, .int l5), (6, .int l6), (7, .int l7)] [0, 1, 2, 3, 4, 5, 6] rfl ?_
      refine t_mapK hk (fun hk => ?_)
      exact B_X10_explainUntold_102 _ _ _ _ _ _ _ _ (fun y0 y1 y2 y3 y4 hx => Hb28 y0 y1 y2 y3 y4 hx) hk
    · refine mj_aload_n dX10_explainUntold_72 0 rfl ?_
      refine t_getR 357 dX10_explainUntold_73 F_X10_21 qr_353_3 ?_
      refine mj_iload dX10_explainUntold_76 7 rfl ?_
      refine t_chkK hk (fun c0 hk => ?_)
      refine t_iald dX10_explainUntold_78 qa_357 (t_ixv c0) ?_
      refine mj_iload dX10_explainUntold_79 5 rfl ?_
      refine mj_icmp_ne 87 dX10_explainUntold_81 (by decide) (fun z => t_negK hk z (fun hk => ?_)) (fun z => t_posK hk z (fun hk => ?_))
      · exact B_X10_explainUntold_87 _ _ _ _ _ _ _ _ _ _ (fun y0 y1 y2 y3 y4 hx => Hb28 y0 y1 y2 y3 y4 hx) (fun y0 y1 y2 y3 y4 y5 y6 y7 y8 hx => Hb60 y0 y1 y2 y3 y4 y5 y6 y7 y8 hx) hk
      · refine mj_iconst (v := 1) dX10_explainUntold_84 (by decide) ?_
        refine mj_istore (lv2 := [(7, .int 1), (0, .ref 353), (1, .int l1), (3, .int l3), (4, .int l4), (5, .int l5), (6, .int l6), (8, .int l8), (9, .int l9)]) dX10_explainUntold_85 (by decide) rfl ?_
        refine mj_sublv [(0, .ref 353), (1, .int l1), (3, .int l3), (4, .int l4), (5, .int l5), (6, .int l6), (7, .int 1), (8, .int l8), (9, .int l9)] [1, 2, 3, 4, 5, 6, 0, 7, 8] rfl ?_
        exact B_X10_explainUntold_87 _ _ _ _ _ _ _ _ _ _ (fun y0 y1 y2 y3 y4 hx => Hb28 y0 y1 y2 y3 y4 hx) (fun y0 y1 y2 y3 y4 y5 y6 y7 y8 hx => Hb60 y0 y1 y2 y3 y4 y5 y6 y7 y8 hx) hk
noncomputable def b_X10_explainUntold_60 (x : Int32 × Int32 × Int32 × Int32 × Int32 × Int32 × Int32 × Int32 × t_S) : Option ((Int32 × Int32 × Int32 × Int32 × Int32 × Int32 × Int32 × Int32 × t_S) ⊕ ((Int32 × Int32 × Int32 × Int32 × t_S) ⊕ (t_S))) := k_X10_explainUntold_60 x.1 x.2.1 x.2.2.1 x.2.2.2.1 x.2.2.2.2.1 x.2.2.2.2.2.1 x.2.2.2.2.2.2.1 x.2.2.2.2.2.2.2.1 x.2.2.2.2.2.2.2.2
set_option maxRecDepth 4000 in
set_option maxHeartbeats 1000000 in
theorem LH_X10_explainUntold_60 {D : va_G} {cy : Nat → ClassId} {ad : Nat → Nat} {bs : Nat} {X : State → Heap → Prop} : ∀ (n : Nat) (y0 : Int32) (y1 : Int32) (y2 : Int32) (y3 : Int32) (y4 : Int32) (y5 : Int32) (y6 : Int32) (y7 : Int32) (y8 : t_S) (Q : (Int32 × Int32 × Int32 × Int32 × t_S) ⊕ (t_S) → Prop) (Hb28 : ∀ (y0 : Int32) (y1 : Int32) (y2 : Int32) (y3 : Int32) (y4 : t_S), Q (.inl (y0, y1, y2, y3, y4)) → mj_G D cy ad bs X cX10_explainUntold 10 yX10_explainUntold.cls none yX10_explainUntold.name 1 0 0 1065 (t_P (fun v s' => v = none ∧ Q (.inr (s')))) 28 [(0, .ref 353), (1, .int (y0)), (3, .int (y1)), (4, .int (y2)), (5, .int (y3))] [] (t_m y4) 1065 0 0) (hk : t_hk (t_loop (b_X10_explainUntold_60) n (y0, y1, y2, y3, y4, y5, y6, y7, y8)) Q), mj_G D cy ad bs X cX10_explainUntold 10 yX10_explainUntold.cls none yX10_explainUntold.name 1 0 0 1065 (t_P (fun v s' => v = none ∧ Q (.inr (s')))) 60 [(0, .ref 353), (1, .int (y0)), (3, .int (y1)), (4, .int (y2)), (5, .int (y3)), (6, .int (y4)), (7, .int (y5)), (8, .int (y6)), (9, .int (y7))] [] (t_m y8) 1065 0 0 := by
  intro n
  induction n with
  | zero => intro y0 y1 y2 y3 y4 y5 y6 y7 y8 Q Hb28 hk; obtain ⟨r, hr, _⟩ := hk; cases hr
  | succ n ih =>
    intro y0 y1 y2 y3 y4 y5 y6 y7 y8 Q Hb28 hk
    exact B_X10_explainUntold_60 y0 y1 y2 y3 y4 y5 y6 y7 y8 (fun y => t_lq (b_X10_explainUntold_60) n Q y) (fun y0' y1' y2' y3' y4' hy => Hb28 y0' y1' y2' y3' y4' hy) (fun y0' y1' y2' y3' y4' y5' y6' y7' y8' hy => ih y0' y1' y2' y3' y4' y5' y6' y7' y8' Q Hb28 hy) (t_lp hk)
noncomputable def k_X10_explainUntold_28 (l1 : Int32) (l3 : Int32) (l4 : Int32) (l5 : Int32) (s : t_S) : Option ((Int32 × Int32 × Int32 × Int32 × t_S) ⊕ (t_S)) :=
 if l3 ≤ l5 then ((some (s)).map Sum.inr)
 else (if t_oka (s.2.2 353 14) 2 (t_ln (s.2.2 353 14)) = true then
  if t_ix l4 (t_ln (s.2.2 353 14)) = true then
  if t_ix l1 6100 = true then
  t_loop (b_X10_explainUntold_60) t_N (l1, l3, l4, l5, (f_X8_wordOf (s.2.1 (s.2.2 353 14) (l4.toNatClampNeg)) s), 0, (s.1 355 (l1.toNatClampNeg)), 0, s)
else none
else none
else none)
set_option maxRecDepth 4000 in
set_option maxHeartbeats 1000000 in
theorem B_X10_explainUntold_28 {D : va_G} {cy : Nat → ClassId} {ad : Nat → Nat} {bs : Nat} {X : State → Heap → Prop} (l1 : Int32) (l3 : Int32) (l4 : Int32) (l5 : Int32) (s : t_S) (Q : (Int32 × Int32 × Int32 × Int32 × t_S) ⊕ (t_S) → Prop) (Hb28 : ∀ (y0 : Int32) (y1 : Int32) (y2 : Int32) (y3 : Int32) (y4 : t_S), Q (.inl (y0, y1, y2, y3, y4)) → mj_G D cy ad bs X cX10_explainUntold 10 yX10_explainUntold.cls none yX10_explainUntold.name 1 0 0 1065 (t_P (fun v s' => v = none ∧ Q (.inr (s')))) 28 [(0, .ref 353), (1, .int (y0)), (3, .int (y1)), (4, .int (y2)), (5, .int (y3))] [] (t_m y4) 1065 0 0) (hk : t_hk (k_X10_explainUntold_28 l1 l3 l4 l5 s) Q) : mj_G D cy ad bs X cX10_explainUntold 10 yX10_explainUntold.cls none yX10_explainUntold.name 1 0 0 1065 (t_P (fun v s' => v = none ∧ Q (.inr (s')))) 28 [(0, .ref 353), (1, .int l1), (3, .int l3), (4, .int l4), (5, .int l5)] [] (t_m s) 1065 0 0 := by
  refine mj_iload dX10_explainUntold_28 4 rfl ?_
  refine mj_iload_n dX10_explainUntold_30 2 rfl ?_
  refine mj_icmp_ge 146 dX10_explainUntold_31 (by decide) (fun z => t_posK hk z (fun hk => ?_)) (fun z => t_negK hk z (fun hk => ?_))
  · refine t_mapK hk (fun hk => ?_)
    exact t_somK hk (fun hf => t_vret dX10_explainUntold_146 rfl ⟨rfl, hf⟩ (Nat.le_of_ble_eq_true rfl) (Nat.le_of_ble_eq_true rfl))
  · refine mj_aload_n dX10_explainUntold_34 0 rfl ?_
    refine t_getD dX10_explainUntold_35 F_X10_67 qf_353_14 ?_
    refine mj_iload dX10_explainUntold_38 3 rfl ?_
    refine t_chkK hk (fun c0 hk => ?_)
    refine t_chkK hk (fun c1 hk => ?_)
    refine t_lald dX10_explainUntold_40 c0 (t_ixv c1) ?_
    refine t_callSiP dX10_explainUntold_41 M_X8_wordOf (C_X8_wordOf _ _) ML_X10_171 SM_X8_wordOf (As := [.long (s.2.1 (s.2.2 353 14) (l4.toNatClampNeg))]) rfl rfl (Nat.le_of_ble_eq_true rfl) (Nat.le_of_ble_eq_true rfl) (Nat.le_of_ble_eq_true rfl) (Nat.le_of_ble_eq_true rfl) ?_
    refine mj_istore (lv2 := [(6, .int (f_X8_wordOf (s.2.1 (s.2.2 353 14) (l4.toNatClampNeg)) s)), (0, .ref 353), (1, .int l1), (3, .int l3), (4, .int l4), (5, .int l5)]) dX10_explainUntold_44 (by decide) rfl ?_
    refine mj_iconst (v := 0) dX10_explainUntold_46 (by decide) ?_
    refine mj_istore (lv2 := [(7, .int 0), (6, .int (f_X8_wordOf (s.2.1 (s.2.2 353 14) (l4.toNatClampNeg)) s)), (0, .ref 353), (1, .int l1), (3, .int l3), (4, .int l4), (5, .int l5)]) dX10_explainUntold_47 (by decide) rfl ?_
    refine mj_aload_n dX10_explainUntold_49 2 rfl ?_
    refine t_getR 355 dX10_explainUntold_50 F_X10_15 qr_353_1 ?_
    refine mj_iload_n dX10_explainUntold_53 3 rfl ?_
    refine t_chkK hk (fun c3 hk => ?_)
    refine t_iald dX10_explainUntold_54 qa_355 (t_ixv c3) ?_
    refine mj_istore (lv2 := [(8, .int (s.1 355 (l1.toNatClampNeg))), (7, .int 0), (6, .int (f_X8_wordOf (s.2.1 (s.2.2 353 14) (l4.toNatClampNeg)) s)), (0, .ref 353), (1, .int l1), (3, .int l3), (4, .int l4), (5, .int l5)]) dX10_explainUntold_55 (by decide) rfl ?_
    refine mj_iconst (v := 0) dX10_explainUntold_57 (by decide) ?_
    refine mj_istore (lv2 := [(9, .int 0), (8, .int (s.1 355 (l1.toNatClampNeg))), (7, .int 0), (6, .int (f_X8_wordOf (s.2.1 (s.2.2 353 14) (l4.toNatClampNeg)) s)), (0, .ref 353), (1, .int l1), (3, .int l3), (4, .int l4), (5, .int l5)]) dX10_explainUntold_58 (by decide) rfl ?_
    refine mj_sublv [(0, .ref 353), (1, .int l1), (3, .int l3), (4, .int l4), (5, .int l5), (6, .int (f_X8_wordOf (s.2.1 (s.2.2 353 14) (l4.toNatClampNeg)) s)), (7, .int 0), (8, .int (s.1 355 (l1.toNatClampNeg))), (9, .int 0)] [4, 5, 6, 7, 8, 3, 2, 1, 0] rfl ?_
    exact LH_X10_explainUntold_60 _ l1 l3 l4 l5 (f_X8_wordOf (s.2.1 (s.2.2 353 14) (l4.toNatClampNeg)) s) 0 (s.1 355 (l1.toNatClampNeg)) 0 s _ (fun y0 y1 y2 y3 y4 hx => Hb28 y0 y1 y2 y3 y4 hx) hk
noncomputable def b_X10_explainUntold_28 (x : Int32 × Int32 × Int32 × Int32 × t_S) : Option ((Int32 × Int32 × Int32 × Int32 × t_S) ⊕ (t_S)) := k_X10_explainUntold_28 x.1 x.2.1 x.2.2.1 x.2.2.2.1 x.2.2.2.2
set_option maxRecDepth 4000 in
set_option maxHeartbeats 1000000 in
theorem LH_X10_explainUntold_28 {D : va_G} {cy : Nat → ClassId} {ad : Nat → Nat} {bs : Nat} {X : State → Heap → Prop} : ∀ (n : Nat) (y0 : Int32) (y1 : Int32) (y2 : Int32) (y3 : Int32) (y4 : t_S) (Q : t_S → Prop) (hk : t_hk (t_loop (b_X10_explainUntold_28) n (y0, y1, y2, y3, y4)) Q), mj_G D cy ad bs X cX10_explainUntold 10 yX10_explainUntold.cls none yX10_explainUntold.name 1 0 0 1065 (t_P (fun v s' => v = none ∧ Q (s'))) 28 [(0, .ref 353), (1, .int (y0)), (3, .int (y1)), (4, .int (y2)), (5, .int (y3))] [] (t_m y4) 1065 0 0 := by
  intro n
  induction n with
  | zero => intro y0 y1 y2 y3 y4 Q hk; obtain ⟨r, hr, _⟩ := hk; cases hr
  | succ n ih =>
    intro y0 y1 y2 y3 y4 Q hk
    exact B_X10_explainUntold_28 y0 y1 y2 y3 y4 (fun y => t_lq (b_X10_explainUntold_28) n Q y) (fun y0' y1' y2' y3' y4' hy => ih y0' y1' y2' y3' y4' Q hy) (t_lp hk)
noncomputable def f_X10_explainUntold (x1 : Int32) (x2 : Int32) (s : t_S) : Option (t_S) :=
 if t_oka (s.2.2 353 14) 2 (t_ln (s.2.2 353 14)) = true then
  if t_ix ((s.1 353 15) + x2) (t_ln (s.2.2 353 14)) = true then
  t_loop (b_X10_explainUntold_28) t_N (x1, (f_X8_partsOf (s.2.1 (s.2.2 353 14) (((s.1 353 15) + x2).toNatClampNeg)) s), (((s.1 353 15) + x2) + (1 : Int32)), 0, s)
else none
else none
set_option maxRecDepth 4000 in
set_option maxHeartbeats 1000000 in
theorem C_X10_explainUntold (x1 : Int32) (x2 : Int32) (s : t_S) (r : t_S) (hr : f_X10_explainUntold x1 x2 s = some r) : t_C yX10_explainUntold cX10_explainUntold 10 none 1 [.ref 353, .int x1, .int x2] s (fun v s' => v = none ∧ s' = r) := by
  refine t_C.imp (P := fun v s' => v = none ∧ (fun q => q = r) (s')) (t_C.of (by decide +kernel) (Nat.le_of_ble_eq_true rfl) ?_) (fun v s' hp => hp)
  intro D cy ad bs X
  have hk : t_hk (f_X10_explainUntold x1 x2 s) (fun q => q = r) := ⟨r, hr, rfl⟩
  show mj_G D cy ad bs X cX10_explainUntold 10 yX10_explainUntold.cls none yX10_explainUntold.name 1 0 0 1065 (t_P (fun v s' => v = none ∧ (fun q => q = r) (s'))) 0 [(0, .ref 353), (1, .int x1), (2, .int x2)] [] (t_m s) 1065 0 0
  refine mj_aload_n dX10_explainUntold_0 0 rfl ?_
  refine t_getD dX10_explainUntold_1 F_X10_67 qf_353_14 ?_
  refine mj_aload_n dX10_explainUntold_4 0 rfl ?_
  refine t_getI dX10_explainUntold_5 F_X10_132 qf_353_15 ?_
  refine mj_iload_n dX10_explainUntold_8 2 rfl ?_
  refine mj_iadd dX10_explainUntold_9 ?_
  refine t_chkK hk (fun c0 hk => ?_)
  refine t_chkK hk (fun c1 hk => ?_)
  refine t_lald dX10_explainUntold_10 c0 (t_ixv c1) ?_
  refine t_callSiP dX10_explainUntold_11 M_X8_partsOf (C_X8_partsOf _ _) ML_X10_185 SM_X8_partsOf (As := [.long (s.2.1 (s.2.2 353 14) (((s.1 353 15) + x2).toNatClampNeg))]) rfl rfl (Nat.le_of_ble_eq_true rfl) (Nat.le_of_ble_eq_true rfl) (Nat.le_of_ble_eq_true rfl) (Nat.le_of_ble_eq_true rfl) ?_
  refine mj_istore_n 3 (lv2 := [(3, .int (f_X8_partsOf (s.2.1 (s.2.2 353 14) (((s.1 353 15) + x2).toNatClampNeg)) s)), (0, .ref 353), (1, .int x1), (2, .int x2)]) dX10_explainUntold_14 rfl (by decide) rfl ?_
  refine mj_aload_n dX10_explainUntold_15 1 rfl ?_
  refine t_getI dX10_explainUntold_16 F_X10_132 qf_353_15 ?_
  refine mj_iload_n dX10_explainUntold_19 3 rfl ?_
  refine mj_iadd dX10_explainUntold_20 ?_
  refine mj_iconst (v := 1) dX10_explainUntold_21 (by decide) ?_
  refine mj_iadd dX10_explainUntold_22 ?_
  refine mj_istore (lv2 := [(4, .int (((s.1 353 15) + x2) + (1 : Int32))), (3, .int (f_X8_partsOf (s.2.1 (s.2.2 353 14) (((s.1 353 15) + x2).toNatClampNeg)) s)), (0, .ref 353), (1, .int x1), (2, .int x2)]) dX10_explainUntold_23 (by decide) rfl ?_
  refine mj_iconst (v := 0) dX10_explainUntold_25 (by decide) ?_
  refine mj_istore (lv2 := [(5, .int 0), (4, .int (((s.1 353 15) + x2) + (1 : Int32))), (3, .int (f_X8_partsOf (s.2.1 (s.2.2 353 14) (((s.1 353 15) + x2).toNatClampNeg)) s)), (0, .ref 353), (1, .int x1), (2, .int x2)]) dX10_explainUntold_26 (by decide) rfl ?_
  refine mj_sublv [(0, .ref 353), (1, .int x1), (3, .int (f_X8_partsOf (s.2.1 (s.2.2 353 14) (((s.1 353 15) + x2).toNatClampNeg)) s)), (4, .int (((s.1 353 15) + x2) + (1 : Int32))), (5, .int 0)] [3, 4, 2, 1, 0] rfl ?_
  exact LH_X10_explainUntold_28 _ x1 (f_X8_partsOf (s.2.1 (s.2.2 353 14) (((s.1 353 15) + x2).toNatClampNeg)) s) (((s.1 353 15) + x2) + (1 : Int32)) 0 s _ hk

theorem dX10_firstWrongElement_0 : decode cX10_firstWrongElement 0 = .ok (.iload_n 2, 1) := by decide +kernel
theorem dX10_firstWrongElement_1 : decode cX10_firstWrongElement 1 = .ok (.iconst 1, 1) := by decide +kernel
theorem dX10_firstWrongElement_10 : decode cX10_firstWrongElement 10 = .ok (.istore 4, 2) := by decide +kernel
theorem dX10_firstWrongElement_12 : decode cX10_firstWrongElement 12 = .ok (.iconst 0, 1) := by decide +kernel
theorem dX10_firstWrongElement_13 : decode cX10_firstWrongElement 13 = .ok (.istore 5, 2) := by decide +kernel
theorem dX10_firstWrongElement_15 : decode cX10_firstWrongElement 15 = .ok (.iload 5, 2) := by decide +kernel
theorem dX10_firstWrongElement_17 : decode cX10_firstWrongElement 17 = .ok (.bipush 12, 2) := by decide +kernel
theorem dX10_firstWrongElement_19 : decode cX10_firstWrongElement 19 = .ok (.if_icmp .ge 54, 3) := by decide +kernel
theorem dX10_firstWrongElement_2 : decode cX10_firstWrongElement 2 = .ok (.iadd, 1) := by decide +kernel
theorem dX10_firstWrongElement_22 : decode cX10_firstWrongElement 22 = .ok (.iload 4, 2) := by decide +kernel
theorem dX10_firstWrongElement_24 : decode cX10_firstWrongElement 24 = .ok (.ifCond .lt 49, 3) := by decide +kernel
theorem dX10_firstWrongElement_27 : decode cX10_firstWrongElement 27 = .ok (.aload_n 0, 1) := by decide +kernel
theorem dX10_firstWrongElement_28 : decode cX10_firstWrongElement 28 = .ok (.iload 4, 2) := by decide +kernel
theorem dX10_firstWrongElement_3 : decode cX10_firstWrongElement 3 = .ok (.istore_n 3, 1) := by decide +kernel
theorem dX10_firstWrongElement_30 : decode cX10_firstWrongElement 30 = .ok (.iload_n 3, 1) := by decide +kernel
theorem dX10_firstWrongElement_31 : decode cX10_firstWrongElement 31 = .ok (.iconst 0, 1) := by decide +kernel
theorem dX10_firstWrongElement_32 : decode cX10_firstWrongElement 32 = .ok (.invokevirtual 145, 3) := by decide +kernel
theorem dX10_firstWrongElement_35 : decode cX10_firstWrongElement 35 = .ok (.ifCond .ne 6, 3) := by decide +kernel
theorem dX10_firstWrongElement_38 : decode cX10_firstWrongElement 38 = .ok (.iload 5, 2) := by decide +kernel
theorem dX10_firstWrongElement_4 : decode cX10_firstWrongElement 4 = .ok (.aload_n 0, 1) := by decide +kernel
theorem dX10_firstWrongElement_40 : decode cX10_firstWrongElement 40 = .ok (.ireturn, 1) := by decide +kernel
theorem dX10_firstWrongElement_41 : decode cX10_firstWrongElement 41 = .ok (.iload_n 3, 1) := by decide +kernel
theorem dX10_firstWrongElement_42 : decode cX10_firstWrongElement 42 = .ok (.aload_n 0, 1) := by decide +kernel
theorem dX10_firstWrongElement_43 : decode cX10_firstWrongElement 43 = .ok (.getfield 67, 3) := by decide +kernel
theorem dX10_firstWrongElement_46 : decode cX10_firstWrongElement 46 = .ok (.aload_n 0, 1) := by decide +kernel
theorem dX10_firstWrongElement_47 : decode cX10_firstWrongElement 47 = .ok (.getfield 132, 3) := by decide +kernel
theorem dX10_firstWrongElement_5 : decode cX10_firstWrongElement 5 = .ok (.getfield 15, 3) := by decide +kernel
theorem dX10_firstWrongElement_50 : decode cX10_firstWrongElement 50 = .ok (.iload_n 3, 1) := by decide +kernel
theorem dX10_firstWrongElement_51 : decode cX10_firstWrongElement 51 = .ok (.iadd, 1) := by decide +kernel
theorem dX10_firstWrongElement_52 : decode cX10_firstWrongElement 52 = .ok (.laload, 1) := by decide +kernel
theorem dX10_firstWrongElement_53 : decode cX10_firstWrongElement 53 = .ok (.invokestatic 125, 3) := by decide +kernel
theorem dX10_firstWrongElement_56 : decode cX10_firstWrongElement 56 = .ok (.iadd, 1) := by decide +kernel
theorem dX10_firstWrongElement_57 : decode cX10_firstWrongElement 57 = .ok (.istore_n 3, 1) := by decide +kernel
theorem dX10_firstWrongElement_58 : decode cX10_firstWrongElement 58 = .ok (.aload_n 0, 1) := by decide +kernel
theorem dX10_firstWrongElement_59 : decode cX10_firstWrongElement 59 = .ok (.getfield 18, 3) := by decide +kernel
theorem dX10_firstWrongElement_62 : decode cX10_firstWrongElement 62 = .ok (.iload 4, 2) := by decide +kernel
theorem dX10_firstWrongElement_64 : decode cX10_firstWrongElement 64 = .ok (.iaload, 1) := by decide +kernel
theorem dX10_firstWrongElement_65 : decode cX10_firstWrongElement 65 = .ok (.istore 4, 2) := by decide +kernel
theorem dX10_firstWrongElement_67 : decode cX10_firstWrongElement 67 = .ok (.iinc 5 1, 3) := by decide +kernel
theorem dX10_firstWrongElement_70 : decode cX10_firstWrongElement 70 = .ok (.goto (-55), 3) := by decide +kernel
theorem dX10_firstWrongElement_73 : decode cX10_firstWrongElement 73 = .ok (.iconst (-1), 1) := by decide +kernel
theorem dX10_firstWrongElement_74 : decode cX10_firstWrongElement 74 = .ok (.ireturn, 1) := by decide +kernel
theorem dX10_firstWrongElement_8 : decode cX10_firstWrongElement 8 = .ok (.iload_n 1, 1) := by decide +kernel
theorem dX10_firstWrongElement_9 : decode cX10_firstWrongElement 9 = .ok (.iaload, 1) := by decide +kernel
noncomputable def k_X10_firstWrongElement_15 (l3 : Int32) (l4 : Int32) (l5 : Int32) (s : t_S) : Option ((Int32 × Int32 × Int32 × t_S) ⊕ (Int32 × t_S)) :=
 if (12 : Int32) ≤ l5 then ((some ((-1 : Int32), s)).map Sum.inr)
 else (if l4 < (0 : Int32) then ((some ((-1 : Int32), s)).map Sum.inr)
 else ((f_X10_matches l4 l3 (0 : Int32) s).bind (fun r1 =>
 if r1.1 = (0 : Int32) then ((some (l5, r1.2)).map Sum.inr)
 else (if t_oka (r1.2.2.2 353 14) 2 (t_ln (r1.2.2.2 353 14)) = true then
  if t_ix ((r1.2.1 353 15) + l3) (t_ln (r1.2.2.2 353 14)) = true then
  if t_ix l4 6100 = true then
  some (.inl ((l3 + (f_X8_size (r1.2.2.1 (r1.2.2.2 353 14) (((r1.2.1 353 15) + l3).toNatClampNeg)) r1.2)), (r1.2.1 356 (l4.toNatClampNeg)), (l5 + 1), r1.2))
else none
else none
else none))))
set_option maxRecDepth 4000 in
set_option maxHeartbeats 1000000 in
theorem B_X10_firstWrongElement_15 {D : va_G} {cy : Nat → ClassId} {ad : Nat → Nat} {bs : Nat} {X : State → Heap → Prop} (l3 : Int32) (l4 : Int32) (l5 : Int32) (s : t_S) (Q : (Int32 × Int32 × Int32 × t_S) ⊕ (Int32 × t_S) → Prop) (Hb15 : ∀ (y0 : Int32) (y1 : Int32) (y2 : Int32) (y3 : t_S), Q (.inl (y0, y1, y2, y3)) → mj_G D cy ad bs X cX10_firstWrongElement 6 yX10_firstWrongElement.cls (some .int) yX10_firstWrongElement.name 403 0 0 1065 (t_P (fun v s' => ∃ x, v = some (.int x) ∧ Q (.inr ((x, s'))))) 15 [(0, .ref 353), (3, .int (y0)), (4, .int (y1)), (5, .int (y2))] [] (t_m y3) 1065 0 0) (hk : t_hk (k_X10_firstWrongElement_15 l3 l4 l5 s) Q) : mj_G D cy ad bs X cX10_firstWrongElement 6 yX10_firstWrongElement.cls (some .int) yX10_firstWrongElement.name 403 0 0 1065 (t_P (fun v s' => ∃ x, v = some (.int x) ∧ Q (.inr ((x, s'))))) 15 [(0, .ref 353), (3, .int l3), (4, .int l4), (5, .int l5)] [] (t_m s) 1065 0 0 := by
  refine mj_iload dX10_firstWrongElement_15 3 rfl ?_
  refine mj_bipush (v := 12) dX10_firstWrongElement_17 (by decide) ?_
  refine mj_icmp_ge 73 dX10_firstWrongElement_19 (by decide) (fun z => t_posK hk z (fun hk => ?_)) (fun z => t_negK hk z (fun hk => ?_))
  · refine t_mapK hk (fun hk => ?_)
    refine mj_iconst (v := (-1)) dX10_firstWrongElement_73 (by decide) ?_
    exact t_somK hk (fun hf => t_iret dX10_firstWrongElement_74 rfl rfl ⟨_, rfl, hf⟩ (Nat.le_of_ble_eq_true rfl) (Nat.le_of_ble_eq_true rfl))
  · refine mj_iload dX10_firstWrongElement_22 2 rfl ?_
    refine mj_if_lt 73 dX10_firstWrongElement_24 (by decide) (fun z => t_posK hk z (fun hk => ?_)) (fun z => t_negK hk z (fun hk => ?_))
    · refine t_mapK hk (fun hk => ?_)
      refine mj_iconst (v := (-1)) dX10_firstWrongElement_73 (by decide) ?_
      exact t_somK hk (fun hf => t_iret dX10_firstWrongElement_74 rfl rfl ⟨_, rfl, hf⟩ (Nat.le_of_ble_eq_true rfl) (Nat.le_of_ble_eq_true rfl))
    · refine mj_aload_n dX10_firstWrongElement_27 0 rfl ?_
      refine mj_iload dX10_firstWrongElement_28 2 rfl ?_
      refine mj_iload_n dX10_firstWrongElement_30 1 rfl ?_
      refine mj_iconst (v := 0) dX10_firstWrongElement_31 (by decide) ?_
      refine t_bndK hk (fun r1 er1 hk => ?_)
      refine t_callViE dX10_firstWrongElement_32 M_X10_matches (C_X10_matches _ _ _ _ _ er1) ML_X10_145 IM_X10_matches SE_X10_matches qc_353 rfl (As := [.int l4, .int l3, .int 0]) rfl rfl (Nat.le_of_ble_eq_true rfl) (Nat.le_of_ble_eq_true rfl) (Nat.le_of_ble_eq_true rfl) (Nat.le_of_ble_eq_true rfl) ?_
      refine mj_if_ne 41 dX10_firstWrongElement_35 (by decide) (fun z => t_negK hk z (fun hk => ?_)) (fun z => t_posK hk z (fun hk => ?_))
      · refine mj_iload_n dX10_firstWrongElement_41 1 rfl ?_
        refine mj_aload_n dX10_firstWrongElement_42 0 rfl ?_
        refine t_getD dX10_firstWrongElement_43 F_X10_67 qf_353_14 ?_
        refine mj_aload_n dX10_firstWrongElement_46 0 rfl ?_
        refine t_getI dX10_firstWrongElement_47 F_X10_132 qf_353_15 ?_
        refine mj_iload_n dX10_firstWrongElement_50 1 rfl ?_
        refine mj_iadd dX10_firstWrongElement_51 ?_
        refine t_chkK hk (fun c1 hk => ?_)
        refine t_chkK hk (fun c2 hk => ?_)
        refine t_lald dX10_firstWrongElement_52 c1 (t_ixv c2) ?_
        refine t_callSiP dX10_firstWrongElement_53 M_X8_size (C_X8_size _ _) ML_X10_125 SM_X8_size (As := [.long (r1.2.2.1 (r1.2.2.2 353 14) (((r1.2.1 353 15) + l3).toNatClampNeg))]) rfl rfl (Nat.le_of_ble_eq_true rfl) (Nat.le_of_ble_eq_true rfl) (Nat.le_of_ble_eq_true rfl) (Nat.le_of_ble_eq_true rfl) ?_
        refine mj_iadd dX10_firstWrongElement_56 ?_
        refine mj_istore_n 3 (lv2 := [(3, .int (l3 + (f_X8_size (r1.2.2.1 (r1.2.2.2 353 14) (((r1.2.1 353 15) + l3).toNatClampNeg)) r1.2))), (0, .ref 353), (4, .int l4), (5, .int l5)]) dX10_firstWrongElement_57 rfl (by decide) rfl ?_
        refine mj_aload_n dX10_firstWrongElement_58 1 rfl ?_
        refine t_getR 356 dX10_firstWrongElement_59 F_X10_18 qr_353_2 ?_
        refine mj_iload dX10_firstWrongElement_62 2 rfl ?_
        refine t_chkK hk (fun c4 hk => ?_)
        refine t_iald dX10_firstWrongElement_64 qa_356 (t_ixv c4) ?_
        refine mj_istore (lv2 := [(4, .int (r1.2.1 356 (l4.toNatClampNeg))), (3, .int (l3 + (f_X8_size (r1.2.2.1 (r1.2.2.2 353 14) (((r1.2.1 353 15) + l3).toNatClampNeg)) r1.2))), (0, .ref 353), (5, .int l5)]) dX10_firstWrongElement_65 (by decide) rfl ?_
        refine mj_iinc (k := 3) (v := (l5 + 1)) (lv2 := [(5, .int (l5 + 1)), (4, .int (r1.2.1 356 (l4.toNatClampNeg))), (3, .int (l3 + (f_X8_size (r1.2.2.1 (r1.2.2.2 353 14) (((r1.2.1 353 15) + l3).toNatClampNeg)) r1.2))), (0, .ref 353)]) dX10_firstWrongElement_67 rfl rfl (by decide) rfl ?_
        refine mj_goto 15 dX10_firstWrongElement_70 (by decide) ?_
        refine mj_sublv [(0, .ref 353), (3, .int (l3 + (f_X8_size (r1.2.2.1 (r1.2.2.2 353 14) (((r1.2.1 353 15) + l3).toNatClampNeg)) r1.2))), (4, .int (r1.2.1 356 (l4.toNatClampNeg))), (5, .int (l5 + 1))] [3, 2, 1, 0] rfl ?_
        exact t_somK hk (fun hf => Hb15 (l3 + (f_X8_size (r1.2.2.1 (r1.2.2.2 353 14) (((r1.2.1 353 15) + l3).toNatClampNeg)) r1.2)) (r1.2.1 356 (l4.toNatClampNeg)) (l5 + 1) r1.2 hf)
      · refine t_mapK hk (fun hk => ?_)
        refine mj_iload dX10_firstWrongElement_38 3 rfl ?_
        exact t_somK hk (fun hf => t_iret dX10_firstWrongElement_40 rfl rfl ⟨_, rfl, hf⟩ (Nat.le_of_ble_eq_true rfl) (Nat.le_of_ble_eq_true rfl))
noncomputable def b_X10_firstWrongElement_15 (x : Int32 × Int32 × Int32 × t_S) : Option ((Int32 × Int32 × Int32 × t_S) ⊕ (Int32 × t_S)) := k_X10_firstWrongElement_15 x.1 x.2.1 x.2.2.1 x.2.2.2
set_option maxRecDepth 4000 in
set_option maxHeartbeats 1000000 in
theorem LH_X10_firstWrongElement_15 {D : va_G} {cy : Nat → ClassId} {ad : Nat → Nat} {bs : Nat} {X : State → Heap → Prop} : ∀ (n : Nat) (y0 : Int32) (y1 : Int32) (y2 : Int32) (y3 : t_S) (Q : Int32 × t_S → Prop) (hk : t_hk (t_loop (b_X10_firstWrongElement_15) n (y0, y1, y2, y3)) Q), mj_G D cy ad bs X cX10_firstWrongElement 6 yX10_firstWrongElement.cls (some .int) yX10_firstWrongElement.name 403 0 0 1065 (t_P (fun v s' => ∃ x, v = some (.int x) ∧ Q ((x, s')))) 15 [(0, .ref 353), (3, .int (y0)), (4, .int (y1)), (5, .int (y2))] [] (t_m y3) 1065 0 0 := by
  intro n
  induction n with
  | zero => intro y0 y1 y2 y3 Q hk; obtain ⟨r, hr, _⟩ := hk; cases hr
  | succ n ih =>
    intro y0 y1 y2 y3 Q hk
    exact B_X10_firstWrongElement_15 y0 y1 y2 y3 (fun y => t_lq (b_X10_firstWrongElement_15) n Q y) (fun y0' y1' y2' y3' hy => ih y0' y1' y2' y3' Q hy) (t_lp hk)
noncomputable def f_X10_firstWrongElement (x1 : Int32) (x2 : Int32) (s : t_S) : Option (Int32 × t_S) :=
 if t_ix x1 6100 = true then
  t_loop (b_X10_firstWrongElement_15) t_N ((x2 + (1 : Int32)), (s.1 355 (x1.toNatClampNeg)), 0, s)
else none
set_option maxRecDepth 4000 in
set_option maxHeartbeats 1000000 in
theorem C_X10_firstWrongElement (x1 : Int32) (x2 : Int32) (s : t_S) (r : Int32 × t_S) (hr : f_X10_firstWrongElement x1 x2 s = some r) : t_C yX10_firstWrongElement cX10_firstWrongElement 6 (some .int) 403 [.ref 353, .int x1, .int x2] s (fun v s' => v = some (.int r.1) ∧ s' = r.2) := by
  refine t_C.imp (P := fun v s' => ∃ x, v = some (.int x) ∧ (fun q => q = r) ((x, s'))) (t_C.of (by decide +kernel) (Nat.le_of_ble_eq_true rfl) ?_) (fun v s' hp => by obtain ⟨x, rfl, rfl⟩ := hp; exact ⟨rfl, rfl⟩)
  intro D cy ad bs X
  have hk : t_hk (f_X10_firstWrongElement x1 x2 s) (fun q => q = r) := ⟨r, hr, rfl⟩
  show mj_G D cy ad bs X cX10_firstWrongElement 6 yX10_firstWrongElement.cls (some .int) yX10_firstWrongElement.name 403 0 0 1065 (t_P (fun v s' => ∃ x, v = some (.int x) ∧ (fun q => q = r) ((x, s')))) 0 [(0, .ref 353), (1, .int x1), (2, .int x2)] [] (t_m s) 1065 0 0
  refine mj_iload_n dX10_firstWrongElement_0 2 rfl ?_
  refine mj_iconst (v := 1) dX10_firstWrongElement_1 (by decide) ?_
  refine mj_iadd dX10_firstWrongElement_2 ?_
  refine mj_istore_n 3 (lv2 := [(3, .int (x2 + (1 : Int32))), (0, .ref 353), (1, .int x1), (2, .int x2)]) dX10_firstWrongElement_3 rfl (by decide) rfl ?_
  refine mj_aload_n dX10_firstWrongElement_4 1 rfl ?_
  refine t_getR 355 dX10_firstWrongElement_5 F_X10_15 qr_353_1 ?_
  refine mj_iload_n dX10_firstWrongElement_8 2 rfl ?_
  refine t_chkK hk (fun c0 hk => ?_)
  refine t_iald dX10_firstWrongElement_9 qa_355 (t_ixv c0) ?_
  refine mj_istore (lv2 := [(4, .int (s.1 355 (x1.toNatClampNeg))), (3, .int (x2 + (1 : Int32))), (0, .ref 353), (1, .int x1), (2, .int x2)]) dX10_firstWrongElement_10 (by decide) rfl ?_
  refine mj_iconst (v := 0) dX10_firstWrongElement_12 (by decide) ?_
  refine mj_istore (lv2 := [(5, .int 0), (4, .int (s.1 355 (x1.toNatClampNeg))), (3, .int (x2 + (1 : Int32))), (0, .ref 353), (1, .int x1), (2, .int x2)]) dX10_firstWrongElement_13 (by decide) rfl ?_
  refine mj_sublv [(0, .ref 353), (3, .int (x2 + (1 : Int32))), (4, .int (s.1 355 (x1.toNatClampNeg))), (5, .int 0)] [3, 2, 1, 0] rfl ?_
  exact LH_X10_firstWrongElement_15 _ (x2 + (1 : Int32)) (s.1 355 (x1.toNatClampNeg)) 0 s _ hk

theorem dX10_firstWrongField_0 : decode cX10_firstWrongField 0 = .ok (.aload_n 0, 1) := by decide +kernel
theorem dX10_firstWrongField_1 : decode cX10_firstWrongField 1 = .ok (.getfield 15, 3) := by decide +kernel
theorem dX10_firstWrongField_10 : decode cX10_firstWrongField 10 = .ok (.iload 4, 2) := by decide +kernel
theorem dX10_firstWrongField_12 : decode cX10_firstWrongField 12 = .ok (.bipush 16, 2) := by decide +kernel
theorem dX10_firstWrongField_14 : decode cX10_firstWrongField 14 = .ok (.if_icmp .ge 73, 3) := by decide +kernel
theorem dX10_firstWrongField_17 : decode cX10_firstWrongField 17 = .ok (.iload_n 3, 1) := by decide +kernel
theorem dX10_firstWrongField_18 : decode cX10_firstWrongField 18 = .ok (.ifCond .lt 69, 3) := by decide +kernel
theorem dX10_firstWrongField_21 : decode cX10_firstWrongField 21 = .ok (.aload_n 0, 1) := by decide +kernel
theorem dX10_firstWrongField_22 : decode cX10_firstWrongField 22 = .ok (.getfield 67, 3) := by decide +kernel
theorem dX10_firstWrongField_25 : decode cX10_firstWrongField 25 = .ok (.aload_n 0, 1) := by decide +kernel
theorem dX10_firstWrongField_26 : decode cX10_firstWrongField 26 = .ok (.getfield 132, 3) := by decide +kernel
theorem dX10_firstWrongField_29 : decode cX10_firstWrongField 29 = .ok (.iload_n 2, 1) := by decide +kernel
theorem dX10_firstWrongField_30 : decode cX10_firstWrongField 30 = .ok (.iadd, 1) := by decide +kernel
theorem dX10_firstWrongField_31 : decode cX10_firstWrongField 31 = .ok (.aload_n 0, 1) := by decide +kernel
theorem dX10_firstWrongField_32 : decode cX10_firstWrongField 32 = .ok (.getfield 21, 3) := by decide +kernel
theorem dX10_firstWrongField_35 : decode cX10_firstWrongField 35 = .ok (.iload_n 3, 1) := by decide +kernel
theorem dX10_firstWrongField_36 : decode cX10_firstWrongField 36 = .ok (.iaload, 1) := by decide +kernel
theorem dX10_firstWrongField_37 : decode cX10_firstWrongField 37 = .ok (.invokestatic 195, 3) := by decide +kernel
theorem dX10_firstWrongField_4 : decode cX10_firstWrongField 4 = .ok (.iload_n 1, 1) := by decide +kernel
theorem dX10_firstWrongField_40 : decode cX10_firstWrongField 40 = .ok (.istore 5, 2) := by decide +kernel
theorem dX10_firstWrongField_42 : decode cX10_firstWrongField 42 = .ok (.aload_n 0, 1) := by decide +kernel
theorem dX10_firstWrongField_43 : decode cX10_firstWrongField 43 = .ok (.aload_n 0, 1) := by decide +kernel
theorem dX10_firstWrongField_44 : decode cX10_firstWrongField 44 = .ok (.getfield 15, 3) := by decide +kernel
theorem dX10_firstWrongField_47 : decode cX10_firstWrongField 47 = .ok (.iload_n 3, 1) := by decide +kernel
theorem dX10_firstWrongField_48 : decode cX10_firstWrongField 48 = .ok (.iaload, 1) := by decide +kernel
theorem dX10_firstWrongField_49 : decode cX10_firstWrongField 49 = .ok (.iload 5, 2) := by decide +kernel
theorem dX10_firstWrongField_5 : decode cX10_firstWrongField 5 = .ok (.iaload, 1) := by decide +kernel
theorem dX10_firstWrongField_51 : decode cX10_firstWrongField 51 = .ok (.ifCond .ge 7, 3) := by decide +kernel
theorem dX10_firstWrongField_54 : decode cX10_firstWrongField 54 = .ok (.iconst (-1), 1) := by decide +kernel
theorem dX10_firstWrongField_55 : decode cX10_firstWrongField 55 = .ok (.goto 10, 3) := by decide +kernel
theorem dX10_firstWrongField_58 : decode cX10_firstWrongField 58 = .ok (.iload 5, 2) := by decide +kernel
theorem dX10_firstWrongField_6 : decode cX10_firstWrongField 6 = .ok (.istore_n 3, 1) := by decide +kernel
theorem dX10_firstWrongField_60 : decode cX10_firstWrongField 60 = .ok (.aload_n 0, 1) := by decide +kernel
theorem dX10_firstWrongField_61 : decode cX10_firstWrongField 61 = .ok (.getfield 132, 3) := by decide +kernel
theorem dX10_firstWrongField_64 : decode cX10_firstWrongField 64 = .ok (.isub, 1) := by decide +kernel
theorem dX10_firstWrongField_65 : decode cX10_firstWrongField 65 = .ok (.iconst 0, 1) := by decide +kernel
theorem dX10_firstWrongField_66 : decode cX10_firstWrongField 66 = .ok (.invokevirtual 145, 3) := by decide +kernel
theorem dX10_firstWrongField_69 : decode cX10_firstWrongField 69 = .ok (.ifCond .ne 5, 3) := by decide +kernel
theorem dX10_firstWrongField_7 : decode cX10_firstWrongField 7 = .ok (.iconst 0, 1) := by decide +kernel
theorem dX10_firstWrongField_72 : decode cX10_firstWrongField 72 = .ok (.iload_n 3, 1) := by decide +kernel
theorem dX10_firstWrongField_73 : decode cX10_firstWrongField 73 = .ok (.ireturn, 1) := by decide +kernel
theorem dX10_firstWrongField_74 : decode cX10_firstWrongField 74 = .ok (.aload_n 0, 1) := by decide +kernel
theorem dX10_firstWrongField_75 : decode cX10_firstWrongField 75 = .ok (.getfield 18, 3) := by decide +kernel
theorem dX10_firstWrongField_78 : decode cX10_firstWrongField 78 = .ok (.iload_n 3, 1) := by decide +kernel
theorem dX10_firstWrongField_79 : decode cX10_firstWrongField 79 = .ok (.iaload, 1) := by decide +kernel
theorem dX10_firstWrongField_8 : decode cX10_firstWrongField 8 = .ok (.istore 4, 2) := by decide +kernel
theorem dX10_firstWrongField_80 : decode cX10_firstWrongField 80 = .ok (.istore_n 3, 1) := by decide +kernel
theorem dX10_firstWrongField_81 : decode cX10_firstWrongField 81 = .ok (.iinc 4 1, 3) := by decide +kernel
theorem dX10_firstWrongField_84 : decode cX10_firstWrongField 84 = .ok (.goto (-74), 3) := by decide +kernel
theorem dX10_firstWrongField_87 : decode cX10_firstWrongField 87 = .ok (.iconst (-1), 1) := by decide +kernel
theorem dX10_firstWrongField_88 : decode cX10_firstWrongField 88 = .ok (.ireturn, 1) := by decide +kernel
noncomputable def k_X10_firstWrongField_65 (l2 : Int32) (l3 : Int32) (l4 : Int32) (k0 : Int32) (k1 : Int32) (s : t_S) : Option ((Int32 × Int32 × Int32 × t_S) ⊕ (Int32 × t_S)) :=
 (f_X10_matches k1 k0 (0 : Int32) s).bind (fun r1 =>
 if r1.1 = (0 : Int32) then ((some (l3, r1.2)).map Sum.inr)
 else (if t_ix l3 6100 = true then
  some (.inl (l2, (r1.2.1 356 (l3.toNatClampNeg)), (l4 + 1), r1.2))
else none))
set_option maxRecDepth 4000 in
set_option maxHeartbeats 1000000 in
theorem B_X10_firstWrongField_65 {D : va_G} {cy : Nat → ClassId} {ad : Nat → Nat} {bs : Nat} {X : State → Heap → Prop} (l2 : Int32) (l3 : Int32) (l4 : Int32) (k0 : Int32) (k1 : Int32) (s : t_S) (Q : (Int32 × Int32 × Int32 × t_S) ⊕ (Int32 × t_S) → Prop) (Hb10 : ∀ (y0 : Int32) (y1 : Int32) (y2 : Int32) (y3 : t_S), Q (.inl (y0, y1, y2, y3)) → mj_G D cy ad bs X cX10_firstWrongField 6 yX10_firstWrongField.cls (some .int) yX10_firstWrongField.name 403 0 0 1065 (t_P (fun v s' => ∃ x, v = some (.int x) ∧ Q (.inr ((x, s'))))) 10 [(0, .ref 353), (2, .int (y0)), (3, .int (y1)), (4, .int (y2))] [] (t_m y3) 1065 0 0) (hk : t_hk (k_X10_firstWrongField_65 l2 l3 l4 k0 k1 s) Q) : mj_G D cy ad bs X cX10_firstWrongField 6 yX10_firstWrongField.cls (some .int) yX10_firstWrongField.name 403 0 0 1065 (t_P (fun v s' => ∃ x, v = some (.int x) ∧ Q (.inr ((x, s'))))) 65 [(0, .ref 353), (2, .int l2), (3, .int l3), (4, .int l4)] [.int k0, .int k1, .ref 353] (t_m s) 1065 0 0 := by
  refine mj_iconst (v := 0) dX10_firstWrongField_65 (by decide) ?_
  refine t_bndK hk (fun r1 er1 hk => ?_)
  refine t_callViE dX10_firstWrongField_66 M_X10_matches (C_X10_matches _ _ _ _ _ er1) ML_X10_145 IM_X10_matches SE_X10_matches qc_353 rfl (As := [.int k1, .int k0, .int 0]) rfl rfl (Nat.le_of_ble_eq_true rfl) (Nat.le_of_ble_eq_true rfl) (Nat.le_of_ble_eq_true rfl) (Nat.le_of_ble_eq_true rfl) ?_
  refine mj_if_ne 74 dX10_firstWrongField_69 (by decide) (fun z => t_negK hk z (fun hk => ?_)) (fun z => t_posK hk z (fun hk => ?_))
  · refine mj_aload_n dX10_firstWrongField_74 0 rfl ?_
    refine t_getR 356 dX10_firstWrongField_75 F_X10_18 qr_353_2 ?_
    refine mj_iload_n dX10_firstWrongField_78 2 rfl ?_
    refine t_chkK hk (fun c1 hk => ?_)
    refine t_iald dX10_firstWrongField_79 qa_356 (t_ixv c1) ?_
    refine mj_istore_n 3 (lv2 := [(3, .int (r1.2.1 356 (l3.toNatClampNeg))), (0, .ref 353), (2, .int l2), (4, .int l4)]) dX10_firstWrongField_80 rfl (by decide) rfl ?_
    refine mj_iinc (k := 3) (v := (l4 + 1)) (lv2 := [(4, .int (l4 + 1)), (3, .int (r1.2.1 356 (l3.toNatClampNeg))), (0, .ref 353), (2, .int l2)]) dX10_firstWrongField_81 rfl rfl (by decide) rfl ?_
    refine mj_goto 10 dX10_firstWrongField_84 (by decide) ?_
    refine mj_sublv [(0, .ref 353), (2, .int l2), (3, .int (r1.2.1 356 (l3.toNatClampNeg))), (4, .int (l4 + 1))] [2, 3, 1, 0] rfl ?_
    exact t_somK hk (fun hf => Hb10 l2 (r1.2.1 356 (l3.toNatClampNeg)) (l4 + 1) r1.2 hf)
  · refine t_mapK hk (fun hk => ?_)
    refine mj_iload_n dX10_firstWrongField_72 2 rfl ?_
    exact t_somK hk (fun hf => t_iret dX10_firstWrongField_73 rfl rfl ⟨_, rfl, hf⟩ (Nat.le_of_ble_eq_true rfl) (Nat.le_of_ble_eq_true rfl))
noncomputable def k_X10_firstWrongField_10 (l2 : Int32) (l3 : Int32) (l4 : Int32) (s : t_S) : Option ((Int32 × Int32 × Int32 × t_S) ⊕ (Int32 × t_S)) :=
 if (16 : Int32) ≤ l4 then ((some ((-1 : Int32), s)).map Sum.inr)
 else (if l3 < (0 : Int32) then ((some ((-1 : Int32), s)).map Sum.inr)
 else (if t_ix l3 6100 = true then
  (f_X8_fieldAt (s.2.2 353 14) ((s.1 353 15) + l2) (s.1 357 (l3.toNatClampNeg)) s).bind (fun r2 =>
 if (0 : Int32) ≤ r2 then (k_X10_firstWrongField_65 l2 l3 l4 (r2 - (s.1 353 15)) (s.1 355 (l3.toNatClampNeg)) s)
 else (k_X10_firstWrongField_65 l2 l3 l4 (-1) (s.1 355 (l3.toNatClampNeg)) s))
else none))
set_option maxRecDepth 4000 in
set_option maxHeartbeats 1000000 in
theorem B_X10_firstWrongField_10 {D : va_G} {cy : Nat → ClassId} {ad : Nat → Nat} {bs : Nat} {X : State → Heap → Prop} (l2 : Int32) (l3 : Int32) (l4 : Int32) (s : t_S) (Q : (Int32 × Int32 × Int32 × t_S) ⊕ (Int32 × t_S) → Prop) (Hb10 : ∀ (y0 : Int32) (y1 : Int32) (y2 : Int32) (y3 : t_S), Q (.inl (y0, y1, y2, y3)) → mj_G D cy ad bs X cX10_firstWrongField 6 yX10_firstWrongField.cls (some .int) yX10_firstWrongField.name 403 0 0 1065 (t_P (fun v s' => ∃ x, v = some (.int x) ∧ Q (.inr ((x, s'))))) 10 [(0, .ref 353), (2, .int (y0)), (3, .int (y1)), (4, .int (y2))] [] (t_m y3) 1065 0 0) (hk : t_hk (k_X10_firstWrongField_10 l2 l3 l4 s) Q) : mj_G D cy ad bs X cX10_firstWrongField 6 yX10_firstWrongField.cls (some .int) yX10_firstWrongField.name 403 0 0 1065 (t_P (fun v s' => ∃ x, v = some (.int x) ∧ Q (.inr ((x, s'))))) 10 [(0, .ref 353), (2, .int l2), (3, .int l3), (4, .int l4)] [] (t_m s) 1065 0 0 := by
  refine mj_iload dX10_firstWrongField_10 3 rfl ?_
  refine mj_bipush (v := 16) dX10_firstWrongField_12 (by decide) ?_
  refine mj_icmp_ge 87 dX10_firstWrongField_14 (by decide) (fun z => t_posK hk z (fun hk => ?_)) (fun z => t_negK hk z (fun hk => ?_))
  · refine t_mapK hk (fun hk => ?_)
    refine mj_iconst (v := (-1)) dX10_firstWrongField_87 (by decide) ?_
    exact t_somK hk (fun hf => t_iret dX10_firstWrongField_88 rfl rfl ⟨_, rfl, hf⟩ (Nat.le_of_ble_eq_true rfl) (Nat.le_of_ble_eq_true rfl))
  · refine mj_iload_n dX10_firstWrongField_17 2 rfl ?_
    refine mj_if_lt 87 dX10_firstWrongField_18 (by decide) (fun z => t_posK hk z (fun hk => ?_)) (fun z => t_negK hk z (fun hk => ?_))
    · refine t_mapK hk (fun hk => ?_)
      refine mj_iconst (v := (-1)) dX10_firstWrongField_87 (by decide) ?_
      exact t_somK hk (fun hf => t_iret dX10_firstWrongField_88 rfl rfl ⟨_, rfl, hf⟩ (Nat.le_of_ble_eq_true rfl) (Nat.le_of_ble_eq_true rfl))
    · refine mj_aload_n dX10_firstWrongField_21 0 rfl ?_
      refine t_getD dX10_firstWrongField_22 F_X10_67 qf_353_14 ?_
      refine mj_aload_n dX10_firstWrongField_25 0 rfl ?_
      refine t_getI dX10_firstWrongField_26 F_X10_132 qf_353_15 ?_
      refine mj_iload_n dX10_firstWrongField_29 1 rfl ?_
      refine mj_iadd dX10_firstWrongField_30 ?_
      refine mj_aload_n dX10_firstWrongField_31 0 rfl ?_
      refine t_getR 357 dX10_firstWrongField_32 F_X10_21 qr_353_3 ?_
      refine mj_iload_n dX10_firstWrongField_35 2 rfl ?_
      refine t_chkK hk (fun c0 hk => ?_)
      refine t_iald dX10_firstWrongField_36 qa_357 (t_ixv c0) ?_
      refine t_bndK hk (fun r2 er2 hk => ?_)
      refine t_callSiP dX10_firstWrongField_37 M_X8_fieldAt (C_X8_fieldAt _ _ _ _ _ er2) ML_X10_195 SM_X8_fieldAt (As := [.ref (s.2.2 353 14), .int ((s.1 353 15) + l2), .int (s.1 357 (l3.toNatClampNeg))]) rfl rfl (Nat.le_of_ble_eq_true rfl) (Nat.le_of_ble_eq_true rfl) (Nat.le_of_ble_eq_true rfl) (Nat.le_of_ble_eq_true rfl) ?_
      refine mj_istore (lv2 := [(5, .int r2), (0, .ref 353), (2, .int l2), (3, .int l3), (4, .int l4)]) dX10_firstWrongField_40 (by decide) rfl ?_
      refine mj_aload_n dX10_firstWrongField_42 1 rfl ?_
      refine mj_aload_n dX10_firstWrongField_43 1 rfl ?_
      refine t_getR 355 dX10_firstWrongField_44 F_X10_15 qr_353_1 ?_
      refine mj_iload_n dX10_firstWrongField_47 3 rfl ?_
      refine t_iald dX10_firstWrongField_48 qa_355 (t_ixv c0) ?_
      refine mj_iload dX10_firstWrongField_49 0 rfl ?_
      refine mj_if_ge 58 dX10_firstWrongField_51 (by decide) (fun z => t_posK hk z (fun hk => ?_)) (fun z => t_negK hk z (fun hk => ?_))
      · refine mj_iload dX10_firstWrongField_58 0 rfl ?_
        refine mj_aload_n dX10_firstWrongField_60 1 rfl ?_
        refine t_getI dX10_firstWrongField_61 F_X10_132 qf_353_15 ?_
        refine mj_isub dX10_firstWrongField_64 ?_
        refine mj_sublv [(0, .ref 353), (2, .int l2), (3, .int l3), (4, .int l4)] [1, 2, 3, 4] rfl ?_
        exact B_X10_firstWrongField_65 _ _ _ _ _ _ _ (fun y0 y1 y2 y3 hx => Hb10 y0 y1 y2 y3 hx) hk
      · refine mj_iconst (v := (-1)) dX10_firstWrongField_54 (by decide) ?_
        refine mj_goto 65 dX10_firstWrongField_55 (by decide) ?_
        refine mj_sublv [(0, .ref 353), (2, .int l2), (3, .int l3), (4, .int l4)] [1, 2, 3, 4] rfl ?_
        exact B_X10_firstWrongField_65 _ _ _ _ _ _ _ (fun y0 y1 y2 y3 hx => Hb10 y0 y1 y2 y3 hx) hk
noncomputable def b_X10_firstWrongField_10 (x : Int32 × Int32 × Int32 × t_S) : Option ((Int32 × Int32 × Int32 × t_S) ⊕ (Int32 × t_S)) := k_X10_firstWrongField_10 x.1 x.2.1 x.2.2.1 x.2.2.2
set_option maxRecDepth 4000 in
set_option maxHeartbeats 1000000 in
theorem LH_X10_firstWrongField_10 {D : va_G} {cy : Nat → ClassId} {ad : Nat → Nat} {bs : Nat} {X : State → Heap → Prop} : ∀ (n : Nat) (y0 : Int32) (y1 : Int32) (y2 : Int32) (y3 : t_S) (Q : Int32 × t_S → Prop) (hk : t_hk (t_loop (b_X10_firstWrongField_10) n (y0, y1, y2, y3)) Q), mj_G D cy ad bs X cX10_firstWrongField 6 yX10_firstWrongField.cls (some .int) yX10_firstWrongField.name 403 0 0 1065 (t_P (fun v s' => ∃ x, v = some (.int x) ∧ Q ((x, s')))) 10 [(0, .ref 353), (2, .int (y0)), (3, .int (y1)), (4, .int (y2))] [] (t_m y3) 1065 0 0 := by
  intro n
  induction n with
  | zero => intro y0 y1 y2 y3 Q hk; obtain ⟨r, hr, _⟩ := hk; cases hr
  | succ n ih =>
    intro y0 y1 y2 y3 Q hk
    exact B_X10_firstWrongField_10 y0 y1 y2 y3 (fun y => t_lq (b_X10_firstWrongField_10) n Q y) (fun y0' y1' y2' y3' hy => ih y0' y1' y2' y3' Q hy) (t_lp hk)
noncomputable def f_X10_firstWrongField (x1 : Int32) (x2 : Int32) (s : t_S) : Option (Int32 × t_S) :=
 if t_ix x1 6100 = true then
  t_loop (b_X10_firstWrongField_10) t_N (x2, (s.1 355 (x1.toNatClampNeg)), 0, s)
else none
set_option maxRecDepth 4000 in
set_option maxHeartbeats 1000000 in
theorem C_X10_firstWrongField (x1 : Int32) (x2 : Int32) (s : t_S) (r : Int32 × t_S) (hr : f_X10_firstWrongField x1 x2 s = some r) : t_C yX10_firstWrongField cX10_firstWrongField 6 (some .int) 403 [.ref 353, .int x1, .int x2] s (fun v s' => v = some (.int r.1) ∧ s' = r.2) := by
  refine t_C.imp (P := fun v s' => ∃ x, v = some (.int x) ∧ (fun q => q = r) ((x, s'))) (t_C.of (by decide +kernel) (Nat.le_of_ble_eq_true rfl) ?_) (fun v s' hp => by obtain ⟨x, rfl, rfl⟩ := hp; exact ⟨rfl, rfl⟩)
  intro D cy ad bs X
  have hk : t_hk (f_X10_firstWrongField x1 x2 s) (fun q => q = r) := ⟨r, hr, rfl⟩
  show mj_G D cy ad bs X cX10_firstWrongField 6 yX10_firstWrongField.cls (some .int) yX10_firstWrongField.name 403 0 0 1065 (t_P (fun v s' => ∃ x, v = some (.int x) ∧ (fun q => q = r) ((x, s')))) 0 [(0, .ref 353), (1, .int x1), (2, .int x2)] [] (t_m s) 1065 0 0
  refine mj_aload_n dX10_firstWrongField_0 0 rfl ?_
  refine t_getR 355 dX10_firstWrongField_1 F_X10_15 qr_353_1 ?_
  refine mj_iload_n dX10_firstWrongField_4 1 rfl ?_
  refine t_chkK hk (fun c0 hk => ?_)
  refine t_iald dX10_firstWrongField_5 qa_355 (t_ixv c0) ?_
  refine mj_istore_n 3 (lv2 := [(3, .int (s.1 355 (x1.toNatClampNeg))), (0, .ref 353), (1, .int x1), (2, .int x2)]) dX10_firstWrongField_6 rfl (by decide) rfl ?_
  refine mj_iconst (v := 0) dX10_firstWrongField_7 (by decide) ?_
  refine mj_istore (lv2 := [(4, .int 0), (3, .int (s.1 355 (x1.toNatClampNeg))), (0, .ref 353), (1, .int x1), (2, .int x2)]) dX10_firstWrongField_8 (by decide) rfl ?_
  refine mj_sublv [(0, .ref 353), (2, .int x2), (3, .int (s.1 355 (x1.toNatClampNeg))), (4, .int 0)] [2, 4, 1, 0] rfl ?_
  exact LH_X10_firstWrongField_10 _ x2 (s.1 355 (x1.toNatClampNeg)) 0 s _ hk

theorem dX10_isPlainRow_0 : decode cX10_isPlainRow 0 = .ok (.iconst 0, 1) := by decide +kernel
theorem dX10_isPlainRow_1 : decode cX10_isPlainRow 1 = .ok (.istore_n 3, 1) := by decide +kernel
theorem dX10_isPlainRow_10 : decode cX10_isPlainRow 10 = .ok (.iconst 0, 1) := by decide +kernel
theorem dX10_isPlainRow_11 : decode cX10_isPlainRow 11 = .ok (.istore 5, 2) := by decide +kernel
theorem dX10_isPlainRow_13 : decode cX10_isPlainRow 13 = .ok (.iload 5, 2) := by decide +kernel
theorem dX10_isPlainRow_15 : decode cX10_isPlainRow 15 = .ok (.bipush 12, 2) := by decide +kernel
theorem dX10_isPlainRow_17 : decode cX10_isPlainRow 17 = .ok (.if_icmp .ge 49, 3) := by decide +kernel
theorem dX10_isPlainRow_2 : decode cX10_isPlainRow 2 = .ok (.aload_n 0, 1) := by decide +kernel
theorem dX10_isPlainRow_20 : decode cX10_isPlainRow 20 = .ok (.iload 4, 2) := by decide +kernel
theorem dX10_isPlainRow_22 : decode cX10_isPlainRow 22 = .ok (.ifCond .lt 44, 3) := by decide +kernel
theorem dX10_isPlainRow_25 : decode cX10_isPlainRow 25 = .ok (.aload_n 0, 1) := by decide +kernel
theorem dX10_isPlainRow_26 : decode cX10_isPlainRow 26 = .ok (.getfield 11, 3) := by decide +kernel
theorem dX10_isPlainRow_29 : decode cX10_isPlainRow 29 = .ok (.iload 4, 2) := by decide +kernel
theorem dX10_isPlainRow_3 : decode cX10_isPlainRow 3 = .ok (.getfield 15, 3) := by decide +kernel
theorem dX10_isPlainRow_31 : decode cX10_isPlainRow 31 = .ok (.iaload, 1) := by decide +kernel
theorem dX10_isPlainRow_32 : decode cX10_isPlainRow 32 = .ok (.bipush 18, 2) := by decide +kernel
theorem dX10_isPlainRow_34 : decode cX10_isPlainRow 34 = .ok (.if_icmp .eq 12, 3) := by decide +kernel
theorem dX10_isPlainRow_37 : decode cX10_isPlainRow 37 = .ok (.aload_n 0, 1) := by decide +kernel
theorem dX10_isPlainRow_38 : decode cX10_isPlainRow 38 = .ok (.iload 4, 2) := by decide +kernel
theorem dX10_isPlainRow_40 : decode cX10_isPlainRow 40 = .ok (.invokevirtual 199, 3) := by decide +kernel
theorem dX10_isPlainRow_43 : decode cX10_isPlainRow 43 = .ok (.ifCond .eq 5, 3) := by decide +kernel
theorem dX10_isPlainRow_46 : decode cX10_isPlainRow 46 = .ok (.iconst 0, 1) := by decide +kernel
theorem dX10_isPlainRow_47 : decode cX10_isPlainRow 47 = .ok (.ireturn, 1) := by decide +kernel
theorem dX10_isPlainRow_48 : decode cX10_isPlainRow 48 = .ok (.iinc 3 1, 3) := by decide +kernel
theorem dX10_isPlainRow_51 : decode cX10_isPlainRow 51 = .ok (.aload_n 0, 1) := by decide +kernel
theorem dX10_isPlainRow_52 : decode cX10_isPlainRow 52 = .ok (.getfield 18, 3) := by decide +kernel
theorem dX10_isPlainRow_55 : decode cX10_isPlainRow 55 = .ok (.iload 4, 2) := by decide +kernel
theorem dX10_isPlainRow_57 : decode cX10_isPlainRow 57 = .ok (.iaload, 1) := by decide +kernel
theorem dX10_isPlainRow_58 : decode cX10_isPlainRow 58 = .ok (.istore 4, 2) := by decide +kernel
theorem dX10_isPlainRow_6 : decode cX10_isPlainRow 6 = .ok (.iload_n 1, 1) := by decide +kernel
theorem dX10_isPlainRow_60 : decode cX10_isPlainRow 60 = .ok (.iinc 5 1, 3) := by decide +kernel
theorem dX10_isPlainRow_63 : decode cX10_isPlainRow 63 = .ok (.goto (-50), 3) := by decide +kernel
theorem dX10_isPlainRow_66 : decode cX10_isPlainRow 66 = .ok (.iload_n 3, 1) := by decide +kernel
theorem dX10_isPlainRow_67 : decode cX10_isPlainRow 67 = .ok (.iload_n 2, 1) := by decide +kernel
theorem dX10_isPlainRow_68 : decode cX10_isPlainRow 68 = .ok (.if_icmp .ne 7, 3) := by decide +kernel
theorem dX10_isPlainRow_7 : decode cX10_isPlainRow 7 = .ok (.iaload, 1) := by decide +kernel
theorem dX10_isPlainRow_71 : decode cX10_isPlainRow 71 = .ok (.iconst 1, 1) := by decide +kernel
theorem dX10_isPlainRow_72 : decode cX10_isPlainRow 72 = .ok (.goto 4, 3) := by decide +kernel
theorem dX10_isPlainRow_75 : decode cX10_isPlainRow 75 = .ok (.iconst 0, 1) := by decide +kernel
theorem dX10_isPlainRow_76 : decode cX10_isPlainRow 76 = .ok (.ireturn, 1) := by decide +kernel
theorem dX10_isPlainRow_8 : decode cX10_isPlainRow 8 = .ok (.istore 4, 2) := by decide +kernel
noncomputable def k_X10_isPlainRow_66 (l2 : Int32) (l3 : Int32) (s : t_S) : Option (Int32) :=
 if l3 = l2 then (some (1 : Int32))
 else (some (0 : Int32))
set_option maxRecDepth 4000 in
set_option maxHeartbeats 1000000 in
theorem B_X10_isPlainRow_66 {D : va_G} {cy : Nat → ClassId} {ad : Nat → Nat} {bs : Nat} {X : State → Heap → Prop} (l2 : Int32) (l3 : Int32) (s : t_S) (Q : Int32 → Prop) (hk : t_hk (k_X10_isPlainRow_66 l2 l3 s) Q) : mj_G D cy ad bs X cX10_isPlainRow 6 yX10_isPlainRow.cls (some .boolean) yX10_isPlainRow.name 1 0 0 1065 (t_P (fun v s' => s' = s ∧ ∃ x, v = some (.int x) ∧ Q (x))) 66 [(2, .int l2), (3, .int l3)] [] (t_m s) 1065 0 0 := by
  refine mj_iload_n dX10_isPlainRow_66 1 rfl ?_
  refine mj_iload_n dX10_isPlainRow_67 0 rfl ?_
  refine mj_icmp_ne 75 dX10_isPlainRow_68 (by decide) (fun z => t_negK hk z (fun hk => ?_)) (fun z => t_posK hk z (fun hk => ?_))
  · refine mj_iconst (v := 0) dX10_isPlainRow_75 (by decide) ?_
    exact t_somK hk (fun hf => t_iret dX10_isPlainRow_76 rfl (by decide) ⟨rfl, _, rfl, hf⟩ (Nat.le_of_ble_eq_true rfl) (Nat.le_of_ble_eq_true rfl))
  · refine mj_iconst (v := 1) dX10_isPlainRow_71 (by decide) ?_
    refine mj_goto 76 dX10_isPlainRow_72 (by decide) ?_
    exact t_somK hk (fun hf => t_iret dX10_isPlainRow_76 rfl (by decide) ⟨rfl, _, rfl, hf⟩ (Nat.le_of_ble_eq_true rfl) (Nat.le_of_ble_eq_true rfl))
noncomputable def k_X10_isPlainRow_13 (l2 : Int32) (l3 : Int32) (l4 : Int32) (l5 : Int32) (s : t_S) : Option ((Int32 × Int32 × Int32 × Int32) ⊕ (Int32)) :=
 if (12 : Int32) ≤ l5 then ((k_X10_isPlainRow_66 l2 l3 s).map Sum.inr)
 else (if l4 < (0 : Int32) then ((k_X10_isPlainRow_66 l2 l3 s).map Sum.inr)
 else (if t_ix l4 6100 = true then
  if (s.1 354 (l4.toNatClampNeg)) = (18 : Int32) then ((some (0 : Int32)).map Sum.inr)
 else ((f_X10_isRest l4 s).bind (fun r2 =>
 if r2 = (0 : Int32) then (some (.inl (l2, (l3 + 1), (s.1 356 (l4.toNatClampNeg)), (l5 + 1))))
 else ((some (0 : Int32)).map Sum.inr)))
else none))
set_option maxRecDepth 4000 in
set_option maxHeartbeats 1000000 in
theorem B_X10_isPlainRow_13 {D : va_G} {cy : Nat → ClassId} {ad : Nat → Nat} {bs : Nat} {X : State → Heap → Prop} (l2 : Int32) (l3 : Int32) (l4 : Int32) (l5 : Int32) (s : t_S) (Q : (Int32 × Int32 × Int32 × Int32) ⊕ (Int32) → Prop) (Hb13 : ∀ (y0 : Int32) (y1 : Int32) (y2 : Int32) (y3 : Int32), Q (.inl (y0, y1, y2, y3)) → mj_G D cy ad bs X cX10_isPlainRow 6 yX10_isPlainRow.cls (some .boolean) yX10_isPlainRow.name 1 0 0 1065 (t_P (fun v s' => s' = s ∧ ∃ x, v = some (.int x) ∧ Q (.inr (x)))) 13 [(0, .ref 353), (2, .int (y0)), (3, .int (y1)), (4, .int (y2)), (5, .int (y3))] [] (t_m s) 1065 0 0) (hk : t_hk (k_X10_isPlainRow_13 l2 l3 l4 l5 s) Q) : mj_G D cy ad bs X cX10_isPlainRow 6 yX10_isPlainRow.cls (some .boolean) yX10_isPlainRow.name 1 0 0 1065 (t_P (fun v s' => s' = s ∧ ∃ x, v = some (.int x) ∧ Q (.inr (x)))) 13 [(0, .ref 353), (2, .int l2), (3, .int l3), (4, .int l4), (5, .int l5)] [] (t_m s) 1065 0 0 := by
  refine mj_iload dX10_isPlainRow_13 4 rfl ?_
  refine mj_bipush (v := 12) dX10_isPlainRow_15 (by decide) ?_
  refine mj_icmp_ge 66 dX10_isPlainRow_17 (by decide) (fun z => t_posK hk z (fun hk => ?_)) (fun z => t_negK hk z (fun hk => ?_))
  · refine mj_sublv [(2, .int l2), (3, .int l3)] [1, 2] rfl ?_
    refine t_mapK hk (fun hk => ?_)
    exact B_X10_isPlainRow_66 _ _ _ _ hk
  · refine mj_iload dX10_isPlainRow_20 3 rfl ?_
    refine mj_if_lt 66 dX10_isPlainRow_22 (by decide) (fun z => t_posK hk z (fun hk => ?_)) (fun z => t_negK hk z (fun hk => ?_))
    · refine mj_sublv [(2, .int l2), (3, .int l3)] [1, 2] rfl ?_
      refine t_mapK hk (fun hk => ?_)
      exact B_X10_isPlainRow_66 _ _ _ _ hk
    · refine mj_aload_n dX10_isPlainRow_25 0 rfl ?_
      refine t_getR 354 dX10_isPlainRow_26 F_X10_11 qr_353_0 ?_
      refine mj_iload dX10_isPlainRow_29 3 rfl ?_
      refine t_chkK hk (fun c0 hk => ?_)
      refine t_iald dX10_isPlainRow_31 qa_354 (t_ixv c0) ?_
      refine mj_bipush (v := 18) dX10_isPlainRow_32 (by decide) ?_
      refine mj_icmp_eq 46 dX10_isPlainRow_34 (by decide) (fun z => t_posK hk z (fun hk => ?_)) (fun z => t_negK hk z (fun hk => ?_))
      · refine t_mapK hk (fun hk => ?_)
        refine mj_iconst (v := 0) dX10_isPlainRow_46 (by decide) ?_
        exact t_somK hk (fun hf => t_iret dX10_isPlainRow_47 rfl (by decide) ⟨rfl, _, rfl, hf⟩ (Nat.le_of_ble_eq_true rfl) (Nat.le_of_ble_eq_true rfl))
      · refine mj_aload_n dX10_isPlainRow_37 0 rfl ?_
        refine mj_iload dX10_isPlainRow_38 3 rfl ?_
        refine t_bndK hk (fun r2 er2 hk => ?_)
        refine t_callViP dX10_isPlainRow_40 M_X10_isRest (C_X10_isRest _ _ _ er2) ML_X10_199 IM_X10_isRest SE_X10_isRest qc_353 rfl (As := [.int l4]) rfl rfl (Nat.le_of_ble_eq_true rfl) (Nat.le_of_ble_eq_true rfl) (Nat.le_of_ble_eq_true rfl) (Nat.le_of_ble_eq_true rfl) ?_
        refine mj_if_eq 48 dX10_isPlainRow_43 (by decide) (fun z => t_posK hk z (fun hk => ?_)) (fun z => t_negK hk z (fun hk => ?_))
        · refine mj_iinc (k := 2) (v := (l3 + 1)) (lv2 := [(3, .int (l3 + 1)), (0, .ref 353), (2, .int l2), (4, .int l4), (5, .int l5)]) dX10_isPlainRow_48 rfl rfl (by decide) rfl ?_
          refine mj_aload_n dX10_isPlainRow_51 1 rfl ?_
          refine t_getR 356 dX10_isPlainRow_52 F_X10_18 qr_353_2 ?_
          refine mj_iload dX10_isPlainRow_55 3 rfl ?_
          refine t_iald dX10_isPlainRow_57 qa_356 (t_ixv c0) ?_
          refine mj_istore (lv2 := [(4, .int (s.1 356 (l4.toNatClampNeg))), (3, .int (l3 + 1)), (0, .ref 353), (2, .int l2), (5, .int l5)]) dX10_isPlainRow_58 (by decide) rfl ?_
          refine mj_iinc (k := 4) (v := (l5 + 1)) (lv2 := [(5, .int (l5 + 1)), (4, .int (s.1 356 (l4.toNatClampNeg))), (3, .int (l3 + 1)), (0, .ref 353), (2, .int l2)]) dX10_isPlainRow_60 rfl rfl (by decide) rfl ?_
          refine mj_goto 13 dX10_isPlainRow_63 (by decide) ?_
          refine mj_sublv [(0, .ref 353), (2, .int l2), (3, .int (l3 + 1)), (4, .int (s.1 356 (l4.toNatClampNeg))), (5, .int (l5 + 1))] [3, 4, 2, 1, 0] rfl ?_
          exact t_somK hk (fun hf => Hb13 l2 (l3 + 1) (s.1 356 (l4.toNatClampNeg)) (l5 + 1) hf)
        · refine t_mapK hk (fun hk => ?_)
          refine mj_iconst (v := 0) dX10_isPlainRow_46 (by decide) ?_
          exact t_somK hk (fun hf => t_iret dX10_isPlainRow_47 rfl (by decide) ⟨rfl, _, rfl, hf⟩ (Nat.le_of_ble_eq_true rfl) (Nat.le_of_ble_eq_true rfl))
noncomputable def b_X10_isPlainRow_13 (s : t_S) (x : Int32 × Int32 × Int32 × Int32) : Option ((Int32 × Int32 × Int32 × Int32) ⊕ (Int32)) := k_X10_isPlainRow_13 x.1 x.2.1 x.2.2.1 x.2.2.2 s
set_option maxRecDepth 4000 in
set_option maxHeartbeats 1000000 in
theorem LH_X10_isPlainRow_13 {D : va_G} {cy : Nat → ClassId} {ad : Nat → Nat} {bs : Nat} {X : State → Heap → Prop} (s : t_S) : ∀ (n : Nat) (y0 : Int32) (y1 : Int32) (y2 : Int32) (y3 : Int32) (Q : Int32 → Prop) (hk : t_hk (t_loop (b_X10_isPlainRow_13 s) n (y0, y1, y2, y3)) Q), mj_G D cy ad bs X cX10_isPlainRow 6 yX10_isPlainRow.cls (some .boolean) yX10_isPlainRow.name 1 0 0 1065 (t_P (fun v s' => s' = s ∧ ∃ x, v = some (.int x) ∧ Q (x))) 13 [(0, .ref 353), (2, .int (y0)), (3, .int (y1)), (4, .int (y2)), (5, .int (y3))] [] (t_m s) 1065 0 0 := by
  intro n
  induction n with
  | zero => intro y0 y1 y2 y3 Q hk; obtain ⟨r, hr, _⟩ := hk; cases hr
  | succ n ih =>
    intro y0 y1 y2 y3 Q hk
    exact B_X10_isPlainRow_13 y0 y1 y2 y3 s (fun y => t_lq (b_X10_isPlainRow_13 s) n Q y) (fun y0' y1' y2' y3' hy => ih y0' y1' y2' y3' Q hy) (t_lp hk)
noncomputable def f_X10_isPlainRow (x1 : Int32) (x2 : Int32) (s : t_S) : Option (Int32) :=
 if t_ix x1 6100 = true then
  t_loop (b_X10_isPlainRow_13 s) t_N (x2, 0, (s.1 355 (x1.toNatClampNeg)), 0)
else none
set_option maxRecDepth 4000 in
set_option maxHeartbeats 1000000 in
theorem C_X10_isPlainRow (x1 : Int32) (x2 : Int32) (s : t_S) (r : Int32) (hr : f_X10_isPlainRow x1 x2 s = some r) : t_C yX10_isPlainRow cX10_isPlainRow 6 (some .boolean) 1 [.ref 353, .int x1, .int x2] s (fun v s' => v = some (.int r) ∧ s' = s) := by
  refine t_C.imp (P := fun v s' => s' = s ∧ ∃ x, v = some (.int x) ∧ (fun q => q = r) (x)) (t_C.of (by decide +kernel) (Nat.le_of_ble_eq_true rfl) ?_) (fun v s' hp => by obtain ⟨rfl, x, rfl, rfl⟩ := hp; exact ⟨rfl, rfl⟩)
  intro D cy ad bs X
  have hk : t_hk (f_X10_isPlainRow x1 x2 s) (fun q => q = r) := ⟨r, hr, rfl⟩
  show mj_G D cy ad bs X cX10_isPlainRow 6 yX10_isPlainRow.cls (some .boolean) yX10_isPlainRow.name 1 0 0 1065 (t_P (fun v s' => s' = s ∧ ∃ x, v = some (.int x) ∧ (fun q => q = r) (x))) 0 [(0, .ref 353), (1, .int x1), (2, .int x2)] [] (t_m s) 1065 0 0
  refine mj_iconst (v := 0) dX10_isPlainRow_0 (by decide) ?_
  refine mj_istore_n 3 (lv2 := [(3, .int 0), (0, .ref 353), (1, .int x1), (2, .int x2)]) dX10_isPlainRow_1 rfl (by decide) rfl ?_
  refine mj_aload_n dX10_isPlainRow_2 1 rfl ?_
  refine t_getR 355 dX10_isPlainRow_3 F_X10_15 qr_353_1 ?_
  refine mj_iload_n dX10_isPlainRow_6 2 rfl ?_
  refine t_chkK hk (fun c0 hk => ?_)
  refine t_iald dX10_isPlainRow_7 qa_355 (t_ixv c0) ?_
  refine mj_istore (lv2 := [(4, .int (s.1 355 (x1.toNatClampNeg))), (3, .int 0), (0, .ref 353), (1, .int x1), (2, .int x2)]) dX10_isPlainRow_8 (by decide) rfl ?_
  refine mj_iconst (v := 0) dX10_isPlainRow_10 (by decide) ?_
  refine mj_istore (lv2 := [(5, .int 0), (4, .int (s.1 355 (x1.toNatClampNeg))), (3, .int 0), (0, .ref 353), (1, .int x1), (2, .int x2)]) dX10_isPlainRow_11 (by decide) rfl ?_
  refine mj_sublv [(0, .ref 353), (2, .int x2), (3, .int 0), (4, .int (s.1 355 (x1.toNatClampNeg))), (5, .int 0)] [3, 5, 2, 1, 0] rfl ?_
  exact LH_X10_isPlainRow_13 _ _ x2 0 (s.1 355 (x1.toNatClampNeg)) 0 _ hk

theorem dX10_pieceOf_0 : decode cX10_pieceOf 0 = .ok (.aload_n 0, 1) := by decide +kernel
theorem dX10_pieceOf_1 : decode cX10_pieceOf 1 = .ok (.getfield 15, 3) := by decide +kernel
theorem dX10_pieceOf_10 : decode cX10_pieceOf 10 = .ok (.iload 4, 2) := by decide +kernel
theorem dX10_pieceOf_12 : decode cX10_pieceOf 12 = .ok (.iload_n 2, 1) := by decide +kernel
theorem dX10_pieceOf_13 : decode cX10_pieceOf 13 = .ok (.if_icmp .ge 20, 3) := by decide +kernel
theorem dX10_pieceOf_16 : decode cX10_pieceOf 16 = .ok (.iload_n 3, 1) := by decide +kernel
theorem dX10_pieceOf_17 : decode cX10_pieceOf 17 = .ok (.ifCond .lt 16, 3) := by decide +kernel
theorem dX10_pieceOf_20 : decode cX10_pieceOf 20 = .ok (.aload_n 0, 1) := by decide +kernel
theorem dX10_pieceOf_21 : decode cX10_pieceOf 21 = .ok (.getfield 18, 3) := by decide +kernel
theorem dX10_pieceOf_24 : decode cX10_pieceOf 24 = .ok (.iload_n 3, 1) := by decide +kernel
theorem dX10_pieceOf_25 : decode cX10_pieceOf 25 = .ok (.iaload, 1) := by decide +kernel
theorem dX10_pieceOf_26 : decode cX10_pieceOf 26 = .ok (.istore_n 3, 1) := by decide +kernel
theorem dX10_pieceOf_27 : decode cX10_pieceOf 27 = .ok (.iinc 4 1, 3) := by decide +kernel
theorem dX10_pieceOf_30 : decode cX10_pieceOf 30 = .ok (.goto (-20), 3) := by decide +kernel
theorem dX10_pieceOf_33 : decode cX10_pieceOf 33 = .ok (.iload_n 3, 1) := by decide +kernel
theorem dX10_pieceOf_34 : decode cX10_pieceOf 34 = .ok (.ireturn, 1) := by decide +kernel
theorem dX10_pieceOf_4 : decode cX10_pieceOf 4 = .ok (.iload_n 1, 1) := by decide +kernel
theorem dX10_pieceOf_5 : decode cX10_pieceOf 5 = .ok (.iaload, 1) := by decide +kernel
theorem dX10_pieceOf_6 : decode cX10_pieceOf 6 = .ok (.istore_n 3, 1) := by decide +kernel
theorem dX10_pieceOf_7 : decode cX10_pieceOf 7 = .ok (.iconst 0, 1) := by decide +kernel
theorem dX10_pieceOf_8 : decode cX10_pieceOf 8 = .ok (.istore 4, 2) := by decide +kernel
noncomputable def k_X10_pieceOf_10 (l2 : Int32) (l3 : Int32) (l4 : Int32) (s : t_S) : Option ((Int32 × Int32 × Int32) ⊕ (Int32)) :=
 if l2 ≤ l4 then ((some (l3)).map Sum.inr)
 else (if l3 < (0 : Int32) then ((some (l3)).map Sum.inr)
 else (if t_ix l3 6100 = true then
  some (.inl (l2, (s.1 356 (l3.toNatClampNeg)), (l4 + 1)))
else none))
set_option maxRecDepth 4000 in
set_option maxHeartbeats 1000000 in
theorem B_X10_pieceOf_10 {D : va_G} {cy : Nat → ClassId} {ad : Nat → Nat} {bs : Nat} {X : State → Heap → Prop} (l2 : Int32) (l3 : Int32) (l4 : Int32) (s : t_S) (Q : (Int32 × Int32 × Int32) ⊕ (Int32) → Prop) (Hb10 : ∀ (y0 : Int32) (y1 : Int32) (y2 : Int32), Q (.inl (y0, y1, y2)) → mj_G D cy ad bs X cX10_pieceOf 5 yX10_pieceOf.cls (some .int) yX10_pieceOf.name 0 0 0 1065 (t_P (fun v s' => s' = s ∧ ∃ x, v = some (.int x) ∧ Q (.inr (x)))) 10 [(0, .ref 353), (2, .int (y0)), (3, .int (y1)), (4, .int (y2))] [] (t_m s) 1065 0 0) (hk : t_hk (k_X10_pieceOf_10 l2 l3 l4 s) Q) : mj_G D cy ad bs X cX10_pieceOf 5 yX10_pieceOf.cls (some .int) yX10_pieceOf.name 0 0 0 1065 (t_P (fun v s' => s' = s ∧ ∃ x, v = some (.int x) ∧ Q (.inr (x)))) 10 [(0, .ref 353), (2, .int l2), (3, .int l3), (4, .int l4)] [] (t_m s) 1065 0 0 := by
  refine mj_iload dX10_pieceOf_10 3 rfl ?_
  refine mj_iload_n dX10_pieceOf_12 1 rfl ?_
  refine mj_icmp_ge 33 dX10_pieceOf_13 (by decide) (fun z => t_posK hk z (fun hk => ?_)) (fun z => t_negK hk z (fun hk => ?_))
  · refine t_mapK hk (fun hk => ?_)
    refine mj_iload_n dX10_pieceOf_33 2 rfl ?_
    exact t_somK hk (fun hf => t_iret dX10_pieceOf_34 rfl rfl ⟨rfl, _, rfl, hf⟩ (Nat.le_of_ble_eq_true rfl) (Nat.le_of_ble_eq_true rfl))
  · refine mj_iload_n dX10_pieceOf_16 2 rfl ?_
    refine mj_if_lt 33 dX10_pieceOf_17 (by decide) (fun z => t_posK hk z (fun hk => ?_)) (fun z => t_negK hk z (fun hk => ?_))
    · refine t_mapK hk (fun hk => ?_)
      refine mj_iload_n dX10_pieceOf_33 2 rfl ?_
      exact t_somK hk (fun hf => t_iret dX10_pieceOf_34 rfl rfl ⟨rfl, _, rfl, hf⟩ (Nat.le_of_ble_eq_true rfl) (Nat.le_of_ble_eq_true rfl))
    · refine mj_aload_n dX10_pieceOf_20 0 rfl ?_
      refine t_getR 356 dX10_pieceOf_21 F_X10_18 qr_353_2 ?_
      refine mj_iload_n dX10_pieceOf_24 2 rfl ?_
      refine t_chkK hk (fun c0 hk => ?_)
      refine t_iald dX10_pieceOf_25 qa_356 (t_ixv c0) ?_
      refine mj_istore_n 3 (lv2 := [(3, .int (s.1 356 (l3.toNatClampNeg))), (0, .ref 353), (2, .int l2), (4, .int l4)]) dX10_pieceOf_26 rfl (by decide) rfl ?_
      refine mj_iinc (k := 3) (v := (l4 + 1)) (lv2 := [(4, .int (l4 + 1)), (3, .int (s.1 356 (l3.toNatClampNeg))), (0, .ref 353), (2, .int l2)]) dX10_pieceOf_27 rfl rfl (by decide) rfl ?_
      refine mj_goto 10 dX10_pieceOf_30 (by decide) ?_
      refine mj_sublv [(0, .ref 353), (2, .int l2), (3, .int (s.1 356 (l3.toNatClampNeg))), (4, .int (l4 + 1))] [2, 3, 1, 0] rfl ?_
      exact t_somK hk (fun hf => Hb10 l2 (s.1 356 (l3.toNatClampNeg)) (l4 + 1) hf)
noncomputable def b_X10_pieceOf_10 (s : t_S) (x : Int32 × Int32 × Int32) : Option ((Int32 × Int32 × Int32) ⊕ (Int32)) := k_X10_pieceOf_10 x.1 x.2.1 x.2.2 s
set_option maxRecDepth 4000 in
set_option maxHeartbeats 1000000 in
theorem LH_X10_pieceOf_10 {D : va_G} {cy : Nat → ClassId} {ad : Nat → Nat} {bs : Nat} {X : State → Heap → Prop} (s : t_S) : ∀ (n : Nat) (y0 : Int32) (y1 : Int32) (y2 : Int32) (Q : Int32 → Prop) (hk : t_hk (t_loop (b_X10_pieceOf_10 s) n (y0, y1, y2)) Q), mj_G D cy ad bs X cX10_pieceOf 5 yX10_pieceOf.cls (some .int) yX10_pieceOf.name 0 0 0 1065 (t_P (fun v s' => s' = s ∧ ∃ x, v = some (.int x) ∧ Q (x))) 10 [(0, .ref 353), (2, .int (y0)), (3, .int (y1)), (4, .int (y2))] [] (t_m s) 1065 0 0 := by
  intro n
  induction n with
  | zero => intro y0 y1 y2 Q hk; obtain ⟨r, hr, _⟩ := hk; cases hr
  | succ n ih =>
    intro y0 y1 y2 Q hk
    exact B_X10_pieceOf_10 y0 y1 y2 s (fun y => t_lq (b_X10_pieceOf_10 s) n Q y) (fun y0' y1' y2' hy => ih y0' y1' y2' Q hy) (t_lp hk)
noncomputable def f_X10_pieceOf (x1 : Int32) (x2 : Int32) (s : t_S) : Option (Int32) :=
 if t_ix x1 6100 = true then
  t_loop (b_X10_pieceOf_10 s) t_N (x2, (s.1 355 (x1.toNatClampNeg)), 0)
else none
set_option maxRecDepth 4000 in
set_option maxHeartbeats 1000000 in
theorem C_X10_pieceOf (x1 : Int32) (x2 : Int32) (s : t_S) (r : Int32) (hr : f_X10_pieceOf x1 x2 s = some r) : t_C yX10_pieceOf cX10_pieceOf 5 (some .int) 0 [.ref 353, .int x1, .int x2] s (fun v s' => v = some (.int r) ∧ s' = s) := by
  refine t_C.imp (P := fun v s' => s' = s ∧ ∃ x, v = some (.int x) ∧ (fun q => q = r) (x)) (t_C.of (by decide +kernel) (Nat.le_of_ble_eq_true rfl) ?_) (fun v s' hp => by obtain ⟨rfl, x, rfl, rfl⟩ := hp; exact ⟨rfl, rfl⟩)
  intro D cy ad bs X
  have hk : t_hk (f_X10_pieceOf x1 x2 s) (fun q => q = r) := ⟨r, hr, rfl⟩
  show mj_G D cy ad bs X cX10_pieceOf 5 yX10_pieceOf.cls (some .int) yX10_pieceOf.name 0 0 0 1065 (t_P (fun v s' => s' = s ∧ ∃ x, v = some (.int x) ∧ (fun q => q = r) (x))) 0 [(0, .ref 353), (1, .int x1), (2, .int x2)] [] (t_m s) 1065 0 0
  refine mj_aload_n dX10_pieceOf_0 0 rfl ?_
  refine t_getR 355 dX10_pieceOf_1 F_X10_15 qr_353_1 ?_
  refine mj_iload_n dX10_pieceOf_4 1 rfl ?_
  refine t_chkK hk (fun c0 hk => ?_)
  refine t_iald dX10_pieceOf_5 qa_355 (t_ixv c0) ?_
  refine mj_istore_n 3 (lv2 := [(3, .int (s.1 355 (x1.toNatClampNeg))), (0, .ref 353), (1, .int x1), (2, .int x2)]) dX10_pieceOf_6 rfl (by decide) rfl ?_
  refine mj_iconst (v := 0) dX10_pieceOf_7 (by decide) ?_
  refine mj_istore (lv2 := [(4, .int 0), (3, .int (s.1 355 (x1.toNatClampNeg))), (0, .ref 353), (1, .int x1), (2, .int x2)]) dX10_pieceOf_8 (by decide) rfl ?_
  refine mj_sublv [(0, .ref 353), (2, .int x2), (3, .int (s.1 355 (x1.toNatClampNeg))), (4, .int 0)] [2, 4, 1, 0] rfl ?_
  exact LH_X10_pieceOf_10 _ _ x2 (s.1 355 (x1.toNatClampNeg)) 0 _ hk

theorem dX10_explain_0 : decode cX10_explain 0 = .ok (.aload_n 0, 1) := by decide +kernel
theorem dX10_explain_1 : decode cX10_explain 1 = .ok (.iconst 0, 1) := by decide +kernel
theorem dX10_explain_100 : decode cX10_explain 100 = .ok (.iaload, 1) := by decide +kernel
theorem dX10_explain_101 : decode cX10_explain 101 = .ok (.bipush 8, 2) := by decide +kernel
theorem dX10_explain_103 : decode cX10_explain 103 = .ok (.if_icmp .ne 92, 3) := by decide +kernel
theorem dX10_explain_106 : decode cX10_explain 106 = .ok (.iload 5, 2) := by decide +kernel
theorem dX10_explain_108 : decode cX10_explain 108 = .ok (.bipush 6, 2) := by decide +kernel
theorem dX10_explain_11 : decode cX10_explain 11 = .ok (.aload_n 0, 1) := by decide +kernel
theorem dX10_explain_110 : decode cX10_explain 110 = .ok (.if_icmp .ne 85, 3) := by decide +kernel
theorem dX10_explain_113 : decode cX10_explain 113 = .ok (.aload_n 0, 1) := by decide +kernel
theorem dX10_explain_114 : decode cX10_explain 114 = .ok (.iload_n 2, 1) := by decide +kernel
theorem dX10_explain_115 : decode cX10_explain 115 = .ok (.iload_n 3, 1) := by decide +kernel
theorem dX10_explain_116 : decode cX10_explain 116 = .ok (.invokevirtual 227, 3) := by decide +kernel
theorem dX10_explain_119 : decode cX10_explain 119 = .ok (.istore 6, 2) := by decide +kernel
theorem dX10_explain_12 : decode cX10_explain 12 = .ok (.getfield 132, 3) := by decide +kernel
theorem dX10_explain_121 : decode cX10_explain 121 = .ok (.iload 6, 2) := by decide +kernel
theorem dX10_explain_123 : decode cX10_explain 123 = .ok (.ifCond .ge 12, 3) := by decide +kernel
theorem dX10_explain_126 : decode cX10_explain 126 = .ok (.aload_n 0, 1) := by decide +kernel
theorem dX10_explain_127 : decode cX10_explain 127 = .ok (.iload_n 2, 1) := by decide +kernel
theorem dX10_explain_128 : decode cX10_explain 128 = .ok (.iload_n 3, 1) := by decide +kernel
theorem dX10_explain_129 : decode cX10_explain 129 = .ok (.invokevirtual 230, 3) := by decide +kernel
theorem dX10_explain_132 : decode cX10_explain 132 = .ok (.goto 224, 3) := by decide +kernel
theorem dX10_explain_135 : decode cX10_explain 135 = .ok (.aload_n 0, 1) := by decide +kernel
theorem dX10_explain_136 : decode cX10_explain 136 = .ok (.sipush 1000, 3) := by decide +kernel
theorem dX10_explain_139 : decode cX10_explain 139 = .ok (.aload_n 0, 1) := by decide +kernel
theorem dX10_explain_140 : decode cX10_explain 140 = .ok (.getfield 21, 3) := by decide +kernel
theorem dX10_explain_143 : decode cX10_explain 143 = .ok (.iload 6, 2) := by decide +kernel
theorem dX10_explain_145 : decode cX10_explain 145 = .ok (.iaload, 1) := by decide +kernel
theorem dX10_explain_146 : decode cX10_explain 146 = .ok (.iadd, 1) := by decide +kernel
theorem dX10_explain_147 : decode cX10_explain 147 = .ok (.bipush 66, 2) := by decide +kernel
theorem dX10_explain_149 : decode cX10_explain 149 = .ok (.isub, 1) := by decide +kernel
theorem dX10_explain_15 : decode cX10_explain 15 = .ok (.laload, 1) := by decide +kernel
theorem dX10_explain_150 : decode cX10_explain 150 = .ok (.invokevirtual 236, 3) := by decide +kernel
theorem dX10_explain_153 : decode cX10_explain 153 = .ok (.iconst (-1), 1) := by decide +kernel
theorem dX10_explain_154 : decode cX10_explain 154 = .ok (.aload_n 0, 1) := by decide +kernel
theorem dX10_explain_155 : decode cX10_explain 155 = .ok (.getfield 67, 3) := by decide +kernel
theorem dX10_explain_158 : decode cX10_explain 158 = .ok (.aload_n 0, 1) := by decide +kernel
theorem dX10_explain_159 : decode cX10_explain 159 = .ok (.getfield 132, 3) := by decide +kernel
theorem dX10_explain_16 : decode cX10_explain 16 = .ok (.invokestatic 122, 3) := by decide +kernel
theorem dX10_explain_162 : decode cX10_explain 162 = .ok (.iload_n 3, 1) := by decide +kernel
theorem dX10_explain_163 : decode cX10_explain 163 = .ok (.iadd, 1) := by decide +kernel
theorem dX10_explain_164 : decode cX10_explain 164 = .ok (.aload_n 0, 1) := by decide +kernel
theorem dX10_explain_165 : decode cX10_explain 165 = .ok (.getfield 21, 3) := by decide +kernel
theorem dX10_explain_168 : decode cX10_explain 168 = .ok (.iload 6, 2) := by decide +kernel
theorem dX10_explain_170 : decode cX10_explain 170 = .ok (.iaload, 1) := by decide +kernel
theorem dX10_explain_171 : decode cX10_explain 171 = .ok (.invokestatic 195, 3) := by decide +kernel
theorem dX10_explain_174 : decode cX10_explain 174 = .ok (.aload_n 0, 1) := by decide +kernel
theorem dX10_explain_175 : decode cX10_explain 175 = .ok (.getfield 132, 3) := by decide +kernel
theorem dX10_explain_178 : decode cX10_explain 178 = .ok (.isub, 1) := by decide +kernel
theorem dX10_explain_179 : decode cX10_explain 179 = .ok (.invokestatic 87, 3) := by decide +kernel
theorem dX10_explain_182 : decode cX10_explain 182 = .ok (.istore_n 3, 1) := by decide +kernel
theorem dX10_explain_183 : decode cX10_explain 183 = .ok (.aload_n 0, 1) := by decide +kernel
theorem dX10_explain_184 : decode cX10_explain 184 = .ok (.getfield 15, 3) := by decide +kernel
theorem dX10_explain_187 : decode cX10_explain 187 = .ok (.iload 6, 2) := by decide +kernel
theorem dX10_explain_189 : decode cX10_explain 189 = .ok (.iaload, 1) := by decide +kernel
theorem dX10_explain_19 : decode cX10_explain 19 = .ok (.iconst 4, 1) := by decide +kernel
theorem dX10_explain_190 : decode cX10_explain 190 = .ok (.istore 6, 2) := by decide +kernel
theorem dX10_explain_192 : decode cX10_explain 192 = .ok (.goto 164, 3) := by decide +kernel
theorem dX10_explain_195 : decode cX10_explain 195 = .ok (.aload_n 0, 1) := by decide +kernel
theorem dX10_explain_196 : decode cX10_explain 196 = .ok (.getfield 11, 3) := by decide +kernel
theorem dX10_explain_199 : decode cX10_explain 199 = .ok (.iload_n 2, 1) := by decide +kernel
theorem dX10_explain_2 : decode cX10_explain 2 = .ok (.putfield 224, 3) := by decide +kernel
theorem dX10_explain_20 : decode cX10_explain 20 = .ok (.if_icmp .ne 7, 3) := by decide +kernel
theorem dX10_explain_200 : decode cX10_explain 200 = .ok (.iaload, 1) := by decide +kernel
theorem dX10_explain_201 : decode cX10_explain 201 = .ok (.bipush 9, 2) := by decide +kernel
theorem dX10_explain_203 : decode cX10_explain 203 = .ok (.if_icmp .ne 64, 3) := by decide +kernel
theorem dX10_explain_206 : decode cX10_explain 206 = .ok (.iload 5, 2) := by decide +kernel
theorem dX10_explain_208 : decode cX10_explain 208 = .ok (.bipush 7, 2) := by decide +kernel
theorem dX10_explain_210 : decode cX10_explain 210 = .ok (.if_icmp .ne 57, 3) := by decide +kernel
theorem dX10_explain_213 : decode cX10_explain 213 = .ok (.aload_n 0, 1) := by decide +kernel
theorem dX10_explain_214 : decode cX10_explain 214 = .ok (.getfield 67, 3) := by decide +kernel
theorem dX10_explain_217 : decode cX10_explain 217 = .ok (.aload_n 0, 1) := by decide +kernel
theorem dX10_explain_218 : decode cX10_explain 218 = .ok (.getfield 132, 3) := by decide +kernel
theorem dX10_explain_221 : decode cX10_explain 221 = .ok (.iload_n 3, 1) := by decide +kernel
theorem dX10_explain_222 : decode cX10_explain 222 = .ok (.iadd, 1) := by decide +kernel
theorem dX10_explain_223 : decode cX10_explain 223 = .ok (.laload, 1) := by decide +kernel
theorem dX10_explain_224 : decode cX10_explain 224 = .ok (.invokestatic 171, 3) := by decide +kernel
theorem dX10_explain_227 : decode cX10_explain 227 = .ok (.aload_n 0, 1) := by decide +kernel
theorem dX10_explain_228 : decode cX10_explain 228 = .ok (.getfield 21, 3) := by decide +kernel
theorem dX10_explain_23 : decode cX10_explain 23 = .ok (.iconst (-1), 1) := by decide +kernel
theorem dX10_explain_231 : decode cX10_explain 231 = .ok (.iload_n 2, 1) := by decide +kernel
theorem dX10_explain_232 : decode cX10_explain 232 = .ok (.iaload, 1) := by decide +kernel
theorem dX10_explain_233 : decode cX10_explain 233 = .ok (.if_icmp .ne 34, 3) := by decide +kernel
theorem dX10_explain_236 : decode cX10_explain 236 = .ok (.aload_n 0, 1) := by decide +kernel
theorem dX10_explain_237 : decode cX10_explain 237 = .ok (.sipush 1000, 3) := by decide +kernel
theorem dX10_explain_24 : decode cX10_explain 24 = .ok (.goto 4, 3) := by decide +kernel
theorem dX10_explain_240 : decode cX10_explain 240 = .ok (.aload_n 0, 1) := by decide +kernel
theorem dX10_explain_241 : decode cX10_explain 241 = .ok (.getfield 21, 3) := by decide +kernel
theorem dX10_explain_244 : decode cX10_explain 244 = .ok (.iload_n 2, 1) := by decide +kernel
theorem dX10_explain_245 : decode cX10_explain 245 = .ok (.iaload, 1) := by decide +kernel
theorem dX10_explain_246 : decode cX10_explain 246 = .ok (.iadd, 1) := by decide +kernel
theorem dX10_explain_247 : decode cX10_explain 247 = .ok (.bipush 66, 2) := by decide +kernel
theorem dX10_explain_249 : decode cX10_explain 249 = .ok (.isub, 1) := by decide +kernel
theorem dX10_explain_250 : decode cX10_explain 250 = .ok (.invokevirtual 236, 3) := by decide +kernel
theorem dX10_explain_253 : decode cX10_explain 253 = .ok (.iinc 3 1, 3) := by decide +kernel
theorem dX10_explain_256 : decode cX10_explain 256 = .ok (.aload_n 0, 1) := by decide +kernel
theorem dX10_explain_257 : decode cX10_explain 257 = .ok (.getfield 15, 3) := by decide +kernel
theorem dX10_explain_260 : decode cX10_explain 260 = .ok (.iload_n 2, 1) := by decide +kernel
theorem dX10_explain_261 : decode cX10_explain 261 = .ok (.iaload, 1) := by decide +kernel
theorem dX10_explain_262 : decode cX10_explain 262 = .ok (.istore 6, 2) := by decide +kernel
theorem dX10_explain_264 : decode cX10_explain 264 = .ok (.goto 92, 3) := by decide +kernel
theorem dX10_explain_267 : decode cX10_explain 267 = .ok (.aload_n 0, 1) := by decide +kernel
theorem dX10_explain_268 : decode cX10_explain 268 = .ok (.getfield 11, 3) := by decide +kernel
theorem dX10_explain_27 : decode cX10_explain 27 = .ok (.iconst 0, 1) := by decide +kernel
theorem dX10_explain_271 : decode cX10_explain 271 = .ok (.iload_n 2, 1) := by decide +kernel
theorem dX10_explain_272 : decode cX10_explain 272 = .ok (.iaload, 1) := by decide +kernel
theorem dX10_explain_273 : decode cX10_explain 273 = .ok (.bipush 10, 2) := by decide +kernel
theorem dX10_explain_275 : decode cX10_explain 275 = .ok (.if_icmp .ne 81, 3) := by decide +kernel
theorem dX10_explain_278 : decode cX10_explain 278 = .ok (.iload 5, 2) := by decide +kernel
theorem dX10_explain_28 : decode cX10_explain 28 = .ok (.istore_n 3, 1) := by decide +kernel
theorem dX10_explain_280 : decode cX10_explain 280 = .ok (.bipush 8, 2) := by decide +kernel
theorem dX10_explain_282 : decode cX10_explain 282 = .ok (.if_icmp .ne 74, 3) := by decide +kernel
theorem dX10_explain_285 : decode cX10_explain 285 = .ok (.aload_n 0, 1) := by decide +kernel
theorem dX10_explain_286 : decode cX10_explain 286 = .ok (.iload_n 2, 1) := by decide +kernel
theorem dX10_explain_287 : decode cX10_explain 287 = .ok (.aload_n 0, 1) := by decide +kernel
theorem dX10_explain_288 : decode cX10_explain 288 = .ok (.getfield 67, 3) := by decide +kernel
theorem dX10_explain_29 : decode cX10_explain 29 = .ok (.iconst 0, 1) := by decide +kernel
theorem dX10_explain_291 : decode cX10_explain 291 = .ok (.aload_n 0, 1) := by decide +kernel
theorem dX10_explain_292 : decode cX10_explain 292 = .ok (.getfield 132, 3) := by decide +kernel
theorem dX10_explain_295 : decode cX10_explain 295 = .ok (.iload_n 3, 1) := by decide +kernel
theorem dX10_explain_296 : decode cX10_explain 296 = .ok (.iadd, 1) := by decide +kernel
theorem dX10_explain_297 : decode cX10_explain 297 = .ok (.laload, 1) := by decide +kernel
theorem dX10_explain_298 : decode cX10_explain 298 = .ok (.invokestatic 185, 3) := by decide +kernel
theorem dX10_explain_30 : decode cX10_explain 30 = .ok (.istore 4, 2) := by decide +kernel
theorem dX10_explain_301 : decode cX10_explain 301 = .ok (.invokevirtual 239, 3) := by decide +kernel
theorem dX10_explain_304 : decode cX10_explain 304 = .ok (.ifCond .eq 52, 3) := by decide +kernel
theorem dX10_explain_307 : decode cX10_explain 307 = .ok (.aload_n 0, 1) := by decide +kernel
theorem dX10_explain_308 : decode cX10_explain 308 = .ok (.iload_n 2, 1) := by decide +kernel
theorem dX10_explain_309 : decode cX10_explain 309 = .ok (.iload_n 3, 1) := by decide +kernel
theorem dX10_explain_310 : decode cX10_explain 310 = .ok (.invokevirtual 242, 3) := by decide +kernel
theorem dX10_explain_313 : decode cX10_explain 313 = .ok (.istore 7, 2) := by decide +kernel
theorem dX10_explain_315 : decode cX10_explain 315 = .ok (.iload 7, 2) := by decide +kernel
theorem dX10_explain_317 : decode cX10_explain 317 = .ok (.ifCond .lt 39, 3) := by decide +kernel
theorem dX10_explain_32 : decode cX10_explain 32 = .ok (.iload 4, 2) := by decide +kernel
theorem dX10_explain_320 : decode cX10_explain 320 = .ok (.aload_n 0, 1) := by decide +kernel
theorem dX10_explain_321 : decode cX10_explain 321 = .ok (.iload 7, 2) := by decide +kernel
theorem dX10_explain_323 : decode cX10_explain 323 = .ok (.invokevirtual 236, 3) := by decide +kernel
theorem dX10_explain_326 : decode cX10_explain 326 = .ok (.aload_n 0, 1) := by decide +kernel
theorem dX10_explain_327 : decode cX10_explain 327 = .ok (.iload_n 2, 1) := by decide +kernel
theorem dX10_explain_328 : decode cX10_explain 328 = .ok (.iload 7, 2) := by decide +kernel
theorem dX10_explain_330 : decode cX10_explain 330 = .ok (.invokevirtual 245, 3) := by decide +kernel
theorem dX10_explain_333 : decode cX10_explain 333 = .ok (.istore 6, 2) := by decide +kernel
theorem dX10_explain_335 : decode cX10_explain 335 = .ok (.aload_n 0, 1) := by decide +kernel
theorem dX10_explain_336 : decode cX10_explain 336 = .ok (.getfield 67, 3) := by decide +kernel
theorem dX10_explain_339 : decode cX10_explain 339 = .ok (.aload_n 0, 1) := by decide +kernel
theorem dX10_explain_34 : decode cX10_explain 34 = .ok (.sipush 200, 3) := by decide +kernel
theorem dX10_explain_340 : decode cX10_explain 340 = .ok (.getfield 132, 3) := by decide +kernel
theorem dX10_explain_343 : decode cX10_explain 343 = .ok (.iload_n 3, 1) := by decide +kernel
theorem dX10_explain_344 : decode cX10_explain 344 = .ok (.iadd, 1) := by decide +kernel
theorem dX10_explain_345 : decode cX10_explain 345 = .ok (.iload 7, 2) := by decide +kernel
theorem dX10_explain_347 : decode cX10_explain 347 = .ok (.invokestatic 248, 3) := by decide +kernel
theorem dX10_explain_350 : decode cX10_explain 350 = .ok (.aload_n 0, 1) := by decide +kernel
theorem dX10_explain_351 : decode cX10_explain 351 = .ok (.getfield 132, 3) := by decide +kernel
theorem dX10_explain_354 : decode cX10_explain 354 = .ok (.isub, 1) := by decide +kernel
theorem dX10_explain_355 : decode cX10_explain 355 = .ok (.istore_n 3, 1) := by decide +kernel
theorem dX10_explain_356 : decode cX10_explain 356 = .ok (.iload 6, 2) := by decide +kernel
theorem dX10_explain_358 : decode cX10_explain 358 = .ok (.istore_n 2, 1) := by decide +kernel
theorem dX10_explain_359 : decode cX10_explain 359 = .ok (.iinc 4 1, 3) := by decide +kernel
theorem dX10_explain_362 : decode cX10_explain 362 = .ok (.goto (-330), 3) := by decide +kernel
theorem dX10_explain_365 : decode cX10_explain 365 = .ok (.return_, 1) := by decide +kernel
theorem dX10_explain_37 : decode cX10_explain 37 = .ok (.if_icmp .ge 328, 3) := by decide +kernel
theorem dX10_explain_40 : decode cX10_explain 40 = .ok (.iload_n 2, 1) := by decide +kernel
theorem dX10_explain_41 : decode cX10_explain 41 = .ok (.ifCond .lt 324, 3) := by decide +kernel
theorem dX10_explain_44 : decode cX10_explain 44 = .ok (.iload_n 3, 1) := by decide +kernel
theorem dX10_explain_45 : decode cX10_explain 45 = .ok (.ifCond .lt 320, 3) := by decide +kernel
theorem dX10_explain_48 : decode cX10_explain 48 = .ok (.aload_n 0, 1) := by decide +kernel
theorem dX10_explain_49 : decode cX10_explain 49 = .ok (.getfield 67, 3) := by decide +kernel
theorem dX10_explain_5 : decode cX10_explain 5 = .ok (.iload_n 1, 1) := by decide +kernel
theorem dX10_explain_52 : decode cX10_explain 52 = .ok (.aload_n 0, 1) := by decide +kernel
theorem dX10_explain_53 : decode cX10_explain 53 = .ok (.getfield 132, 3) := by decide +kernel
theorem dX10_explain_56 : decode cX10_explain 56 = .ok (.iload_n 3, 1) := by decide +kernel
theorem dX10_explain_57 : decode cX10_explain 57 = .ok (.iadd, 1) := by decide +kernel
theorem dX10_explain_58 : decode cX10_explain 58 = .ok (.laload, 1) := by decide +kernel
theorem dX10_explain_59 : decode cX10_explain 59 = .ok (.invokestatic 122, 3) := by decide +kernel
theorem dX10_explain_6 : decode cX10_explain 6 = .ok (.istore_n 2, 1) := by decide +kernel
theorem dX10_explain_62 : decode cX10_explain 62 = .ok (.istore 5, 2) := by decide +kernel
theorem dX10_explain_64 : decode cX10_explain 64 = .ok (.iconst (-1), 1) := by decide +kernel
theorem dX10_explain_65 : decode cX10_explain 65 = .ok (.istore 6, 2) := by decide +kernel
theorem dX10_explain_67 : decode cX10_explain 67 = .ok (.aload_n 0, 1) := by decide +kernel
theorem dX10_explain_68 : decode cX10_explain 68 = .ok (.getfield 11, 3) := by decide +kernel
theorem dX10_explain_7 : decode cX10_explain 7 = .ok (.aload_n 0, 1) := by decide +kernel
theorem dX10_explain_71 : decode cX10_explain 71 = .ok (.iload_n 2, 1) := by decide +kernel
theorem dX10_explain_72 : decode cX10_explain 72 = .ok (.iaload, 1) := by decide +kernel
theorem dX10_explain_73 : decode cX10_explain 73 = .ok (.bipush 7, 2) := by decide +kernel
theorem dX10_explain_75 : decode cX10_explain 75 = .ok (.if_icmp .ne 20, 3) := by decide +kernel
theorem dX10_explain_78 : decode cX10_explain 78 = .ok (.aload_n 0, 1) := by decide +kernel
theorem dX10_explain_79 : decode cX10_explain 79 = .ok (.getfield 43, 3) := by decide +kernel
theorem dX10_explain_8 : decode cX10_explain 8 = .ok (.getfield 67, 3) := by decide +kernel
theorem dX10_explain_82 : decode cX10_explain 82 = .ok (.aload_n 0, 1) := by decide +kernel
theorem dX10_explain_83 : decode cX10_explain 83 = .ok (.getfield 21, 3) := by decide +kernel
theorem dX10_explain_86 : decode cX10_explain 86 = .ok (.iload_n 2, 1) := by decide +kernel
theorem dX10_explain_87 : decode cX10_explain 87 = .ok (.iaload, 1) := by decide +kernel
theorem dX10_explain_88 : decode cX10_explain 88 = .ok (.aaload, 1) := by decide +kernel
theorem dX10_explain_89 : decode cX10_explain 89 = .ok (.iconst 0, 1) := by decide +kernel
theorem dX10_explain_90 : decode cX10_explain 90 = .ok (.iaload, 1) := by decide +kernel
theorem dX10_explain_91 : decode cX10_explain 91 = .ok (.istore_n 2, 1) := by decide +kernel
theorem dX10_explain_92 : decode cX10_explain 92 = .ok (.goto 267, 3) := by decide +kernel
theorem dX10_explain_95 : decode cX10_explain 95 = .ok (.aload_n 0, 1) := by decide +kernel
theorem dX10_explain_96 : decode cX10_explain 96 = .ok (.getfield 11, 3) := by decide +kernel
theorem dX10_explain_99 : decode cX10_explain 99 = .ok (.iload_n 2, 1) := by decide +kernel
noncomputable def k_X10_explain_359 (l2 : Int32) (l3 : Int32) (l4 : Int32) (s : t_S) : Option ((Int32 × Int32 × Int32 × t_S) ⊕ (t_S)) :=
 some (.inl (l2, l3, (l4 + 1), s))
set_option maxRecDepth 4000 in
set_option maxHeartbeats 1000000 in
theorem B_X10_explain_359 {D : va_G} {cy : Nat → ClassId} {ad : Nat → Nat} {bs : Nat} {X : State → Heap → Prop} (l2 : Int32) (l3 : Int32) (l4 : Int32) (s : t_S) (Q : (Int32 × Int32 × Int32 × t_S) ⊕ (t_S) → Prop) (Hb32 : ∀ (y0 : Int32) (y1 : Int32) (y2 : Int32) (y3 : t_S), Q (.inl (y0, y1, y2, y3)) → mj_G D cy ad bs X cX10_explain 8 yX10_explain.cls none yX10_explain.name 404 0 0 1065 (t_P (fun v s' => v = none ∧ Q (.inr (s')))) 32 [(0, .ref 353), (2, .int (y0)), (3, .int (y1)), (4, .int (y2))] [] (t_m y3) 1065 0 0) (hk : t_hk (k_X10_explain_359 l2 l3 l4 s) Q) : mj_G D cy ad bs X cX10_explain 8 yX10_explain.cls none yX10_explain.name 404 0 0 1065 (t_P (fun v s' => v = none ∧ Q (.inr (s')))) 359 [(0, .ref 353), (2, .int l2), (3, .int l3), (4, .int l4)] [] (t_m s) 1065 0 0 := by
  refine mj_iinc (k := 3) (v := (l4 + 1)) (lv2 := [(4, .int (l4 + 1)), (0, .ref 353), (2, .int l2), (3, .int l3)]) dX10_explain_359 rfl rfl (by decide) rfl ?_
  refine mj_goto 32 dX10_explain_362 (by decide) ?_
  refine mj_sublv [(0, .ref 353), (2, .int l2), (3, .int l3), (4, .int (l4 + 1))] [1, 2, 3, 0] rfl ?_
  exact t_somK hk (fun hf => Hb32 l2 l3 (l4 + 1) s hf)
noncomputable def k_X10_explain_356 (l3 : Int32) (l4 : Int32) (l6 : Int32) (s : t_S) : Option ((Int32 × Int32 × Int32 × t_S) ⊕ (t_S)) :=
 k_X10_explain_359 l6 l3 l4 s
set_option maxRecDepth 4000 in
set_option maxHeartbeats 1000000 in
theorem B_X10_explain_356 {D : va_G} {cy : Nat → ClassId} {ad : Nat → Nat} {bs : Nat} {X : State → Heap → Prop} (l3 : Int32) (l4 : Int32) (l6 : Int32) (s : t_S) (Q : (Int32 × Int32 × Int32 × t_S) ⊕ (t_S) → Prop) (Hb32 : ∀ (y0 : Int32) (y1 : Int32) (y2 : Int32) (y3 : t_S), Q (.inl (y0, y1, y2, y3)) → mj_G D cy ad bs X cX10_explain 8 yX10_explain.cls none yX10_explain.name 404 0 0 1065 (t_P (fun v s' => v = none ∧ Q (.inr (s')))) 32 [(0, .ref 353), (2, .int (y0)), (3, .int (y1)), (4, .int (y2))] [] (t_m y3) 1065 0 0) (hk : t_hk (k_X10_explain_356 l3 l4 l6 s) Q) : mj_G D cy ad bs X cX10_explain 8 yX10_explain.cls none yX10_explain.name 404 0 0 1065 (t_P (fun v s' => v = none ∧ Q (.inr (s')))) 356 [(0, .ref 353), (3, .int l3), (4, .int l4), (6, .int l6)] [] (t_m s) 1065 0 0 := by
  refine mj_iload dX10_explain_356 3 rfl ?_
  refine mj_istore_n 2 (lv2 := [(2, .int l6), (0, .ref 353), (3, .int l3), (4, .int l4), (6, .int l6)]) dX10_explain_358 rfl (by decide) rfl ?_
  refine mj_sublv [(0, .ref 353), (2, .int l6), (3, .int l3), (4, .int l4)] [1, 0, 2, 3] rfl ?_
  exact B_X10_explain_359 _ _ _ _ _ (fun y0 y1 y2 y3 hx => Hb32 y0 y1 y2 y3 hx) hk
noncomputable def k_X10_explain_267 (l2 : Int32) (l3 : Int32) (l4 : Int32) (l5 : Int32) (l6 : Int32) (s : t_S) : Option ((Int32 × Int32 × Int32 × t_S) ⊕ (t_S)) :=
 if t_ix l2 6100 = true then
  if (s.1 354 (l2.toNatClampNeg)) = (10 : Int32) then (if l5 = (8 : Int32) then (if t_oka (s.2.2 353 14) 2 (t_ln (s.2.2 353 14)) = true then
  if t_ix ((s.1 353 15) + l3) (t_ln (s.2.2 353 14)) = true then
  (f_X10_isPlainRow l2 (f_X8_partsOf (s.2.1 (s.2.2 353 14) (((s.1 353 15) + l3).toNatClampNeg)) s) s).bind (fun r5 =>
 if r5 = (0 : Int32) then (k_X10_explain_356 l3 l4 l6 s)
 else ((f_X10_firstWrongElement l2 l3 s).bind (fun r6 =>
 if r6.1 < (0 : Int32) then (k_X10_explain_356 l3 l4 l6 r6.2)
 else ((f_X10_step r6.1 r6.2).bind (fun r7 =>
 (f_X10_pieceOf l2 r6.1 r7).bind (fun r8 =>
 (f_X8_elementAt (r7.2.2 353 14) ((r7.1 353 15) + l3) r6.1 r7).bind (fun r9 =>
 k_X10_explain_356 (r9 - (r7.1 353 15)) l4 r8 r7)))))))
else none
else none)
 else (k_X10_explain_356 l3 l4 l6 s))
 else (k_X10_explain_356 l3 l4 l6 s)
else none
set_option maxRecDepth 4000 in
set_option maxHeartbeats 1000000 in
theorem B_X10_explain_267 {D : va_G} {cy : Nat → ClassId} {ad : Nat → Nat} {bs : Nat} {X : State → Heap → Prop} (l2 : Int32) (l3 : Int32) (l4 : Int32) (l5 : Int32) (l6 : Int32) (s : t_S) (Q : (Int32 × Int32 × Int32 × t_S) ⊕ (t_S) → Prop) (Hb32 : ∀ (y0 : Int32) (y1 : Int32) (y2 : Int32) (y3 : t_S), Q (.inl (y0, y1, y2, y3)) → mj_G D cy ad bs X cX10_explain 8 yX10_explain.cls none yX10_explain.name 404 0 0 1065 (t_P (fun v s' => v = none ∧ Q (.inr (s')))) 32 [(0, .ref 353), (2, .int (y0)), (3, .int (y1)), (4, .int (y2))] [] (t_m y3) 1065 0 0) (hk : t_hk (k_X10_explain_267 l2 l3 l4 l5 l6 s) Q) : mj_G D cy ad bs X cX10_explain 8 yX10_explain.cls none yX10_explain.name 404 0 0 1065 (t_P (fun v s' => v = none ∧ Q (.inr (s')))) 267 [(0, .ref 353), (2, .int l2), (3, .int l3), (4, .int l4), (5, .int l5), (6, .int l6)] [] (t_m s) 1065 0 0 := by
  refine mj_aload_n dX10_explain_267 0 rfl ?_
  refine t_getR 354 dX10_explain_268 F_X10_11 qr_353_0 ?_
  refine mj_iload_n dX10_explain_271 1 rfl ?_
  refine t_chkK hk (fun c0 hk => ?_)
  refine t_iald dX10_explain_272 qa_354 (t_ixv c0) ?_
  refine mj_bipush (v := 10) dX10_explain_273 (by decide) ?_
  refine mj_icmp_ne 356 dX10_explain_275 (by decide) (fun z => t_negK hk z (fun hk => ?_)) (fun z => t_posK hk z (fun hk => ?_))
  · refine mj_sublv [(0, .ref 353), (3, .int l3), (4, .int l4), (6, .int l6)] [0, 2, 3, 5] rfl ?_
    exact B_X10_explain_356 _ _ _ _ _ (fun y0 y1 y2 y3 hx => Hb32 y0 y1 y2 y3 hx) hk
  · refine mj_iload dX10_explain_278 4 rfl ?_
    refine mj_bipush (v := 8) dX10_explain_280 (by decide) ?_
    refine mj_icmp_ne 356 dX10_explain_282 (by decide) (fun z => t_negK hk z (fun hk => ?_)) (fun z => t_posK hk z (fun hk => ?_))
    · refine mj_sublv [(0, .ref 353), (3, .int l3), (4, .int l4), (6, .int l6)] [0, 2, 3, 5] rfl ?_
      exact B_X10_explain_356 _ _ _ _ _ (fun y0 y1 y2 y3 hx => Hb32 y0 y1 y2 y3 hx) hk
    · refine mj_aload_n dX10_explain_285 0 rfl ?_
      refine mj_iload_n dX10_explain_286 1 rfl ?_
      refine mj_aload_n dX10_explain_287 0 rfl ?_
      refine t_getD dX10_explain_288 F_X10_67 qf_353_14 ?_
      refine mj_aload_n dX10_explain_291 0 rfl ?_
      refine t_getI dX10_explain_292 F_X10_132 qf_353_15 ?_
      refine mj_iload_n dX10_explain_295 2 rfl ?_
      refine mj_iadd dX10_explain_296 ?_
      refine t_chkK hk (fun c1 hk => ?_)
      refine t_chkK hk (fun c2 hk => ?_)
      refine t_lald dX10_explain_297 c1 (t_ixv c2) ?_
      refine t_callSiP dX10_explain_298 M_X8_partsOf (C_X8_partsOf _ _) ML_X10_185 SM_X8_partsOf (As := [.long (s.2.1 (s.2.2 353 14) (((s.1 353 15) + l3).toNatClampNeg))]) rfl rfl (Nat.le_of_ble_eq_true rfl) (Nat.le_of_ble_eq_true rfl) (Nat.le_of_ble_eq_true rfl) (Nat.le_of_ble_eq_true rfl) ?_
      refine t_bndK hk (fun r5 er5 hk => ?_)
      refine t_callViP dX10_explain_301 M_X10_isPlainRow (C_X10_isPlainRow _ _ _ _ er5) ML_X10_239 IM_X10_isPlainRow SE_X10_isPlainRow qc_353 rfl (As := [.int l2, .int (f_X8_partsOf (s.2.1 (s.2.2 353 14) (((s.1 353 15) + l3).toNatClampNeg)) s)]) rfl rfl (Nat.le_of_ble_eq_true rfl) (Nat.le_of_ble_eq_true rfl) (Nat.le_of_ble_eq_true rfl) (Nat.le_of_ble_eq_true rfl) ?_
      refine mj_if_eq 356 dX10_explain_304 (by decide) (fun z => t_posK hk z (fun hk => ?_)) (fun z => t_negK hk z (fun hk => ?_))
      · refine mj_sublv [(0, .ref 353), (3, .int l3), (4, .int l4), (6, .int l6)] [0, 2, 3, 5] rfl ?_
        exact B_X10_explain_356 _ _ _ _ _ (fun y0 y1 y2 y3 hx => Hb32 y0 y1 y2 y3 hx) hk
      · refine mj_aload_n dX10_explain_307 0 rfl ?_
        refine mj_iload_n dX10_explain_308 1 rfl ?_
        refine mj_iload_n dX10_explain_309 2 rfl ?_
        refine t_bndK hk (fun r6 er6 hk => ?_)
        refine t_callViE dX10_explain_310 M_X10_firstWrongElement (C_X10_firstWrongElement _ _ _ _ er6) ML_X10_242 IM_X10_firstWrongElement SE_X10_firstWrongElement qc_353 rfl (As := [.int l2, .int l3]) rfl rfl (Nat.le_of_ble_eq_true rfl) (Nat.le_of_ble_eq_true rfl) (Nat.le_of_ble_eq_true rfl) (Nat.le_of_ble_eq_true rfl) ?_
        refine mj_istore (lv2 := [(7, .int r6.1), (0, .ref 353), (2, .int l2), (3, .int l3), (4, .int l4), (5, .int l5), (6, .int l6)]) dX10_explain_313 (by decide) rfl ?_
        refine mj_iload dX10_explain_315 0 rfl ?_
        refine mj_if_lt 356 dX10_explain_317 (by decide) (fun z => t_posK hk z (fun hk => ?_)) (fun z => t_negK hk z (fun hk => ?_))
        · refine mj_sublv [(0, .ref 353), (3, .int l3), (4, .int l4), (6, .int l6)] [1, 3, 4, 6] rfl ?_
          exact B_X10_explain_356 _ _ _ _ _ (fun y0 y1 y2 y3 hx => Hb32 y0 y1 y2 y3 hx) hk
        · refine mj_aload_n dX10_explain_320 1 rfl ?_
          refine mj_iload dX10_explain_321 0 rfl ?_
          refine t_bndK hk (fun r7 er7 hk => ?_)
          refine t_callVvE dX10_explain_323 M_X10_step (C_X10_step _ _ _ er7) ML_X10_236 IM_X10_step SE_X10_step qc_353 rfl (As := [.int r6.1]) rfl rfl (Nat.le_of_ble_eq_true rfl) (Nat.le_of_ble_eq_true rfl) (Nat.le_of_ble_eq_true rfl) (Nat.le_of_ble_eq_true rfl) ?_
          refine mj_aload_n dX10_explain_326 1 rfl ?_
          refine mj_iload_n dX10_explain_327 2 rfl ?_
          refine mj_iload dX10_explain_328 0 rfl ?_
          refine t_bndK hk (fun r8 er8 hk => ?_)
          refine t_callViP dX10_explain_330 M_X10_pieceOf (C_X10_pieceOf _ _ _ _ er8) ML_X10_245 IM_X10_pieceOf SE_X10_pieceOf qc_353 rfl (As := [.int l2, .int r6.1]) rfl rfl (Nat.le_of_ble_eq_true rfl) (Nat.le_of_ble_eq_true rfl) (Nat.le_of_ble_eq_true rfl) (Nat.le_of_ble_eq_true rfl) ?_
          refine mj_istore (lv2 := [(6, .int r8), (7, .int r6.1), (0, .ref 353), (2, .int l2), (3, .int l3), (4, .int l4), (5, .int l5)]) dX10_explain_333 (by decide) rfl ?_
          refine mj_aload_n dX10_explain_335 2 rfl ?_
          refine t_getD dX10_explain_336 F_X10_67 qf_353_14 ?_
          refine mj_aload_n dX10_explain_339 2 rfl ?_
          refine t_getI dX10_explain_340 F_X10_132 qf_353_15 ?_
          refine mj_iload_n dX10_explain_343 4 rfl ?_
          refine mj_iadd dX10_explain_344 ?_
          refine mj_iload dX10_explain_345 1 rfl ?_
          refine t_bndK hk (fun r9 er9 hk => ?_)
          refine t_callSiP dX10_explain_347 M_X8_elementAt (C_X8_elementAt _ _ _ _ _ er9) ML_X10_248 SM_X8_elementAt (As := [.ref (r7.2.2 353 14), .int ((r7.1 353 15) + l3), .int r6.1]) rfl rfl (Nat.le_of_ble_eq_true rfl) (Nat.le_of_ble_eq_true rfl) (Nat.le_of_ble_eq_true rfl) (Nat.le_of_ble_eq_true rfl) ?_
          refine mj_aload_n dX10_explain_350 2 rfl ?_
          refine t_getI dX10_explain_351 F_X10_132 qf_353_15 ?_
          refine mj_isub dX10_explain_354 ?_
          refine mj_istore_n 3 (lv2 := [(3, .int (r9 - (r7.1 353 15))), (6, .int r8), (7, .int r6.1), (0, .ref 353), (2, .int l2), (4, .int l4), (5, .int l5)]) dX10_explain_355 rfl (by decide) rfl ?_
          refine mj_sublv [(0, .ref 353), (3, .int (r9 - (r7.1 353 15))), (4, .int l4), (6, .int r8)] [3, 0, 5, 1] rfl ?_
          exact B_X10_explain_356 _ _ _ _ _ (fun y0 y1 y2 y3 hx => Hb32 y0 y1 y2 y3 hx) hk
noncomputable def k_X10_explain_195 (l2 : Int32) (l3 : Int32) (l4 : Int32) (l5 : Int32) (l6 : Int32) (s : t_S) : Option ((Int32 × Int32 × Int32 × t_S) ⊕ (t_S)) :=
 if t_ix l2 6100 = true then
  if (s.1 354 (l2.toNatClampNeg)) = (9 : Int32) then (if l5 = (7 : Int32) then (if t_oka (s.2.2 353 14) 2 (t_ln (s.2.2 353 14)) = true then
  if t_ix ((s.1 353 15) + l3) (t_ln (s.2.2 353 14)) = true then
  if (f_X8_wordOf (s.2.1 (s.2.2 353 14) (((s.1 353 15) + l3).toNatClampNeg)) s) = (s.1 357 (l2.toNatClampNeg)) then ((f_X10_step (((1000 : Int32) + (s.1 357 (l2.toNatClampNeg))) - (66 : Int32)) s).bind (fun r5 =>
 k_X10_explain_356 (l3 + 1) l4 (r5.1 355 (l2.toNatClampNeg)) r5))
 else (k_X10_explain_267 l2 l3 l4 l5 l6 s)
else none
else none)
 else (k_X10_explain_267 l2 l3 l4 l5 l6 s))
 else (k_X10_explain_267 l2 l3 l4 l5 l6 s)
else none
set_option maxRecDepth 4000 in
set_option maxHeartbeats 1000000 in
theorem B_X10_explain_195 {D : va_G} {cy : Nat → ClassId} {ad : Nat → Nat} {bs : Nat} {X : State → Heap → Prop} (l2 : Int32) (l3 : Int32) (l4 : Int32) (l5 : Int32) (l6 : Int32) (s : t_S) (Q : (Int32 × Int32 × Int32 × t_S) ⊕ (t_S) → Prop) (Hb32 : ∀ (y0 : Int32) (y1 : Int32) (y2 : Int32) (y3 : t_S), Q (.inl (y0, y1, y2, y3)) → mj_G D cy ad bs X cX10_explain 8 yX10_explain.cls none yX10_explain.name 404 0 0 1065 (t_P (fun v s' => v = none ∧ Q (.inr (s')))) 32 [(0, .ref 353), (2, .int (y0)), (3, .int (y1)), (4, .int (y2))] [] (t_m y3) 1065 0 0) (hk : t_hk (k_X10_explain_195 l2 l3 l4 l5 l6 s) Q) : mj_G D cy ad bs X cX10_explain 8 yX10_explain.cls none yX10_explain.name 404 0 0 1065 (t_P (fun v s' => v = none ∧ Q (.inr (s')))) 195 [(0, .ref 353), (2, .int l2), (3, .int l3), (4, .int l4), (5, .int l5), (6, .int l6)] [] (t_m s) 1065 0 0 := by
  refine mj_aload_n dX10_explain_195 0 rfl ?_
  refine t_getR 354 dX10_explain_196 F_X10_11 qr_353_0 ?_
  refine mj_iload_n dX10_explain_199 1 rfl ?_
  refine t_chkK hk (fun c0 hk => ?_)
  refine t_iald dX10_explain_200 qa_354 (t_ixv c0) ?_
  refine mj_bipush (v := 9) dX10_explain_201 (by decide) ?_
  refine mj_icmp_ne 267 dX10_explain_203 (by decide) (fun z => t_negK hk z (fun hk => ?_)) (fun z => t_posK hk z (fun hk => ?_))
  · exact B_X10_explain_267 _ _ _ _ _ _ _ (fun y0 y1 y2 y3 hx => Hb32 y0 y1 y2 y3 hx) hk
  · refine mj_iload dX10_explain_206 4 rfl ?_
    refine mj_bipush (v := 7) dX10_explain_208 (by decide) ?_
    refine mj_icmp_ne 267 dX10_explain_210 (by decide) (fun z => t_negK hk z (fun hk => ?_)) (fun z => t_posK hk z (fun hk => ?_))
    · exact B_X10_explain_267 _ _ _ _ _ _ _ (fun y0 y1 y2 y3 hx => Hb32 y0 y1 y2 y3 hx) hk
    · refine mj_aload_n dX10_explain_213 0 rfl ?_
      refine t_getD dX10_explain_214 F_X10_67 qf_353_14 ?_
      refine mj_aload_n dX10_explain_217 0 rfl ?_
      refine t_getI dX10_explain_218 F_X10_132 qf_353_15 ?_
      refine mj_iload_n dX10_explain_221 2 rfl ?_
      refine mj_iadd dX10_explain_222 ?_
      refine t_chkK hk (fun c1 hk => ?_)
      refine t_chkK hk (fun c2 hk => ?_)
      refine t_lald dX10_explain_223 c1 (t_ixv c2) ?_
      refine t_callSiP dX10_explain_224 M_X8_wordOf (C_X8_wordOf _ _) ML_X10_171 SM_X8_wordOf (As := [.long (s.2.1 (s.2.2 353 14) (((s.1 353 15) + l3).toNatClampNeg))]) rfl rfl (Nat.le_of_ble_eq_true rfl) (Nat.le_of_ble_eq_true rfl) (Nat.le_of_ble_eq_true rfl) (Nat.le_of_ble_eq_true rfl) ?_
      refine mj_aload_n dX10_explain_227 0 rfl ?_
      refine t_getR 357 dX10_explain_228 F_X10_21 qr_353_3 ?_
      refine mj_iload_n dX10_explain_231 1 rfl ?_
      refine t_iald dX10_explain_232 qa_357 (t_ixv c0) ?_
      refine mj_icmp_ne 267 dX10_explain_233 (by decide) (fun z => t_negK hk z (fun hk => ?_)) (fun z => t_posK hk z (fun hk => ?_))
      · exact B_X10_explain_267 _ _ _ _ _ _ _ (fun y0 y1 y2 y3 hx => Hb32 y0 y1 y2 y3 hx) hk
      · refine mj_aload_n dX10_explain_236 0 rfl ?_
        refine mj_sipush (v := 1000) dX10_explain_237 (by decide) ?_
        refine mj_aload_n dX10_explain_240 0 rfl ?_
        refine t_getR 357 dX10_explain_241 F_X10_21 qr_353_3 ?_
        refine mj_iload_n dX10_explain_244 1 rfl ?_
        refine t_iald dX10_explain_245 qa_357 (t_ixv c0) ?_
        refine mj_iadd dX10_explain_246 ?_
        refine mj_bipush (v := 66) dX10_explain_247 (by decide) ?_
        refine mj_isub dX10_explain_249 ?_
        refine t_bndK hk (fun r5 er5 hk => ?_)
        refine t_callVvE dX10_explain_250 M_X10_step (C_X10_step _ _ _ er5) ML_X10_236 IM_X10_step SE_X10_step qc_353 rfl (As := [.int (((1000 : Int32) + (s.1 357 (l2.toNatClampNeg))) - (66 : Int32))]) rfl rfl (Nat.le_of_ble_eq_true rfl) (Nat.le_of_ble_eq_true rfl) (Nat.le_of_ble_eq_true rfl) (Nat.le_of_ble_eq_true rfl) ?_
        refine mj_iinc (k := 2) (v := (l3 + 1)) (lv2 := [(3, .int (l3 + 1)), (0, .ref 353), (2, .int l2), (4, .int l4), (5, .int l5), (6, .int l6)]) dX10_explain_253 rfl rfl (by decide) rfl ?_
        refine mj_aload_n dX10_explain_256 1 rfl ?_
        refine t_getR 355 dX10_explain_257 F_X10_15 qr_353_1 ?_
        refine mj_iload_n dX10_explain_260 2 rfl ?_
        refine t_iald dX10_explain_261 qa_355 (t_ixv c0) ?_
        refine mj_istore (lv2 := [(6, .int (r5.1 355 (l2.toNatClampNeg))), (3, .int (l3 + 1)), (0, .ref 353), (2, .int l2), (4, .int l4), (5, .int l5)]) dX10_explain_262 (by decide) rfl ?_
        refine mj_goto 356 dX10_explain_264 (by decide) ?_
        refine mj_sublv [(0, .ref 353), (3, .int (l3 + 1)), (4, .int l4), (6, .int (r5.1 355 (l2.toNatClampNeg)))] [2, 1, 4, 0] rfl ?_
        exact B_X10_explain_356 _ _ _ _ _ (fun y0 y1 y2 y3 hx => Hb32 y0 y1 y2 y3 hx) hk
noncomputable def k_X10_explain_32 (l2 : Int32) (l3 : Int32) (l4 : Int32) (s : t_S) : Option ((Int32 × Int32 × Int32 × t_S) ⊕ (t_S)) :=
 if (200 : Int32) ≤ l4 then ((some (s)).map Sum.inr)
 else (if l2 < (0 : Int32) then ((some (s)).map Sum.inr)
 else (if l3 < (0 : Int32) then ((some (s)).map Sum.inr)
 else (if t_oka (s.2.2 353 14) 2 (t_ln (s.2.2 353 14)) = true then
  if t_ix ((s.1 353 15) + l3) (t_ln (s.2.2 353 14)) = true then
  if t_ix l2 6100 = true then
  if (s.1 354 (l2.toNatClampNeg)) = (7 : Int32) then (if t_ix (s.1 357 (l2.toNatClampNeg)) 60 = true then
  k_X10_explain_359 (s.1 (364 + 1 * ((s.1 357 (l2.toNatClampNeg)).toNatClampNeg)) ((0 : Int32).toNatClampNeg)) l3 l4 s
else none)
 else (if (s.1 354 (l2.toNatClampNeg)) = (8 : Int32) then (if (f_X8_kind (s.2.1 (s.2.2 353 14) (((s.1 353 15) + l3).toNatClampNeg)) s) = (6 : Int32) then ((f_X10_firstWrongField l2 l3 s).bind (fun r5 =>
 if (0 : Int32) ≤ r5.1 then (if t_ix r5.1 6100 = true then
  (f_X10_step (((1000 : Int32) + (r5.2.1 357 (r5.1.toNatClampNeg))) - (66 : Int32)) r5.2).bind (fun r7 =>
 (f_X8_fieldAt (r7.2.2 353 14) ((r7.1 353 15) + l3) (r7.1 357 (r5.1.toNatClampNeg)) r7).bind (fun r8 =>
 k_X10_explain_356 (if (-1 : Int32) < (r8 - (r7.1 353 15)) then (r8 - (r7.1 353 15)) else (-1 : Int32)) l4 (r7.1 355 (r5.1.toNatClampNeg)) r7))
else none)
 else ((f_X10_explainUntold l2 l3 r5.2).bind (fun r9 =>
 k_X10_explain_356 l3 l4 r5.1 r9))))
 else (k_X10_explain_195 l2 l3 l4 (f_X8_kind (s.2.1 (s.2.2 353 14) (((s.1 353 15) + l3).toNatClampNeg)) s) (-1) s))
 else (k_X10_explain_195 l2 l3 l4 (f_X8_kind (s.2.1 (s.2.2 353 14) (((s.1 353 15) + l3).toNatClampNeg)) s) (-1) s))
else none
else none
else none)))
set_option maxRecDepth 4000 in
set_option maxHeartbeats 1000000 in
theorem B_X10_explain_32 {D : va_G} {cy : Nat → ClassId} {ad : Nat → Nat} {bs : Nat} {X : State → Heap → Prop} (l2 : Int32) (l3 : Int32) (l4 : Int32) (s : t_S) (Q : (Int32 × Int32 × Int32 × t_S) ⊕ (t_S) → Prop) (Hb32 : ∀ (y0 : Int32) (y1 : Int32) (y2 : Int32) (y3 : t_S), Q (.inl (y0, y1, y2, y3)) → mj_G D cy ad bs X cX10_explain 8 yX10_explain.cls none yX10_explain.name 404 0 0 1065 (t_P (fun v s' => v = none ∧ Q (.inr (s')))) 32 [(0, .ref 353), (2, .int (y0)), (3, .int (y1)), (4, .int (y2))] [] (t_m y3) 1065 0 0) (hk : t_hk (k_X10_explain_32 l2 l3 l4 s) Q) : mj_G D cy ad bs X cX10_explain 8 yX10_explain.cls none yX10_explain.name 404 0 0 1065 (t_P (fun v s' => v = none ∧ Q (.inr (s')))) 32 [(0, .ref 353), (2, .int l2), (3, .int l3), (4, .int l4)] [] (t_m s) 1065 0 0 := by
  refine mj_iload dX10_explain_32 3 rfl ?_
  refine mj_sipush (v := 200) dX10_explain_34 (by decide) ?_
  refine mj_icmp_ge 365 dX10_explain_37 (by decide) (fun z => t_posK hk z (fun hk => ?_)) (fun z => t_negK hk z (fun hk => ?_))
  · refine t_mapK hk (fun hk => ?_)
    exact t_somK hk (fun hf => t_vret dX10_explain_365 rfl ⟨rfl, hf⟩ (Nat.le_of_ble_eq_true rfl) (Nat.le_of_ble_eq_true rfl))
  · refine mj_iload_n dX10_explain_40 1 rfl ?_
    refine mj_if_lt 365 dX10_explain_41 (by decide) (fun z => t_posK hk z (fun hk => ?_)) (fun z => t_negK hk z (fun hk => ?_))
    · refine t_mapK hk (fun hk => ?_)
      exact t_somK hk (fun hf => t_vret dX10_explain_365 rfl ⟨rfl, hf⟩ (Nat.le_of_ble_eq_true rfl) (Nat.le_of_ble_eq_true rfl))
    · refine mj_iload_n dX10_explain_44 2 rfl ?_
      refine mj_if_lt 365 dX10_explain_45 (by decide) (fun z => t_posK hk z (fun hk => ?_)) (fun z => t_negK hk z (fun hk => ?_))
      · refine t_mapK hk (fun hk => ?_)
        exact t_somK hk (fun hf => t_vret dX10_explain_365 rfl ⟨rfl, hf⟩ (Nat.le_of_ble_eq_true rfl) (Nat.le_of_ble_eq_true rfl))
      · refine mj_aload_n dX10_explain_48 0 rfl ?_
        refine t_getD dX10_explain_49 F_X10_67 qf_353_14 ?_
        refine mj_aload_n dX10_explain_52 0 rfl ?_
        refine t_getI dX10_explain_53 F_X10_132 qf_353_15 ?_
        refine mj_iload_n dX10_explain_56 2 rfl ?_
        refine mj_iadd dX10_explain_57 ?_
        refine t_chkK hk (fun c0 hk => ?_)
        refine t_chkK hk (fun c1 hk => ?_)
        refine t_lald dX10_explain_58 c0 (t_ixv c1) ?_
        refine t_callSiP dX10_explain_59 M_X8_kind (C_X8_kind _ _) ML_X10_122 SM_X8_kind (As := [.long (s.2.1 (s.2.2 353 14) (((s.1 353 15) + l3).toNatClampNeg))]) rfl rfl (Nat.le_of_ble_eq_true rfl) (Nat.le_of_ble_eq_true rfl) (Nat.le_of_ble_eq_true rfl) (Nat.le_of_ble_eq_true rfl) ?_
        refine mj_istore (lv2 := [(5, .int (f_X8_kind (s.2.1 (s.2.2 353 14) (((s.1 353 15) + l3).toNatClampNeg)) s)), (0, .ref 353), (2, .int l2), (3, .int l3), (4, .int l4)]) dX10_explain_62 (by decide) rfl ?_
        refine mj_iconst (v := (-1)) dX10_explain_64 (by decide) ?_
        refine mj_istore (lv2 := [(6, .int (-1)), (5, .int (f_X8_kind (s.2.1 (s.2.2 353 14) (((s.1 353 15) + l3).toNatClampNeg)) s)), (0, .ref 353), (2, .int l2), (3, .int l3), (4, .int l4)]) dX10_explain_65 (by decide) rfl ?_
        refine mj_aload_n dX10_explain_67 2 rfl ?_
        refine t_getR 354 dX10_explain_68 F_X10_11 qr_353_0 ?_
        refine mj_iload_n dX10_explain_71 3 rfl ?_
        refine t_chkK hk (fun c3 hk => ?_)
        refine t_iald dX10_explain_72 qa_354 (t_ixv c3) ?_
        refine mj_bipush (v := 7) dX10_explain_73 (by decide) ?_
        refine mj_icmp_ne 95 dX10_explain_75 (by decide) (fun z => t_negK hk z (fun hk => ?_)) (fun z => t_posK hk z (fun hk => ?_))
        · refine mj_aload_n dX10_explain_95 2 rfl ?_
          refine t_getR 354 dX10_explain_96 F_X10_11 qr_353_0 ?_
          refine mj_iload_n dX10_explain_99 3 rfl ?_
          refine t_iald dX10_explain_100 qa_354 (t_ixv c3) ?_
          refine mj_bipush (v := 8) dX10_explain_101 (by decide) ?_
          refine mj_icmp_ne 195 dX10_explain_103 (by decide) (fun z => t_negK hk z (fun hk => ?_)) (fun z => t_posK hk z (fun hk => ?_))
          · refine mj_sublv [(0, .ref 353), (2, .int l2), (3, .int l3), (4, .int l4), (5, .int (f_X8_kind (s.2.1 (s.2.2 353 14) (((s.1 353 15) + l3).toNatClampNeg)) s)), (6, .int (-1))] [2, 3, 4, 5, 1, 0] rfl ?_
            exact B_X10_explain_195 _ _ _ _ _ _ _ (fun y0 y1 y2 y3 hx => Hb32 y0 y1 y2 y3 hx) hk
          · refine mj_iload dX10_explain_106 1 rfl ?_
            refine mj_bipush (v := 6) dX10_explain_108 (by decide) ?_
            refine mj_icmp_ne 195 dX10_explain_110 (by decide) (fun z => t_negK hk z (fun hk => ?_)) (fun z => t_posK hk z (fun hk => ?_))
            · refine mj_sublv [(0, .ref 353), (2, .int l2), (3, .int l3), (4, .int l4), (5, .int (f_X8_kind (s.2.1 (s.2.2 353 14) (((s.1 353 15) + l3).toNatClampNeg)) s)), (6, .int (-1))] [2, 3, 4, 5, 1, 0] rfl ?_
              exact B_X10_explain_195 _ _ _ _ _ _ _ (fun y0 y1 y2 y3 hx => Hb32 y0 y1 y2 y3 hx) hk
            · refine mj_aload_n dX10_explain_113 2 rfl ?_
              refine mj_iload_n dX10_explain_114 3 rfl ?_
              refine mj_iload_n dX10_explain_115 4 rfl ?_
              refine t_bndK hk (fun r5 er5 hk => ?_)
              refine t_callViE dX10_explain_116 M_X10_firstWrongField (C_X10_firstWrongField _ _ _ _ er5) ML_X10_227 IM_X10_firstWrongField SE_X10_firstWrongField qc_353 rfl (As := [.int l2, .int l3]) rfl rfl (Nat.le_of_ble_eq_true rfl) (Nat.le_of_ble_eq_true rfl) (Nat.le_of_ble_eq_true rfl) (Nat.le_of_ble_eq_true rfl) ?_
              refine mj_istore (lv2 := [(6, .int r5.1), (5, .int (f_X8_kind (s.2.1 (s.2.2 353 14) (((s.1 353 15) + l3).toNatClampNeg)) s)), (0, .ref 353), (2, .int l2), (3, .int l3), (4, .int l4)]) dX10_explain_119 (by decide) rfl ?_
              refine mj_iload dX10_explain_121 0 rfl ?_
              refine mj_if_ge 135 dX10_explain_123 (by decide) (fun z => t_posK hk z (fun hk => ?_)) (fun z => t_negK hk z (fun hk => ?_))
              · refine mj_aload_n dX10_explain_135 2 rfl ?_
                refine mj_sipush (v := 1000) dX10_explain_136 (by decide) ?_
                refine mj_aload_n dX10_explain_139 2 rfl ?_
                refine t_getR 357 dX10_explain_140 F_X10_21 qr_353_3 ?_
                refine mj_iload dX10_explain_143 0 rfl ?_
                refine t_chkK hk (fun c5 hk => ?_)
                refine t_iald dX10_explain_145 qa_357 (t_ixv c5) ?_
                refine mj_iadd dX10_explain_146 ?_
                refine mj_bipush (v := 66) dX10_explain_147 (by decide) ?_
                refine mj_isub dX10_explain_149 ?_
                refine t_bndK hk (fun r7 er7 hk => ?_)
                refine t_callVvE dX10_explain_150 M_X10_step (C_X10_step _ _ _ er7) ML_X10_236 IM_X10_step SE_X10_step qc_353 rfl (As := [.int (((1000 : Int32) + (r5.2.1 357 (r5.1.toNatClampNeg))) - (66 : Int32))]) rfl rfl (Nat.le_of_ble_eq_true rfl) (Nat.le_of_ble_eq_true rfl) (Nat.le_of_ble_eq_true rfl) (Nat.le_of_ble_eq_true rfl) ?_
                refine mj_iconst (v := (-1)) dX10_explain_153 (by decide) ?_
                refine mj_aload_n dX10_explain_154 2 rfl ?_
                refine t_getD dX10_explain_155 F_X10_67 qf_353_14 ?_
                refine mj_aload_n dX10_explain_158 2 rfl ?_
                refine t_getI dX10_explain_159 F_X10_132 qf_353_15 ?_
                refine mj_iload_n dX10_explain_162 4 rfl ?_
                refine mj_iadd dX10_explain_163 ?_
                refine mj_aload_n dX10_explain_164 2 rfl ?_
                refine t_getR 357 dX10_explain_165 F_X10_21 qr_353_3 ?_
                refine mj_iload dX10_explain_168 0 rfl ?_
                refine t_iald dX10_explain_170 qa_357 (t_ixv c5) ?_
                refine t_bndK hk (fun r8 er8 hk => ?_)
                refine t_callSiP dX10_explain_171 M_X8_fieldAt (C_X8_fieldAt _ _ _ _ _ er8) ML_X10_195 SM_X8_fieldAt (As := [.ref (r7.2.2 353 14), .int ((r7.1 353 15) + l3), .int (r7.1 357 (r5.1.toNatClampNeg))]) rfl rfl (Nat.le_of_ble_eq_true rfl) (Nat.le_of_ble_eq_true rfl) (Nat.le_of_ble_eq_true rfl) (Nat.le_of_ble_eq_true rfl) ?_
                refine mj_aload_n dX10_explain_174 2 rfl ?_
                refine t_getI dX10_explain_175 F_X10_132 qf_353_15 ?_
                refine mj_isub dX10_explain_178 ?_
                refine mj_imax dX10_explain_179 MM_max_X10_87 (Nat.le_of_ble_eq_true rfl) (Nat.le_of_ble_eq_true rfl) (Nat.le_of_ble_eq_true rfl) (Nat.le_of_ble_eq_true rfl) ?_
                refine mj_istore_n 3 (lv2 := [(3, .int (if (-1 : Int32) < (r8 - (r7.1 353 15)) then (r8 - (r7.1 353 15)) else (-1 : Int32))), (6, .int r5.1), (5, .int (f_X8_kind (s.2.1 (s.2.2 353 14) (((s.1 353 15) + l3).toNatClampNeg)) s)), (0, .ref 353), (2, .int l2), (4, .int l4)]) dX10_explain_182 rfl (by decide) rfl ?_
                refine mj_aload_n dX10_explain_183 3 rfl ?_
                refine t_getR 355 dX10_explain_184 F_X10_15 qr_353_1 ?_
                refine mj_iload dX10_explain_187 1 rfl ?_
                refine t_iald dX10_explain_189 qa_355 (t_ixv c5) ?_
                refine mj_istore (lv2 := [(6, .int (r7.1 355 (r5.1.toNatClampNeg))), (3, .int (if (-1 : Int32) < (r8 - (r7.1 353 15)) then (r8 - (r7.1 353 15)) else (-1 : Int32))), (5, .int (f_X8_kind (s.2.1 (s.2.2 353 14) (((s.1 353 15) + l3).toNatClampNeg)) s)), (0, .ref 353), (2, .int l2), (4, .int l4)]) dX10_explain_190 (by decide) rfl ?_
                refine mj_goto 356 dX10_explain_192 (by decide) ?_
                refine mj_sublv [(0, .ref 353), (3, .int (if (-1 : Int32) < (r8 - (r7.1 353 15)) then (r8 - (r7.1 353 15)) else (-1 : Int32))), (4, .int l4), (6, .int (r7.1 355 (r5.1.toNatClampNeg)))] [3, 1, 5, 0] rfl ?_
                exact B_X10_explain_356 _ _ _ _ _ (fun y0 y1 y2 y3 hx => Hb32 y0 y1 y2 y3 hx) hk
              · refine mj_aload_n dX10_explain_126 2 rfl ?_
                refine mj_iload_n dX10_explain_127 3 rfl ?_
                refine mj_iload_n dX10_explain_128 4 rfl ?_
                refine t_bndK hk (fun r9 er9 hk => ?_)
                refine t_callVvE dX10_explain_129 M_X10_explainUntold (C_X10_explainUntold _ _ _ _ er9) ML_X10_230 IM_X10_explainUntold SE_X10_explainUntold qc_353 rfl (As := [.int l2, .int l3]) rfl rfl (Nat.le_of_ble_eq_true rfl) (Nat.le_of_ble_eq_true rfl) (Nat.le_of_ble_eq_true rfl) (Nat.le_of_ble_eq_true rfl) ?_
                refine mj_goto 356 dX10_explain_132 (by decide) ?_
                refine mj_sublv [(0, .ref 353), (3, .int l3), (4, .int l4), (6, .int r5.1)] [2, 4, 5, 0] rfl ?_
                exact B_X10_explain_356 _ _ _ _ _ (fun y0 y1 y2 y3 hx => Hb32 y0 y1 y2 y3 hx) hk
        · refine mj_aload_n dX10_explain_78 2 rfl ?_
          refine t_getR 363 dX10_explain_79 F_X10_43 qr_353_10 ?_
          refine mj_aload_n dX10_explain_82 2 rfl ?_
          refine t_getR 357 dX10_explain_83 F_X10_21 qr_353_3 ?_
          refine mj_iload_n dX10_explain_86 3 rfl ?_
          refine t_iald dX10_explain_87 qa_357 (t_ixv c3) ?_
          refine t_chkK hk (fun c9 hk => ?_)
          refine t_aaldI dX10_explain_88 qq_363 (t_ixv c9) ?_
          refine mj_iconst (v := 0) dX10_explain_89 (by decide) ?_
          refine t_iald dX10_explain_90 (t_row364 (t_ixn c9)) (by unfold vp_in; decide) ?_
          refine mj_istore_n 2 (lv2 := [(2, .int (s.1 (364 + 1 * ((s.1 357 (l2.toNatClampNeg)).toNatClampNeg)) ((0 : Int32).toNatClampNeg))), (6, .int (-1)), (5, .int (f_X8_kind (s.2.1 (s.2.2 353 14) (((s.1 353 15) + l3).toNatClampNeg)) s)), (0, .ref 353), (3, .int l3), (4, .int l4)]) dX10_explain_91 rfl (by decide) rfl ?_
          refine mj_goto 359 dX10_explain_92 (by decide) ?_
          refine mj_sublv [(0, .ref 353), (2, .int (s.1 (364 + 1 * ((s.1 357 (l2.toNatClampNeg)).toNatClampNeg)) ((0 : Int32).toNatClampNeg))), (3, .int l3), (4, .int l4)] [3, 0, 4, 5] rfl ?_
          exact B_X10_explain_359 _ _ _ _ _ (fun y0 y1 y2 y3 hx => Hb32 y0 y1 y2 y3 hx) hk
noncomputable def b_X10_explain_32 (x : Int32 × Int32 × Int32 × t_S) : Option ((Int32 × Int32 × Int32 × t_S) ⊕ (t_S)) := k_X10_explain_32 x.1 x.2.1 x.2.2.1 x.2.2.2
set_option maxRecDepth 4000 in
set_option maxHeartbeats 1000000 in
theorem LH_X10_explain_32 {D : va_G} {cy : Nat → ClassId} {ad : Nat → Nat} {bs : Nat} {X : State → Heap → Prop} : ∀ (n : Nat) (y0 : Int32) (y1 : Int32) (y2 : Int32) (y3 : t_S) (Q : t_S → Prop) (hk : t_hk (t_loop (b_X10_explain_32) n (y0, y1, y2, y3)) Q), mj_G D cy ad bs X cX10_explain 8 yX10_explain.cls none yX10_explain.name 404 0 0 1065 (t_P (fun v s' => v = none ∧ Q (s'))) 32 [(0, .ref 353), (2, .int (y0)), (3, .int (y1)), (4, .int (y2))] [] (t_m y3) 1065 0 0 := by
  intro n
  induction n with
  | zero => intro y0 y1 y2 y3 Q hk; obtain ⟨r, hr, _⟩ := hk; cases hr
  | succ n ih =>
    intro y0 y1 y2 y3 Q hk
    exact B_X10_explain_32 y0 y1 y2 y3 (fun y => t_lq (b_X10_explain_32) n Q y) (fun y0' y1' y2' y3' hy => ih y0' y1' y2' y3' Q hy) (t_lp hk)
noncomputable def k_X10_explain_28 (l2 : Int32) (k0 : Int32) (s : t_S) : Option (t_S) :=
 t_loop (b_X10_explain_32) t_N (l2, k0, 0, s)
set_option maxRecDepth 4000 in
set_option maxHeartbeats 1000000 in
theorem B_X10_explain_28 {D : va_G} {cy : Nat → ClassId} {ad : Nat → Nat} {bs : Nat} {X : State → Heap → Prop} (l2 : Int32) (k0 : Int32) (s : t_S) (Q : t_S → Prop) (hk : t_hk (k_X10_explain_28 l2 k0 s) Q) : mj_G D cy ad bs X cX10_explain 8 yX10_explain.cls none yX10_explain.name 404 0 0 1065 (t_P (fun v s' => v = none ∧ Q (s'))) 28 [(0, .ref 353), (2, .int l2)] [.int k0] (t_m s) 1065 0 0 := by
  refine mj_istore_n 3 (lv2 := [(3, .int k0), (0, .ref 353), (2, .int l2)]) dX10_explain_28 rfl (by decide) rfl ?_
  refine mj_iconst (v := 0) dX10_explain_29 (by decide) ?_
  refine mj_istore (lv2 := [(4, .int 0), (3, .int k0), (0, .ref 353), (2, .int l2)]) dX10_explain_30 (by decide) rfl ?_
  refine mj_sublv [(0, .ref 353), (2, .int l2), (3, .int k0), (4, .int 0)] [2, 3, 1, 0] rfl ?_
  exact LH_X10_explain_32 _ l2 k0 0 s _ hk
noncomputable def f_X10_explain (x1 : Int32) (s : t_S) : Option (t_S) :=
 t_let (t_setI s 353 17 (0 : Int32)) (fun s1 =>
 if t_oka (s1.2.2 353 14) 2 (t_ln (s1.2.2 353 14)) = true then
  if t_ix (s1.1 353 15) (t_ln (s1.2.2 353 14)) = true then
  if (f_X8_kind (s1.2.1 (s1.2.2 353 14) ((s1.1 353 15).toNatClampNeg)) s1) = (4 : Int32) then (k_X10_explain_28 x1 (-1) s1)
 else (k_X10_explain_28 x1 0 s1)
else none
else none)
set_option maxRecDepth 4000 in
set_option maxHeartbeats 1000000 in
theorem C_X10_explain (x1 : Int32) (s : t_S) (r : t_S) (hr : f_X10_explain x1 s = some r) : t_C yX10_explain cX10_explain 8 none 404 [.ref 353, .int x1] s (fun v s' => v = none ∧ s' = r) := by
  refine t_C.imp (P := fun v s' => v = none ∧ (fun q => q = r) (s')) (t_C.of (by decide +kernel) (Nat.le_of_ble_eq_true rfl) ?_) (fun v s' hp => hp)
  intro D cy ad bs X
  have hk : t_hk (f_X10_explain x1 s) (fun q => q = r) := ⟨r, hr, rfl⟩
  show mj_G D cy ad bs X cX10_explain 8 yX10_explain.cls none yX10_explain.name 404 0 0 1065 (t_P (fun v s' => v = none ∧ (fun q => q = r) (s'))) 0 [(0, .ref 353), (1, .int x1)] [] (t_m s) 1065 0 0
  refine mj_aload_n dX10_explain_0 0 rfl ?_
  refine mj_iconst (v := 0) dX10_explain_1 (by decide) ?_
  refine t_putIK dX10_explain_2 F_X10_224 qf_353_17 rfl (fun s1 ws1 => t_letE hk ws1 (fun hk => ?_))
  refine mj_iload_n dX10_explain_5 1 rfl ?_
  refine mj_istore_n 2 (lv2 := [(2, .int x1), (0, .ref 353), (1, .int x1)]) dX10_explain_6 rfl (by decide) rfl ?_
  refine mj_aload_n dX10_explain_7 1 rfl ?_
  refine t_getD dX10_explain_8 F_X10_67 qf_353_14 ?_
  refine mj_aload_n dX10_explain_11 1 rfl ?_
  refine t_getI dX10_explain_12 F_X10_132 qf_353_15 ?_
  refine t_chkK hk (fun c0 hk => ?_)
  refine t_chkK hk (fun c1 hk => ?_)
  refine t_lald dX10_explain_15 c0 (t_ixv c1) ?_
  refine t_callSiP dX10_explain_16 M_X8_kind (C_X8_kind _ _) ML_X10_122 SM_X8_kind (As := [.long (s1.2.1 (s1.2.2 353 14) ((s1.1 353 15).toNatClampNeg))]) rfl rfl (Nat.le_of_ble_eq_true rfl) (Nat.le_of_ble_eq_true rfl) (Nat.le_of_ble_eq_true rfl) (Nat.le_of_ble_eq_true rfl) ?_
  refine mj_iconst (v := 4) dX10_explain_19 (by decide) ?_
  refine mj_icmp_ne 27 dX10_explain_20 (by decide) (fun z => t_negK hk z (fun hk => ?_)) (fun z => t_posK hk z (fun hk => ?_))
  · refine mj_iconst (v := 0) dX10_explain_27 (by decide) ?_
    refine mj_sublv [(0, .ref 353), (2, .int x1)] [1, 0] rfl ?_
    exact B_X10_explain_28 _ _ _ _ hk
  · refine mj_iconst (v := (-1)) dX10_explain_23 (by decide) ?_
    refine mj_goto 28 dX10_explain_24 (by decide) ?_
    refine mj_sublv [(0, .ref 353), (2, .int x1)] [1, 0] rfl ?_
    exact B_X10_explain_28 _ _ _ _ hk

theorem dX10_firstWrong_0 : decode cX10_firstWrong 0 = .ok (.iload_n 1, 1) := by decide +kernel
theorem dX10_firstWrong_1 : decode cX10_firstWrong 1 = .ok (.istore_n 2, 1) := by decide +kernel
theorem dX10_firstWrong_10 : decode cX10_firstWrong 10 = .ok (.if_icmp .ge 90, 3) := by decide +kernel
theorem dX10_firstWrong_100 : decode cX10_firstWrong 100 = .ok (.iconst 0, 1) := by decide +kernel
theorem dX10_firstWrong_101 : decode cX10_firstWrong 101 = .ok (.ireturn, 1) := by decide +kernel
theorem dX10_firstWrong_13 : decode cX10_firstWrong 13 = .ok (.aload_n 0, 1) := by decide +kernel
theorem dX10_firstWrong_14 : decode cX10_firstWrong 14 = .ok (.getfield 58, 3) := by decide +kernel
theorem dX10_firstWrong_17 : decode cX10_firstWrong 17 = .ok (.getfield 113, 3) := by decide +kernel
theorem dX10_firstWrong_2 : decode cX10_firstWrong 2 = .ok (.iload_n 2, 1) := by decide +kernel
theorem dX10_firstWrong_20 : decode cX10_firstWrong 20 = .ok (.iload_n 2, 1) := by decide +kernel
theorem dX10_firstWrong_21 : decode cX10_firstWrong 21 = .ok (.iaload, 1) := by decide +kernel
theorem dX10_firstWrong_22 : decode cX10_firstWrong 22 = .ok (.ifCond .eq 78, 3) := by decide +kernel
theorem dX10_firstWrong_25 : decode cX10_firstWrong 25 = .ok (.iconst 0, 1) := by decide +kernel
theorem dX10_firstWrong_26 : decode cX10_firstWrong 26 = .ok (.istore_n 3, 1) := by decide +kernel
theorem dX10_firstWrong_27 : decode cX10_firstWrong 27 = .ok (.aload_n 0, 1) := by decide +kernel
theorem dX10_firstWrong_28 : decode cX10_firstWrong 28 = .ok (.getfield 58, 3) := by decide +kernel
theorem dX10_firstWrong_3 : decode cX10_firstWrong 3 = .ok (.aload_n 0, 1) := by decide +kernel
theorem dX10_firstWrong_31 : decode cX10_firstWrong 31 = .ok (.getfield 113, 3) := by decide +kernel
theorem dX10_firstWrong_34 : decode cX10_firstWrong 34 = .ok (.iload_n 2, 1) := by decide +kernel
theorem dX10_firstWrong_35 : decode cX10_firstWrong 35 = .ok (.iaload, 1) := by decide +kernel
theorem dX10_firstWrong_36 : decode cX10_firstWrong 36 = .ok (.bipush 34, 2) := by decide +kernel
theorem dX10_firstWrong_38 : decode cX10_firstWrong 38 = .ok (.if_icmp .ne 22, 3) := by decide +kernel
theorem dX10_firstWrong_4 : decode cX10_firstWrong 4 = .ok (.getfield 58, 3) := by decide +kernel
theorem dX10_firstWrong_41 : decode cX10_firstWrong 41 = .ok (.aload_n 0, 1) := by decide +kernel
theorem dX10_firstWrong_42 : decode cX10_firstWrong 42 = .ok (.getfield 38, 3) := by decide +kernel
theorem dX10_firstWrong_45 : decode cX10_firstWrong 45 = .ok (.aload_n 0, 1) := by decide +kernel
theorem dX10_firstWrong_46 : decode cX10_firstWrong 46 = .ok (.getfield 58, 3) := by decide +kernel
theorem dX10_firstWrong_49 : decode cX10_firstWrong 49 = .ok (.getfield 116, 3) := by decide +kernel
theorem dX10_firstWrong_52 : decode cX10_firstWrong 52 = .ok (.iload_n 2, 1) := by decide +kernel
theorem dX10_firstWrong_53 : decode cX10_firstWrong 53 = .ok (.iaload, 1) := by decide +kernel
theorem dX10_firstWrong_54 : decode cX10_firstWrong 54 = .ok (.laload, 1) := by decide +kernel
theorem dX10_firstWrong_55 : decode cX10_firstWrong 55 = .ok (.l2i, 1) := by decide +kernel
theorem dX10_firstWrong_56 : decode cX10_firstWrong 56 = .ok (.istore_n 3, 1) := by decide +kernel
theorem dX10_firstWrong_57 : decode cX10_firstWrong 57 = .ok (.goto 31, 3) := by decide +kernel
theorem dX10_firstWrong_60 : decode cX10_firstWrong 60 = .ok (.aload_n 0, 1) := by decide +kernel
theorem dX10_firstWrong_61 : decode cX10_firstWrong 61 = .ok (.getfield 58, 3) := by decide +kernel
theorem dX10_firstWrong_64 : decode cX10_firstWrong 64 = .ok (.getfield 113, 3) := by decide +kernel
theorem dX10_firstWrong_67 : decode cX10_firstWrong 67 = .ok (.iload_n 2, 1) := by decide +kernel
theorem dX10_firstWrong_68 : decode cX10_firstWrong 68 = .ok (.iaload, 1) := by decide +kernel
theorem dX10_firstWrong_69 : decode cX10_firstWrong 69 = .ok (.bipush 35, 2) := by decide +kernel
theorem dX10_firstWrong_7 : decode cX10_firstWrong 7 = .ok (.getfield 110, 3) := by decide +kernel
theorem dX10_firstWrong_71 : decode cX10_firstWrong 71 = .ok (.if_icmp .ne 17, 3) := by decide +kernel
theorem dX10_firstWrong_74 : decode cX10_firstWrong 74 = .ok (.aload_n 0, 1) := by decide +kernel
theorem dX10_firstWrong_75 : decode cX10_firstWrong 75 = .ok (.aload_n 0, 1) := by decide +kernel
theorem dX10_firstWrong_76 : decode cX10_firstWrong 76 = .ok (.getfield 58, 3) := by decide +kernel
theorem dX10_firstWrong_79 : decode cX10_firstWrong 79 = .ok (.getfield 116, 3) := by decide +kernel
theorem dX10_firstWrong_82 : decode cX10_firstWrong 82 = .ok (.iload_n 2, 1) := by decide +kernel
theorem dX10_firstWrong_83 : decode cX10_firstWrong 83 = .ok (.iaload, 1) := by decide +kernel
theorem dX10_firstWrong_84 : decode cX10_firstWrong 84 = .ok (.invokevirtual 119, 3) := by decide +kernel
theorem dX10_firstWrong_87 : decode cX10_firstWrong 87 = .ok (.istore_n 3, 1) := by decide +kernel
theorem dX10_firstWrong_88 : decode cX10_firstWrong 88 = .ok (.iload_n 3, 1) := by decide +kernel
theorem dX10_firstWrong_89 : decode cX10_firstWrong 89 = .ok (.ifCond .eq 5, 3) := by decide +kernel
theorem dX10_firstWrong_92 : decode cX10_firstWrong 92 = .ok (.iload_n 3, 1) := by decide +kernel
theorem dX10_firstWrong_93 : decode cX10_firstWrong 93 = .ok (.ireturn, 1) := by decide +kernel
theorem dX10_firstWrong_94 : decode cX10_firstWrong 94 = .ok (.iinc 2 1, 3) := by decide +kernel
theorem dX10_firstWrong_97 : decode cX10_firstWrong 97 = .ok (.goto (-95), 3) := by decide +kernel
noncomputable def k_X10_firstWrong_88 (l2 : Int32) (l3 : Int32) (s : t_S) : Option ((Int32) ⊕ (Int32)) :=
 if l3 = (0 : Int32) then (some (.inl (l2 + 1)))
 else ((some (l3)).map Sum.inr)
set_option maxRecDepth 4000 in
set_option maxHeartbeats 1000000 in
theorem B_X10_firstWrong_88 {D : va_G} {cy : Nat → ClassId} {ad : Nat → Nat} {bs : Nat} {X : State → Heap → Prop} (l2 : Int32) (l3 : Int32) (s : t_S) (Q : (Int32) ⊕ (Int32) → Prop) (Hb2 : ∀ (y0 : Int32), Q (.inl y0) → mj_G D cy ad bs X cX10_firstWrong 4 yX10_firstWrong.cls (some .int) yX10_firstWrong.name 1 0 0 1065 (t_P (fun v s' => s' = s ∧ ∃ x, v = some (.int x) ∧ Q (.inr (x)))) 2 [(0, .ref 353), (2, .int (y0))] [] (t_m s) 1065 0 0) (hk : t_hk (k_X10_firstWrong_88 l2 l3 s) Q) : mj_G D cy ad bs X cX10_firstWrong 4 yX10_firstWrong.cls (some .int) yX10_firstWrong.name 1 0 0 1065 (t_P (fun v s' => s' = s ∧ ∃ x, v = some (.int x) ∧ Q (.inr (x)))) 88 [(0, .ref 353), (2, .int l2), (3, .int l3)] [] (t_m s) 1065 0 0 := by
  refine mj_iload_n dX10_firstWrong_88 2 rfl ?_
  refine mj_if_eq 94 dX10_firstWrong_89 (by decide) (fun z => t_posK hk z (fun hk => ?_)) (fun z => t_negK hk z (fun hk => ?_))
  · refine mj_iinc (k := 1) (v := (l2 + 1)) (lv2 := [(2, .int (l2 + 1)), (0, .ref 353), (3, .int l3)]) dX10_firstWrong_94 rfl rfl (by decide) rfl ?_
    refine mj_goto 2 dX10_firstWrong_97 (by decide) ?_
    refine mj_sublv [(0, .ref 353), (2, .int (l2 + 1))] [1, 0] rfl ?_
    exact t_somK hk (fun hf => Hb2 (l2 + 1) hf)
  · refine t_mapK hk (fun hk => ?_)
    refine mj_iload_n dX10_firstWrong_92 2 rfl ?_
    exact t_somK hk (fun hf => t_iret dX10_firstWrong_93 rfl rfl ⟨rfl, _, rfl, hf⟩ (Nat.le_of_ble_eq_true rfl) (Nat.le_of_ble_eq_true rfl))
noncomputable def k_X10_firstWrong_2 (l2 : Int32) (s : t_S) : Option ((Int32) ⊕ (Int32)) :=
 if (s.1 334 2) ≤ l2 then ((some (0 : Int32)).map Sum.inr)
 else (if t_ix l2 16000 = true then
  if (s.1 335 (l2.toNatClampNeg)) = (0 : Int32) then ((some (0 : Int32)).map Sum.inr)
 else (if (s.1 335 (l2.toNatClampNeg)) = (34 : Int32) then (if t_ix (s.1 336 (l2.toNatClampNeg)) 6100 = true then
  k_X10_firstWrong_88 l2 ((s.2.1 362 ((s.1 336 (l2.toNatClampNeg)).toNatClampNeg)).toInt32) s
else none)
 else (if (s.1 335 (l2.toNatClampNeg)) = (35 : Int32) then ((f_X10_wrongOf (s.1 336 (l2.toNatClampNeg)) s).bind (fun r2 =>
 k_X10_firstWrong_88 l2 r2 s))
 else (k_X10_firstWrong_88 l2 0 s)))
else none)
set_option maxRecDepth 4000 in
set_option maxHeartbeats 1000000 in
theorem B_X10_firstWrong_2 {D : va_G} {cy : Nat → ClassId} {ad : Nat → Nat} {bs : Nat} {X : State → Heap → Prop} (l2 : Int32) (s : t_S) (Q : (Int32) ⊕ (Int32) → Prop) (Hb2 : ∀ (y0 : Int32), Q (.inl y0) → mj_G D cy ad bs X cX10_firstWrong 4 yX10_firstWrong.cls (some .int) yX10_firstWrong.name 1 0 0 1065 (t_P (fun v s' => s' = s ∧ ∃ x, v = some (.int x) ∧ Q (.inr (x)))) 2 [(0, .ref 353), (2, .int (y0))] [] (t_m s) 1065 0 0) (hk : t_hk (k_X10_firstWrong_2 l2 s) Q) : mj_G D cy ad bs X cX10_firstWrong 4 yX10_firstWrong.cls (some .int) yX10_firstWrong.name 1 0 0 1065 (t_P (fun v s' => s' = s ∧ ∃ x, v = some (.int x) ∧ Q (.inr (x)))) 2 [(0, .ref 353), (2, .int l2)] [] (t_m s) 1065 0 0 := by
  refine mj_iload_n dX10_firstWrong_2 1 rfl ?_
  refine mj_aload_n dX10_firstWrong_3 0 rfl ?_
  refine t_getR 334 dX10_firstWrong_4 F_X10_58 qr_353_21 ?_
  refine t_getI dX10_firstWrong_7 F_X10_110 qf_334_2 ?_
  refine mj_icmp_ge 100 dX10_firstWrong_10 (by decide) (fun z => t_posK hk z (fun hk => ?_)) (fun z => t_negK hk z (fun hk => ?_))
  · refine t_mapK hk (fun hk => ?_)
    refine mj_iconst (v := 0) dX10_firstWrong_100 (by decide) ?_
    exact t_somK hk (fun hf => t_iret dX10_firstWrong_101 rfl rfl ⟨rfl, _, rfl, hf⟩ (Nat.le_of_ble_eq_true rfl) (Nat.le_of_ble_eq_true rfl))
  · refine mj_aload_n dX10_firstWrong_13 0 rfl ?_
    refine t_getR 334 dX10_firstWrong_14 F_X10_58 qr_353_21 ?_
    refine t_getR 335 dX10_firstWrong_17 F_X10_113 qr_334_0 ?_
    refine mj_iload_n dX10_firstWrong_20 1 rfl ?_
    refine t_chkK hk (fun c0 hk => ?_)
    refine t_iald dX10_firstWrong_21 qa_335 (t_ixv c0) ?_
    refine mj_if_eq 100 dX10_firstWrong_22 (by decide) (fun z => t_posK hk z (fun hk => ?_)) (fun z => t_negK hk z (fun hk => ?_))
    · refine t_mapK hk (fun hk => ?_)
      refine mj_iconst (v := 0) dX10_firstWrong_100 (by decide) ?_
      exact t_somK hk (fun hf => t_iret dX10_firstWrong_101 rfl rfl ⟨rfl, _, rfl, hf⟩ (Nat.le_of_ble_eq_true rfl) (Nat.le_of_ble_eq_true rfl))
    · refine mj_iconst (v := 0) dX10_firstWrong_25 (by decide) ?_
      refine mj_istore_n 3 (lv2 := [(3, .int 0), (0, .ref 353), (2, .int l2)]) dX10_firstWrong_26 rfl (by decide) rfl ?_
      refine mj_aload_n dX10_firstWrong_27 1 rfl ?_
      refine t_getR 334 dX10_firstWrong_28 F_X10_58 qr_353_21 ?_
      refine t_getR 335 dX10_firstWrong_31 F_X10_113 qr_334_0 ?_
      refine mj_iload_n dX10_firstWrong_34 2 rfl ?_
      refine t_iald dX10_firstWrong_35 qa_335 (t_ixv c0) ?_
      refine mj_bipush (v := 34) dX10_firstWrong_36 (by decide) ?_
      refine mj_icmp_ne 60 dX10_firstWrong_38 (by decide) (fun z => t_negK hk z (fun hk => ?_)) (fun z => t_posK hk z (fun hk => ?_))
      · refine mj_aload_n dX10_firstWrong_60 1 rfl ?_
        refine t_getR 334 dX10_firstWrong_61 F_X10_58 qr_353_21 ?_
        refine t_getR 335 dX10_firstWrong_64 F_X10_113 qr_334_0 ?_
        refine mj_iload_n dX10_firstWrong_67 2 rfl ?_
        refine t_iald dX10_firstWrong_68 qa_335 (t_ixv c0) ?_
        refine mj_bipush (v := 35) dX10_firstWrong_69 (by decide) ?_
        refine mj_icmp_ne 88 dX10_firstWrong_71 (by decide) (fun z => t_negK hk z (fun hk => ?_)) (fun z => t_posK hk z (fun hk => ?_))
        · refine mj_sublv [(0, .ref 353), (2, .int l2), (3, .int 0)] [1, 2, 0] rfl ?_
          exact B_X10_firstWrong_88 _ _ _ _ (fun y0 hx => Hb2 y0 hx) hk
        · refine mj_aload_n dX10_firstWrong_74 1 rfl ?_
          refine mj_aload_n dX10_firstWrong_75 1 rfl ?_
          refine t_getR 334 dX10_firstWrong_76 F_X10_58 qr_353_21 ?_
          refine t_getR 336 dX10_firstWrong_79 F_X10_116 qr_334_1 ?_
          refine mj_iload_n dX10_firstWrong_82 2 rfl ?_
          refine t_iald dX10_firstWrong_83 qa_336 (t_ixv c0) ?_
          refine t_bndK hk (fun r2 er2 hk => ?_)
          refine t_callViP dX10_firstWrong_84 M_X10_wrongOf (C_X10_wrongOf _ _ _ er2) ML_X10_119 IM_X10_wrongOf SE_X10_wrongOf qc_353 rfl (As := [.int (s.1 336 (l2.toNatClampNeg))]) rfl rfl (Nat.le_of_ble_eq_true rfl) (Nat.le_of_ble_eq_true rfl) (Nat.le_of_ble_eq_true rfl) (Nat.le_of_ble_eq_true rfl) ?_
          refine mj_istore_n 3 (lv2 := [(3, .int r2), (0, .ref 353), (2, .int l2)]) dX10_firstWrong_87 rfl (by decide) rfl ?_
          refine mj_sublv [(0, .ref 353), (2, .int l2), (3, .int r2)] [1, 2, 0] rfl ?_
          exact B_X10_firstWrong_88 _ _ _ _ (fun y0 hx => Hb2 y0 hx) hk
      · refine mj_aload_n dX10_firstWrong_41 1 rfl ?_
        refine t_getR 362 dX10_firstWrong_42 F_X10_38 qr_353_8 ?_
        refine mj_aload_n dX10_firstWrong_45 1 rfl ?_
        refine t_getR 334 dX10_firstWrong_46 F_X10_58 qr_353_21 ?_
        refine t_getR 336 dX10_firstWrong_49 F_X10_116 qr_334_1 ?_
        refine mj_iload_n dX10_firstWrong_52 2 rfl ?_
        refine t_iald dX10_firstWrong_53 qa_336 (t_ixv c0) ?_
        refine t_chkK hk (fun c2 hk => ?_)
        refine t_lald dX10_firstWrong_54 qa_362 (t_ixv c2) ?_
        refine mj_l2i (v := (s.2.1 362 ((s.1 336 (l2.toNatClampNeg)).toNatClampNeg)).toInt32) dX10_firstWrong_55 rfl ?_
        refine mj_istore_n 3 (lv2 := [(3, .int ((s.2.1 362 ((s.1 336 (l2.toNatClampNeg)).toNatClampNeg)).toInt32)), (0, .ref 353), (2, .int l2)]) dX10_firstWrong_56 rfl (by decide) rfl ?_
        refine mj_goto 88 dX10_firstWrong_57 (by decide) ?_
        refine mj_sublv [(0, .ref 353), (2, .int l2), (3, .int ((s.2.1 362 ((s.1 336 (l2.toNatClampNeg)).toNatClampNeg)).toInt32))] [1, 2, 0] rfl ?_
        exact B_X10_firstWrong_88 _ _ _ _ (fun y0 hx => Hb2 y0 hx) hk
noncomputable def b_X10_firstWrong_2 (s : t_S) (x : Int32) : Option ((Int32) ⊕ (Int32)) := k_X10_firstWrong_2 x s
set_option maxRecDepth 4000 in
set_option maxHeartbeats 1000000 in
theorem LH_X10_firstWrong_2 {D : va_G} {cy : Nat → ClassId} {ad : Nat → Nat} {bs : Nat} {X : State → Heap → Prop} (s : t_S) : ∀ (n : Nat) (y0 : Int32) (Q : Int32 → Prop) (hk : t_hk (t_loop (b_X10_firstWrong_2 s) n y0) Q), mj_G D cy ad bs X cX10_firstWrong 4 yX10_firstWrong.cls (some .int) yX10_firstWrong.name 1 0 0 1065 (t_P (fun v s' => s' = s ∧ ∃ x, v = some (.int x) ∧ Q (x))) 2 [(0, .ref 353), (2, .int (y0))] [] (t_m s) 1065 0 0 := by
  intro n
  induction n with
  | zero => intro y0 Q hk; obtain ⟨r, hr, _⟩ := hk; cases hr
  | succ n ih =>
    intro y0 Q hk
    exact B_X10_firstWrong_2 y0 s (fun y => t_lq (b_X10_firstWrong_2 s) n Q y) (fun y0' hy => ih y0' Q hy) (t_lp hk)
noncomputable def f_X10_firstWrong (x1 : Int32) (s : t_S) : Option (Int32) :=
 t_loop (b_X10_firstWrong_2 s) t_N x1
set_option maxRecDepth 4000 in
set_option maxHeartbeats 1000000 in
theorem C_X10_firstWrong (x1 : Int32) (s : t_S) (r : Int32) (hr : f_X10_firstWrong x1 s = some r) : t_C yX10_firstWrong cX10_firstWrong 4 (some .int) 1 [.ref 353, .int x1] s (fun v s' => v = some (.int r) ∧ s' = s) := by
  refine t_C.imp (P := fun v s' => s' = s ∧ ∃ x, v = some (.int x) ∧ (fun q => q = r) (x)) (t_C.of (by decide +kernel) (Nat.le_of_ble_eq_true rfl) ?_) (fun v s' hp => by obtain ⟨rfl, x, rfl, rfl⟩ := hp; exact ⟨rfl, rfl⟩)
  intro D cy ad bs X
  have hk : t_hk (f_X10_firstWrong x1 s) (fun q => q = r) := ⟨r, hr, rfl⟩
  show mj_G D cy ad bs X cX10_firstWrong 4 yX10_firstWrong.cls (some .int) yX10_firstWrong.name 1 0 0 1065 (t_P (fun v s' => s' = s ∧ ∃ x, v = some (.int x) ∧ (fun q => q = r) (x))) 0 [(0, .ref 353), (1, .int x1)] [] (t_m s) 1065 0 0
  refine mj_iload_n dX10_firstWrong_0 1 rfl ?_
  refine mj_istore_n 2 (lv2 := [(2, .int x1), (0, .ref 353), (1, .int x1)]) dX10_firstWrong_1 rfl (by decide) rfl ?_
  refine mj_sublv [(0, .ref 353), (2, .int x1)] [1, 0] rfl ?_
  exact LH_X10_firstWrong_2 _ _ x1 _ hk

theorem dX10_measure_0 : decode cX10_measure 0 = .ok (.iconst 0, 1) := by decide +kernel
theorem dX10_measure_1 : decode cX10_measure 1 = .ok (.istore_n 1, 1) := by decide +kernel
theorem dX10_measure_10 : decode cX10_measure 10 = .ok (.aload_n 0, 1) := by decide +kernel
theorem dX10_measure_11 : decode cX10_measure 11 = .ok (.getfield 43, 3) := by decide +kernel
theorem dX10_measure_14 : decode cX10_measure 14 = .ok (.iload_n 1, 1) := by decide +kernel
theorem dX10_measure_15 : decode cX10_measure 15 = .ok (.aaload, 1) := by decide +kernel
theorem dX10_measure_16 : decode cX10_measure 16 = .ok (.bipush 6, 2) := by decide +kernel
theorem dX10_measure_18 : decode cX10_measure 18 = .ok (.iconst 1, 1) := by decide +kernel
theorem dX10_measure_19 : decode cX10_measure 19 = .ok (.iastore, 1) := by decide +kernel
theorem dX10_measure_2 : decode cX10_measure 2 = .ok (.iload_n 1, 1) := by decide +kernel
theorem dX10_measure_20 : decode cX10_measure 20 = .ok (.iinc 1 1, 3) := by decide +kernel
theorem dX10_measure_23 : decode cX10_measure 23 = .ok (.goto (-21), 3) := by decide +kernel
theorem dX10_measure_26 : decode cX10_measure 26 = .ok (.iconst 1, 1) := by decide +kernel
theorem dX10_measure_27 : decode cX10_measure 27 = .ok (.istore_n 1, 1) := by decide +kernel
theorem dX10_measure_28 : decode cX10_measure 28 = .ok (.iconst 0, 1) := by decide +kernel
theorem dX10_measure_29 : decode cX10_measure 29 = .ok (.istore_n 2, 1) := by decide +kernel
theorem dX10_measure_3 : decode cX10_measure 3 = .ok (.aload_n 0, 1) := by decide +kernel
theorem dX10_measure_30 : decode cX10_measure 30 = .ok (.iload_n 1, 1) := by decide +kernel
theorem dX10_measure_31 : decode cX10_measure 31 = .ok (.ifCond .eq 67, 3) := by decide +kernel
theorem dX10_measure_34 : decode cX10_measure 34 = .ok (.iload_n 2, 1) := by decide +kernel
theorem dX10_measure_35 : decode cX10_measure 35 = .ok (.bipush 61, 2) := by decide +kernel
theorem dX10_measure_37 : decode cX10_measure 37 = .ok (.if_icmp .gt 61, 3) := by decide +kernel
theorem dX10_measure_4 : decode cX10_measure 4 = .ok (.getfield 74, 3) := by decide +kernel
theorem dX10_measure_40 : decode cX10_measure 40 = .ok (.iconst 0, 1) := by decide +kernel
theorem dX10_measure_41 : decode cX10_measure 41 = .ok (.istore_n 1, 1) := by decide +kernel
theorem dX10_measure_42 : decode cX10_measure 42 = .ok (.iconst 0, 1) := by decide +kernel
theorem dX10_measure_43 : decode cX10_measure 43 = .ok (.istore_n 3, 1) := by decide +kernel
theorem dX10_measure_44 : decode cX10_measure 44 = .ok (.iload_n 3, 1) := by decide +kernel
theorem dX10_measure_45 : decode cX10_measure 45 = .ok (.aload_n 0, 1) := by decide +kernel
theorem dX10_measure_46 : decode cX10_measure 46 = .ok (.getfield 74, 3) := by decide +kernel
theorem dX10_measure_49 : decode cX10_measure 49 = .ok (.if_icmp .ge 43, 3) := by decide +kernel
theorem dX10_measure_52 : decode cX10_measure 52 = .ok (.aload_n 0, 1) := by decide +kernel
theorem dX10_measure_53 : decode cX10_measure 53 = .ok (.iload_n 3, 1) := by decide +kernel
theorem dX10_measure_54 : decode cX10_measure 54 = .ok (.invokevirtual 77, 3) := by decide +kernel
theorem dX10_measure_57 : decode cX10_measure 57 = .ok (.istore 4, 2) := by decide +kernel
theorem dX10_measure_59 : decode cX10_measure 59 = .ok (.iload 4, 2) := by decide +kernel
theorem dX10_measure_61 : decode cX10_measure 61 = .ok (.aload_n 0, 1) := by decide +kernel
theorem dX10_measure_62 : decode cX10_measure 62 = .ok (.getfield 43, 3) := by decide +kernel
theorem dX10_measure_65 : decode cX10_measure 65 = .ok (.iload_n 3, 1) := by decide +kernel
theorem dX10_measure_66 : decode cX10_measure 66 = .ok (.aaload, 1) := by decide +kernel
theorem dX10_measure_67 : decode cX10_measure 67 = .ok (.bipush 6, 2) := by decide +kernel
theorem dX10_measure_69 : decode cX10_measure 69 = .ok (.iaload, 1) := by decide +kernel
theorem dX10_measure_7 : decode cX10_measure 7 = .ok (.if_icmp .ge 19, 3) := by decide +kernel
theorem dX10_measure_70 : decode cX10_measure 70 = .ok (.if_icmp .eq 5, 3) := by decide +kernel
theorem dX10_measure_73 : decode cX10_measure 73 = .ok (.iconst 1, 1) := by decide +kernel
theorem dX10_measure_74 : decode cX10_measure 74 = .ok (.istore_n 1, 1) := by decide +kernel
theorem dX10_measure_75 : decode cX10_measure 75 = .ok (.aload_n 0, 1) := by decide +kernel
theorem dX10_measure_76 : decode cX10_measure 76 = .ok (.getfield 43, 3) := by decide +kernel
theorem dX10_measure_79 : decode cX10_measure 79 = .ok (.iload_n 3, 1) := by decide +kernel
theorem dX10_measure_80 : decode cX10_measure 80 = .ok (.aaload, 1) := by decide +kernel
theorem dX10_measure_81 : decode cX10_measure 81 = .ok (.bipush 6, 2) := by decide +kernel
theorem dX10_measure_83 : decode cX10_measure 83 = .ok (.iload 4, 2) := by decide +kernel
theorem dX10_measure_85 : decode cX10_measure 85 = .ok (.iastore, 1) := by decide +kernel
theorem dX10_measure_86 : decode cX10_measure 86 = .ok (.iinc 3 1, 3) := by decide +kernel
theorem dX10_measure_89 : decode cX10_measure 89 = .ok (.goto (-45), 3) := by decide +kernel
theorem dX10_measure_92 : decode cX10_measure 92 = .ok (.iinc 2 1, 3) := by decide +kernel
theorem dX10_measure_95 : decode cX10_measure 95 = .ok (.goto (-65), 3) := by decide +kernel
theorem dX10_measure_98 : decode cX10_measure 98 = .ok (.return_, 1) := by decide +kernel
noncomputable def k_X10_measure_75 (l1 : Int32) (l2 : Int32) (l3 : Int32) (l4 : Int32) (s : t_S) : Option ((Int32 × Int32 × Int32 × t_S) ⊕ ((Int32 × Int32 × t_S) ⊕ (t_S))) :=
 if t_ix l3 60 = true then
  t_let (t_setI s (364 + 1 * (l3.toNatClampNeg)) ((6 : Int32).toNatClampNeg) l4) (fun s1 =>
 some (.inl (l1, l2, (l3 + 1), s1)))
else none
set_option maxRecDepth 4000 in
set_option maxHeartbeats 1000000 in
theorem B_X10_measure_75 {D : va_G} {cy : Nat → ClassId} {ad : Nat → Nat} {bs : Nat} {X : State → Heap → Prop} (l1 : Int32) (l2 : Int32) (l3 : Int32) (l4 : Int32) (s : t_S) (Q : (Int32 × Int32 × Int32 × t_S) ⊕ ((Int32 × Int32 × t_S) ⊕ (t_S)) → Prop) (Hb30 : ∀ (y0 : Int32) (y1 : Int32) (y2 : t_S), Q (.inr (.inl (y0, y1, y2))) → mj_G D cy ad bs X cX10_measure 5 yX10_measure.cls none yX10_measure.name 2 0 0 1065 (t_P (fun v s' => v = none ∧ Q (.inr (.inr (s'))))) 30 [(0, .ref 353), (1, .int (y0)), (2, .int (y1))] [] (t_m y2) 1065 0 0) (Hb44 : ∀ (y0 : Int32) (y1 : Int32) (y2 : Int32) (y3 : t_S), Q (.inl (y0, y1, y2, y3)) → mj_G D cy ad bs X cX10_measure 5 yX10_measure.cls none yX10_measure.name 2 0 0 1065 (t_P (fun v s' => v = none ∧ Q (.inr (.inr (s'))))) 44 [(0, .ref 353), (1, .int (y0)), (2, .int (y1)), (3, .int (y2))] [] (t_m y3) 1065 0 0) (hk : t_hk (k_X10_measure_75 l1 l2 l3 l4 s) Q) : mj_G D cy ad bs X cX10_measure 5 yX10_measure.cls none yX10_measure.name 2 0 0 1065 (t_P (fun v s' => v = none ∧ Q (.inr (.inr (s'))))) 75 [(0, .ref 353), (1, .int l1), (2, .int l2), (3, .int l3), (4, .int l4)] [] (t_m s) 1065 0 0 := by
  refine mj_aload_n dX10_measure_75 0 rfl ?_
  refine t_getR 363 dX10_measure_76 F_X10_43 qr_353_10 ?_
  refine mj_iload_n dX10_measure_79 3 rfl ?_
  refine t_chkK hk (fun c0 hk => ?_)
  refine t_aaldI dX10_measure_80 qq_363 (t_ixv c0) ?_
  refine mj_bipush (v := 6) dX10_measure_81 (by decide) ?_
  refine mj_iload dX10_measure_83 4 rfl ?_
  refine t_iastK dX10_measure_85 (t_row364 (t_ixn c0)) (by unfold vp_in; decide) (fun s1 ws1 => t_letE hk ws1 (fun hk => ?_))
  refine mj_iinc (k := 3) (v := (l3 + 1)) (lv2 := [(3, .int (l3 + 1)), (0, .ref 353), (1, .int l1), (2, .int l2), (4, .int l4)]) dX10_measure_86 rfl rfl (by decide) rfl ?_
  refine mj_goto 44 dX10_measure_89 (by decide) ?_
  refine mj_sublv [(0, .ref 353), (1, .int l1), (2, .int l2), (3, .int (l3 + 1))] [1, 2, 3, 0] rfl ?_
  exact t_somK hk (fun hf => Hb44 l1 l2 (l3 + 1) s1 hf)
noncomputable def k_X10_measure_44 (l1 : Int32) (l2 : Int32) (l3 : Int32) (s : t_S) : Option ((Int32 × Int32 × Int32 × t_S) ⊕ ((Int32 × Int32 × t_S) ⊕ (t_S))) :=
 if (s.1 353 11) ≤ l3 then ((some (.inl (l1, (l2 + 1), s))).map Sum.inr)
 else ((f_X10_depthOf l3 s).bind (fun r1 =>
 if t_ix l3 60 = true then
  if r1 = (s.1 (364 + 1 * (l3.toNatClampNeg)) ((6 : Int32).toNatClampNeg)) then (k_X10_measure_75 l1 l2 l3 r1 s)
 else (k_X10_measure_75 1 l2 l3 r1 s)
else none))
set_option maxRecDepth 4000 in
set_option maxHeartbeats 1000000 in
theorem B_X10_measure_44 {D : va_G} {cy : Nat → ClassId} {ad : Nat → Nat} {bs : Nat} {X : State → Heap → Prop} (l1 : Int32) (l2 : Int32) (l3 : Int32) (s : t_S) (Q : (Int32 × Int32 × Int32 × t_S) ⊕ ((Int32 × Int32 × t_S) ⊕ (t_S)) → Prop) (Hb30 : ∀ (y0 : Int32) (y1 : Int32) (y2 : t_S), Q (.inr (.inl (y0, y1, y2))) → mj_G D cy ad bs X cX10_measure 5 yX10_measure.cls none yX10_measure.name 2 0 0 1065 (t_P (fun v s' => v = none ∧ Q (.inr (.inr (s'))))) 30 [(0, .ref 353), (1, .int (y0)), (2, .int (y1))] [] (t_m y2) 1065 0 0) (Hb44 : ∀ (y0 : Int32) (y1 : Int32) (y2 : Int32) (y3 : t_S), Q (.inl (y0, y1, y2, y3)) → mj_G D cy ad bs X cX10_measure 5 yX10_measure.cls none yX10_measure.name 2 0 0 1065 (t_P (fun v s' => v = none ∧ Q (.inr (.inr (s'))))) 44 [(0, .ref 353), (1, .int (y0)), (2, .int (y1)), (3, .int (y2))] [] (t_m y3) 1065 0 0) (hk : t_hk (k_X10_measure_44 l1 l2 l3 s) Q) : mj_G D cy ad bs X cX10_measure 5 yX10_measure.cls none yX10_measure.name 2 0 0 1065 (t_P (fun v s' => v = none ∧ Q (.inr (.inr (s'))))) 44 [(0, .ref 353), (1, .int l1), (2, .int l2), (3, .int l3)] [] (t_m s) 1065 0 0 := by
  refine mj_iload_n dX10_measure_44 3 rfl ?_
  refine mj_aload_n dX10_measure_45 0 rfl ?_
  refine t_getI dX10_measure_46 F_X10_74 qf_353_11 ?_
  refine mj_icmp_ge 92 dX10_measure_49 (by decide) (fun z => t_posK hk z (fun hk => ?_)) (fun z => t_negK hk z (fun hk => ?_))
  · refine t_mapK hk (fun hk => ?_)
    refine mj_iinc (k := 2) (v := (l2 + 1)) (lv2 := [(2, .int (l2 + 1)), (0, .ref 353), (1, .int l1), (3, .int l3)]) dX10_measure_92 rfl rfl (by decide) rfl ?_
    refine mj_goto 30 dX10_measure_95 (by decide) ?_
    refine mj_sublv [(0, .ref 353), (1, .int l1), (2, .int (l2 + 1))] [1, 2, 0] rfl ?_
    exact t_somK hk (fun hf => Hb30 l1 (l2 + 1) s hf)
  · refine mj_aload_n dX10_measure_52 0 rfl ?_
    refine mj_iload_n dX10_measure_53 3 rfl ?_
    refine t_bndK hk (fun r1 er1 hk => ?_)
    refine t_callViP dX10_measure_54 M_X10_depthOf (C_X10_depthOf _ _ _ er1) ML_X10_77 IM_X10_depthOf SE_X10_depthOf qc_353 rfl (As := [.int l3]) rfl rfl (Nat.le_of_ble_eq_true rfl) (Nat.le_of_ble_eq_true rfl) (Nat.le_of_ble_eq_true rfl) (Nat.le_of_ble_eq_true rfl) ?_
    refine mj_istore (lv2 := [(4, .int r1), (0, .ref 353), (1, .int l1), (2, .int l2), (3, .int l3)]) dX10_measure_57 (by decide) rfl ?_
    refine mj_iload dX10_measure_59 0 rfl ?_
    refine mj_aload_n dX10_measure_61 1 rfl ?_
    refine t_getR 363 dX10_measure_62 F_X10_43 qr_353_10 ?_
    refine mj_iload_n dX10_measure_65 4 rfl ?_
    refine t_chkK hk (fun c1 hk => ?_)
    refine t_aaldI dX10_measure_66 qq_363 (t_ixv c1) ?_
    refine mj_bipush (v := 6) dX10_measure_67 (by decide) ?_
    refine t_iald dX10_measure_69 (t_row364 (t_ixn c1)) (by unfold vp_in; decide) ?_
    refine mj_icmp_eq 75 dX10_measure_70 (by decide) (fun z => t_posK hk z (fun hk => ?_)) (fun z => t_negK hk z (fun hk => ?_))
    · refine mj_sublv [(0, .ref 353), (1, .int l1), (2, .int l2), (3, .int l3), (4, .int r1)] [1, 2, 3, 4, 0] rfl ?_
      exact B_X10_measure_75 _ _ _ _ _ _ (fun y0 y1 y2 hx => Hb30 y0 y1 y2 hx) (fun y0 y1 y2 y3 hx => Hb44 y0 y1 y2 y3 hx) hk
    · refine mj_iconst (v := 1) dX10_measure_73 (by decide) ?_
      refine mj_istore_n 1 (lv2 := [(1, .int 1), (4, .int r1), (0, .ref 353), (2, .int l2), (3, .int l3)]) dX10_measure_74 rfl (by decide) rfl ?_
      refine mj_sublv [(0, .ref 353), (1, .int 1), (2, .int l2), (3, .int l3), (4, .int r1)] [2, 0, 3, 4, 1] rfl ?_
      exact B_X10_measure_75 _ _ _ _ _ _ (fun y0 y1 y2 hx => Hb30 y0 y1 y2 hx) (fun y0 y1 y2 y3 hx => Hb44 y0 y1 y2 y3 hx) hk
noncomputable def b_X10_measure_44 (x : Int32 × Int32 × Int32 × t_S) : Option ((Int32 × Int32 × Int32 × t_S) ⊕ ((Int32 × Int32 × t_S) ⊕ (t_S))) := k_X10_measure_44 x.1 x.2.1 x.2.2.1 x.2.2.2
set_option maxRecDepth 4000 in
set_option maxHeartbeats 1000000 in
theorem LH_X10_measure_44 {D : va_G} {cy : Nat → ClassId} {ad : Nat → Nat} {bs : Nat} {X : State → Heap → Prop} : ∀ (n : Nat) (y0 : Int32) (y1 : Int32) (y2 : Int32) (y3 : t_S) (Q : (Int32 × Int32 × t_S) ⊕ (t_S) → Prop) (Hb30 : ∀ (y0 : Int32) (y1 : Int32) (y2 : t_S), Q (.inl (y0, y1, y2)) → mj_G D cy ad bs X cX10_measure 5 yX10_measure.cls none yX10_measure.name 2 0 0 1065 (t_P (fun v s' => v = none ∧ Q (.inr (s')))) 30 [(0, .ref 353), (1, .int (y0)), (2, .int (y1))] [] (t_m y2) 1065 0 0) (hk : t_hk (t_loop (b_X10_measure_44) n (y0, y1, y2, y3)) Q), mj_G D cy ad bs X cX10_measure 5 yX10_measure.cls none yX10_measure.name 2 0 0 1065 (t_P (fun v s' => v = none ∧ Q (.inr (s')))) 44 [(0, .ref 353), (1, .int (y0)), (2, .int (y1)), (3, .int (y2))] [] (t_m y3) 1065 0 0 := by
  intro n
  induction n with
  | zero => intro y0 y1 y2 y3 Q Hb30 hk; obtain ⟨r, hr, _⟩ := hk; cases hr
  | succ n ih =>
    intro y0 y1 y2 y3 Q Hb30 hk
    exact B_X10_measure_44 y0 y1 y2 y3 (fun y => t_lq (b_X10_measure_44) n Q y) (fun y0' y1' y2' hy => Hb30 y0' y1' y2' hy) (fun y0' y1' y2' y3' hy => ih y0' y1' y2' y3' Q Hb30 hy) (t_lp hk)
noncomputable def k_X10_measure_30 (l1 : Int32) (l2 : Int32) (s : t_S) : Option ((Int32 × Int32 × t_S) ⊕ (t_S)) :=
 if l1 = (0 : Int32) then ((some (s)).map Sum.inr)
 else (if (61 : Int32) < l2 then ((some (s)).map Sum.inr)
 else (t_loop (b_X10_measure_44) t_N (0, l2, 0, s)))
set_option maxRecDepth 4000 in
set_option maxHeartbeats 1000000 in
theorem B_X10_measure_30 {D : va_G} {cy : Nat → ClassId} {ad : Nat → Nat} {bs : Nat} {X : State → Heap → Prop} (l1 : Int32) (l2 : Int32) (s : t_S) (Q : (Int32 × Int32 × t_S) ⊕ (t_S) → Prop) (Hb30 : ∀ (y0 : Int32) (y1 : Int32) (y2 : t_S), Q (.inl (y0, y1, y2)) → mj_G D cy ad bs X cX10_measure 5 yX10_measure.cls none yX10_measure.name 2 0 0 1065 (t_P (fun v s' => v = none ∧ Q (.inr (s')))) 30 [(0, .ref 353), (1, .int (y0)), (2, .int (y1))] [] (t_m y2) 1065 0 0) (hk : t_hk (k_X10_measure_30 l1 l2 s) Q) : mj_G D cy ad bs X cX10_measure 5 yX10_measure.cls none yX10_measure.name 2 0 0 1065 (t_P (fun v s' => v = none ∧ Q (.inr (s')))) 30 [(0, .ref 353), (1, .int l1), (2, .int l2)] [] (t_m s) 1065 0 0 := by
  refine mj_iload_n dX10_measure_30 1 rfl ?_
  refine mj_if_eq 98 dX10_measure_31 (by decide) (fun z => t_posK hk z (fun hk => ?_)) (fun z => t_negK hk z (fun hk => ?_))
  · refine t_mapK hk (fun hk => ?_)
    exact t_somK hk (fun hf => t_vret dX10_measure_98 rfl ⟨rfl, hf⟩ (Nat.le_of_ble_eq_true rfl) (Nat.le_of_ble_eq_true rfl))
  · refine mj_iload_n dX10_measure_34 2 rfl ?_
    refine mj_bipush (v := 61) dX10_measure_35 (by decide) ?_
    refine mj_icmp_gt 98 dX10_measure_37 (by decide) (fun z => t_posK hk z (fun hk => ?_)) (fun z => t_negK hk z (fun hk => ?_))
    · refine t_mapK hk (fun hk => ?_)
      exact t_somK hk (fun hf => t_vret dX10_measure_98 rfl ⟨rfl, hf⟩ (Nat.le_of_ble_eq_true rfl) (Nat.le_of_ble_eq_true rfl))
    · refine mj_iconst (v := 0) dX10_measure_40 (by decide) ?_
      refine mj_istore_n 1 (lv2 := [(1, .int 0), (0, .ref 353), (2, .int l2)]) dX10_measure_41 rfl (by decide) rfl ?_
      refine mj_iconst (v := 0) dX10_measure_42 (by decide) ?_
      refine mj_istore_n 3 (lv2 := [(3, .int 0), (1, .int 0), (0, .ref 353), (2, .int l2)]) dX10_measure_43 rfl (by decide) rfl ?_
      refine mj_sublv [(0, .ref 353), (1, .int 0), (2, .int l2), (3, .int 0)] [2, 1, 3, 0] rfl ?_
      exact LH_X10_measure_44 _ 0 l2 0 s _ (fun y0 y1 y2 hx => Hb30 y0 y1 y2 hx) hk
noncomputable def b_X10_measure_30 (x : Int32 × Int32 × t_S) : Option ((Int32 × Int32 × t_S) ⊕ (t_S)) := k_X10_measure_30 x.1 x.2.1 x.2.2
set_option maxRecDepth 4000 in
set_option maxHeartbeats 1000000 in
theorem LH_X10_measure_30 {D : va_G} {cy : Nat → ClassId} {ad : Nat → Nat} {bs : Nat} {X : State → Heap → Prop} : ∀ (n : Nat) (y0 : Int32) (y1 : Int32) (y2 : t_S) (Q : t_S → Prop) (hk : t_hk (t_loop (b_X10_measure_30) n (y0, y1, y2)) Q), mj_G D cy ad bs X cX10_measure 5 yX10_measure.cls none yX10_measure.name 2 0 0 1065 (t_P (fun v s' => v = none ∧ Q (s'))) 30 [(0, .ref 353), (1, .int (y0)), (2, .int (y1))] [] (t_m y2) 1065 0 0 := by
  intro n
  induction n with
  | zero => intro y0 y1 y2 Q hk; obtain ⟨r, hr, _⟩ := hk; cases hr
  | succ n ih =>
    intro y0 y1 y2 Q hk
    exact B_X10_measure_30 y0 y1 y2 (fun y => t_lq (b_X10_measure_30) n Q y) (fun y0' y1' y2' hy => ih y0' y1' y2' Q hy) (t_lp hk)
noncomputable def k_X10_measure_2 (l1 : Int32) (s : t_S) : Option ((Int32 × t_S) ⊕ (t_S)) :=
 if (s.1 353 11) ≤ l1 then ((t_loop (b_X10_measure_30) t_N (1, 0, s)).map Sum.inr)
 else (if t_ix l1 60 = true then
  t_let (t_setI s (364 + 1 * (l1.toNatClampNeg)) ((6 : Int32).toNatClampNeg) (1 : Int32)) (fun s1 =>
 some (.inl ((l1 + 1), s1)))
else none)
set_option maxRecDepth 4000 in
set_option maxHeartbeats 1000000 in
theorem B_X10_measure_2 {D : va_G} {cy : Nat → ClassId} {ad : Nat → Nat} {bs : Nat} {X : State → Heap → Prop} (l1 : Int32) (s : t_S) (Q : (Int32 × t_S) ⊕ (t_S) → Prop) (Hb2 : ∀ (y0 : Int32) (y1 : t_S), Q (.inl (y0, y1)) → mj_G D cy ad bs X cX10_measure 5 yX10_measure.cls none yX10_measure.name 2 0 0 1065 (t_P (fun v s' => v = none ∧ Q (.inr (s')))) 2 [(0, .ref 353), (1, .int (y0))] [] (t_m y1) 1065 0 0) (hk : t_hk (k_X10_measure_2 l1 s) Q) : mj_G D cy ad bs X cX10_measure 5 yX10_measure.cls none yX10_measure.name 2 0 0 1065 (t_P (fun v s' => v = none ∧ Q (.inr (s')))) 2 [(0, .ref 353), (1, .int l1)] [] (t_m s) 1065 0 0 := by
  refine mj_iload_n dX10_measure_2 1 rfl ?_
  refine mj_aload_n dX10_measure_3 0 rfl ?_
  refine t_getI dX10_measure_4 F_X10_74 qf_353_11 ?_
  refine mj_icmp_ge 26 dX10_measure_7 (by decide) (fun z => t_posK hk z (fun hk => ?_)) (fun z => t_negK hk z (fun hk => ?_))
  · refine t_mapK hk (fun hk => ?_)
    refine mj_iconst (v := 1) dX10_measure_26 (by decide) ?_
    refine mj_istore_n 1 (lv2 := [(1, .int 1), (0, .ref 353)]) dX10_measure_27 rfl (by decide) rfl ?_
    refine mj_iconst (v := 0) dX10_measure_28 (by decide) ?_
    refine mj_istore_n 2 (lv2 := [(2, .int 0), (1, .int 1), (0, .ref 353)]) dX10_measure_29 rfl (by decide) rfl ?_
    refine mj_sublv [(0, .ref 353), (1, .int 1), (2, .int 0)] [2, 1, 0] rfl ?_
    exact LH_X10_measure_30 _ 1 0 s _ hk
  · refine mj_aload_n dX10_measure_10 0 rfl ?_
    refine t_getR 363 dX10_measure_11 F_X10_43 qr_353_10 ?_
    refine mj_iload_n dX10_measure_14 1 rfl ?_
    refine t_chkK hk (fun c0 hk => ?_)
    refine t_aaldI dX10_measure_15 qq_363 (t_ixv c0) ?_
    refine mj_bipush (v := 6) dX10_measure_16 (by decide) ?_
    refine mj_iconst (v := 1) dX10_measure_18 (by decide) ?_
    refine t_iastK dX10_measure_19 (t_row364 (t_ixn c0)) (by unfold vp_in; decide) (fun s1 ws1 => t_letE hk ws1 (fun hk => ?_))
    refine mj_iinc (k := 1) (v := (l1 + 1)) (lv2 := [(1, .int (l1 + 1)), (0, .ref 353)]) dX10_measure_20 rfl rfl (by decide) rfl ?_
    refine mj_goto 2 dX10_measure_23 (by decide) ?_
    refine mj_sublv [(0, .ref 353), (1, .int (l1 + 1))] [1, 0] rfl ?_
    exact t_somK hk (fun hf => Hb2 (l1 + 1) s1 hf)
noncomputable def b_X10_measure_2 (x : Int32 × t_S) : Option ((Int32 × t_S) ⊕ (t_S)) := k_X10_measure_2 x.1 x.2
set_option maxRecDepth 4000 in
set_option maxHeartbeats 1000000 in
theorem LH_X10_measure_2 {D : va_G} {cy : Nat → ClassId} {ad : Nat → Nat} {bs : Nat} {X : State → Heap → Prop} : ∀ (n : Nat) (y0 : Int32) (y1 : t_S) (Q : t_S → Prop) (hk : t_hk (t_loop (b_X10_measure_2) n (y0, y1)) Q), mj_G D cy ad bs X cX10_measure 5 yX10_measure.cls none yX10_measure.name 2 0 0 1065 (t_P (fun v s' => v = none ∧ Q (s'))) 2 [(0, .ref 353), (1, .int (y0))] [] (t_m y1) 1065 0 0 := by
  intro n
  induction n with
  | zero => intro y0 y1 Q hk; obtain ⟨r, hr, _⟩ := hk; cases hr
  | succ n ih =>
    intro y0 y1 Q hk
    exact B_X10_measure_2 y0 y1 (fun y => t_lq (b_X10_measure_2) n Q y) (fun y0' y1' hy => ih y0' y1' Q hy) (t_lp hk)
noncomputable def f_X10_measure (s : t_S) : Option (t_S) :=
 t_loop (b_X10_measure_2) t_N (0, s)
set_option maxRecDepth 4000 in
set_option maxHeartbeats 1000000 in
theorem C_X10_measure (s : t_S) (r : t_S) (hr : f_X10_measure s = some r) : t_C yX10_measure cX10_measure 5 none 2 [.ref 353] s (fun v s' => v = none ∧ s' = r) := by
  refine t_C.imp (P := fun v s' => v = none ∧ (fun q => q = r) (s')) (t_C.of (by decide +kernel) (Nat.le_of_ble_eq_true rfl) ?_) (fun v s' hp => hp)
  intro D cy ad bs X
  have hk : t_hk (f_X10_measure s) (fun q => q = r) := ⟨r, hr, rfl⟩
  show mj_G D cy ad bs X cX10_measure 5 yX10_measure.cls none yX10_measure.name 2 0 0 1065 (t_P (fun v s' => v = none ∧ (fun q => q = r) (s'))) 0 [(0, .ref 353)] [] (t_m s) 1065 0 0
  refine mj_iconst (v := 0) dX10_measure_0 (by decide) ?_
  refine mj_istore_n 1 (lv2 := [(1, .int 0), (0, .ref 353)]) dX10_measure_1 rfl (by decide) rfl ?_
  refine mj_sublv [(0, .ref 353), (1, .int 0)] [1, 0] rfl ?_
  exact LH_X10_measure_2 _ 0 s _ hk

theorem dX10_settleOne_0 : decode cX10_settleOne 0 = .ok (.iload_n 1, 1) := by decide +kernel
theorem dX10_settleOne_1 : decode cX10_settleOne 1 = .ok (.istore_n 2, 1) := by decide +kernel
theorem dX10_settleOne_101 : decode cX10_settleOne 101 = .ok (.aload_n 0, 1) := by decide +kernel
theorem dX10_settleOne_102 : decode cX10_settleOne 102 = .ok (.getfield 58, 3) := by decide +kernel
theorem dX10_settleOne_105 : decode cX10_settleOne 105 = .ok (.getfield 113, 3) := by decide +kernel
theorem dX10_settleOne_108 : decode cX10_settleOne 108 = .ok (.iload 5, 2) := by decide +kernel
theorem dX10_settleOne_11 : decode cX10_settleOne 11 = .ok (.aload_n 0, 1) := by decide +kernel
theorem dX10_settleOne_110 : decode cX10_settleOne 110 = .ok (.iaload, 1) := by decide +kernel
theorem dX10_settleOne_111 : decode cX10_settleOne 111 = .ok (.ifCond .ne 4, 3) := by decide +kernel
theorem dX10_settleOne_114 : decode cX10_settleOne 114 = .ok (.return_, 1) := by decide +kernel
theorem dX10_settleOne_115 : decode cX10_settleOne 115 = .ok (.aload_n 0, 1) := by decide +kernel
theorem dX10_settleOne_116 : decode cX10_settleOne 116 = .ok (.getfield 38, 3) := by decide +kernel
theorem dX10_settleOne_119 : decode cX10_settleOne 119 = .ok (.aload_n 0, 1) := by decide +kernel
theorem dX10_settleOne_12 : decode cX10_settleOne 12 = .ok (.getfield 58, 3) := by decide +kernel
theorem dX10_settleOne_120 : decode cX10_settleOne 120 = .ok (.getfield 58, 3) := by decide +kernel
theorem dX10_settleOne_123 : decode cX10_settleOne 123 = .ok (.getfield 116, 3) := by decide +kernel
theorem dX10_settleOne_126 : decode cX10_settleOne 126 = .ok (.iload 5, 2) := by decide +kernel
theorem dX10_settleOne_128 : decode cX10_settleOne 128 = .ok (.iaload, 1) := by decide +kernel
theorem dX10_settleOne_129 : decode cX10_settleOne 129 = .ok (.iload 4, 2) := by decide +kernel
theorem dX10_settleOne_131 : decode cX10_settleOne 131 = .ok (.i2l, 1) := by decide +kernel
theorem dX10_settleOne_132 : decode cX10_settleOne 132 = .ok (.lastore, 1) := by decide +kernel
theorem dX10_settleOne_133 : decode cX10_settleOne 133 = .ok (.iload 5, 2) := by decide +kernel
theorem dX10_settleOne_135 : decode cX10_settleOne 135 = .ok (.iconst 1, 1) := by decide +kernel
theorem dX10_settleOne_136 : decode cX10_settleOne 136 = .ok (.iadd, 1) := by decide +kernel
theorem dX10_settleOne_137 : decode cX10_settleOne 137 = .ok (.istore_n 2, 1) := by decide +kernel
theorem dX10_settleOne_138 : decode cX10_settleOne 138 = .ok (.iinc 3 1, 3) := by decide +kernel
theorem dX10_settleOne_141 : decode cX10_settleOne 141 = .ok (.goto (-137), 3) := by decide +kernel
theorem dX10_settleOne_144 : decode cX10_settleOne 144 = .ok (.return_, 1) := by decide +kernel
theorem dX10_settleOne_15 : decode cX10_settleOne 15 = .ok (.invokevirtual 101, 3) := by decide +kernel
theorem dX10_settleOne_18 : decode cX10_settleOne 18 = .ok (.aload_n 0, 1) := by decide +kernel
theorem dX10_settleOne_19 : decode cX10_settleOne 19 = .ok (.getfield 58, 3) := by decide +kernel
theorem dX10_settleOne_2 : decode cX10_settleOne 2 = .ok (.iconst 0, 1) := by decide +kernel
theorem dX10_settleOne_22 : decode cX10_settleOne 22 = .ok (.iload_n 2, 1) := by decide +kernel
theorem dX10_settleOne_23 : decode cX10_settleOne 23 = .ok (.invokevirtual 104, 3) := by decide +kernel
theorem dX10_settleOne_26 : decode cX10_settleOne 26 = .ok (.istore 4, 2) := by decide +kernel
theorem dX10_settleOne_28 : decode cX10_settleOne 28 = .ok (.iload 4, 2) := by decide +kernel
theorem dX10_settleOne_3 : decode cX10_settleOne 3 = .ok (.istore_n 3, 1) := by decide +kernel
theorem dX10_settleOne_30 : decode cX10_settleOne 30 = .ok (.ifCond .ne 4, 3) := by decide +kernel
theorem dX10_settleOne_33 : decode cX10_settleOne 33 = .ok (.return_, 1) := by decide +kernel
theorem dX10_settleOne_34 : decode cX10_settleOne 34 = .ok (.aload_n 0, 1) := by decide +kernel
theorem dX10_settleOne_35 : decode cX10_settleOne 35 = .ok (.getfield 58, 3) := by decide +kernel
theorem dX10_settleOne_38 : decode cX10_settleOne 38 = .ok (.getfield 107, 3) := by decide +kernel
theorem dX10_settleOne_4 : decode cX10_settleOne 4 = .ok (.iload_n 3, 1) := by decide +kernel
theorem dX10_settleOne_41 : decode cX10_settleOne 41 = .ok (.istore 5, 2) := by decide +kernel
theorem dX10_settleOne_43 : decode cX10_settleOne 43 = .ok (.iload 5, 2) := by decide +kernel
theorem dX10_settleOne_45 : decode cX10_settleOne 45 = .ok (.aload_n 0, 1) := by decide +kernel
theorem dX10_settleOne_46 : decode cX10_settleOne 46 = .ok (.getfield 58, 3) := by decide +kernel
theorem dX10_settleOne_49 : decode cX10_settleOne 49 = .ok (.getfield 110, 3) := by decide +kernel
theorem dX10_settleOne_5 : decode cX10_settleOne 5 = .ok (.sipush 6100, 3) := by decide +kernel
theorem dX10_settleOne_52 : decode cX10_settleOne 52 = .ok (.if_icmp .ge 37, 3) := by decide +kernel
theorem dX10_settleOne_55 : decode cX10_settleOne 55 = .ok (.aload_n 0, 1) := by decide +kernel
theorem dX10_settleOne_56 : decode cX10_settleOne 56 = .ok (.getfield 58, 3) := by decide +kernel
theorem dX10_settleOne_59 : decode cX10_settleOne 59 = .ok (.getfield 113, 3) := by decide +kernel
theorem dX10_settleOne_62 : decode cX10_settleOne 62 = .ok (.iload 5, 2) := by decide +kernel
theorem dX10_settleOne_64 : decode cX10_settleOne 64 = .ok (.iaload, 1) := by decide +kernel
theorem dX10_settleOne_65 : decode cX10_settleOne 65 = .ok (.bipush 34, 2) := by decide +kernel
theorem dX10_settleOne_67 : decode cX10_settleOne 67 = .ok (.if_icmp .eq 22, 3) := by decide +kernel
theorem dX10_settleOne_70 : decode cX10_settleOne 70 = .ok (.aload_n 0, 1) := by decide +kernel
theorem dX10_settleOne_71 : decode cX10_settleOne 71 = .ok (.getfield 58, 3) := by decide +kernel
theorem dX10_settleOne_74 : decode cX10_settleOne 74 = .ok (.getfield 113, 3) := by decide +kernel
theorem dX10_settleOne_77 : decode cX10_settleOne 77 = .ok (.iload 5, 2) := by decide +kernel
theorem dX10_settleOne_79 : decode cX10_settleOne 79 = .ok (.iaload, 1) := by decide +kernel
theorem dX10_settleOne_8 : decode cX10_settleOne 8 = .ok (.if_icmp .ge 136, 3) := by decide +kernel
theorem dX10_settleOne_80 : decode cX10_settleOne 80 = .ok (.ifCond .eq 9, 3) := by decide +kernel
theorem dX10_settleOne_83 : decode cX10_settleOne 83 = .ok (.iinc 5 1, 3) := by decide +kernel
theorem dX10_settleOne_86 : decode cX10_settleOne 86 = .ok (.goto (-43), 3) := by decide +kernel
theorem dX10_settleOne_89 : decode cX10_settleOne 89 = .ok (.iload 5, 2) := by decide +kernel
theorem dX10_settleOne_91 : decode cX10_settleOne 91 = .ok (.aload_n 0, 1) := by decide +kernel
theorem dX10_settleOne_92 : decode cX10_settleOne 92 = .ok (.getfield 58, 3) := by decide +kernel
theorem dX10_settleOne_95 : decode cX10_settleOne 95 = .ok (.getfield 110, 3) := by decide +kernel
theorem dX10_settleOne_98 : decode cX10_settleOne 98 = .ok (.if_icmp .ge 16, 3) := by decide +kernel
noncomputable def k_X10_settleOne_89 (l3 : Int32) (l4 : Int32) (l5 : Int32) (s : t_S) : Option ((Int32 × Int32 × t_S) ⊕ (t_S)) :=
 if (s.1 334 2) ≤ l5 then ((some (s)).map Sum.inr)
 else (if t_ix l5 16000 = true then
  if (s.1 335 (l5.toNatClampNeg)) = (0 : Int32) then ((some (s)).map Sum.inr)
 else (if t_ix (s.1 336 (l5.toNatClampNeg)) 6100 = true then
  t_let (t_setJ s 362 ((s.1 336 (l5.toNatClampNeg)).toNatClampNeg) l4.toInt64) (fun s1 =>
 some (.inl ((l5 + (1 : Int32)), (l3 + 1), s1)))
else none)
else none)
set_option maxRecDepth 4000 in
set_option maxHeartbeats 1000000 in
theorem B_X10_settleOne_89 {D : va_G} {cy : Nat → ClassId} {ad : Nat → Nat} {bs : Nat} {X : State → Heap → Prop} (l3 : Int32) (l4 : Int32) (l5 : Int32) (s : t_S) (Q : (Int32 × Int32 × t_S) ⊕ (t_S) → Prop) (Hb4 : ∀ (y0 : Int32) (y1 : Int32) (y2 : t_S), Q (.inl (y0, y1, y2)) → mj_G D cy ad bs X cX10_settleOne 6 yX10_settleOne.cls none yX10_settleOne.name 406 0 0 1065 (t_P (fun v s' => v = none ∧ Q (.inr (s')))) 4 [(0, .ref 353), (2, .int (y0)), (3, .int (y1))] [] (t_m y2) 1065 0 0) (hk : t_hk (k_X10_settleOne_89 l3 l4 l5 s) Q) : mj_G D cy ad bs X cX10_settleOne 6 yX10_settleOne.cls none yX10_settleOne.name 406 0 0 1065 (t_P (fun v s' => v = none ∧ Q (.inr (s')))) 89 [(0, .ref 353), (3, .int l3), (4, .int l4), (5, .int l5)] [] (t_m s) 1065 0 0 := by
  refine mj_iload dX10_settleOne_89 3 rfl ?_
  refine mj_aload_n dX10_settleOne_91 0 rfl ?_
  refine t_getR 334 dX10_settleOne_92 F_X10_58 qr_353_21 ?_
  refine t_getI dX10_settleOne_95 F_X10_110 qf_334_2 ?_
  refine mj_icmp_ge 114 dX10_settleOne_98 (by decide) (fun z => t_posK hk z (fun hk => ?_)) (fun z => t_negK hk z (fun hk => ?_))
  · refine t_mapK hk (fun hk => ?_)
    exact t_somK hk (fun hf => t_vret dX10_settleOne_114 rfl ⟨rfl, hf⟩ (Nat.le_of_ble_eq_true rfl) (Nat.le_of_ble_eq_true rfl))
  · refine mj_aload_n dX10_settleOne_101 0 rfl ?_
    refine t_getR 334 dX10_settleOne_102 F_X10_58 qr_353_21 ?_
    refine t_getR 335 dX10_settleOne_105 F_X10_113 qr_334_0 ?_
    refine mj_iload dX10_settleOne_108 3 rfl ?_
    refine t_chkK hk (fun c0 hk => ?_)
    refine t_iald dX10_settleOne_110 qa_335 (t_ixv c0) ?_
    refine mj_if_ne 115 dX10_settleOne_111 (by decide) (fun z => t_negK hk z (fun hk => ?_)) (fun z => t_posK hk z (fun hk => ?_))
    · refine mj_aload_n dX10_settleOne_115 0 rfl ?_
      refine t_getR 362 dX10_settleOne_116 F_X10_38 qr_353_8 ?_
      refine mj_aload_n dX10_settleOne_119 0 rfl ?_
      refine t_getR 334 dX10_settleOne_120 F_X10_58 qr_353_21 ?_
      refine t_getR 336 dX10_settleOne_123 F_X10_116 qr_334_1 ?_
      refine mj_iload dX10_settleOne_126 3 rfl ?_
      refine t_iald dX10_settleOne_128 qa_336 (t_ixv c0) ?_
      refine mj_iload dX10_settleOne_129 2 rfl ?_
      refine mj_i2l (v := l4.toInt64) dX10_settleOne_131 rfl ?_
      refine t_chkK hk (fun c1 hk => ?_)
      refine t_lastK dX10_settleOne_132 qa_362 (t_ixv c1) (fun s1 ws1 => t_letE hk ws1 (fun hk => ?_))
      refine mj_iload dX10_settleOne_133 3 rfl ?_
      refine mj_iconst (v := 1) dX10_settleOne_135 (by decide) ?_
      refine mj_iadd dX10_settleOne_136 ?_
      refine mj_istore_n 2 (lv2 := [(2, .int (l5 + (1 : Int32))), (0, .ref 353), (3, .int l3), (4, .int l4), (5, .int l5)]) dX10_settleOne_137 rfl (by decide) rfl ?_
      refine mj_iinc (k := 2) (v := (l3 + 1)) (lv2 := [(3, .int (l3 + 1)), (2, .int (l5 + (1 : Int32))), (0, .ref 353), (4, .int l4), (5, .int l5)]) dX10_settleOne_138 rfl rfl (by decide) rfl ?_
      refine mj_goto 4 dX10_settleOne_141 (by decide) ?_
      refine mj_sublv [(0, .ref 353), (2, .int (l5 + (1 : Int32))), (3, .int (l3 + 1))] [2, 1, 0] rfl ?_
      exact t_somK hk (fun hf => Hb4 (l5 + (1 : Int32)) (l3 + 1) s1 hf)
    · refine t_mapK hk (fun hk => ?_)
      exact t_somK hk (fun hf => t_vret dX10_settleOne_114 rfl ⟨rfl, hf⟩ (Nat.le_of_ble_eq_true rfl) (Nat.le_of_ble_eq_true rfl))
noncomputable def k_X10_settleOne_43 (l3 : Int32) (l4 : Int32) (l5 : Int32) (s : t_S) : Option ((Int32 × Int32 × Int32 × t_S) ⊕ ((Int32 × Int32 × t_S) ⊕ (t_S))) :=
 if (s.1 334 2) ≤ l5 then ((k_X10_settleOne_89 l3 l4 l5 s).map Sum.inr)
 else (if t_ix l5 16000 = true then
  if (s.1 335 (l5.toNatClampNeg)) = (34 : Int32) then ((k_X10_settleOne_89 l3 l4 l5 s).map Sum.inr)
 else (if (s.1 335 (l5.toNatClampNeg)) = (0 : Int32) then ((k_X10_settleOne_89 l3 l4 l5 s).map Sum.inr)
 else (some (.inl (l3, l4, (l5 + 1), s))))
else none)
set_option maxRecDepth 4000 in
set_option maxHeartbeats 1000000 in
theorem B_X10_settleOne_43 {D : va_G} {cy : Nat → ClassId} {ad : Nat → Nat} {bs : Nat} {X : State → Heap → Prop} (l3 : Int32) (l4 : Int32) (l5 : Int32) (s : t_S) (Q : (Int32 × Int32 × Int32 × t_S) ⊕ ((Int32 × Int32 × t_S) ⊕ (t_S)) → Prop) (Hb4 : ∀ (y0 : Int32) (y1 : Int32) (y2 : t_S), Q (.inr (.inl (y0, y1, y2))) → mj_G D cy ad bs X cX10_settleOne 6 yX10_settleOne.cls none yX10_settleOne.name 406 0 0 1065 (t_P (fun v s' => v = none ∧ Q (.inr (.inr (s'))))) 4 [(0, .ref 353), (2, .int (y0)), (3, .int (y1))] [] (t_m y2) 1065 0 0) (Hb43 : ∀ (y0 : Int32) (y1 : Int32) (y2 : Int32) (y3 : t_S), Q (.inl (y0, y1, y2, y3)) → mj_G D cy ad bs X cX10_settleOne 6 yX10_settleOne.cls none yX10_settleOne.name 406 0 0 1065 (t_P (fun v s' => v = none ∧ Q (.inr (.inr (s'))))) 43 [(0, .ref 353), (3, .int (y0)), (4, .int (y1)), (5, .int (y2))] [] (t_m y3) 1065 0 0) (hk : t_hk (k_X10_settleOne_43 l3 l4 l5 s) Q) : mj_G D cy ad bs X cX10_settleOne 6 yX10_settleOne.cls none yX10_settleOne.name 406 0 0 1065 (t_P (fun v s' => v = none ∧ Q (.inr (.inr (s'))))) 43 [(0, .ref 353), (3, .int l3), (4, .int l4), (5, .int l5)] [] (t_m s) 1065 0 0 := by
  refine mj_iload dX10_settleOne_43 3 rfl ?_
  refine mj_aload_n dX10_settleOne_45 0 rfl ?_
  refine t_getR 334 dX10_settleOne_46 F_X10_58 qr_353_21 ?_
  refine t_getI dX10_settleOne_49 F_X10_110 qf_334_2 ?_
  refine mj_icmp_ge 89 dX10_settleOne_52 (by decide) (fun z => t_posK hk z (fun hk => ?_)) (fun z => t_negK hk z (fun hk => ?_))
  · refine t_mapK hk (fun hk => ?_)
    exact B_X10_settleOne_89 _ _ _ _ _ (fun y0 y1 y2 hx => Hb4 y0 y1 y2 hx) hk
  · refine mj_aload_n dX10_settleOne_55 0 rfl ?_
    refine t_getR 334 dX10_settleOne_56 F_X10_58 qr_353_21 ?_
    refine t_getR 335 dX10_settleOne_59 F_X10_113 qr_334_0 ?_
    refine mj_iload dX10_settleOne_62 3 rfl ?_
    refine t_chkK hk (fun c0 hk => ?_)
    refine t_iald dX10_settleOne_64 qa_335 (t_ixv c0) ?_
    refine mj_bipush (v := 34) dX10_settleOne_65 (by decide) ?_
    refine mj_icmp_eq 89 dX10_settleOne_67 (by decide) (fun z => t_posK hk z (fun hk => ?_)) (fun z => t_negK hk z (fun hk => ?_))
    · refine t_mapK hk (fun hk => ?_)
      exact B_X10_settleOne_89 _ _ _ _ _ (fun y0 y1 y2 hx => Hb4 y0 y1 y2 hx) hk
    · refine mj_aload_n dX10_settleOne_70 0 rfl ?_
      refine t_getR 334 dX10_settleOne_71 F_X10_58 qr_353_21 ?_
      refine t_getR 335 dX10_settleOne_74 F_X10_113 qr_334_0 ?_
      refine mj_iload dX10_settleOne_77 3 rfl ?_
      refine t_iald dX10_settleOne_79 qa_335 (t_ixv c0) ?_
      refine mj_if_eq 89 dX10_settleOne_80 (by decide) (fun z => t_posK hk z (fun hk => ?_)) (fun z => t_negK hk z (fun hk => ?_))
      · refine t_mapK hk (fun hk => ?_)
        exact B_X10_settleOne_89 _ _ _ _ _ (fun y0 y1 y2 hx => Hb4 y0 y1 y2 hx) hk
      · refine mj_iinc (k := 3) (v := (l5 + 1)) (lv2 := [(5, .int (l5 + 1)), (0, .ref 353), (3, .int l3), (4, .int l4)]) dX10_settleOne_83 rfl rfl (by decide) rfl ?_
        refine mj_goto 43 dX10_settleOne_86 (by decide) ?_
        refine mj_sublv [(0, .ref 353), (3, .int l3), (4, .int l4), (5, .int (l5 + 1))] [1, 2, 3, 0] rfl ?_
        exact t_somK hk (fun hf => Hb43 l3 l4 (l5 + 1) s hf)
noncomputable def b_X10_settleOne_43 (x : Int32 × Int32 × Int32 × t_S) : Option ((Int32 × Int32 × Int32 × t_S) ⊕ ((Int32 × Int32 × t_S) ⊕ (t_S))) := k_X10_settleOne_43 x.1 x.2.1 x.2.2.1 x.2.2.2
set_option maxRecDepth 4000 in
set_option maxHeartbeats 1000000 in
theorem LH_X10_settleOne_43 {D : va_G} {cy : Nat → ClassId} {ad : Nat → Nat} {bs : Nat} {X : State → Heap → Prop} : ∀ (n : Nat) (y0 : Int32) (y1 : Int32) (y2 : Int32) (y3 : t_S) (Q : (Int32 × Int32 × t_S) ⊕ (t_S) → Prop) (Hb4 : ∀ (y0 : Int32) (y1 : Int32) (y2 : t_S), Q (.inl (y0, y1, y2)) → mj_G D cy ad bs X cX10_settleOne 6 yX10_settleOne.cls none yX10_settleOne.name 406 0 0 1065 (t_P (fun v s' => v = none ∧ Q (.inr (s')))) 4 [(0, .ref 353), (2, .int (y0)), (3, .int (y1))] [] (t_m y2) 1065 0 0) (hk : t_hk (t_loop (b_X10_settleOne_43) n (y0, y1, y2, y3)) Q), mj_G D cy ad bs X cX10_settleOne 6 yX10_settleOne.cls none yX10_settleOne.name 406 0 0 1065 (t_P (fun v s' => v = none ∧ Q (.inr (s')))) 43 [(0, .ref 353), (3, .int (y0)), (4, .int (y1)), (5, .int (y2))] [] (t_m y3) 1065 0 0 := by
  intro n
  induction n with
  | zero => intro y0 y1 y2 y3 Q Hb4 hk; obtain ⟨r, hr, _⟩ := hk; cases hr
  | succ n ih =>
    intro y0 y1 y2 y3 Q Hb4 hk
    exact B_X10_settleOne_43 y0 y1 y2 y3 (fun y => t_lq (b_X10_settleOne_43) n Q y) (fun y0' y1' y2' hy => Hb4 y0' y1' y2' hy) (fun y0' y1' y2' y3' hy => ih y0' y1' y2' y3' Q Hb4 hy) (t_lp hk)
noncomputable def k_X10_settleOne_4 (l2 : Int32) (l3 : Int32) (s : t_S) : Option ((Int32 × Int32 × t_S) ⊕ (t_S)) :=
 if (6100 : Int32) ≤ l3 then ((some (s)).map Sum.inr)
 else ((f_X0_clear s).bind (fun r1 =>
 (f_X0_work l2 r1).bind (fun r2 =>
 if r2.1 = (0 : Int32) then ((some (r2.2)).map Sum.inr)
 else (t_loop (b_X10_settleOne_43) t_N (l3, r2.1, (r2.2.1 334 13), r2.2)))))
set_option maxRecDepth 4000 in
set_option maxHeartbeats 1000000 in
theorem B_X10_settleOne_4 {D : va_G} {cy : Nat → ClassId} {ad : Nat → Nat} {bs : Nat} {X : State → Heap → Prop} (l2 : Int32) (l3 : Int32) (s : t_S) (Q : (Int32 × Int32 × t_S) ⊕ (t_S) → Prop) (Hb4 : ∀ (y0 : Int32) (y1 : Int32) (y2 : t_S), Q (.inl (y0, y1, y2)) → mj_G D cy ad bs X cX10_settleOne 6 yX10_settleOne.cls none yX10_settleOne.name 406 0 0 1065 (t_P (fun v s' => v = none ∧ Q (.inr (s')))) 4 [(0, .ref 353), (2, .int (y0)), (3, .int (y1))] [] (t_m y2) 1065 0 0) (hk : t_hk (k_X10_settleOne_4 l2 l3 s) Q) : mj_G D cy ad bs X cX10_settleOne 6 yX10_settleOne.cls none yX10_settleOne.name 406 0 0 1065 (t_P (fun v s' => v = none ∧ Q (.inr (s')))) 4 [(0, .ref 353), (2, .int l2), (3, .int l3)] [] (t_m s) 1065 0 0 := by
  refine mj_iload_n dX10_settleOne_4 2 rfl ?_
  refine mj_sipush (v := 6100) dX10_settleOne_5 (by decide) ?_
  refine mj_icmp_ge 144 dX10_settleOne_8 (by decide) (fun z => t_posK hk z (fun hk => ?_)) (fun z => t_negK hk z (fun hk => ?_))
  · refine t_mapK hk (fun hk => ?_)
    exact t_somK hk (fun hf => t_vret dX10_settleOne_144 rfl ⟨rfl, hf⟩ (Nat.le_of_ble_eq_true rfl) (Nat.le_of_ble_eq_true rfl))
  · refine mj_aload_n dX10_settleOne_11 0 rfl ?_
    refine t_getR 334 dX10_settleOne_12 F_X10_58 qr_353_21 ?_
    refine t_bndK hk (fun r1 er1 hk => ?_)
    refine t_callVvE dX10_settleOne_15 M_X0_clear (C_X0_clear _ _ er1) ML_X10_101 IM_X0_clear SE_X0_clear qc_334 rfl (As := []) rfl rfl (Nat.le_of_ble_eq_true rfl) (Nat.le_of_ble_eq_true rfl) (Nat.le_of_ble_eq_true rfl) (Nat.le_of_ble_eq_true rfl) ?_
    refine mj_aload_n dX10_settleOne_18 0 rfl ?_
    refine t_getR 334 dX10_settleOne_19 F_X10_58 qr_353_21 ?_
    refine mj_iload_n dX10_settleOne_22 1 rfl ?_
    refine t_bndK hk (fun r2 er2 hk => ?_)
    refine t_callViE dX10_settleOne_23 M_X0_work (C_X0_work _ _ _ er2) ML_X10_104 IM_X0_work SE_X0_work qc_334 rfl (As := [.int l2]) rfl rfl (Nat.le_of_ble_eq_true rfl) (Nat.le_of_ble_eq_true rfl) (Nat.le_of_ble_eq_true rfl) (Nat.le_of_ble_eq_true rfl) ?_
    refine mj_istore (lv2 := [(4, .int r2.1), (0, .ref 353), (2, .int l2), (3, .int l3)]) dX10_settleOne_26 (by decide) rfl ?_
    refine mj_iload dX10_settleOne_28 0 rfl ?_
    refine mj_if_ne 34 dX10_settleOne_30 (by decide) (fun z => t_negK hk z (fun hk => ?_)) (fun z => t_posK hk z (fun hk => ?_))
    · refine mj_aload_n dX10_settleOne_34 1 rfl ?_
      refine t_getR 334 dX10_settleOne_35 F_X10_58 qr_353_21 ?_
      refine t_getI dX10_settleOne_38 F_X10_107 qf_334_13 ?_
      refine mj_istore (lv2 := [(5, .int (r2.2.1 334 13)), (4, .int r2.1), (0, .ref 353), (2, .int l2), (3, .int l3)]) dX10_settleOne_41 (by decide) rfl ?_
      refine mj_sublv [(0, .ref 353), (3, .int l3), (4, .int r2.1), (5, .int (r2.2.1 334 13))] [2, 4, 1, 0] rfl ?_
      exact LH_X10_settleOne_43 _ l3 r2.1 (r2.2.1 334 13) r2.2 _ (fun y0 y1 y2 hx => Hb4 y0 y1 y2 hx) hk
    · refine t_mapK hk (fun hk => ?_)
      exact t_somK hk (fun hf => t_vret dX10_settleOne_33 rfl ⟨rfl, hf⟩ (Nat.le_of_ble_eq_true rfl) (Nat.le_of_ble_eq_true rfl))
noncomputable def b_X10_settleOne_4 (x : Int32 × Int32 × t_S) : Option ((Int32 × Int32 × t_S) ⊕ (t_S)) := k_X10_settleOne_4 x.1 x.2.1 x.2.2
set_option maxRecDepth 4000 in
set_option maxHeartbeats 1000000 in
theorem LH_X10_settleOne_4 {D : va_G} {cy : Nat → ClassId} {ad : Nat → Nat} {bs : Nat} {X : State → Heap → Prop} : ∀ (n : Nat) (y0 : Int32) (y1 : Int32) (y2 : t_S) (Q : t_S → Prop) (hk : t_hk (t_loop (b_X10_settleOne_4) n (y0, y1, y2)) Q), mj_G D cy ad bs X cX10_settleOne 6 yX10_settleOne.cls none yX10_settleOne.name 406 0 0 1065 (t_P (fun v s' => v = none ∧ Q (s'))) 4 [(0, .ref 353), (2, .int (y0)), (3, .int (y1))] [] (t_m y2) 1065 0 0 := by
  intro n
  induction n with
  | zero => intro y0 y1 y2 Q hk; obtain ⟨r, hr, _⟩ := hk; cases hr
  | succ n ih =>
    intro y0 y1 y2 Q hk
    exact B_X10_settleOne_4 y0 y1 y2 (fun y => t_lq (b_X10_settleOne_4) n Q y) (fun y0' y1' y2' hy => ih y0' y1' y2' Q hy) (t_lp hk)
noncomputable def f_X10_settleOne (x1 : Int32) (s : t_S) : Option (t_S) :=
 t_loop (b_X10_settleOne_4) t_N (x1, 0, s)
set_option maxRecDepth 4000 in
set_option maxHeartbeats 1000000 in
theorem C_X10_settleOne (x1 : Int32) (s : t_S) (r : t_S) (hr : f_X10_settleOne x1 s = some r) : t_C yX10_settleOne cX10_settleOne 6 none 406 [.ref 353, .int x1] s (fun v s' => v = none ∧ s' = r) := by
  refine t_C.imp (P := fun v s' => v = none ∧ (fun q => q = r) (s')) (t_C.of (by decide +kernel) (Nat.le_of_ble_eq_true rfl) ?_) (fun v s' hp => hp)
  intro D cy ad bs X
  have hk : t_hk (f_X10_settleOne x1 s) (fun q => q = r) := ⟨r, hr, rfl⟩
  show mj_G D cy ad bs X cX10_settleOne 6 yX10_settleOne.cls none yX10_settleOne.name 406 0 0 1065 (t_P (fun v s' => v = none ∧ (fun q => q = r) (s'))) 0 [(0, .ref 353), (1, .int x1)] [] (t_m s) 1065 0 0
  refine mj_iload_n dX10_settleOne_0 1 rfl ?_
  refine mj_istore_n 2 (lv2 := [(2, .int x1), (0, .ref 353), (1, .int x1)]) dX10_settleOne_1 rfl (by decide) rfl ?_
  refine mj_iconst (v := 0) dX10_settleOne_2 (by decide) ?_
  refine mj_istore_n 3 (lv2 := [(3, .int 0), (2, .int x1), (0, .ref 353), (1, .int x1)]) dX10_settleOne_3 rfl (by decide) rfl ?_
  refine mj_sublv [(0, .ref 353), (2, .int x1), (3, .int 0)] [2, 1, 0] rfl ?_
  exact LH_X10_settleOne_4 _ x1 0 s _ hk

theorem dX10_settle_0 : decode cX10_settle 0 = .ok (.aload_n 0, 1) := by decide +kernel
theorem dX10_settle_1 : decode cX10_settle 1 = .ok (.getfield 58, 3) := by decide +kernel
theorem dX10_settle_10 : decode cX10_settle 10 = .ok (.iload_n 1, 1) := by decide +kernel
theorem dX10_settle_100 : decode cX10_settle 100 = .ok (.iload_n 3, 1) := by decide +kernel
theorem dX10_settle_101 : decode cX10_settle 101 = .ok (.aaload, 1) := by decide +kernel
theorem dX10_settle_102 : decode cX10_settle 102 = .ok (.iconst 2, 1) := by decide +kernel
theorem dX10_settle_103 : decode cX10_settle 103 = .ok (.iaload, 1) := by decide +kernel
theorem dX10_settle_104 : decode cX10_settle 104 = .ok (.invokevirtual 98, 3) := by decide +kernel
theorem dX10_settle_107 : decode cX10_settle 107 = .ok (.istore 4, 2) := by decide +kernel
theorem dX10_settle_109 : decode cX10_settle 109 = .ok (.iload 4, 2) := by decide +kernel
theorem dX10_settle_11 : decode cX10_settle 11 = .ok (.aload_n 0, 1) := by decide +kernel
theorem dX10_settle_111 : decode cX10_settle 111 = .ok (.aload_n 0, 1) := by decide +kernel
theorem dX10_settle_112 : decode cX10_settle 112 = .ok (.getfield 43, 3) := by decide +kernel
theorem dX10_settle_115 : decode cX10_settle 115 = .ok (.iload_n 3, 1) := by decide +kernel
theorem dX10_settle_116 : decode cX10_settle 116 = .ok (.aaload, 1) := by decide +kernel
theorem dX10_settle_117 : decode cX10_settle 117 = .ok (.iconst 5, 1) := by decide +kernel
theorem dX10_settle_118 : decode cX10_settle 118 = .ok (.iaload, 1) := by decide +kernel
theorem dX10_settle_119 : decode cX10_settle 119 = .ok (.if_icmp .eq 5, 3) := by decide +kernel
theorem dX10_settle_12 : decode cX10_settle 12 = .ok (.getfield 74, 3) := by decide +kernel
theorem dX10_settle_122 : decode cX10_settle 122 = .ok (.iconst 1, 1) := by decide +kernel
theorem dX10_settle_123 : decode cX10_settle 123 = .ok (.istore_n 1, 1) := by decide +kernel
theorem dX10_settle_124 : decode cX10_settle 124 = .ok (.aload_n 0, 1) := by decide +kernel
theorem dX10_settle_125 : decode cX10_settle 125 = .ok (.getfield 43, 3) := by decide +kernel
theorem dX10_settle_128 : decode cX10_settle 128 = .ok (.iload_n 3, 1) := by decide +kernel
theorem dX10_settle_129 : decode cX10_settle 129 = .ok (.aaload, 1) := by decide +kernel
theorem dX10_settle_130 : decode cX10_settle 130 = .ok (.iconst 5, 1) := by decide +kernel
theorem dX10_settle_131 : decode cX10_settle 131 = .ok (.iload 4, 2) := by decide +kernel
theorem dX10_settle_133 : decode cX10_settle 133 = .ok (.iastore, 1) := by decide +kernel
theorem dX10_settle_134 : decode cX10_settle 134 = .ok (.iinc 3 1, 3) := by decide +kernel
theorem dX10_settle_137 : decode cX10_settle 137 = .ok (.goto (-50), 3) := by decide +kernel
theorem dX10_settle_140 : decode cX10_settle 140 = .ok (.iinc 2 1, 3) := by decide +kernel
theorem dX10_settle_143 : decode cX10_settle 143 = .ok (.goto (-70), 3) := by decide +kernel
theorem dX10_settle_146 : decode cX10_settle 146 = .ok (.return_, 1) := by decide +kernel
theorem dX10_settle_15 : decode cX10_settle 15 = .ok (.if_icmp .ge 21, 3) := by decide +kernel
theorem dX10_settle_18 : decode cX10_settle 18 = .ok (.aload_n 0, 1) := by decide +kernel
theorem dX10_settle_19 : decode cX10_settle 19 = .ok (.aload_n 0, 1) := by decide +kernel
theorem dX10_settle_20 : decode cX10_settle 20 = .ok (.getfield 43, 3) := by decide +kernel
theorem dX10_settle_23 : decode cX10_settle 23 = .ok (.iload_n 1, 1) := by decide +kernel
theorem dX10_settle_24 : decode cX10_settle 24 = .ok (.aaload, 1) := by decide +kernel
theorem dX10_settle_25 : decode cX10_settle 25 = .ok (.iconst 2, 1) := by decide +kernel
theorem dX10_settle_26 : decode cX10_settle 26 = .ok (.iaload, 1) := by decide +kernel
theorem dX10_settle_27 : decode cX10_settle 27 = .ok (.invokevirtual 94, 3) := by decide +kernel
theorem dX10_settle_30 : decode cX10_settle 30 = .ok (.iinc 1 1, 3) := by decide +kernel
theorem dX10_settle_33 : decode cX10_settle 33 = .ok (.goto (-23), 3) := by decide +kernel
theorem dX10_settle_36 : decode cX10_settle 36 = .ok (.aload_n 0, 1) := by decide +kernel
theorem dX10_settle_37 : decode cX10_settle 37 = .ok (.getfield 58, 3) := by decide +kernel
theorem dX10_settle_4 : decode cX10_settle 4 = .ok (.iconst 1, 1) := by decide +kernel
theorem dX10_settle_40 : decode cX10_settle 40 = .ok (.iconst 0, 1) := by decide +kernel
theorem dX10_settle_41 : decode cX10_settle 41 = .ok (.putfield 90, 3) := by decide +kernel
theorem dX10_settle_44 : decode cX10_settle 44 = .ok (.iconst 0, 1) := by decide +kernel
theorem dX10_settle_45 : decode cX10_settle 45 = .ok (.istore_n 1, 1) := by decide +kernel
theorem dX10_settle_46 : decode cX10_settle 46 = .ok (.iload_n 1, 1) := by decide +kernel
theorem dX10_settle_47 : decode cX10_settle 47 = .ok (.aload_n 0, 1) := by decide +kernel
theorem dX10_settle_48 : decode cX10_settle 48 = .ok (.getfield 74, 3) := by decide +kernel
theorem dX10_settle_5 : decode cX10_settle 5 = .ok (.putfield 90, 3) := by decide +kernel
theorem dX10_settle_51 : decode cX10_settle 51 = .ok (.if_icmp .ge 18, 3) := by decide +kernel
theorem dX10_settle_54 : decode cX10_settle 54 = .ok (.aload_n 0, 1) := by decide +kernel
theorem dX10_settle_55 : decode cX10_settle 55 = .ok (.getfield 43, 3) := by decide +kernel
theorem dX10_settle_58 : decode cX10_settle 58 = .ok (.iload_n 1, 1) := by decide +kernel
theorem dX10_settle_59 : decode cX10_settle 59 = .ok (.aaload, 1) := by decide +kernel
theorem dX10_settle_60 : decode cX10_settle 60 = .ok (.iconst 5, 1) := by decide +kernel
theorem dX10_settle_61 : decode cX10_settle 61 = .ok (.iconst 0, 1) := by decide +kernel
theorem dX10_settle_62 : decode cX10_settle 62 = .ok (.iastore, 1) := by decide +kernel
theorem dX10_settle_63 : decode cX10_settle 63 = .ok (.iinc 1 1, 3) := by decide +kernel
theorem dX10_settle_66 : decode cX10_settle 66 = .ok (.goto (-20), 3) := by decide +kernel
theorem dX10_settle_69 : decode cX10_settle 69 = .ok (.iconst 1, 1) := by decide +kernel
theorem dX10_settle_70 : decode cX10_settle 70 = .ok (.istore_n 1, 1) := by decide +kernel
theorem dX10_settle_71 : decode cX10_settle 71 = .ok (.iconst 0, 1) := by decide +kernel
theorem dX10_settle_72 : decode cX10_settle 72 = .ok (.istore_n 2, 1) := by decide +kernel
theorem dX10_settle_73 : decode cX10_settle 73 = .ok (.iload_n 1, 1) := by decide +kernel
theorem dX10_settle_74 : decode cX10_settle 74 = .ok (.ifCond .eq 72, 3) := by decide +kernel
theorem dX10_settle_77 : decode cX10_settle 77 = .ok (.iload_n 2, 1) := by decide +kernel
theorem dX10_settle_78 : decode cX10_settle 78 = .ok (.bipush 61, 2) := by decide +kernel
theorem dX10_settle_8 : decode cX10_settle 8 = .ok (.iconst 0, 1) := by decide +kernel
theorem dX10_settle_80 : decode cX10_settle 80 = .ok (.if_icmp .gt 66, 3) := by decide +kernel
theorem dX10_settle_83 : decode cX10_settle 83 = .ok (.iconst 0, 1) := by decide +kernel
theorem dX10_settle_84 : decode cX10_settle 84 = .ok (.istore_n 1, 1) := by decide +kernel
theorem dX10_settle_85 : decode cX10_settle 85 = .ok (.iconst 0, 1) := by decide +kernel
theorem dX10_settle_86 : decode cX10_settle 86 = .ok (.istore_n 3, 1) := by decide +kernel
theorem dX10_settle_87 : decode cX10_settle 87 = .ok (.iload_n 3, 1) := by decide +kernel
theorem dX10_settle_88 : decode cX10_settle 88 = .ok (.aload_n 0, 1) := by decide +kernel
theorem dX10_settle_89 : decode cX10_settle 89 = .ok (.getfield 74, 3) := by decide +kernel
theorem dX10_settle_9 : decode cX10_settle 9 = .ok (.istore_n 1, 1) := by decide +kernel
theorem dX10_settle_92 : decode cX10_settle 92 = .ok (.if_icmp .ge 48, 3) := by decide +kernel
theorem dX10_settle_95 : decode cX10_settle 95 = .ok (.aload_n 0, 1) := by decide +kernel
theorem dX10_settle_96 : decode cX10_settle 96 = .ok (.aload_n 0, 1) := by decide +kernel
theorem dX10_settle_97 : decode cX10_settle 97 = .ok (.getfield 43, 3) := by decide +kernel
noncomputable def k_X10_settle_124 (l1 : Int32) (l2 : Int32) (l3 : Int32) (l4 : Int32) (s : t_S) : Option ((Int32 × Int32 × Int32 × t_S) ⊕ ((Int32 × Int32 × t_S) ⊕ (t_S))) :=
 if t_ix l3 60 = true then
  t_let (t_setI s (364 + 1 * (l3.toNatClampNeg)) ((5 : Int32).toNatClampNeg) l4) (fun s1 =>
 some (.inl (l1, l2, (l3 + 1), s1)))
else none
set_option maxRecDepth 4000 in
set_option maxHeartbeats 1000000 in
theorem B_X10_settle_124 {D : va_G} {cy : Nat → ClassId} {ad : Nat → Nat} {bs : Nat} {X : State → Heap → Prop} (l1 : Int32) (l2 : Int32) (l3 : Int32) (l4 : Int32) (s : t_S) (Q : (Int32 × Int32 × Int32 × t_S) ⊕ ((Int32 × Int32 × t_S) ⊕ (t_S)) → Prop) (Hb73 : ∀ (y0 : Int32) (y1 : Int32) (y2 : t_S), Q (.inr (.inl (y0, y1, y2))) → mj_G D cy ad bs X cX10_settle 5 yX10_settle.cls none yX10_settle.name 407 0 0 1065 (t_P (fun v s' => v = none ∧ Q (.inr (.inr (s'))))) 73 [(0, .ref 353), (1, .int (y0)), (2, .int (y1))] [] (t_m y2) 1065 0 0) (Hb87 : ∀ (y0 : Int32) (y1 : Int32) (y2 : Int32) (y3 : t_S), Q (.inl (y0, y1, y2, y3)) → mj_G D cy ad bs X cX10_settle 5 yX10_settle.cls none yX10_settle.name 407 0 0 1065 (t_P (fun v s' => v = none ∧ Q (.inr (.inr (s'))))) 87 [(0, .ref 353), (1, .int (y0)), (2, .int (y1)), (3, .int (y2))] [] (t_m y3) 1065 0 0) (hk : t_hk (k_X10_settle_124 l1 l2 l3 l4 s) Q) : mj_G D cy ad bs X cX10_settle 5 yX10_settle.cls none yX10_settle.name 407 0 0 1065 (t_P (fun v s' => v = none ∧ Q (.inr (.inr (s'))))) 124 [(0, .ref 353), (1, .int l1), (2, .int l2), (3, .int l3), (4, .int l4)] [] (t_m s) 1065 0 0 := by
  refine mj_aload_n dX10_settle_124 0 rfl ?_
  refine t_getR 363 dX10_settle_125 F_X10_43 qr_353_10 ?_
  refine mj_iload_n dX10_settle_128 3 rfl ?_
  refine t_chkK hk (fun c0 hk => ?_)
  refine t_aaldI dX10_settle_129 qq_363 (t_ixv c0) ?_
  refine mj_iconst (v := 5) dX10_settle_130 (by decide) ?_
  refine mj_iload dX10_settle_131 4 rfl ?_
  refine t_iastK dX10_settle_133 (t_row364 (t_ixn c0)) (by unfold vp_in; decide) (fun s1 ws1 => t_letE hk ws1 (fun hk => ?_))
  refine mj_iinc (k := 3) (v := (l3 + 1)) (lv2 := [(3, .int (l3 + 1)), (0, .ref 353), (1, .int l1), (2, .int l2), (4, .int l4)]) dX10_settle_134 rfl rfl (by decide) rfl ?_
  refine mj_goto 87 dX10_settle_137 (by decide) ?_
  refine mj_sublv [(0, .ref 353), (1, .int l1), (2, .int l2), (3, .int (l3 + 1))] [1, 2, 3, 0] rfl ?_
  exact t_somK hk (fun hf => Hb87 l1 l2 (l3 + 1) s1 hf)
noncomputable def k_X10_settle_87 (l1 : Int32) (l2 : Int32) (l3 : Int32) (s : t_S) : Option ((Int32 × Int32 × Int32 × t_S) ⊕ ((Int32 × Int32 × t_S) ⊕ (t_S))) :=
 if (s.1 353 11) ≤ l3 then ((some (.inl (l1, (l2 + 1), s))).map Sum.inr)
 else (if t_ix l3 60 = true then
  (f_X10_firstWrong (s.1 (364 + 1 * (l3.toNatClampNeg)) ((2 : Int32).toNatClampNeg)) s).bind (fun r2 =>
 if r2 = (s.1 (364 + 1 * (l3.toNatClampNeg)) ((5 : Int32).toNatClampNeg)) then (k_X10_settle_124 l1 l2 l3 r2 s)
 else (k_X10_settle_124 1 l2 l3 r2 s))
else none)
set_option maxRecDepth 4000 in
set_option maxHeartbeats 1000000 in
theorem B_X10_settle_87 {D : va_G} {cy : Nat → ClassId} {ad : Nat → Nat} {bs : Nat} {X : State → Heap → Prop} (l1 : Int32) (l2 : Int32) (l3 : Int32) (s : t_S) (Q : (Int32 × Int32 × Int32 × t_S) ⊕ ((Int32 × Int32 × t_S) ⊕ (t_S)) → Prop) (Hb73 : ∀ (y0 : Int32) (y1 : Int32) (y2 : t_S), Q (.inr (.inl (y0, y1, y2))) → mj_G D cy ad bs X cX10_settle 5 yX10_settle.cls none yX10_settle.name 407 0 0 1065 (t_P (fun v s' => v = none ∧ Q (.inr (.inr (s'))))) 73 [(0, .ref 353), (1, .int (y0)), (2, .int (y1))] [] (t_m y2) 1065 0 0) (Hb87 : ∀ (y0 : Int32) (y1 : Int32) (y2 : Int32) (y3 : t_S), Q (.inl (y0, y1, y2, y3)) → mj_G D cy ad bs X cX10_settle 5 yX10_settle.cls none yX10_settle.name 407 0 0 1065 (t_P (fun v s' => v = none ∧ Q (.inr (.inr (s'))))) 87 [(0, .ref 353), (1, .int (y0)), (2, .int (y1)), (3, .int (y2))] [] (t_m y3) 1065 0 0) (hk : t_hk (k_X10_settle_87 l1 l2 l3 s) Q) : mj_G D cy ad bs X cX10_settle 5 yX10_settle.cls none yX10_settle.name 407 0 0 1065 (t_P (fun v s' => v = none ∧ Q (.inr (.inr (s'))))) 87 [(0, .ref 353), (1, .int l1), (2, .int l2), (3, .int l3)] [] (t_m s) 1065 0 0 := by
  refine mj_iload_n dX10_settle_87 3 rfl ?_
  refine mj_aload_n dX10_settle_88 0 rfl ?_
  refine t_getI dX10_settle_89 F_X10_74 qf_353_11 ?_
  refine mj_icmp_ge 140 dX10_settle_92 (by decide) (fun z => t_posK hk z (fun hk => ?_)) (fun z => t_negK hk z (fun hk => ?_))
  · refine t_mapK hk (fun hk => ?_)
    refine mj_iinc (k := 2) (v := (l2 + 1)) (lv2 := [(2, .int (l2 + 1)), (0, .ref 353), (1, .int l1), (3, .int l3)]) dX10_settle_140 rfl rfl (by decide) rfl ?_
    refine mj_goto 73 dX10_settle_143 (by decide) ?_
    refine mj_sublv [(0, .ref 353), (1, .int l1), (2, .int (l2 + 1))] [1, 2, 0] rfl ?_
    exact t_somK hk (fun hf => Hb73 l1 (l2 + 1) s hf)
  · refine mj_aload_n dX10_settle_95 0 rfl ?_
    refine mj_aload_n dX10_settle_96 0 rfl ?_
    refine t_getR 363 dX10_settle_97 F_X10_43 qr_353_10 ?_
    refine mj_iload_n dX10_settle_100 3 rfl ?_
    refine t_chkK hk (fun c0 hk => ?_)
    refine t_aaldI dX10_settle_101 qq_363 (t_ixv c0) ?_
    refine mj_iconst (v := 2) dX10_settle_102 (by decide) ?_
    refine t_iald dX10_settle_103 (t_row364 (t_ixn c0)) (by unfold vp_in; decide) ?_
    refine t_bndK hk (fun r2 er2 hk => ?_)
    refine t_callViP dX10_settle_104 M_X10_firstWrong (C_X10_firstWrong _ _ _ er2) ML_X10_98 IM_X10_firstWrong SE_X10_firstWrong qc_353 rfl (As := [.int (s.1 (364 + 1 * (l3.toNatClampNeg)) ((2 : Int32).toNatClampNeg))]) rfl rfl (Nat.le_of_ble_eq_true rfl) (Nat.le_of_ble_eq_true rfl) (Nat.le_of_ble_eq_true rfl) (Nat.le_of_ble_eq_true rfl) ?_
    refine mj_istore (lv2 := [(4, .int r2), (0, .ref 353), (1, .int l1), (2, .int l2), (3, .int l3)]) dX10_settle_107 (by decide) rfl ?_
    refine mj_iload dX10_settle_109 0 rfl ?_
    refine mj_aload_n dX10_settle_111 1 rfl ?_
    refine t_getR 363 dX10_settle_112 F_X10_43 qr_353_10 ?_
    refine mj_iload_n dX10_settle_115 4 rfl ?_
    refine t_aaldI dX10_settle_116 qq_363 (t_ixv c0) ?_
    refine mj_iconst (v := 5) dX10_settle_117 (by decide) ?_
    refine t_iald dX10_settle_118 (t_row364 (t_ixn c0)) (by unfold vp_in; decide) ?_
    refine mj_icmp_eq 124 dX10_settle_119 (by decide) (fun z => t_posK hk z (fun hk => ?_)) (fun z => t_negK hk z (fun hk => ?_))
    · refine mj_sublv [(0, .ref 353), (1, .int l1), (2, .int l2), (3, .int l3), (4, .int r2)] [1, 2, 3, 4, 0] rfl ?_
      exact B_X10_settle_124 _ _ _ _ _ _ (fun y0 y1 y2 hx => Hb73 y0 y1 y2 hx) (fun y0 y1 y2 y3 hx => Hb87 y0 y1 y2 y3 hx) hk
    · refine mj_iconst (v := 1) dX10_settle_122 (by decide) ?_
      refine mj_istore_n 1 (lv2 := [(1, .int 1), (4, .int r2), (0, .ref 353), (2, .int l2), (3, .int l3)]) dX10_settle_123 rfl (by decide) rfl ?_
      refine mj_sublv [(0, .ref 353), (1, .int 1), (2, .int l2), (3, .int l3), (4, .int r2)] [2, 0, 3, 4, 1] rfl ?_
      exact B_X10_settle_124 _ _ _ _ _ _ (fun y0 y1 y2 hx => Hb73 y0 y1 y2 hx) (fun y0 y1 y2 y3 hx => Hb87 y0 y1 y2 y3 hx) hk
noncomputable def b_X10_settle_87 (x : Int32 × Int32 × Int32 × t_S) : Option ((Int32 × Int32 × Int32 × t_S) ⊕ ((Int32 × Int32 × t_S) ⊕ (t_S))) := k_X10_settle_87 x.1 x.2.1 x.2.2.1 x.2.2.2
set_option maxRecDepth 4000 in
set_option maxHeartbeats 1000000 in
theorem LH_X10_settle_87 {D : va_G} {cy : Nat → ClassId} {ad : Nat → Nat} {bs : Nat} {X : State → Heap → Prop} : ∀ (n : Nat) (y0 : Int32) (y1 : Int32) (y2 : Int32) (y3 : t_S) (Q : (Int32 × Int32 × t_S) ⊕ (t_S) → Prop) (Hb73 : ∀ (y0 : Int32) (y1 : Int32) (y2 : t_S), Q (.inl (y0, y1, y2)) → mj_G D cy ad bs X cX10_settle 5 yX10_settle.cls none yX10_settle.name 407 0 0 1065 (t_P (fun v s' => v = none ∧ Q (.inr (s')))) 73 [(0, .ref 353), (1, .int (y0)), (2, .int (y1))] [] (t_m y2) 1065 0 0) (hk : t_hk (t_loop (b_X10_settle_87) n (y0, y1, y2, y3)) Q), mj_G D cy ad bs X cX10_settle 5 yX10_settle.cls none yX10_settle.name 407 0 0 1065 (t_P (fun v s' => v = none ∧ Q (.inr (s')))) 87 [(0, .ref 353), (1, .int (y0)), (2, .int (y1)), (3, .int (y2))] [] (t_m y3) 1065 0 0 := by
  intro n
  induction n with
  | zero => intro y0 y1 y2 y3 Q Hb73 hk; obtain ⟨r, hr, _⟩ := hk; cases hr
  | succ n ih =>
    intro y0 y1 y2 y3 Q Hb73 hk
    exact B_X10_settle_87 y0 y1 y2 y3 (fun y => t_lq (b_X10_settle_87) n Q y) (fun y0' y1' y2' hy => Hb73 y0' y1' y2' hy) (fun y0' y1' y2' y3' hy => ih y0' y1' y2' y3' Q Hb73 hy) (t_lp hk)
noncomputable def k_X10_settle_73 (l1 : Int32) (l2 : Int32) (s : t_S) : Option ((Int32 × Int32 × t_S) ⊕ (t_S)) :=
 if l1 = (0 : Int32) then ((some (s)).map Sum.inr)
 else (if (61 : Int32) < l2 then ((some (s)).map Sum.inr)
 else (t_loop (b_X10_settle_87) t_N (0, l2, 0, s)))
set_option maxRecDepth 4000 in
set_option maxHeartbeats 1000000 in
theorem B_X10_settle_73 {D : va_G} {cy : Nat → ClassId} {ad : Nat → Nat} {bs : Nat} {X : State → Heap → Prop} (l1 : Int32) (l2 : Int32) (s : t_S) (Q : (Int32 × Int32 × t_S) ⊕ (t_S) → Prop) (Hb73 : ∀ (y0 : Int32) (y1 : Int32) (y2 : t_S), Q (.inl (y0, y1, y2)) → mj_G D cy ad bs X cX10_settle 5 yX10_settle.cls none yX10_settle.name 407 0 0 1065 (t_P (fun v s' => v = none ∧ Q (.inr (s')))) 73 [(0, .ref 353), (1, .int (y0)), (2, .int (y1))] [] (t_m y2) 1065 0 0) (hk : t_hk (k_X10_settle_73 l1 l2 s) Q) : mj_G D cy ad bs X cX10_settle 5 yX10_settle.cls none yX10_settle.name 407 0 0 1065 (t_P (fun v s' => v = none ∧ Q (.inr (s')))) 73 [(0, .ref 353), (1, .int l1), (2, .int l2)] [] (t_m s) 1065 0 0 := by
  refine mj_iload_n dX10_settle_73 1 rfl ?_
  refine mj_if_eq 146 dX10_settle_74 (by decide) (fun z => t_posK hk z (fun hk => ?_)) (fun z => t_negK hk z (fun hk => ?_))
  · refine t_mapK hk (fun hk => ?_)
    exact t_somK hk (fun hf => t_vret dX10_settle_146 rfl ⟨rfl, hf⟩ (Nat.le_of_ble_eq_true rfl) (Nat.le_of_ble_eq_true rfl))
  · refine mj_iload_n dX10_settle_77 2 rfl ?_
    refine mj_bipush (v := 61) dX10_settle_78 (by decide) ?_
    refine mj_icmp_gt 146 dX10_settle_80 (by decide) (fun z => t_posK hk z (fun hk => ?_)) (fun z => t_negK hk z (fun hk => ?_))
    · refine t_mapK hk (fun hk => ?_)
      exact t_somK hk (fun hf => t_vret dX10_settle_146 rfl ⟨rfl, hf⟩ (Nat.le_of_ble_eq_true rfl) (Nat.le_of_ble_eq_true rfl))
    · refine mj_iconst (v := 0) dX10_settle_83 (by decide) ?_
      refine mj_istore_n 1 (lv2 := [(1, .int 0), (0, .ref 353), (2, .int l2)]) dX10_settle_84 rfl (by decide) rfl ?_
      refine mj_iconst (v := 0) dX10_settle_85 (by decide) ?_
      refine mj_istore_n 3 (lv2 := [(3, .int 0), (1, .int 0), (0, .ref 353), (2, .int l2)]) dX10_settle_86 rfl (by decide) rfl ?_
      refine mj_sublv [(0, .ref 353), (1, .int 0), (2, .int l2), (3, .int 0)] [2, 1, 3, 0] rfl ?_
      exact LH_X10_settle_87 _ 0 l2 0 s _ (fun y0 y1 y2 hx => Hb73 y0 y1 y2 hx) hk
noncomputable def b_X10_settle_73 (x : Int32 × Int32 × t_S) : Option ((Int32 × Int32 × t_S) ⊕ (t_S)) := k_X10_settle_73 x.1 x.2.1 x.2.2
set_option maxRecDepth 4000 in
set_option maxHeartbeats 1000000 in
theorem LH_X10_settle_73 {D : va_G} {cy : Nat → ClassId} {ad : Nat → Nat} {bs : Nat} {X : State → Heap → Prop} : ∀ (n : Nat) (y0 : Int32) (y1 : Int32) (y2 : t_S) (Q : t_S → Prop) (hk : t_hk (t_loop (b_X10_settle_73) n (y0, y1, y2)) Q), mj_G D cy ad bs X cX10_settle 5 yX10_settle.cls none yX10_settle.name 407 0 0 1065 (t_P (fun v s' => v = none ∧ Q (s'))) 73 [(0, .ref 353), (1, .int (y0)), (2, .int (y1))] [] (t_m y2) 1065 0 0 := by
  intro n
  induction n with
  | zero => intro y0 y1 y2 Q hk; obtain ⟨r, hr, _⟩ := hk; cases hr
  | succ n ih =>
    intro y0 y1 y2 Q hk
    exact B_X10_settle_73 y0 y1 y2 (fun y => t_lq (b_X10_settle_73) n Q y) (fun y0' y1' y2' hy => ih y0' y1' y2' Q hy) (t_lp hk)
noncomputable def k_X10_settle_46 (l1 : Int32) (s : t_S) : Option ((Int32 × t_S) ⊕ (t_S)) :=
 if (s.1 353 11) ≤ l1 then ((t_loop (b_X10_settle_73) t_N (1, 0, s)).map Sum.inr)
 else (if t_ix l1 60 = true then
  t_let (t_setI s (364 + 1 * (l1.toNatClampNeg)) ((5 : Int32).toNatClampNeg) (0 : Int32)) (fun s1 =>
 some (.inl ((l1 + 1), s1)))
else none)
set_option maxRecDepth 4000 in
set_option maxHeartbeats 1000000 in
theorem B_X10_settle_46 {D : va_G} {cy : Nat → ClassId} {ad : Nat → Nat} {bs : Nat} {X : State → Heap → Prop} (l1 : Int32) (s : t_S) (Q : (Int32 × t_S) ⊕ (t_S) → Prop) (Hb46 : ∀ (y0 : Int32) (y1 : t_S), Q (.inl (y0, y1)) → mj_G D cy ad bs X cX10_settle 5 yX10_settle.cls none yX10_settle.name 407 0 0 1065 (t_P (fun v s' => v = none ∧ Q (.inr (s')))) 46 [(0, .ref 353), (1, .int (y0))] [] (t_m y1) 1065 0 0) (hk : t_hk (k_X10_settle_46 l1 s) Q) : mj_G D cy ad bs X cX10_settle 5 yX10_settle.cls none yX10_settle.name 407 0 0 1065 (t_P (fun v s' => v = none ∧ Q (.inr (s')))) 46 [(0, .ref 353), (1, .int l1)] [] (t_m s) 1065 0 0 := by
  refine mj_iload_n dX10_settle_46 1 rfl ?_
  refine mj_aload_n dX10_settle_47 0 rfl ?_
  refine t_getI dX10_settle_48 F_X10_74 qf_353_11 ?_
  refine mj_icmp_ge 69 dX10_settle_51 (by decide) (fun z => t_posK hk z (fun hk => ?_)) (fun z => t_negK hk z (fun hk => ?_))
  · refine t_mapK hk (fun hk => ?_)
    refine mj_iconst (v := 1) dX10_settle_69 (by decide) ?_
    refine mj_istore_n 1 (lv2 := [(1, .int 1), (0, .ref 353)]) dX10_settle_70 rfl (by decide) rfl ?_
    refine mj_iconst (v := 0) dX10_settle_71 (by decide) ?_
    refine mj_istore_n 2 (lv2 := [(2, .int 0), (1, .int 1), (0, .ref 353)]) dX10_settle_72 rfl (by decide) rfl ?_
    refine mj_sublv [(0, .ref 353), (1, .int 1), (2, .int 0)] [2, 1, 0] rfl ?_
    exact LH_X10_settle_73 _ 1 0 s _ hk
  · refine mj_aload_n dX10_settle_54 0 rfl ?_
    refine t_getR 363 dX10_settle_55 F_X10_43 qr_353_10 ?_
    refine mj_iload_n dX10_settle_58 1 rfl ?_
    refine t_chkK hk (fun c0 hk => ?_)
    refine t_aaldI dX10_settle_59 qq_363 (t_ixv c0) ?_
    refine mj_iconst (v := 5) dX10_settle_60 (by decide) ?_
    refine mj_iconst (v := 0) dX10_settle_61 (by decide) ?_
    refine t_iastK dX10_settle_62 (t_row364 (t_ixn c0)) (by unfold vp_in; decide) (fun s1 ws1 => t_letE hk ws1 (fun hk => ?_))
    refine mj_iinc (k := 1) (v := (l1 + 1)) (lv2 := [(1, .int (l1 + 1)), (0, .ref 353)]) dX10_settle_63 rfl rfl (by decide) rfl ?_
    refine mj_goto 46 dX10_settle_66 (by decide) ?_
    refine mj_sublv [(0, .ref 353), (1, .int (l1 + 1))] [1, 0] rfl ?_
    exact t_somK hk (fun hf => Hb46 (l1 + 1) s1 hf)
noncomputable def b_X10_settle_46 (x : Int32 × t_S) : Option ((Int32 × t_S) ⊕ (t_S)) := k_X10_settle_46 x.1 x.2
set_option maxRecDepth 4000 in
set_option maxHeartbeats 1000000 in
theorem LH_X10_settle_46 {D : va_G} {cy : Nat → ClassId} {ad : Nat → Nat} {bs : Nat} {X : State → Heap → Prop} : ∀ (n : Nat) (y0 : Int32) (y1 : t_S) (Q : t_S → Prop) (hk : t_hk (t_loop (b_X10_settle_46) n (y0, y1)) Q), mj_G D cy ad bs X cX10_settle 5 yX10_settle.cls none yX10_settle.name 407 0 0 1065 (t_P (fun v s' => v = none ∧ Q (s'))) 46 [(0, .ref 353), (1, .int (y0))] [] (t_m y1) 1065 0 0 := by
  intro n
  induction n with
  | zero => intro y0 y1 Q hk; obtain ⟨r, hr, _⟩ := hk; cases hr
  | succ n ih =>
    intro y0 y1 Q hk
    exact B_X10_settle_46 y0 y1 (fun y => t_lq (b_X10_settle_46) n Q y) (fun y0' y1' hy => ih y0' y1' Q hy) (t_lp hk)
noncomputable def k_X10_settle_10 (l1 : Int32) (s : t_S) : Option ((Int32 × t_S) ⊕ (t_S)) :=
 if (s.1 353 11) ≤ l1 then ((t_let (t_setI s 334 14 (0 : Int32)) (fun s1 =>
 t_loop (b_X10_settle_46) t_N (0, s1))).map Sum.inr)
 else (if t_ix l1 60 = true then
  (f_X10_settleOne (s.1 (364 + 1 * (l1.toNatClampNeg)) ((2 : Int32).toNatClampNeg)) s).bind (fun r2 =>
 some (.inl ((l1 + 1), r2)))
else none)
set_option maxRecDepth 4000 in
set_option maxHeartbeats 1000000 in
theorem B_X10_settle_10 {D : va_G} {cy : Nat → ClassId} {ad : Nat → Nat} {bs : Nat} {X : State → Heap → Prop} (l1 : Int32) (s : t_S) (Q : (Int32 × t_S) ⊕ (t_S) → Prop) (Hb10 : ∀ (y0 : Int32) (y1 : t_S), Q (.inl (y0, y1)) → mj_G D cy ad bs X cX10_settle 5 yX10_settle.cls none yX10_settle.name 407 0 0 1065 (t_P (fun v s' => v = none ∧ Q (.inr (s')))) 10 [(0, .ref 353), (1, .int (y0))] [] (t_m y1) 1065 0 0) (hk : t_hk (k_X10_settle_10 l1 s) Q) : mj_G D cy ad bs X cX10_settle 5 yX10_settle.cls none yX10_settle.name 407 0 0 1065 (t_P (fun v s' => v = none ∧ Q (.inr (s')))) 10 [(0, .ref 353), (1, .int l1)] [] (t_m s) 1065 0 0 := by
  refine mj_iload_n dX10_settle_10 1 rfl ?_
  refine mj_aload_n dX10_settle_11 0 rfl ?_
  refine t_getI dX10_settle_12 F_X10_74 qf_353_11 ?_
  refine mj_icmp_ge 36 dX10_settle_15 (by decide) (fun z => t_posK hk z (fun hk => ?_)) (fun z => t_negK hk z (fun hk => ?_))
  · refine t_mapK hk (fun hk => ?_)
    refine mj_aload_n dX10_settle_36 0 rfl ?_
    refine t_getR 334 dX10_settle_37 F_X10_58 qr_353_21 ?_
    refine mj_iconst (v := 0) dX10_settle_40 (by decide) ?_
    refine t_putIK dX10_settle_41 F_X10_90 qf_334_14 (by decide) (fun s1 ws1 => t_letE hk ws1 (fun hk => ?_))
    refine mj_iconst (v := 0) dX10_settle_44 (by decide) ?_
    refine mj_istore_n 1 (lv2 := [(1, .int 0), (0, .ref 353)]) dX10_settle_45 rfl (by decide) rfl ?_
    refine mj_sublv [(0, .ref 353), (1, .int 0)] [1, 0] rfl ?_
    exact LH_X10_settle_46 _ 0 s1 _ hk
  · refine mj_aload_n dX10_settle_18 0 rfl ?_
    refine mj_aload_n dX10_settle_19 0 rfl ?_
    refine t_getR 363 dX10_settle_20 F_X10_43 qr_353_10 ?_
    refine mj_iload_n dX10_settle_23 1 rfl ?_
    refine t_chkK hk (fun c0 hk => ?_)
    refine t_aaldI dX10_settle_24 qq_363 (t_ixv c0) ?_
    refine mj_iconst (v := 2) dX10_settle_25 (by decide) ?_
    refine t_iald dX10_settle_26 (t_row364 (t_ixn c0)) (by unfold vp_in; decide) ?_
    refine t_bndK hk (fun r2 er2 hk => ?_)
    refine t_callVvE dX10_settle_27 M_X10_settleOne (C_X10_settleOne _ _ _ er2) ML_X10_94 IM_X10_settleOne SE_X10_settleOne qc_353 rfl (As := [.int (s.1 (364 + 1 * (l1.toNatClampNeg)) ((2 : Int32).toNatClampNeg))]) rfl rfl (Nat.le_of_ble_eq_true rfl) (Nat.le_of_ble_eq_true rfl) (Nat.le_of_ble_eq_true rfl) (Nat.le_of_ble_eq_true rfl) ?_
    refine mj_iinc (k := 1) (v := (l1 + 1)) (lv2 := [(1, .int (l1 + 1)), (0, .ref 353)]) dX10_settle_30 rfl rfl (by decide) rfl ?_
    refine mj_goto 10 dX10_settle_33 (by decide) ?_
    refine mj_sublv [(0, .ref 353), (1, .int (l1 + 1))] [1, 0] rfl ?_
    exact t_somK hk (fun hf => Hb10 (l1 + 1) r2 hf)
noncomputable def b_X10_settle_10 (x : Int32 × t_S) : Option ((Int32 × t_S) ⊕ (t_S)) := k_X10_settle_10 x.1 x.2
set_option maxRecDepth 4000 in
set_option maxHeartbeats 1000000 in
theorem LH_X10_settle_10 {D : va_G} {cy : Nat → ClassId} {ad : Nat → Nat} {bs : Nat} {X : State → Heap → Prop} : ∀ (n : Nat) (y0 : Int32) (y1 : t_S) (Q : t_S → Prop) (hk : t_hk (t_loop (b_X10_settle_10) n (y0, y1)) Q), mj_G D cy ad bs X cX10_settle 5 yX10_settle.cls none yX10_settle.name 407 0 0 1065 (t_P (fun v s' => v = none ∧ Q (s'))) 10 [(0, .ref 353), (1, .int (y0))] [] (t_m y1) 1065 0 0 := by
  intro n
  induction n with
  | zero => intro y0 y1 Q hk; obtain ⟨r, hr, _⟩ := hk; cases hr
  | succ n ih =>
    intro y0 y1 Q hk
    exact B_X10_settle_10 y0 y1 (fun y => t_lq (b_X10_settle_10) n Q y) (fun y0' y1' hy => ih y0' y1' Q hy) (t_lp hk)
noncomputable def f_X10_settle (s : t_S) : Option (t_S) :=
 t_let (t_setI s 334 14 (1 : Int32)) (fun s1 =>
 t_loop (b_X10_settle_10) t_N (0, s1))
set_option maxRecDepth 4000 in
set_option maxHeartbeats 1000000 in
theorem C_X10_settle (s : t_S) (r : t_S) (hr : f_X10_settle s = some r) : t_C yX10_settle cX10_settle 5 none 407 [.ref 353] s (fun v s' => v = none ∧ s' = r) := by
  refine t_C.imp (P := fun v s' => v = none ∧ (fun q => q = r) (s')) (t_C.of (by decide +kernel) (Nat.le_of_ble_eq_true rfl) ?_) (fun v s' hp => hp)
  intro D cy ad bs X
  have hk : t_hk (f_X10_settle s) (fun q => q = r) := ⟨r, hr, rfl⟩
  show mj_G D cy ad bs X cX10_settle 5 yX10_settle.cls none yX10_settle.name 407 0 0 1065 (t_P (fun v s' => v = none ∧ (fun q => q = r) (s'))) 0 [(0, .ref 353)] [] (t_m s) 1065 0 0
  refine mj_aload_n dX10_settle_0 0 rfl ?_
  refine t_getR 334 dX10_settle_1 F_X10_58 qr_353_21 ?_
  refine mj_iconst (v := 1) dX10_settle_4 (by decide) ?_
  refine t_putIK dX10_settle_5 F_X10_90 qf_334_14 (by decide) (fun s1 ws1 => t_letE hk ws1 (fun hk => ?_))
  refine mj_iconst (v := 0) dX10_settle_8 (by decide) ?_
  refine mj_istore_n 1 (lv2 := [(1, .int 0), (0, .ref 353)]) dX10_settle_9 rfl (by decide) rfl ?_
  refine mj_sublv [(0, .ref 353), (1, .int 0)] [1, 0] rfl ?_
  exact LH_X10_settle_10 _ 0 s1 _ hk

