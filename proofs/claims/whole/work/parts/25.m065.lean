/-! Methods as functions, 65: X13_askPair -/
theorem qa_1057 : t_oka 1057 2 3100 = true := by decide +kernel
theorem qr_950_175 : t_okr 950 13 175 1057 = true := by decide +kernel
theorem dX13_askPair_0 : decode cX13_askPair 0 = .ok (.aload_n 0, 1) := by decide +kernel
theorem dX13_askPair_1 : decode cX13_askPair 1 = .ok (.getfield 210, 3) := by decide +kernel
theorem dX13_askPair_10 : decode cX13_askPair 10 = .ok (.iload_n 1, 1) := by decide +kernel
theorem dX13_askPair_101 : decode cX13_askPair 101 = .ok (.baload, 1) := by decide +kernel
theorem dX13_askPair_102 : decode cX13_askPair 102 = .ok (.ifCond .eq 31, 3) := by decide +kernel
theorem dX13_askPair_105 : decode cX13_askPair 105 = .ok (.aload_n 0, 1) := by decide +kernel
theorem dX13_askPair_106 : decode cX13_askPair 106 = .ok (.getfield 26, 3) := by decide +kernel
theorem dX13_askPair_109 : decode cX13_askPair 109 = .ok (.iload 7, 2) := by decide +kernel
theorem dX13_askPair_11 : decode cX13_askPair 11 = .ok (.laload, 1) := by decide +kernel
theorem dX13_askPair_111 : decode cX13_askPair 111 = .ok (.iaload, 1) := by decide +kernel
theorem dX13_askPair_112 : decode cX13_askPair 112 = .ok (.aload_n 0, 1) := by decide +kernel
theorem dX13_askPair_113 : decode cX13_askPair 113 = .ok (.getfield 26, 3) := by decide +kernel
theorem dX13_askPair_116 : decode cX13_askPair 116 = .ok (.iload 8, 2) := by decide +kernel
theorem dX13_askPair_118 : decode cX13_askPair 118 = .ok (.iaload, 1) := by decide +kernel
theorem dX13_askPair_119 : decode cX13_askPair 119 = .ok (.if_icmp .ne 18, 3) := by decide +kernel
theorem dX13_askPair_12 : decode cX13_askPair 12 = .ok (.ldc2_w 1087, 3) := by decide +kernel
theorem dX13_askPair_122 : decode cX13_askPair 122 = .ok (.aload_n 0, 1) := by decide +kernel
theorem dX13_askPair_123 : decode cX13_askPair 123 = .ok (.iload 7, 2) := by decide +kernel
theorem dX13_askPair_125 : decode cX13_askPair 125 = .ok (.iload 8, 2) := by decide +kernel
theorem dX13_askPair_127 : decode cX13_askPair 127 = .ok (.invokevirtual 1089, 3) := by decide +kernel
theorem dX13_askPair_130 : decode cX13_askPair 130 = .ok (.ifCond .eq 7, 3) := by decide +kernel
theorem dX13_askPair_133 : decode cX13_askPair 133 = .ok (.iconst 1, 1) := by decide +kernel
theorem dX13_askPair_134 : decode cX13_askPair 134 = .ok (.goto 4, 3) := by decide +kernel
theorem dX13_askPair_137 : decode cX13_askPair 137 = .ok (.iconst 0, 1) := by decide +kernel
theorem dX13_askPair_138 : decode cX13_askPair 138 = .ok (.ireturn, 1) := by decide +kernel
theorem dX13_askPair_15 : decode cX13_askPair 15 = .ok (.lxor, 1) := by decide +kernel
theorem dX13_askPair_16 : decode cX13_askPair 16 = .ok (.land, 1) := by decide +kernel
theorem dX13_askPair_17 : decode cX13_askPair 17 = .ok (.lstore_n 2, 1) := by decide +kernel
theorem dX13_askPair_18 : decode cX13_askPair 18 = .ok (.iconst 0, 1) := by decide +kernel
theorem dX13_askPair_19 : decode cX13_askPair 19 = .ok (.istore 4, 2) := by decide +kernel
theorem dX13_askPair_21 : decode cX13_askPair 21 = .ok (.lload_n 2, 1) := by decide +kernel
theorem dX13_askPair_22 : decode cX13_askPair 22 = .ok (.iload 4, 2) := by decide +kernel
theorem dX13_askPair_24 : decode cX13_askPair 24 = .ok (.lshr, 1) := by decide +kernel
theorem dX13_askPair_25 : decode cX13_askPair 25 = .ok (.lconst 1, 1) := by decide +kernel
theorem dX13_askPair_26 : decode cX13_askPair 26 = .ok (.land, 1) := by decide +kernel
theorem dX13_askPair_27 : decode cX13_askPair 27 = .ok (.lconst 0, 1) := by decide +kernel
theorem dX13_askPair_28 : decode cX13_askPair 28 = .ok (.lcmp, 1) := by decide +kernel
theorem dX13_askPair_29 : decode cX13_askPair 29 = .ok (.ifCond .ne 9, 3) := by decide +kernel
theorem dX13_askPair_32 : decode cX13_askPair 32 = .ok (.iinc 4 1, 3) := by decide +kernel
theorem dX13_askPair_35 : decode cX13_askPair 35 = .ok (.goto (-14), 3) := by decide +kernel
theorem dX13_askPair_38 : decode cX13_askPair 38 = .ok (.aload_n 0, 1) := by decide +kernel
theorem dX13_askPair_39 : decode cX13_askPair 39 = .ok (.getfield 213, 3) := by decide +kernel
theorem dX13_askPair_4 : decode cX13_askPair 4 = .ok (.iload_n 1, 1) := by decide +kernel
theorem dX13_askPair_42 : decode cX13_askPair 42 = .ok (.iload_n 1, 1) := by decide +kernel
theorem dX13_askPair_43 : decode cX13_askPair 43 = .ok (.dup2, 1) := by decide +kernel
theorem dX13_askPair_44 : decode cX13_askPair 44 = .ok (.laload, 1) := by decide +kernel
theorem dX13_askPair_45 : decode cX13_askPair 45 = .ok (.lconst 1, 1) := by decide +kernel
theorem dX13_askPair_46 : decode cX13_askPair 46 = .ok (.iload 4, 2) := by decide +kernel
theorem dX13_askPair_48 : decode cX13_askPair 48 = .ok (.lshl, 1) := by decide +kernel
theorem dX13_askPair_49 : decode cX13_askPair 49 = .ok (.lor, 1) := by decide +kernel
theorem dX13_askPair_5 : decode cX13_askPair 5 = .ok (.laload, 1) := by decide +kernel
theorem dX13_askPair_50 : decode cX13_askPair 50 = .ok (.lastore, 1) := by decide +kernel
theorem dX13_askPair_51 : decode cX13_askPair 51 = .ok (.ldc2_w 878, 3) := by decide +kernel
theorem dX13_askPair_54 : decode cX13_askPair 54 = .ok (.iload_n 1, 1) := by decide +kernel
theorem dX13_askPair_55 : decode cX13_askPair 55 = .ok (.i2l, 1) := by decide +kernel
theorem dX13_askPair_56 : decode cX13_askPair 56 = .ok (.lmul, 1) := by decide +kernel
theorem dX13_askPair_57 : decode cX13_askPair 57 = .ok (.iload 4, 2) := by decide +kernel
theorem dX13_askPair_59 : decode cX13_askPair 59 = .ok (.i2l, 1) := by decide +kernel
theorem dX13_askPair_6 : decode cX13_askPair 6 = .ok (.aload_n 0, 1) := by decide +kernel
theorem dX13_askPair_60 : decode cX13_askPair 60 = .ok (.ladd, 1) := by decide +kernel
theorem dX13_askPair_61 : decode cX13_askPair 61 = .ok (.lstore 5, 2) := by decide +kernel
theorem dX13_askPair_63 : decode cX13_askPair 63 = .ok (.aload_n 0, 1) := by decide +kernel
theorem dX13_askPair_64 : decode cX13_askPair 64 = .ok (.getfield 206, 3) := by decide +kernel
theorem dX13_askPair_67 : decode cX13_askPair 67 = .ok (.lload 5, 2) := by decide +kernel
theorem dX13_askPair_69 : decode cX13_askPair 69 = .ok (.aload_n 0, 1) := by decide +kernel
theorem dX13_askPair_7 : decode cX13_askPair 7 = .ok (.getfield 213, 3) := by decide +kernel
theorem dX13_askPair_70 : decode cX13_askPair 70 = .ok (.getfield 1078, 3) := by decide +kernel
theorem dX13_askPair_73 : decode cX13_askPair 73 = .ok (.i2l, 1) := by decide +kernel
theorem dX13_askPair_74 : decode cX13_askPair 74 = .ok (.ldiv, 1) := by decide +kernel
theorem dX13_askPair_75 : decode cX13_askPair 75 = .ok (.l2i, 1) := by decide +kernel
theorem dX13_askPair_76 : decode cX13_askPair 76 = .ok (.iaload, 1) := by decide +kernel
theorem dX13_askPair_77 : decode cX13_askPair 77 = .ok (.istore 7, 2) := by decide +kernel
theorem dX13_askPair_79 : decode cX13_askPair 79 = .ok (.aload_n 0, 1) := by decide +kernel
theorem dX13_askPair_80 : decode cX13_askPair 80 = .ok (.getfield 206, 3) := by decide +kernel
theorem dX13_askPair_83 : decode cX13_askPair 83 = .ok (.lload 5, 2) := by decide +kernel
theorem dX13_askPair_85 : decode cX13_askPair 85 = .ok (.aload_n 0, 1) := by decide +kernel
theorem dX13_askPair_86 : decode cX13_askPair 86 = .ok (.getfield 1078, 3) := by decide +kernel
theorem dX13_askPair_89 : decode cX13_askPair 89 = .ok (.i2l, 1) := by decide +kernel
theorem dX13_askPair_90 : decode cX13_askPair 90 = .ok (.lrem, 1) := by decide +kernel
theorem dX13_askPair_91 : decode cX13_askPair 91 = .ok (.l2i, 1) := by decide +kernel
theorem dX13_askPair_92 : decode cX13_askPair 92 = .ok (.iaload, 1) := by decide +kernel
theorem dX13_askPair_93 : decode cX13_askPair 93 = .ok (.istore 8, 2) := by decide +kernel
theorem dX13_askPair_95 : decode cX13_askPair 95 = .ok (.aload_n 0, 1) := by decide +kernel
theorem dX13_askPair_96 : decode cX13_askPair 96 = .ok (.getfield 200, 3) := by decide +kernel
theorem dX13_askPair_99 : decode cX13_askPair 99 = .ok (.iload 7, 2) := by decide +kernel
noncomputable def k_X13_askPair_133 (s : t_S) : Option (Int32 × t_S) :=
 some ((1 : Int32), s)
set_option maxRecDepth 4000 in
set_option maxHeartbeats 1000000 in
theorem B_X13_askPair_133 {D : va_G} {cy : Nat → ClassId} {ad : Nat → Nat} {bs : Nat} {X : State → Heap → Prop} (s : t_S) (Q : Int32 × t_S → Prop) (hk : t_hk (k_X13_askPair_133 s) Q) : mj_G D cy ad bs X cX13_askPair 9 yX13_askPair.cls (some .boolean) yX13_askPair.name 5 0 0 1065 (t_P (fun v s' => ∃ x, v = some (.int x) ∧ Q ((x, s')))) 133 [] [] (t_m s) 1065 0 0 := by
  refine mj_iconst (v := 1) dX13_askPair_133 (by decide) ?_
  refine mj_goto 138 dX13_askPair_134 (by decide) ?_
  exact t_somK hk (fun hf => t_iret dX13_askPair_138 rfl (by decide) ⟨_, rfl, hf⟩ (Nat.le_of_ble_eq_true rfl) (Nat.le_of_ble_eq_true rfl))
noncomputable def k_X13_askPair_21 (l1 : Int32) (l2 : Int64) (l4 : Int32) (s : t_S) : Option ((Int32 × Int64 × Int32 × t_S) ⊕ (Int32 × t_S)) :=
 if (lg_cmp ((l2 >>> (l4.toInt64 &&& 63)) &&& (1 : Int64)) (0 : Int64)) = (0 : Int32) then (some (.inl (l1, l2, (l4 + 1), s)))
 else ((if t_ix l1 150200 = true then
  t_let (t_setJ s 1016 (l1.toNatClampNeg) ((s.2.1 1016 (l1.toNatClampNeg)) ||| ((1 : Int64) <<< (l4.toInt64 &&& 63)))) (fun s1 =>
 if ¬ ((s1.1 950 114).toInt64) = 0 then
  if t_ix (((((64 : Int64) * l1.toInt64) + l4.toInt64) / ((s1.1 950 114).toInt64)).toInt32) 3100 = true then
  if t_ix (((((64 : Int64) * l1.toInt64) + l4.toInt64) - (((64 : Int64) * l1.toInt64) + l4.toInt64) / ((s1.1 950 114).toInt64) * ((s1.1 950 114).toInt64)).toInt32) 3100 = true then
  if t_ix (s1.1 1014 ((((((64 : Int64) * l1.toInt64) + l4.toInt64) / ((s1.1 950 114).toInt64)).toInt32).toNatClampNeg)) 13000 = true then
  if (s1.1 1012 ((s1.1 1014 ((((((64 : Int64) * l1.toInt64) + l4.toInt64) / ((s1.1 950 114).toInt64)).toInt32).toNatClampNeg)).toNatClampNeg)) = (0 : Int32) then (k_X13_askPair_133 s1)
 else (if t_ix (s1.1 1014 ((((((64 : Int64) * l1.toInt64) + l4.toInt64) - (((64 : Int64) * l1.toInt64) + l4.toInt64) / ((s1.1 950 114).toInt64) * ((s1.1 950 114).toInt64)).toInt32).toNatClampNeg)) 13000 = true then
  if (s1.1 955 ((s1.1 1014 ((((((64 : Int64) * l1.toInt64) + l4.toInt64) / ((s1.1 950 114).toInt64)).toInt32).toNatClampNeg)).toNatClampNeg)) = (s1.1 955 ((s1.1 1014 ((((((64 : Int64) * l1.toInt64) + l4.toInt64) - (((64 : Int64) * l1.toInt64) + l4.toInt64) / ((s1.1 950 114).toInt64) * ((s1.1 950 114).toInt64)).toInt32).toNatClampNeg)).toNatClampNeg)) then ((f_X13_isPairGood (s1.1 1014 ((((((64 : Int64) * l1.toInt64) + l4.toInt64) / ((s1.1 950 114).toInt64)).toInt32).toNatClampNeg)) (s1.1 1014 ((((((64 : Int64) * l1.toInt64) + l4.toInt64) - (((64 : Int64) * l1.toInt64) + l4.toInt64) / ((s1.1 950 114).toInt64) * ((s1.1 950 114).toInt64)).toInt32).toNatClampNeg)) s1).bind (fun r7 =>
 if r7.1 = (0 : Int32) then (some ((0 : Int32), r7.2))
 else (k_X13_askPair_133 r7.2)))
 else (some ((0 : Int32), s1))
else none)
else none
else none
else none
else none)
else none).map Sum.inr)
set_option maxRecDepth 4000 in
set_option maxHeartbeats 1000000 in
theorem B_X13_askPair_21 {D : va_G} {cy : Nat → ClassId} {ad : Nat → Nat} {bs : Nat} {X : State → Heap → Prop} (l1 : Int32) (l2 : Int64) (l4 : Int32) (s : t_S) (Q : (Int32 × Int64 × Int32 × t_S) ⊕ (Int32 × t_S) → Prop) (Hb21 : ∀ (y0 : Int32) (y1 : Int64) (y2 : Int32) (y3 : t_S), Q (.inl (y0, y1, y2, y3)) → mj_G D cy ad bs X cX13_askPair 9 yX13_askPair.cls (some .boolean) yX13_askPair.name 5 0 0 1065 (t_P (fun v s' => ∃ x, v = some (.int x) ∧ Q (.inr ((x, s'))))) 21 [(0, .ref 950), (1, .int (y0)), (2, .long (y1)), (4, .int (y2))] [] (t_m y3) 1065 0 0) (hk : t_hk (k_X13_askPair_21 l1 l2 l4 s) Q) : mj_G D cy ad bs X cX13_askPair 9 yX13_askPair.cls (some .boolean) yX13_askPair.name 5 0 0 1065 (t_P (fun v s' => ∃ x, v = some (.int x) ∧ Q (.inr ((x, s'))))) 21 [(0, .ref 950), (1, .int l1), (2, .long l2), (4, .int l4)] [] (t_m s) 1065 0 0 := by
  refine mj_lload_n dX13_askPair_21 2 rfl ?_
  refine mj_iload dX13_askPair_22 3 rfl ?_
  refine mj_lshr dX13_askPair_24 rfl ?_
  refine mj_lconst (v := 1) dX13_askPair_25 (by decide) ?_
  refine mj_land dX13_askPair_26 ?_
  refine mj_lconst (v := 0) dX13_askPair_27 (by decide) ?_
  refine mj_lcmp dX13_askPair_28 ?_
  refine mj_if_ne 38 dX13_askPair_29 (by decide) (fun z => t_negK hk z (fun hk => ?_)) (fun z => t_posK hk z (fun hk => ?_))
  · refine t_mapK hk (fun hk => ?_)
    refine mj_aload_n dX13_askPair_38 0 rfl ?_
    refine t_getR 1016 dX13_askPair_39 F_X13_213 qr_950_113 ?_
    refine mj_iload_n dX13_askPair_42 1 rfl ?_
    refine mj_dup2 dX13_askPair_43 rfl rfl ?_
    refine t_chkK hk (fun c0 hk => ?_)
    refine t_lald dX13_askPair_44 qa_1016 (t_ixv c0) ?_
    refine mj_lconst (v := 1) dX13_askPair_45 (by decide) ?_
    refine mj_iload dX13_askPair_46 3 rfl ?_
    refine mj_lshl dX13_askPair_48 rfl ?_
    refine mj_lor dX13_askPair_49 ?_
    refine t_lastK dX13_askPair_50 qa_1016 (t_ixv c0) (fun s1 ws1 => t_letE hk ws1 (fun hk => ?_))
    refine mj_ldc2 dX13_askPair_51 K_X13_878 ?_
    refine mj_iload_n dX13_askPair_54 1 rfl ?_
    refine mj_i2l (v := l1.toInt64) dX13_askPair_55 rfl ?_
    refine mj_lmul dX13_askPair_56 ?_
    refine mj_iload dX13_askPair_57 3 rfl ?_
    refine mj_i2l (v := l4.toInt64) dX13_askPair_59 rfl ?_
    refine mj_ladd dX13_askPair_60 ?_
    refine mj_lstore (lv2 := [(5, .long (((64 : Int64) * l1.toInt64) + l4.toInt64)), (0, .ref 950), (1, .int l1), (2, .long l2), (4, .int l4)]) dX13_askPair_61 (by decide) rfl ?_
    refine mj_aload_n dX13_askPair_63 1 rfl ?_
    refine t_getR 1014 dX13_askPair_64 F_X13_206 qr_950_111 ?_
    refine mj_lload dX13_askPair_67 0 rfl ?_
    refine mj_aload_n dX13_askPair_69 1 rfl ?_
    refine t_getI dX13_askPair_70 F_X13_1078 qf_950_114 ?_
    refine mj_i2l (v := (s1.1 950 114).toInt64) dX13_askPair_73 rfl ?_
    refine t_chkK hk (fun c1 hk => ?_)
    refine mj_ldiv dX13_askPair_74 c1 ?_
    refine mj_l2i (v := ((((64 : Int64) * l1.toInt64) + l4.toInt64) / ((s1.1 950 114).toInt64)).toInt32) dX13_askPair_75 rfl ?_
    refine t_chkK hk (fun c2 hk => ?_)
    refine t_iald dX13_askPair_76 qa_1014 (t_ixv c2) ?_
    refine mj_istore (lv2 := [(7, .int (s1.1 1014 ((((((64 : Int64) * l1.toInt64) + l4.toInt64) / ((s1.1 950 114).toInt64)).toInt32).toNatClampNeg))), (5, .long (((64 : Int64) * l1.toInt64) + l4.toInt64)), (0, .ref 950), (1, .int l1), (2, .long l2), (4, .int l4)]) dX13_askPair_77 (by decide) rfl ?_
    refine mj_aload_n dX13_askPair_79 2 rfl ?_
    refine t_getR 1014 dX13_askPair_80 F_X13_206 qr_950_111 ?_
    refine mj_lload dX13_askPair_83 1 rfl ?_
    refine mj_aload_n dX13_askPair_85 2 rfl ?_
    refine t_getI dX13_askPair_86 F_X13_1078 qf_950_114 ?_
    refine mj_i2l (v := (s1.1 950 114).toInt64) dX13_askPair_89 rfl ?_
    refine mj_lrem dX13_askPair_90 c1 ?_
    refine mj_l2i (v := ((((64 : Int64) * l1.toInt64) + l4.toInt64) - (((64 : Int64) * l1.toInt64) + l4.toInt64) / ((s1.1 950 114).toInt64) * ((s1.1 950 114).toInt64)).toInt32) dX13_askPair_91 rfl ?_
    refine t_chkK hk (fun c3 hk => ?_)
    refine t_iald dX13_askPair_92 qa_1014 (t_ixv c3) ?_
    refine mj_istore (lv2 := [(8, .int (s1.1 1014 ((((((64 : Int64) * l1.toInt64) + l4.toInt64) - (((64 : Int64) * l1.toInt64) + l4.toInt64) / ((s1.1 950 114).toInt64) * ((s1.1 950 114).toInt64)).toInt32).toNatClampNeg))), (7, .int (s1.1 1014 ((((((64 : Int64) * l1.toInt64) + l4.toInt64) / ((s1.1 950 114).toInt64)).toInt32).toNatClampNeg))), (5, .long (((64 : Int64) * l1.toInt64) + l4.toInt64)), (0, .ref 950), (1, .int l1), (2, .long l2), (4, .int l4)]) dX13_askPair_93 (by decide) rfl ?_
    refine mj_aload_n dX13_askPair_95 3 rfl ?_
    refine t_getR 1012 dX13_askPair_96 F_X13_200 qr_950_109 ?_
    refine mj_iload dX13_askPair_99 1 rfl ?_
    refine t_chkK hk (fun c4 hk => ?_)
    refine t_zald dX13_askPair_101 qa_1012 (t_ixv c4) ?_
    refine mj_if_eq 133 dX13_askPair_102 (by decide) (fun z => t_posK hk z (fun hk => ?_)) (fun z => t_negK hk z (fun hk => ?_))
    · refine mj_sublv [] [] rfl ?_
      exact B_X13_askPair_133 _ _ hk
    · refine mj_aload_n dX13_askPair_105 3 rfl ?_
      refine t_getR 955 dX13_askPair_106 F_X13_26 qr_950_17 ?_
      refine mj_iload dX13_askPair_109 1 rfl ?_
      refine t_iald dX13_askPair_111 qa_955 (t_ixv c4) ?_
      refine mj_aload_n dX13_askPair_112 3 rfl ?_
      refine t_getR 955 dX13_askPair_113 F_X13_26 qr_950_17 ?_
      refine mj_iload dX13_askPair_116 0 rfl ?_
      refine t_chkK hk (fun c5 hk => ?_)
      refine t_iald dX13_askPair_118 qa_955 (t_ixv c5) ?_
      refine mj_icmp_ne 137 dX13_askPair_119 (by decide) (fun z => t_negK hk z (fun hk => ?_)) (fun z => t_posK hk z (fun hk => ?_))
      · refine mj_iconst (v := 0) dX13_askPair_137 (by decide) ?_
        exact t_somK hk (fun hf => t_iret dX13_askPair_138 rfl (by decide) ⟨_, rfl, hf⟩ (Nat.le_of_ble_eq_true rfl) (Nat.le_of_ble_eq_true rfl))
      · refine mj_aload_n dX13_askPair_122 3 rfl ?_
        refine mj_iload dX13_askPair_123 1 rfl ?_
        refine mj_iload dX13_askPair_125 0 rfl ?_
        refine t_bndK hk (fun r7 er7 hk => ?_)
        refine t_callViE dX13_askPair_127 M_X13_isPairGood (C_X13_isPairGood _ _ _ _ er7) ML_X13_1089 IM_X13_isPairGood SE_X13_isPairGood qc_950 rfl (As := [.int (s1.1 1014 ((((((64 : Int64) * l1.toInt64) + l4.toInt64) / ((s1.1 950 114).toInt64)).toInt32).toNatClampNeg)), .int (s1.1 1014 ((((((64 : Int64) * l1.toInt64) + l4.toInt64) - (((64 : Int64) * l1.toInt64) + l4.toInt64) / ((s1.1 950 114).toInt64) * ((s1.1 950 114).toInt64)).toInt32).toNatClampNeg))]) rfl rfl (Nat.le_of_ble_eq_true rfl) (Nat.le_of_ble_eq_true rfl) (Nat.le_of_ble_eq_true rfl) (Nat.le_of_ble_eq_true rfl) ?_
        refine mj_if_eq 137 dX13_askPair_130 (by decide) (fun z => t_posK hk z (fun hk => ?_)) (fun z => t_negK hk z (fun hk => ?_))
        · refine mj_iconst (v := 0) dX13_askPair_137 (by decide) ?_
          exact t_somK hk (fun hf => t_iret dX13_askPair_138 rfl (by decide) ⟨_, rfl, hf⟩ (Nat.le_of_ble_eq_true rfl) (Nat.le_of_ble_eq_true rfl))
        · refine mj_sublv [] [] rfl ?_
          exact B_X13_askPair_133 _ _ hk
  · refine mj_iinc (k := 3) (v := (l4 + 1)) (lv2 := [(4, .int (l4 + 1)), (0, .ref 950), (1, .int l1), (2, .long l2)]) dX13_askPair_32 rfl rfl (by decide) rfl ?_
    refine mj_goto 21 dX13_askPair_35 (by decide) ?_
    refine mj_sublv [(0, .ref 950), (1, .int l1), (2, .long l2), (4, .int (l4 + 1))] [1, 2, 3, 0] rfl ?_
    exact t_somK hk (fun hf => Hb21 l1 l2 (l4 + 1) s hf)
noncomputable def b_X13_askPair_21 (x : Int32 × Int64 × Int32 × t_S) : Option ((Int32 × Int64 × Int32 × t_S) ⊕ (Int32 × t_S)) := k_X13_askPair_21 x.1 x.2.1 x.2.2.1 x.2.2.2
set_option maxRecDepth 4000 in
set_option maxHeartbeats 1000000 in
theorem LH_X13_askPair_21 {D : va_G} {cy : Nat → ClassId} {ad : Nat → Nat} {bs : Nat} {X : State → Heap → Prop} : ∀ (n : Nat) (y0 : Int32) (y1 : Int64) (y2 : Int32) (y3 : t_S) (Q : Int32 × t_S → Prop) (hk : t_hk (t_loop (b_X13_askPair_21) n (y0, y1, y2, y3)) Q), mj_G D cy ad bs X cX13_askPair 9 yX13_askPair.cls (some .boolean) yX13_askPair.name 5 0 0 1065 (t_P (fun v s' => ∃ x, v = some (.int x) ∧ Q ((x, s')))) 21 [(0, .ref 950), (1, .int (y0)), (2, .long (y1)), (4, .int (y2))] [] (t_m y3) 1065 0 0 := by
  intro n
  induction n with
  | zero => intro y0 y1 y2 y3 Q hk; obtain ⟨r, hr, _⟩ := hk; cases hr
  | succ n ih =>
    intro y0 y1 y2 y3 Q hk
    exact B_X13_askPair_21 y0 y1 y2 y3 (fun y => t_lq (b_X13_askPair_21) n Q y) (fun y0' y1' y2' y3' hy => ih y0' y1' y2' y3' Q hy) (t_lp (b := b_X13_askPair_21) (n := n) (x := (y0, y1, y2, y3)) hk)
noncomputable def f_X13_askPair (x1 : Int32) (s : t_S) : Option (Int32 × t_S) :=
 if t_ix x1 150200 = true then
  t_loop (b_X13_askPair_21) t_N (x1, ((s.2.1 1015 (x1.toNatClampNeg)) &&& ((s.2.1 1016 (x1.toNatClampNeg)) ^^^ (-1 : Int64))), 0, s)
else none
set_option maxRecDepth 4000 in
set_option maxHeartbeats 1000000 in
theorem C_X13_askPair (x1 : Int32) (s : t_S) (r : Int32 × t_S) (hr : f_X13_askPair x1 s = some r) : t_C yX13_askPair cX13_askPair 9 (some .boolean) 5 [.ref 950, .int x1] s (fun v s' => v = some (.int r.1) ∧ s' = r.2) := by
  refine t_C.imp (P := fun v s' => ∃ x, v = some (.int x) ∧ (fun q => q = r) ((x, s'))) (t_C.of (by decide +kernel) (Nat.le_of_ble_eq_true rfl) ?_) (fun v s' hp => by obtain ⟨x, rfl, rfl⟩ := hp; exact ⟨rfl, rfl⟩)
  intro D cy ad bs X
  have hk : t_hk (f_X13_askPair x1 s) (fun q => q = r) := ⟨r, hr, rfl⟩
  show mj_G D cy ad bs X cX13_askPair 9 yX13_askPair.cls (some .boolean) yX13_askPair.name 5 0 0 1065 (t_P (fun v s' => ∃ x, v = some (.int x) ∧ (fun q => q = r) ((x, s')))) 0 [(0, .ref 950), (1, .int x1)] [] (t_m s) 1065 0 0
  refine mj_aload_n dX13_askPair_0 0 rfl ?_
  refine t_getR 1015 dX13_askPair_1 F_X13_210 qr_950_112 ?_
  refine mj_iload_n dX13_askPair_4 1 rfl ?_
  refine t_chkK hk (fun c0 hk => ?_)
  refine t_lald dX13_askPair_5 qa_1015 (t_ixv c0) ?_
  refine mj_aload_n dX13_askPair_6 0 rfl ?_
  refine t_getR 1016 dX13_askPair_7 F_X13_213 qr_950_113 ?_
  refine mj_iload_n dX13_askPair_10 1 rfl ?_
  refine t_lald dX13_askPair_11 qa_1016 (t_ixv c0) ?_
  refine mj_ldc2 dX13_askPair_12 K_X13_1087 ?_
  refine mj_lxor dX13_askPair_15 ?_
  refine mj_land dX13_askPair_16 ?_
  refine mj_lstore_n 2 (lv2 := [(2, .long ((s.2.1 1015 (x1.toNatClampNeg)) &&& ((s.2.1 1016 (x1.toNatClampNeg)) ^^^ (-1 : Int64)))), (0, .ref 950), (1, .int x1)]) dX13_askPair_17 rfl (by decide) rfl ?_
  refine mj_iconst (v := 0) dX13_askPair_18 (by decide) ?_
  refine mj_istore (lv2 := [(4, .int 0), (2, .long ((s.2.1 1015 (x1.toNatClampNeg)) &&& ((s.2.1 1016 (x1.toNatClampNeg)) ^^^ (-1 : Int64)))), (0, .ref 950), (1, .int x1)]) dX13_askPair_19 (by decide) rfl ?_
  refine mj_sublv [(0, .ref 950), (1, .int x1), (2, .long ((s.2.1 1015 (x1.toNatClampNeg)) &&& ((s.2.1 1016 (x1.toNatClampNeg)) ^^^ (-1 : Int64)))), (4, .int 0)] [2, 3, 1, 0] rfl ?_
  exact LH_X13_askPair_21 _ x1 ((s.2.1 1015 (x1.toNatClampNeg)) &&& ((s.2.1 1016 (x1.toNatClampNeg)) ^^^ (-1 : Int64))) 0 s _ hk

